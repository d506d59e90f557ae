/-! PART 14: the search: it runs, and keeps to its cells -/
/-- owners are sets of five; odds beyond fifteen stay none -/
def SInv (h : Hp) (k : Nat) : Prop := (∀ q, q < 7 → ∀ m, m < 6 → ∃ w, w < 32 ∧ xI h (k + 5 + q) m = nI w) ∧ ∀ i, 16 ≤ i → i < 32 → xL h (k + 12) i = 0
theorem SInv.fr {h h1 : Hp} {k lo hi : Nat} (a : SInv h k) (f : Fr lo hi h h1) (hk : k + 13 ≤ lo ∨ hi ≤ k + 5) : SInv h1 k := ⟨fun q hq m hm => by
  rw [f.I (by omega)]; exact a.1 q hq m hm, fun i h1 h2 => by rw [f.L (by omega)]; exact a.2 i h1 h2⟩
theorem SInv.st {h : Hp} {k q j : Nat} {x : Int32} (a : SInv h k) (e : ∃ w, w < 32 ∧ x = nI w) : SInv (sI h (k + 5 + q) j x) k := ⟨fun q' hq m hm => by
  by_cases h1 : q' = q
  · subst h1; rw [sI_at]; split
    · exact e
    · exact a.1 q' hq m hm
  · rw [sI_ne (by omega)]; exact a.1 q' hq m hm, fun i h1 h2 => a.2 i h1 h2⟩
theorem SInv.od {h : Hp} {k j : Nat} {x : Int64} (a : SInv h k) (hj : j < 16) : SInv (sL h (k + 12) j x) k := ⟨fun q hq m hm => a.1 q hq m hm, fun i h1 h2 => by
  rw [sL_at, if_neg (by omega)]; exact a.2 i h1 h2⟩
theorem s_or {x : Int32} {w : Nat} (a : ∃ w, w < 32 ∧ x = nI w) (hw : w < 32) : ∃ z, z < 32 ∧ x ||| nI w = nI z := by
  obtain ⟨u, hu, rfl⟩ := a
  exact ⟨u ||| w, Nat.or_lt_two_pow (n := 5) hu hw, nI_or⟩
theorem s_at {x : Int32} (a : ∃ w, w < 32 ∧ x = nI w) : x = nI x.toNatClampNeg ∧ x.toNatClampNeg < 32 := by
  obtain ⟨u, hu, rfl⟩ := a
  rw [nI_clamp (by omega)]; exact ⟨rfl, hu⟩
theorem nI_nm1 {o : Nat} (h : o < 2 ^ 31) : ¬ nI o = -1 := fun q => by
  have := congrArg Int32.toInt q
  rw [nI_toInt h] at this
  have e : (-1 : Int32).toInt = -1 := by decide
  omega
theorem nI_lm1 {o : Nat} (h : o < 2 ^ 31) : ¬ nI o ≤ -1 := fun q => by
  rw [Int32.le_iff_toInt_le, nI_toInt h] at q
  have e : (-1 : Int32).toInt = -1 := by decide
  omega
def prdL (v : Vg) (s : Nat) : Nat → Int64
  | 0 => 1
  | o + 1 => prdL v s o * (if nI s &&& (nI 1 <<< (nI o &&& 31)) = 0 then 10 else (if vF v 6 o = 0 then nI 10 - vF v 5 o else nI 0).toInt64)
set_option maxHeartbeats 4000000 in
theorem c_X1_oddsThatAllCome {l : Launch} {h : Hp} {k kv : Nat} {v : Vg} (hv : VilAt h kv v) (hs : SInv h k) (hd : kv + 9 ≤ k ∨ k + 13 ≤ kv) (s : Nat) : Mp l yX1_oddsThatAllCome cX1_oddsThatAllCome 7 (some .long) 1 [vr 1 k, vr 5 kv, vi (nI s)] h (vl (prdL v s (vN v))) := by
  refine Ms.of (by decide) (Nat.le_of_ble_eq_true rfl) (fun G C X F => ?_)
  have C : Cx G cX1_oddsThatAllCome 7 RX1 := C
  show Rr G 0 [(0, vr 1 k), (1, vr 5 kv), (2, vi (nI s))] [] h
  have bP := hv.bP
  have bM := hv.bM
  have bN := hv.bN
  refine r_lconst (v := 1) C (dx dX1_oddsThatAllCome 0 rfl) rfl ?_
  refine r_lstore_n (ls' := [(0, vr 1 k), (1, vr 5 kv), (2, vi (nI s)), (3, vl 1)]) C (dx dX1_oddsThatAllCome 1 rfl) (by decide) [1, 2, 3, 0] rfl ?_
  refine r_iconst (v := nI 0) C (dx dX1_oddsThatAllCome 2 rfl) rfl ?_
  refine r_istore (ls' := [(0, vr 1 k), (1, vr 5 kv), (2, vi (nI s)), (3, vl 1), (5, vi (nI 0))]) C (dx dX1_oddsThatAllCome 3 rfl) (by decide) [1, 2, 3, 4, 0] rfl ?_
  refine loopU (Φ := fun p => Rr G 5 [(0, vr 1 k), (1, vr 5 kv), (2, vi (nI s)), (3, vl (prdL v s p)), (5, vi (nI p))] [] h) (N := vN v) ?_ ?_ 0 (Nat.zero_le _)
  ·
    refine r_iload C (dx dX1_oddsThatAllCome 4 rfl) rfl ?_
    refine r_aload_n C (dx dX1_oddsThatAllCome 5 rfl) rfl ?_
    refine g_X1_36 (x := nI (vN v)) C (dx dX1_oddsThatAllCome 6 rfl) hv.eN ?_
    refine rn_ge (a := vN v) (b := vN v) (tgt := 67) C (by omega) (by omega) (dx dX1_oddsThatAllCome 7 rfl) (by decide) (fun c1 => ?_) (fun c1 => ?_)
    · first
      | (omega; done)
      | (
          have c1 : vN v ≤ vN v := c1
          refine r_lload_n C (dx dX1_oddsThatAllCome 37 rfl) rfl ?_
          exact F.2.1 _ _ _ _ rfl (dx dX1_oddsThatAllCome 38 rfl) rfl ⟨congrArg (fun x => some (vl x)) rfl, rfl⟩)
    · first
      | (omega; done)
  ·
    intro p hp ih
    refine r_iload C (dx dX1_oddsThatAllCome 4 rfl) rfl ?_
    refine r_aload_n C (dx dX1_oddsThatAllCome 5 rfl) rfl ?_
    refine g_X1_36 (x := nI (vN v)) C (dx dX1_oddsThatAllCome 6 rfl) hv.eN ?_
    refine rn_ge (a := p) (b := vN v) (tgt := 67) C (by omega) (by omega) (dx dX1_oddsThatAllCome 7 rfl) (by decide) (fun c4 => ?_) (fun c4 => ?_)
    · first
      | (omega; done)
      | (
          have c4 : vN v ≤ p := c4
          refine r_lload_n C (dx dX1_oddsThatAllCome 37 rfl) rfl ?_
          exact F.2.1 _ _ _ _ rfl (dx dX1_oddsThatAllCome 38 rfl) rfl ⟨congrArg (fun x => some (vl x)) (show prdL v s p = prdL v s (vN v) by rfl), rfl⟩)
    · first
      | (omega; done)
      | (
          have c4 : p < vN v := c4
          refine r_aload_n C (dx dX1_oddsThatAllCome 8 rfl) rfl ?_
          refine g_X1_59 C (dx dX1_oddsThatAllCome 9 rfl) ?_
          refine r_iload C (dx dX1_oddsThatAllCome 10 rfl) rfl ?_
          refine r_zald (j := p) (x := vF v 6 p) C rfl rfl (by decide) rfl (by omega) (dx dX1_oddsThatAllCome 11 rfl) (hv.e6 (by omega)) ?_
          refine r_if_eq (tgt := 28) C (dx dX1_oddsThatAllCome 12 rfl) (by decide) (fun c5 => ?_) (fun c5 => ?_)
          ·
            have c5 : vF v 6 p = 0 := c5
            refine r_bipush (v := nI 10) C (dx dX1_oddsThatAllCome 15 rfl) rfl ?_
            refine r_aload_n C (dx dX1_oddsThatAllCome 16 rfl) rfl ?_
            refine g_X1_63 C (dx dX1_oddsThatAllCome 17 rfl) ?_
            refine r_iload C (dx dX1_oddsThatAllCome 18 rfl) rfl ?_
            refine r_iald (j := p) (x := vF v 5 p) C rfl rfl (by decide) rfl (by omega) (dx dX1_oddsThatAllCome 19 rfl) (hv.e5 (by omega)) ?_
            refine r_isub C (dx dX1_oddsThatAllCome 20 rfl) ?_
            refine r_istore (ls' := [(0, vr 1 k), (1, vr 5 kv), (2, vi (nI s)), (3, vl (prdL v s p)), (5, vi (nI p)), (6, vi ((nI 10) - (vF v 5 p)))]) C (dx dX1_oddsThatAllCome 21 rfl) (by decide) [1, 2, 3, 4, 5, 0] rfl ?_
            refine r_lload_n C (dx dX1_oddsThatAllCome 22 rfl) rfl ?_
            refine r_iload_n C (dx dX1_oddsThatAllCome 23 rfl) rfl ?_
            refine r_iconst (v := nI 1) C (dx dX1_oddsThatAllCome 24 rfl) rfl ?_
            refine r_iload C (dx dX1_oddsThatAllCome 25 rfl) rfl ?_
            refine r_ishl C (dx dX1_oddsThatAllCome 26 rfl) ?_
            refine r_iand C (dx dX1_oddsThatAllCome 27 rfl) ?_
            refine r_if_eq (tgt := 56) C (dx dX1_oddsThatAllCome 28 rfl) (by decide) (fun c6 => ?_) (fun c6 => ?_)
            ·
              have c6 : (nI s) &&& ((nI 1) <<< ((nI p) &&& 31)) = 0 := c6
              refine r_ldc2 C n_X1_66 (dx dX1_oddsThatAllCome 32 rfl) ?_
              refine r_lmul C (dx dX1_oddsThatAllCome 33 rfl) ?_
              refine r_lstore_n (ls' := [(0, vr 1 k), (1, vr 5 kv), (2, vi (nI s)), (3, vl ((prdL v s p) * 10)), (5, vi (nI p)), (6, vi ((nI 10) - (vF v 5 p)))]) C (dx dX1_oddsThatAllCome 34 rfl) (by decide) [1, 2, 3, 0, 4, 5] rfl ?_
              refine rn_iinc (a := p) (k := 1) (ls' := [(0, vr 1 k), (1, vr 5 kv), (2, vi (nI s)), (3, vl ((prdL v s p) * 10)), (5, vi (nI (p + 1))), (6, vi ((nI 10) - (vF v 5 p)))]) C (dx dX1_oddsThatAllCome 35 rfl) rfl rfl (by decide) [1, 2, 3, 4, 0, 5] rfl ?_
              refine r_goto (tgt := 5) C (dx dX1_oddsThatAllCome 36 rfl) (by decide) ?_
              have e9 : ((prdL v s p) * 10) = (prdL v s (p + 1)) := by simp [prdL, c5, c6]
              rw [e9]
              refine r_weak C [0, 1, 2, 3, 4] rfl ?_
              exact ih
            ·
              have c6 : ¬ (nI s) &&& ((nI 1) <<< ((nI p) &&& 31)) = 0 := c6
              refine r_iload C (dx dX1_oddsThatAllCome 29 rfl) rfl ?_
              refine r_i2l C (dx dX1_oddsThatAllCome 30 rfl) ?_
              refine r_goto (tgt := 59) C (dx dX1_oddsThatAllCome 31 rfl) (by decide) ?_
              refine r_lmul C (dx dX1_oddsThatAllCome 33 rfl) ?_
              refine r_lstore_n (ls' := [(0, vr 1 k), (1, vr 5 kv), (2, vi (nI s)), (3, vl ((prdL v s p) * (((nI 10) - (vF v 5 p)).toInt64))), (5, vi (nI p)), (6, vi ((nI 10) - (vF v 5 p)))]) C (dx dX1_oddsThatAllCome 34 rfl) (by decide) [1, 2, 3, 0, 4, 5] rfl ?_
              refine rn_iinc (a := p) (k := 1) (ls' := [(0, vr 1 k), (1, vr 5 kv), (2, vi (nI s)), (3, vl ((prdL v s p) * (((nI 10) - (vF v 5 p)).toInt64))), (5, vi (nI (p + 1))), (6, vi ((nI 10) - (vF v 5 p)))]) C (dx dX1_oddsThatAllCome 35 rfl) rfl rfl (by decide) [1, 2, 3, 4, 0, 5] rfl ?_
              refine r_goto (tgt := 5) C (dx dX1_oddsThatAllCome 36 rfl) (by decide) ?_
              have e9 : ((prdL v s p) * (((nI 10) - (vF v 5 p)).toInt64)) = (prdL v s (p + 1)) := by simp [prdL, c5, c6]
              rw [e9]
              refine r_weak C [0, 1, 2, 3, 4] rfl ?_
              exact ih
          ·
            have c5 : ¬ vF v 6 p = 0 := c5
            refine r_iconst (v := nI 0) C (dx dX1_oddsThatAllCome 13 rfl) rfl ?_
            refine r_goto (tgt := 38) C (dx dX1_oddsThatAllCome 14 rfl) (by decide) ?_
            refine r_istore (ls' := [(0, vr 1 k), (1, vr 5 kv), (2, vi (nI s)), (3, vl (prdL v s p)), (5, vi (nI p)), (6, vi (nI 0))]) C (dx dX1_oddsThatAllCome 21 rfl) (by decide) [1, 2, 3, 4, 5, 0] rfl ?_
            refine r_lload_n C (dx dX1_oddsThatAllCome 22 rfl) rfl ?_
            refine r_iload_n C (dx dX1_oddsThatAllCome 23 rfl) rfl ?_
            refine r_iconst (v := nI 1) C (dx dX1_oddsThatAllCome 24 rfl) rfl ?_
            refine r_iload C (dx dX1_oddsThatAllCome 25 rfl) rfl ?_
            refine r_ishl C (dx dX1_oddsThatAllCome 26 rfl) ?_
            refine r_iand C (dx dX1_oddsThatAllCome 27 rfl) ?_
            refine r_if_eq (tgt := 56) C (dx dX1_oddsThatAllCome 28 rfl) (by decide) (fun c7 => ?_) (fun c7 => ?_)
            ·
              have c7 : (nI s) &&& ((nI 1) <<< ((nI p) &&& 31)) = 0 := c7
              refine r_ldc2 C n_X1_66 (dx dX1_oddsThatAllCome 32 rfl) ?_
              refine r_lmul C (dx dX1_oddsThatAllCome 33 rfl) ?_
              refine r_lstore_n (ls' := [(0, vr 1 k), (1, vr 5 kv), (2, vi (nI s)), (3, vl ((prdL v s p) * 10)), (5, vi (nI p)), (6, vi (nI 0))]) C (dx dX1_oddsThatAllCome 34 rfl) (by decide) [1, 2, 3, 0, 4, 5] rfl ?_
              refine rn_iinc (a := p) (k := 1) (ls' := [(0, vr 1 k), (1, vr 5 kv), (2, vi (nI s)), (3, vl ((prdL v s p) * 10)), (5, vi (nI (p + 1))), (6, vi (nI 0))]) C (dx dX1_oddsThatAllCome 35 rfl) rfl rfl (by decide) [1, 2, 3, 4, 0, 5] rfl ?_
              refine r_goto (tgt := 5) C (dx dX1_oddsThatAllCome 36 rfl) (by decide) ?_
              have e9 : ((prdL v s p) * 10) = (prdL v s (p + 1)) := by simp [prdL, c5, c7]
              rw [e9]
              refine r_weak C [0, 1, 2, 3, 4] rfl ?_
              exact ih
            ·
              have c7 : ¬ (nI s) &&& ((nI 1) <<< ((nI p) &&& 31)) = 0 := c7
              refine r_iload C (dx dX1_oddsThatAllCome 29 rfl) rfl ?_
              refine r_i2l C (dx dX1_oddsThatAllCome 30 rfl) ?_
              refine r_goto (tgt := 59) C (dx dX1_oddsThatAllCome 31 rfl) (by decide) ?_
              refine r_lmul C (dx dX1_oddsThatAllCome 33 rfl) ?_
              refine r_lstore_n (ls' := [(0, vr 1 k), (1, vr 5 kv), (2, vi (nI s)), (3, vl ((prdL v s p) * ((nI 0).toInt64))), (5, vi (nI p)), (6, vi (nI 0))]) C (dx dX1_oddsThatAllCome 34 rfl) (by decide) [1, 2, 3, 0, 4, 5] rfl ?_
              refine rn_iinc (a := p) (k := 1) (ls' := [(0, vr 1 k), (1, vr 5 kv), (2, vi (nI s)), (3, vl ((prdL v s p) * ((nI 0).toInt64))), (5, vi (nI (p + 1))), (6, vi (nI 0))]) C (dx dX1_oddsThatAllCome 35 rfl) rfl rfl (by decide) [1, 2, 3, 4, 0, 5] rfl ?_
              refine r_goto (tgt := 5) C (dx dX1_oddsThatAllCome 36 rfl) (by decide) ?_
              have e9 : ((prdL v s p) * ((nI 0).toInt64)) = (prdL v s (p + 1)) := by simp [prdL, c5, c7]
              rw [e9]
              refine r_weak C [0, 1, 2, 3, 4] rfl ?_
              exact ih)
theorem p5 {j : Nat} (h : j < 4) : 2 ^ j < 32 := Nat.lt_of_lt_of_le (Nat.pow_lt_pow_right (by omega) h) (by decide)
set_option maxHeartbeats 4000000 in
theorem c_X1_holderOf {l : Launch} {h : Hp} {k a : Nat} (ha : a < 6) : Mp l yX1_holderOf cX1_holderOf 2 (some .int) 1 [vr 1 k, vi (nI a)] h (vi (xI h (k + 2) a)) := by
  refine Ms.of (by decide) (Nat.le_of_ble_eq_true rfl) (fun G C X F => ?_)
  have C : Cx G cX1_holderOf 2 RX1 := C
  show Rr G 0 [(0, vr 1 k), (1, vi (nI a))] [] h
  refine r_iload_n C (dx dX1_holderOf 0 rfl) rfl ?_
  refine r_if_lt (tgt := 22) C (dx dX1_holderOf 1 rfl) (by decide) (fun c1 => ?_) (fun c1 => ?_)
  · exact absurd c1 (nI_pos (by omega))
  ·
    have c1 : ¬ nI a < 0 := c1
    refine r_iload_n C (dx dX1_holderOf 2 rfl) rfl ?_
    refine r_aload_n C (dx dX1_holderOf 3 rfl) rfl ?_
    refine g_X1_15 C (dx dX1_holderOf 4 rfl) ?_
    refine r_alen0 (v := nI 6) C rfl rfl rfl (dx dX1_holderOf 5 rfl) ?_
    refine rn_ge (a := a) (b := 6) (tgt := 22) C (by omega) (by omega) (dx dX1_holderOf 6 rfl) (by decide) (fun c2 => ?_) (fun c2 => ?_)
    · first
      | (omega; done)
      | (
          have c2 : 6 ≤ a := c2
          refine r_iconst (v := -1) C (dx dX1_holderOf 12 rfl) rfl ?_
          exact F.1 _ _ _ _ _ rfl rfl (dx dX1_holderOf 13 rfl) rfl ⟨congrArg (fun x => some (vi x)) (show -1 = xI h (k + 2) a by simp), rfl⟩)
    · first
      | (omega; done)
      | (
          have c2 : a < 6 := c2
          refine r_aload_n C (dx dX1_holderOf 7 rfl) rfl ?_
          refine g_X1_15 C (dx dX1_holderOf 8 rfl) ?_
          refine r_iload_n C (dx dX1_holderOf 9 rfl) rfl ?_
          refine r_iald (j := a) (x := xI h (k + 2) a) C rfl rfl (by decide) rfl (by omega) (dx dX1_holderOf 10 rfl) rfl ?_
          refine r_goto (tgt := 23) C (dx dX1_holderOf 11 rfl) (by decide) ?_
          exact F.1 _ _ _ _ _ rfl rfl (dx dX1_holderOf 13 rfl) rfl ⟨congrArg (fun x => some (vi x)) rfl, rfl⟩)
set_option maxHeartbeats 4000000 in
theorem c_X1_greatestDay {l : Launch} {h : Hp} {k : Nat} : Mp l yX1_greatestDay cX1_greatestDay 1 (some .long) 1 [vr 1 k] h (vl (xL h k 5)) := by
  refine Ms.of (by decide) (Nat.le_of_ble_eq_true rfl) (fun G C X F => ?_)
  have C : Cx G cX1_greatestDay 1 RX1 := C
  show Rr G 0 [(0, vr 1 k)] [] h
  refine r_aload_n C (dx dX1_greatestDay 0 rfl) rfl ?_
  refine g_X1_32 C (dx dX1_greatestDay 1 rfl) rfl ?_
  exact F.2.1 _ _ _ _ rfl (dx dX1_greatestDay 2 rfl) rfl ⟨congrArg (fun x => some (vl x)) rfl, rfl⟩

