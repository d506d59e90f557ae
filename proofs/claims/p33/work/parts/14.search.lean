/-! PART 14: the search: it runs, and keeps to its cells -/
/-- owners are sets of five; odds beyond fifteen stay none -/
def SInv (h : Hp) (k : Nat) : Prop := (∀ q, q < 7 → ∀ m, m < 6 → ∃ w, w < 32 ∧ xI h (k + 5 + q) m = nI w) ∧ ∀ i, 16 ≤ i → i < 32 → xL h (k + 12) i = 0
theorem SInv.fr {h h1 : Hp} {k lo hi : Nat} (a : SInv h k) (f : Fr lo hi h h1) (hk : k + 13 ≤ lo ∨ hi ≤ k + 5) : SInv h1 k := ⟨fun q hq m hm => by
  rw [f.I (by omega)]; exact a.1 q hq m hm, fun i h1 h2 => by rw [f.L (by omega)]; exact a.2 i h1 h2⟩
theorem SInv.st {h : Hp} {k q j : Nat} {x : Int32} (a : SInv h k) (e : ∃ w, w < 32 ∧ x = nI w) : SInv (sI h (k + 5 + q) j x) k := ⟨fun q' hq m hm => by
  by_cases h1 : q' = q
  · subst h1; rw [sI_at]; split
    · exact e
    · exact a.1 q' hq m hm
  · rw [sI_ne (by omega)]; exact a.1 q' hq m hm, fun i h1 h2 => a.2 i h1 h2⟩
theorem SInv.od {h : Hp} {k j : Nat} {x : Int64} (a : SInv h k) (hj : j < 16) : SInv (sL h (k + 12) j x) k := ⟨fun q hq m hm => a.1 q hq m hm, fun i h1 h2 => by
  rw [sL_at, if_neg (by omega)]; exact a.2 i h1 h2⟩
theorem s_or {x : Int32} {w : Nat} (a : ∃ w, w < 32 ∧ x = nI w) (hw : w < 32) : ∃ z, z < 32 ∧ x ||| nI w = nI z := by
  obtain ⟨u, hu, rfl⟩ := a
  exact ⟨u ||| w, Nat.or_lt_two_pow (n := 5) hu hw, nI_or⟩
theorem s_at {x : Int32} (a : ∃ w, w < 32 ∧ x = nI w) : x = nI x.toNatClampNeg ∧ x.toNatClampNeg < 32 := by
  obtain ⟨u, hu, rfl⟩ := a
  rw [nI_clamp (by omega)]; exact ⟨rfl, hu⟩
theorem nI_nm1 {o : Nat} (h : o < 2 ^ 31) : ¬ nI o = -1 := fun q => by
  have := congrArg Int32.toInt q
  rw [nI_toInt h] at this
  have e : (-1 : Int32).toInt = -1 := by decide
  omega
theorem nI_lm1 {o : Nat} (h : o < 2 ^ 31) : ¬ nI o ≤ -1 := fun q => by
  rw [Int32.le_iff_toInt_le, nI_toInt h] at q
  have e : (-1 : Int32).toInt = -1 := by decide
  omega
set_option maxHeartbeats 4000000 in
theorem c_X1_take {l : Launch} {h : Hp} {k kv : Nat} {v : Vg} (hv : VilAt h kv v) (hs : SInv h k) (hd : kv + 9 ≤ k ∨ k + 13 ≤ kv) {p w : Nat} (hP : p < 6) (hw : w < 32) : Ms l yX1_take cX1_take 6 none 1 [vr 1 k, vr 5 kv, vi (nI p), vi (nI w)] h (xK h) (fun r0 h' => r0 = none ∧ SInv h' k ∧ Fr k (k + 13) h h') := by
  refine Ms.of (by decide) (Nat.le_of_ble_eq_true rfl) (fun G C X F => ?_)
  have C : Cx G cX1_take 6 RX1 := C
  show Rr G 0 [(0, vr 1 k), (1, vr 5 kv), (2, vi (nI p)), (3, vi (nI w))] [] h
  have bP := hv.bP
  have bM := hv.bM
  have bN := hv.bN
  refine r_iconst (v := nI 0) C (dx dX1_take 0 rfl) rfl ?_
  refine r_istore (ls' := [(0, vr 1 k), (1, vr 5 kv), (2, vi (nI p)), (3, vi (nI w)), (4, vi (nI 0))]) C (dx dX1_take 1 rfl) (by decide) [1, 2, 3, 4, 0] rfl ?_
  refine loopU (Φ := fun j => ∀ h9, SInv h9 k → Fr k (k + 13) h h9 → xK h9 = xK h → Rr G 3 [(0, vr 1 k), (1, vr 5 kv), (2, vi (nI p)), (3, vi (nI w)), (4, vi (nI j))] [] h9) (N := vM v) ?_ ?_ 0 (Nat.zero_le _) _ hs Fr.rf rfl
  ·
    intro h1 sh1 fh1 kh1
    have wh1 : VilAt h1 kv v := hv.fr fh1 (by omega)
    refine r_iload C (dx dX1_take 2 rfl) rfl ?_
    refine r_aload_n C (dx dX1_take 3 rfl) rfl ?_
    refine g_X1_52 (x := nI (vM v)) C (dx dX1_take 4 rfl) wh1.eM ?_
    refine rn_ge (a := vM v) (b := vM v) (tgt := 78) C (by omega) (by omega) (dx dX1_take 5 rfl) (by decide) (fun c2 => ?_) (fun c2 => ?_)
    · first
      | (omega; done)
      | (
          have c2 : vM v ≤ vM v := c2
          exact F.2.2.1 _ _ _ rfl (dx dX1_take 46 rfl) kh1 ⟨rfl, sh1, fh1⟩)
    · first
      | (omega; done)
  ·
    intro j hj ih h6 sh6 fh6 kh6
    have wh6 : VilAt h6 kv v := hv.fr fh6 (by omega)
    refine r_iload C (dx dX1_take 2 rfl) rfl ?_
    refine r_aload_n C (dx dX1_take 3 rfl) rfl ?_
    refine g_X1_52 (x := nI (vM v)) C (dx dX1_take 4 rfl) wh6.eM ?_
    refine rn_ge (a := j) (b := vM v) (tgt := 78) C (by omega) (by omega) (dx dX1_take 5 rfl) (by decide) (fun c7 => ?_) (fun c7 => ?_)
    · first
      | (omega; done)
      | (
          have c7 : vM v ≤ j := c7
          exact F.2.2.1 _ _ _ rfl (dx dX1_take 46 rfl) kh6 ⟨rfl, sh6, fh6⟩)
    · first
      | (omega; done)
      | (
          have c7 : j < vM v := c7
          refine r_aload_n C (dx dX1_take 6 rfl) rfl ?_
          refine g_X1_76 C (dx dX1_take 7 rfl) ?_
          refine r_iload C (dx dX1_take 8 rfl) rfl ?_
          refine r_iald (j := j) (x := vF v 2 j) C rfl rfl (by decide) rfl (by omega) (dx dX1_take 9 rfl) (wh6.e2 (by omega)) ?_
          refine r_iconst (v := nI 1) C (dx dX1_take 10 rfl) rfl ?_
          refine r_iload_n C (dx dX1_take 11 rfl) rfl ?_
          refine r_ishl C (dx dX1_take 12 rfl) ?_
          refine r_iand C (dx dX1_take 13 rfl) ?_
          refine r_if_eq (tgt := 30) C (dx dX1_take 14 rfl) (by decide) (fun c8 => ?_) (fun c8 => ?_)
          ·
            have c8 : (vF v 2 j) &&& ((nI 1) <<< ((nI p) &&& 31)) = 0 := c8
            refine r_iconst (v := nI 0) C (dx dX1_take 17 rfl) rfl ?_
            refine r_istore (ls' := [(0, vr 1 k), (1, vr 5 kv), (2, vi (nI p)), (3, vi (nI w)), (4, vi (nI j)), (5, vi (nI 0))]) C (dx dX1_take 18 rfl) (by decide) [1, 2, 3, 4, 5, 0] rfl ?_
            refine r_aload_n C (dx dX1_take 19 rfl) rfl ?_
            refine g_X1_23 C (dx dX1_take 20 rfl) ?_
            refine r_iload_n C (dx dX1_take 21 rfl) rfl ?_
            refine r_iconst (v := nI 1) C (dx dX1_take 22 rfl) rfl ?_
            refine rn_iadd (a := p) (b := 1) C (dx dX1_take 23 rfl) ?_
            refine r_aald4 (j := p + 1) C rfl rfl (by decide) rfl (by omega) (dx dX1_take 24 rfl) ?_
            refine r_iload C (dx dX1_take 25 rfl) rfl ?_
            refine r_iload C (dx dX1_take 26 rfl) rfl ?_
            refine r_if_eq (tgt := 62) C (dx dX1_take 27 rfl) (by decide) (fun _ => ?_) (fun c9 => (show False from by revert c9; decide).elim)
            refine r_aload_n C (dx dX1_take 37 rfl) rfl ?_
            refine g_X1_23 C (dx dX1_take 38 rfl) ?_
            refine r_iload_n C (dx dX1_take 39 rfl) rfl ?_
            refine r_aald4 (j := p) C rfl rfl (by decide) rfl (by omega) (dx dX1_take 40 rfl) ?_
            refine r_iload C (dx dX1_take 41 rfl) rfl ?_
            refine r_iald (j := j) (x := xI h6 (k + 5 + p) j) C rfl rfl (by decide) rfl (by omega) (dx dX1_take 42 rfl) rfl ?_
            refine r_iast (j := j) C rfl rfl (by decide) rfl (by omega) (dx dX1_take 43 rfl) ?_
            have sh10 : SInv (sI h6 (k + 5 + (p + 1)) j (xI h6 (k + 5 + p) j)) k := sh6.st (by first | exact sh6.1 _ (by omega) _ (by omega) | exact s_or (sh6.1 _ (by omega) _ (by omega)) hw)
            have fh10 : Fr k (k + 13) h (sI h6 (k + 5 + (p + 1)) j (xI h6 (k + 5 + p) j)) := fh6.tr (Fr.sI (by omega) (by omega))
            have kh10 : xK (sI h6 (k + 5 + (p + 1)) j (xI h6 (k + 5 + p) j)) = xK h := kh6
            have wh10 : VilAt (sI h6 (k + 5 + (p + 1)) j (xI h6 (k + 5 + p) j)) kv v := hv.fr fh10 (by omega)
            generalize sI h6 (k + 5 + (p + 1)) j (xI h6 (k + 5 + p) j) = h10 at sh10 fh10 kh10 wh10 ⊢
            refine rn_iinc (a := j) (k := 1) (ls' := [(0, vr 1 k), (1, vr 5 kv), (2, vi (nI p)), (3, vi (nI w)), (4, vi (nI (j + 1))), (5, vi (nI 0))]) C (dx dX1_take 44 rfl) rfl rfl (by decide) [1, 2, 3, 4, 0, 5] rfl ?_
            refine r_goto (tgt := 3) C (dx dX1_take 45 rfl) (by decide) ?_
            refine r_weak C [0, 1, 2, 3, 4] rfl ?_
            exact ih _ sh10 fh10 kh10
          ·
            have c8 : ¬ (vF v 2 j) &&& ((nI 1) <<< ((nI p) &&& 31)) = 0 := c8
            refine r_iconst (v := nI 1) C (dx dX1_take 15 rfl) rfl ?_
            refine r_goto (tgt := 31) C (dx dX1_take 16 rfl) (by decide) ?_
            refine r_istore (ls' := [(0, vr 1 k), (1, vr 5 kv), (2, vi (nI p)), (3, vi (nI w)), (4, vi (nI j)), (5, vi (nI 1))]) C (dx dX1_take 18 rfl) (by decide) [1, 2, 3, 4, 5, 0] rfl ?_
            refine r_aload_n C (dx dX1_take 19 rfl) rfl ?_
            refine g_X1_23 C (dx dX1_take 20 rfl) ?_
            refine r_iload_n C (dx dX1_take 21 rfl) rfl ?_
            refine r_iconst (v := nI 1) C (dx dX1_take 22 rfl) rfl ?_
            refine rn_iadd (a := p) (b := 1) C (dx dX1_take 23 rfl) ?_
            refine r_aald4 (j := p + 1) C rfl rfl (by decide) rfl (by omega) (dx dX1_take 24 rfl) ?_
            refine r_iload C (dx dX1_take 25 rfl) rfl ?_
            refine r_iload C (dx dX1_take 26 rfl) rfl ?_
            refine r_if_eq (tgt := 62) C (dx dX1_take 27 rfl) (by decide) (fun c11 => (show False from by revert c11; decide).elim) (fun _ => ?_)
            refine r_aload_n C (dx dX1_take 28 rfl) rfl ?_
            refine g_X1_23 C (dx dX1_take 29 rfl) ?_
            refine r_iload_n C (dx dX1_take 30 rfl) rfl ?_
            refine r_aald4 (j := p) C rfl rfl (by decide) rfl (by omega) (dx dX1_take 31 rfl) ?_
            refine r_iload C (dx dX1_take 32 rfl) rfl ?_
            refine r_iald (j := j) (x := xI h6 (k + 5 + p) j) C rfl rfl (by decide) rfl (by omega) (dx dX1_take 33 rfl) rfl ?_
            refine r_iload_n C (dx dX1_take 34 rfl) rfl ?_
            refine r_ior C (dx dX1_take 35 rfl) ?_
            refine r_goto (tgt := 71) C (dx dX1_take 36 rfl) (by decide) ?_
            refine r_iast (j := j) C rfl rfl (by decide) rfl (by omega) (dx dX1_take 43 rfl) ?_
            have sh12 : SInv (sI h6 (k + 5 + (p + 1)) j ((xI h6 (k + 5 + p) j) ||| (nI w))) k := sh6.st (by first | exact sh6.1 _ (by omega) _ (by omega) | exact s_or (sh6.1 _ (by omega) _ (by omega)) hw)
            have fh12 : Fr k (k + 13) h (sI h6 (k + 5 + (p + 1)) j ((xI h6 (k + 5 + p) j) ||| (nI w))) := fh6.tr (Fr.sI (by omega) (by omega))
            have kh12 : xK (sI h6 (k + 5 + (p + 1)) j ((xI h6 (k + 5 + p) j) ||| (nI w))) = xK h := kh6
            have wh12 : VilAt (sI h6 (k + 5 + (p + 1)) j ((xI h6 (k + 5 + p) j) ||| (nI w))) kv v := hv.fr fh12 (by omega)
            generalize sI h6 (k + 5 + (p + 1)) j ((xI h6 (k + 5 + p) j) ||| (nI w)) = h12 at sh12 fh12 kh12 wh12 ⊢
            refine rn_iinc (a := j) (k := 1) (ls' := [(0, vr 1 k), (1, vr 5 kv), (2, vi (nI p)), (3, vi (nI w)), (4, vi (nI (j + 1))), (5, vi (nI 1))]) C (dx dX1_take 44 rfl) rfl rfl (by decide) [1, 2, 3, 4, 0, 5] rfl ?_
            refine r_goto (tgt := 3) C (dx dX1_take 45 rfl) (by decide) ?_
            refine r_weak C [0, 1, 2, 3, 4] rfl ?_
            exact ih _ sh12 fh12 kh12)
set_option maxHeartbeats 4000000 in
theorem c_X1_weigh {l : Launch} {h : Hp} {k kv : Nat} {v : Vg} (hv : VilAt h kv v) (hs : SInv h k) (hd : kv + 9 ≤ k ∨ k + 13 ≤ kv) {g : Nat} (hg : g ≤ 6) : Ms l yX1_weigh cX1_weigh 6 none 1 [vr 1 k, vr 5 kv, vi (nI g)] h (xK h) (fun r0 h' => r0 = none ∧ SInv h' k ∧ Fr k (k + 13) h h') := by
  refine Ms.of (by decide) (Nat.le_of_ble_eq_true rfl) (fun G C X F => ?_)
  have C : Cx G cX1_weigh 6 RX1 := C
  show Rr G 0 [(0, vr 1 k), (1, vr 5 kv), (2, vi (nI g))] [] h
  have bP := hv.bP
  have bM := hv.bM
  have bN := hv.bN
  refine r_lconst (v := 0) C (dx dX1_weigh 0 rfl) rfl ?_
  refine r_lstore_n (ls' := [(0, vr 1 k), (1, vr 5 kv), (2, vi (nI g)), (3, vl 0)]) C (dx dX1_weigh 1 rfl) (by decide) [1, 2, 3, 0] rfl ?_
  refine r_iconst (v := nI 0) C (dx dX1_weigh 2 rfl) rfl ?_
  refine r_istore (ls' := [(0, vr 1 k), (1, vr 5 kv), (2, vi (nI g)), (3, vl 0), (5, vi (nI 0))]) C (dx dX1_weigh 3 rfl) (by decide) [1, 2, 3, 4, 0] rfl ?_
  refine loopU (Φ := fun p => Rr G 5 [(0, vr 1 k), (1, vr 5 kv), (2, vi (nI g)), (3, vl (sumL (fun m => (vF v 3 m).toInt64 * xL h (k + 12) (xI h (k + 5 + g) m).toNatClampNeg) p)), (5, vi (nI p))] [] h) (N := vM v) ?_ ?_ 0 (Nat.zero_le _)
  ·
    refine r_iload C (dx dX1_weigh 4 rfl) rfl ?_
    refine r_aload_n C (dx dX1_weigh 5 rfl) rfl ?_
    refine g_X1_52 (x := nI (vM v)) C (dx dX1_weigh 6 rfl) hv.eM ?_
    refine rn_ge (a := vM v) (b := vM v) (tgt := 46) C (by omega) (by omega) (dx dX1_weigh 7 rfl) (by decide) (fun c1 => ?_) (fun c1 => ?_)
    · first
      | (omega; done)
      | (
          have c1 : vM v ≤ vM v := c1
          refine r_lload_n C (dx dX1_weigh 28 rfl) rfl ?_
          refine r_aload_n C (dx dX1_weigh 29 rfl) rfl ?_
          refine g_X1_32 C (dx dX1_weigh 30 rfl) rfl ?_
          refine r_lcmp C (dx dX1_weigh 31 rfl) ?_
          refine r_if_le (tgt := 74) C (dx dX1_weigh 32 rfl) (by decide) (fun c2 => ?_) (fun c2 => ?_)
          ·
            have c2 : sumL (fun m => (vF v 3 m).toInt64 * xL h (k + 12) (xI h (k + 5 + g) m).toNatClampNeg) (vM v) ≤ xL h k 5 := (lg_cmp_le _ _).mp c2
            exact F.2.2.1 _ _ _ rfl (dx dX1_weigh 44 rfl) rfl ⟨rfl, hs, Fr.rf⟩
          ·
            have c2 : ¬ (sumL (fun m => (vF v 3 m).toInt64 * xL h (k + 12) (xI h (k + 5 + g) m).toNatClampNeg) (vM v) ≤ xL h k 5) := fun q => c2 ((lg_cmp_le _ _).mpr q)
            refine r_aload_n C (dx dX1_weigh 33 rfl) rfl ?_
            refine r_lload_n C (dx dX1_weigh 34 rfl) rfl ?_
            refine p_X1_32 C (dx dX1_weigh 35 rfl) ?_
            have sh3 : SInv (sL h k 5 (sumL (fun m => (vF v 3 m).toInt64 * xL h (k + 12) (xI h (k + 5 + g) m).toNatClampNeg) (vM v))) k := hs.fr (Fr.sL (lo := k) (hi := k + 1) (by omega) (by omega)) (by omega)
            have fh3 : Fr k (k + 13) h (sL h k 5 (sumL (fun m => (vF v 3 m).toInt64 * xL h (k + 12) (xI h (k + 5 + g) m).toNatClampNeg) (vM v))) := (Fr.sL (by omega) (by omega))
            have kh3 : xK (sL h k 5 (sumL (fun m => (vF v 3 m).toInt64 * xL h (k + 12) (xI h (k + 5 + g) m).toNatClampNeg) (vM v))) = xK h := rfl
            have wh3 : VilAt (sL h k 5 (sumL (fun m => (vF v 3 m).toInt64 * xL h (k + 12) (xI h (k + 5 + g) m).toNatClampNeg) (vM v))) kv v := hv.fr fh3 (by omega)
            generalize sL h k 5 (sumL (fun m => (vF v 3 m).toInt64 * xL h (k + 12) (xI h (k + 5 + g) m).toNatClampNeg) (vM v)) = h3 at sh3 fh3 kh3 wh3 ⊢
            refine r_aload_n C (dx dX1_weigh 36 rfl) rfl ?_
            refine g_X1_9 C (dx dX1_weigh 37 rfl) ?_
            refine r_iconst (v := nI 0) C (dx dX1_weigh 38 rfl) rfl ?_
            refine r_aload_n C (dx dX1_weigh 39 rfl) rfl ?_
            refine g_X1_15 C (dx dX1_weigh 40 rfl) ?_
            refine r_iconst (v := nI 0) C (dx dX1_weigh 41 rfl) rfl ?_
            refine r_iload_n C (dx dX1_weigh 42 rfl) rfl ?_
            refine r_copyI (sp := 0) (dp := 0) (n := g) C X (by decide) (Nat.le_of_ble_eq_true rfl) l_X1_82 q_cp rfl rfl rfl rfl rfl rfl rfl (by decide) (by decide) (by omega) (by omega) (by omega) (dx dX1_weigh 43 rfl) ?_
            have sh4 : SInv (cpI h3 (k + 1) (k + 2) 0 0 g) k := sh3.fr (Fr.cpI (lo := k + 2) (hi := k + 3) (by omega) (by omega)) (by omega)
            have fh4 : Fr k (k + 13) h (cpI h3 (k + 1) (k + 2) 0 0 g) := fh3.tr (Fr.cpI (by omega) (by omega))
            have kh4 : xK (cpI h3 (k + 1) (k + 2) 0 0 g) = xK h := kh3
            have wh4 : VilAt (cpI h3 (k + 1) (k + 2) 0 0 g) kv v := hv.fr fh4 (by omega)
            generalize cpI h3 (k + 1) (k + 2) 0 0 g = h4 at sh4 fh4 kh4 wh4 ⊢
            exact F.2.2.1 _ _ _ rfl (dx dX1_weigh 44 rfl) kh4 ⟨rfl, sh4, fh4⟩)
    · first
      | (omega; done)
  ·
    intro p hp ih
    refine r_iload C (dx dX1_weigh 4 rfl) rfl ?_
    refine r_aload_n C (dx dX1_weigh 5 rfl) rfl ?_
    refine g_X1_52 (x := nI (vM v)) C (dx dX1_weigh 6 rfl) hv.eM ?_
    refine rn_ge (a := p) (b := vM v) (tgt := 46) C (by omega) (by omega) (dx dX1_weigh 7 rfl) (by decide) (fun c5 => ?_) (fun c5 => ?_)
    · first
      | (omega; done)
      | (
          have c5 : vM v ≤ p := c5
          refine r_lload_n C (dx dX1_weigh 28 rfl) rfl ?_
          refine r_aload_n C (dx dX1_weigh 29 rfl) rfl ?_
          refine g_X1_32 C (dx dX1_weigh 30 rfl) rfl ?_
          refine r_lcmp C (dx dX1_weigh 31 rfl) ?_
          refine r_if_le (tgt := 74) C (dx dX1_weigh 32 rfl) (by decide) (fun c6 => ?_) (fun c6 => ?_)
          ·
            have c6 : sumL (fun m => (vF v 3 m).toInt64 * xL h (k + 12) (xI h (k + 5 + g) m).toNatClampNeg) p ≤ xL h k 5 := (lg_cmp_le _ _).mp c6
            exact F.2.2.1 _ _ _ rfl (dx dX1_weigh 44 rfl) rfl ⟨rfl, hs, Fr.rf⟩
          ·
            have c6 : ¬ (sumL (fun m => (vF v 3 m).toInt64 * xL h (k + 12) (xI h (k + 5 + g) m).toNatClampNeg) p ≤ xL h k 5) := fun q => c6 ((lg_cmp_le _ _).mpr q)
            refine r_aload_n C (dx dX1_weigh 33 rfl) rfl ?_
            refine r_lload_n C (dx dX1_weigh 34 rfl) rfl ?_
            refine p_X1_32 C (dx dX1_weigh 35 rfl) ?_
            have sh7 : SInv (sL h k 5 (sumL (fun m => (vF v 3 m).toInt64 * xL h (k + 12) (xI h (k + 5 + g) m).toNatClampNeg) p)) k := hs.fr (Fr.sL (lo := k) (hi := k + 1) (by omega) (by omega)) (by omega)
            have fh7 : Fr k (k + 13) h (sL h k 5 (sumL (fun m => (vF v 3 m).toInt64 * xL h (k + 12) (xI h (k + 5 + g) m).toNatClampNeg) p)) := (Fr.sL (by omega) (by omega))
            have kh7 : xK (sL h k 5 (sumL (fun m => (vF v 3 m).toInt64 * xL h (k + 12) (xI h (k + 5 + g) m).toNatClampNeg) p)) = xK h := rfl
            have wh7 : VilAt (sL h k 5 (sumL (fun m => (vF v 3 m).toInt64 * xL h (k + 12) (xI h (k + 5 + g) m).toNatClampNeg) p)) kv v := hv.fr fh7 (by omega)
            generalize sL h k 5 (sumL (fun m => (vF v 3 m).toInt64 * xL h (k + 12) (xI h (k + 5 + g) m).toNatClampNeg) p) = h7 at sh7 fh7 kh7 wh7 ⊢
            refine r_aload_n C (dx dX1_weigh 36 rfl) rfl ?_
            refine g_X1_9 C (dx dX1_weigh 37 rfl) ?_
            refine r_iconst (v := nI 0) C (dx dX1_weigh 38 rfl) rfl ?_
            refine r_aload_n C (dx dX1_weigh 39 rfl) rfl ?_
            refine g_X1_15 C (dx dX1_weigh 40 rfl) ?_
            refine r_iconst (v := nI 0) C (dx dX1_weigh 41 rfl) rfl ?_
            refine r_iload_n C (dx dX1_weigh 42 rfl) rfl ?_
            refine r_copyI (sp := 0) (dp := 0) (n := g) C X (by decide) (Nat.le_of_ble_eq_true rfl) l_X1_82 q_cp rfl rfl rfl rfl rfl rfl rfl (by decide) (by decide) (by omega) (by omega) (by omega) (dx dX1_weigh 43 rfl) ?_
            have sh8 : SInv (cpI h7 (k + 1) (k + 2) 0 0 g) k := sh7.fr (Fr.cpI (lo := k + 2) (hi := k + 3) (by omega) (by omega)) (by omega)
            have fh8 : Fr k (k + 13) h (cpI h7 (k + 1) (k + 2) 0 0 g) := fh7.tr (Fr.cpI (by omega) (by omega))
            have kh8 : xK (cpI h7 (k + 1) (k + 2) 0 0 g) = xK h := kh7
            have wh8 : VilAt (cpI h7 (k + 1) (k + 2) 0 0 g) kv v := hv.fr fh8 (by omega)
            generalize cpI h7 (k + 1) (k + 2) 0 0 g = h8 at sh8 fh8 kh8 wh8 ⊢
            exact F.2.2.1 _ _ _ rfl (dx dX1_weigh 44 rfl) kh8 ⟨rfl, sh8, fh8⟩)
    · first
      | (omega; done)
      | (
          have c5 : p < vM v := c5
          refine r_lload_n C (dx dX1_weigh 8 rfl) rfl ?_
          refine r_aload_n C (dx dX1_weigh 9 rfl) rfl ?_
          refine g_X1_79 C (dx dX1_weigh 10 rfl) ?_
          refine r_iload C (dx dX1_weigh 11 rfl) rfl ?_
          refine r_iald (j := p) (x := vF v 3 p) C rfl rfl (by decide) rfl (by omega) (dx dX1_weigh 12 rfl) (hv.e3 (by omega)) ?_
          refine r_i2l C (dx dX1_weigh 13 rfl) ?_
          refine r_aload_n C (dx dX1_weigh 14 rfl) rfl ?_
          refine g_X1_26 C (dx dX1_weigh 15 rfl) ?_
          refine r_aload_n C (dx dX1_weigh 16 rfl) rfl ?_
          refine g_X1_23 C (dx dX1_weigh 17 rfl) ?_
          refine r_iload_n C (dx dX1_weigh 18 rfl) rfl ?_
          refine r_aald4 (j := g) C rfl rfl (by decide) rfl (by omega) (dx dX1_weigh 19 rfl) ?_
          refine r_iload C (dx dX1_weigh 20 rfl) rfl ?_
          refine r_iald (j := p) (x := xI h (k + 5 + g) p) C rfl rfl (by decide) rfl (by omega) (dx dX1_weigh 21 rfl) rfl ?_
          refine r_lald (j := (xI h (k + 5 + g) p).toNatClampNeg) (x := xL h (k + 12) ((xI h (k + 5 + g) p).toNatClampNeg)) C rfl rfl (by decide) (s_at (hs.1 _ (by omega) _ (by omega))).1 (s_at (hs.1 _ (by omega) _ (by omega))).2 (dx dX1_weigh 22 rfl) rfl ?_
          refine r_lmul C (dx dX1_weigh 23 rfl) ?_
          refine r_ladd C (dx dX1_weigh 24 rfl) ?_
          refine r_lstore_n (ls' := [(0, vr 1 k), (1, vr 5 kv), (2, vi (nI g)), (3, vl ((sumL (fun m => (vF v 3 m).toInt64 * xL h (k + 12) (xI h (k + 5 + g) m).toNatClampNeg) p) + (((vF v 3 p).toInt64) * (xL h (k + 12) ((xI h (k + 5 + g) p).toNatClampNeg))))), (5, vi (nI p))]) C (dx dX1_weigh 25 rfl) (by decide) [1, 2, 3, 0, 4] rfl ?_
          refine rn_iinc (a := p) (k := 1) (ls' := [(0, vr 1 k), (1, vr 5 kv), (2, vi (nI g)), (3, vl ((sumL (fun m => (vF v 3 m).toInt64 * xL h (k + 12) (xI h (k + 5 + g) m).toNatClampNeg) p) + (((vF v 3 p).toInt64) * (xL h (k + 12) ((xI h (k + 5 + g) p).toNatClampNeg))))), (5, vi (nI (p + 1)))]) C (dx dX1_weigh 26 rfl) rfl rfl (by decide) [1, 2, 3, 4, 0] rfl ?_
          refine r_goto (tgt := 5) C (dx dX1_weigh 27 rfl) (by decide) ?_
          have e9 : ((sumL (fun m => (vF v 3 m).toInt64 * xL h (k + 12) (xI h (k + 5 + g) m).toNatClampNeg) p) + (((vF v 3 p).toInt64) * (xL h (k + 12) ((xI h (k + 5 + g) p).toNatClampNeg)))) = (sumL (fun m => (vF v 3 m).toInt64 * xL h (k + 12) (xI h (k + 5 + g) m).toNatClampNeg) (p + 1)) := by rfl
          rw [e9]
          exact ih)
def prdL (v : Vg) (s : Nat) : Nat → Int64
  | 0 => 1
  | o + 1 => prdL v s o * (if nI s &&& (nI 1 <<< (nI o &&& 31)) = 0 then 10 else (if vF v 6 o = 0 then nI 10 - vF v 5 o else nI 0).toInt64)
set_option maxHeartbeats 4000000 in
theorem c_X1_oddsThatAllCome {l : Launch} {h : Hp} {k kv : Nat} {v : Vg} (hv : VilAt h kv v) (hs : SInv h k) (hd : kv + 9 ≤ k ∨ k + 13 ≤ kv) (s : Nat) : Mp l yX1_oddsThatAllCome cX1_oddsThatAllCome 7 (some .long) 1 [vr 1 k, vr 5 kv, vi (nI s)] h (vl (prdL v s (vN v))) := by
  refine Ms.of (by decide) (Nat.le_of_ble_eq_true rfl) (fun G C X F => ?_)
  have C : Cx G cX1_oddsThatAllCome 7 RX1 := C
  show Rr G 0 [(0, vr 1 k), (1, vr 5 kv), (2, vi (nI s))] [] h
  have bP := hv.bP
  have bM := hv.bM
  have bN := hv.bN
  refine r_lconst (v := 1) C (dx dX1_oddsThatAllCome 0 rfl) rfl ?_
  refine r_lstore_n (ls' := [(0, vr 1 k), (1, vr 5 kv), (2, vi (nI s)), (3, vl 1)]) C (dx dX1_oddsThatAllCome 1 rfl) (by decide) [1, 2, 3, 0] rfl ?_
  refine r_iconst (v := nI 0) C (dx dX1_oddsThatAllCome 2 rfl) rfl ?_
  refine r_istore (ls' := [(0, vr 1 k), (1, vr 5 kv), (2, vi (nI s)), (3, vl 1), (5, vi (nI 0))]) C (dx dX1_oddsThatAllCome 3 rfl) (by decide) [1, 2, 3, 4, 0] rfl ?_
  refine loopU (Φ := fun p => Rr G 5 [(0, vr 1 k), (1, vr 5 kv), (2, vi (nI s)), (3, vl (prdL v s p)), (5, vi (nI p))] [] h) (N := vN v) ?_ ?_ 0 (Nat.zero_le _)
  ·
    refine r_iload C (dx dX1_oddsThatAllCome 4 rfl) rfl ?_
    refine r_aload_n C (dx dX1_oddsThatAllCome 5 rfl) rfl ?_
    refine g_X1_36 (x := nI (vN v)) C (dx dX1_oddsThatAllCome 6 rfl) hv.eN ?_
    refine rn_ge (a := vN v) (b := vN v) (tgt := 67) C (by omega) (by omega) (dx dX1_oddsThatAllCome 7 rfl) (by decide) (fun c1 => ?_) (fun c1 => ?_)
    · first
      | (omega; done)
      | (
          have c1 : vN v ≤ vN v := c1
          refine r_lload_n C (dx dX1_oddsThatAllCome 37 rfl) rfl ?_
          exact F.2.1 _ _ _ _ rfl (dx dX1_oddsThatAllCome 38 rfl) rfl ⟨congrArg (fun x => some (vl x)) rfl, rfl⟩)
    · first
      | (omega; done)
  ·
    intro p hp ih
    refine r_iload C (dx dX1_oddsThatAllCome 4 rfl) rfl ?_
    refine r_aload_n C (dx dX1_oddsThatAllCome 5 rfl) rfl ?_
    refine g_X1_36 (x := nI (vN v)) C (dx dX1_oddsThatAllCome 6 rfl) hv.eN ?_
    refine rn_ge (a := p) (b := vN v) (tgt := 67) C (by omega) (by omega) (dx dX1_oddsThatAllCome 7 rfl) (by decide) (fun c4 => ?_) (fun c4 => ?_)
    · first
      | (omega; done)
      | (
          have c4 : vN v ≤ p := c4
          refine r_lload_n C (dx dX1_oddsThatAllCome 37 rfl) rfl ?_
          exact F.2.1 _ _ _ _ rfl (dx dX1_oddsThatAllCome 38 rfl) rfl ⟨congrArg (fun x => some (vl x)) (show prdL v s p = prdL v s (vN v) by rfl), rfl⟩)
    · first
      | (omega; done)
      | (
          have c4 : p < vN v := c4
          refine r_aload_n C (dx dX1_oddsThatAllCome 8 rfl) rfl ?_
          refine g_X1_59 C (dx dX1_oddsThatAllCome 9 rfl) ?_
          refine r_iload C (dx dX1_oddsThatAllCome 10 rfl) rfl ?_
          refine r_zald (j := p) (x := vF v 6 p) C rfl rfl (by decide) rfl (by omega) (dx dX1_oddsThatAllCome 11 rfl) (hv.e6 (by omega)) ?_
          refine r_if_eq (tgt := 28) C (dx dX1_oddsThatAllCome 12 rfl) (by decide) (fun c5 => ?_) (fun c5 => ?_)
          ·
            have c5 : vF v 6 p = 0 := c5
            refine r_bipush (v := nI 10) C (dx dX1_oddsThatAllCome 15 rfl) rfl ?_
            refine r_aload_n C (dx dX1_oddsThatAllCome 16 rfl) rfl ?_
            refine g_X1_63 C (dx dX1_oddsThatAllCome 17 rfl) ?_
            refine r_iload C (dx dX1_oddsThatAllCome 18 rfl) rfl ?_
            refine r_iald (j := p) (x := vF v 5 p) C rfl rfl (by decide) rfl (by omega) (dx dX1_oddsThatAllCome 19 rfl) (hv.e5 (by omega)) ?_
            refine r_isub C (dx dX1_oddsThatAllCome 20 rfl) ?_
            refine r_istore (ls' := [(0, vr 1 k), (1, vr 5 kv), (2, vi (nI s)), (3, vl (prdL v s p)), (5, vi (nI p)), (6, vi ((nI 10) - (vF v 5 p)))]) C (dx dX1_oddsThatAllCome 21 rfl) (by decide) [1, 2, 3, 4, 5, 0] rfl ?_
            refine r_lload_n C (dx dX1_oddsThatAllCome 22 rfl) rfl ?_
            refine r_iload_n C (dx dX1_oddsThatAllCome 23 rfl) rfl ?_
            refine r_iconst (v := nI 1) C (dx dX1_oddsThatAllCome 24 rfl) rfl ?_
            refine r_iload C (dx dX1_oddsThatAllCome 25 rfl) rfl ?_
            refine r_ishl C (dx dX1_oddsThatAllCome 26 rfl) ?_
            refine r_iand C (dx dX1_oddsThatAllCome 27 rfl) ?_
            refine r_if_eq (tgt := 56) C (dx dX1_oddsThatAllCome 28 rfl) (by decide) (fun c6 => ?_) (fun c6 => ?_)
            ·
              have c6 : (nI s) &&& ((nI 1) <<< ((nI p) &&& 31)) = 0 := c6
              refine r_ldc2 C n_X1_66 (dx dX1_oddsThatAllCome 32 rfl) ?_
              refine r_lmul C (dx dX1_oddsThatAllCome 33 rfl) ?_
              refine r_lstore_n (ls' := [(0, vr 1 k), (1, vr 5 kv), (2, vi (nI s)), (3, vl ((prdL v s p) * 10)), (5, vi (nI p)), (6, vi ((nI 10) - (vF v 5 p)))]) C (dx dX1_oddsThatAllCome 34 rfl) (by decide) [1, 2, 3, 0, 4, 5] rfl ?_
              refine rn_iinc (a := p) (k := 1) (ls' := [(0, vr 1 k), (1, vr 5 kv), (2, vi (nI s)), (3, vl ((prdL v s p) * 10)), (5, vi (nI (p + 1))), (6, vi ((nI 10) - (vF v 5 p)))]) C (dx dX1_oddsThatAllCome 35 rfl) rfl rfl (by decide) [1, 2, 3, 4, 0, 5] rfl ?_
              refine r_goto (tgt := 5) C (dx dX1_oddsThatAllCome 36 rfl) (by decide) ?_
              have e9 : ((prdL v s p) * 10) = (prdL v s (p + 1)) := by simp [prdL, c5, c6]
              rw [e9]
              refine r_weak C [0, 1, 2, 3, 4] rfl ?_
              exact ih
            ·
              have c6 : ¬ (nI s) &&& ((nI 1) <<< ((nI p) &&& 31)) = 0 := c6
              refine r_iload C (dx dX1_oddsThatAllCome 29 rfl) rfl ?_
              refine r_i2l C (dx dX1_oddsThatAllCome 30 rfl) ?_
              refine r_goto (tgt := 59) C (dx dX1_oddsThatAllCome 31 rfl) (by decide) ?_
              refine r_lmul C (dx dX1_oddsThatAllCome 33 rfl) ?_
              refine r_lstore_n (ls' := [(0, vr 1 k), (1, vr 5 kv), (2, vi (nI s)), (3, vl ((prdL v s p) * (((nI 10) - (vF v 5 p)).toInt64))), (5, vi (nI p)), (6, vi ((nI 10) - (vF v 5 p)))]) C (dx dX1_oddsThatAllCome 34 rfl) (by decide) [1, 2, 3, 0, 4, 5] rfl ?_
              refine rn_iinc (a := p) (k := 1) (ls' := [(0, vr 1 k), (1, vr 5 kv), (2, vi (nI s)), (3, vl ((prdL v s p) * (((nI 10) - (vF v 5 p)).toInt64))), (5, vi (nI (p + 1))), (6, vi ((nI 10) - (vF v 5 p)))]) C (dx dX1_oddsThatAllCome 35 rfl) rfl rfl (by decide) [1, 2, 3, 4, 0, 5] rfl ?_
              refine r_goto (tgt := 5) C (dx dX1_oddsThatAllCome 36 rfl) (by decide) ?_
              have e9 : ((prdL v s p) * (((nI 10) - (vF v 5 p)).toInt64)) = (prdL v s (p + 1)) := by simp [prdL, c5, c6]
              rw [e9]
              refine r_weak C [0, 1, 2, 3, 4] rfl ?_
              exact ih
          ·
            have c5 : ¬ vF v 6 p = 0 := c5
            refine r_iconst (v := nI 0) C (dx dX1_oddsThatAllCome 13 rfl) rfl ?_
            refine r_goto (tgt := 38) C (dx dX1_oddsThatAllCome 14 rfl) (by decide) ?_
            refine r_istore (ls' := [(0, vr 1 k), (1, vr 5 kv), (2, vi (nI s)), (3, vl (prdL v s p)), (5, vi (nI p)), (6, vi (nI 0))]) C (dx dX1_oddsThatAllCome 21 rfl) (by decide) [1, 2, 3, 4, 5, 0] rfl ?_
            refine r_lload_n C (dx dX1_oddsThatAllCome 22 rfl) rfl ?_
            refine r_iload_n C (dx dX1_oddsThatAllCome 23 rfl) rfl ?_
            refine r_iconst (v := nI 1) C (dx dX1_oddsThatAllCome 24 rfl) rfl ?_
            refine r_iload C (dx dX1_oddsThatAllCome 25 rfl) rfl ?_
            refine r_ishl C (dx dX1_oddsThatAllCome 26 rfl) ?_
            refine r_iand C (dx dX1_oddsThatAllCome 27 rfl) ?_
            refine r_if_eq (tgt := 56) C (dx dX1_oddsThatAllCome 28 rfl) (by decide) (fun c7 => ?_) (fun c7 => ?_)
            ·
              have c7 : (nI s) &&& ((nI 1) <<< ((nI p) &&& 31)) = 0 := c7
              refine r_ldc2 C n_X1_66 (dx dX1_oddsThatAllCome 32 rfl) ?_
              refine r_lmul C (dx dX1_oddsThatAllCome 33 rfl) ?_
              refine r_lstore_n (ls' := [(0, vr 1 k), (1, vr 5 kv), (2, vi (nI s)), (3, vl ((prdL v s p) * 10)), (5, vi (nI p)), (6, vi (nI 0))]) C (dx dX1_oddsThatAllCome 34 rfl) (by decide) [1, 2, 3, 0, 4, 5] rfl ?_
              refine rn_iinc (a := p) (k := 1) (ls' := [(0, vr 1 k), (1, vr 5 kv), (2, vi (nI s)), (3, vl ((prdL v s p) * 10)), (5, vi (nI (p + 1))), (6, vi (nI 0))]) C (dx dX1_oddsThatAllCome 35 rfl) rfl rfl (by decide) [1, 2, 3, 4, 0, 5] rfl ?_
              refine r_goto (tgt := 5) C (dx dX1_oddsThatAllCome 36 rfl) (by decide) ?_
              have e9 : ((prdL v s p) * 10) = (prdL v s (p + 1)) := by simp [prdL, c5, c7]
              rw [e9]
              refine r_weak C [0, 1, 2, 3, 4] rfl ?_
              exact ih
            ·
              have c7 : ¬ (nI s) &&& ((nI 1) <<< ((nI p) &&& 31)) = 0 := c7
              refine r_iload C (dx dX1_oddsThatAllCome 29 rfl) rfl ?_
              refine r_i2l C (dx dX1_oddsThatAllCome 30 rfl) ?_
              refine r_goto (tgt := 59) C (dx dX1_oddsThatAllCome 31 rfl) (by decide) ?_
              refine r_lmul C (dx dX1_oddsThatAllCome 33 rfl) ?_
              refine r_lstore_n (ls' := [(0, vr 1 k), (1, vr 5 kv), (2, vi (nI s)), (3, vl ((prdL v s p) * ((nI 0).toInt64))), (5, vi (nI p)), (6, vi (nI 0))]) C (dx dX1_oddsThatAllCome 34 rfl) (by decide) [1, 2, 3, 0, 4, 5] rfl ?_
              refine rn_iinc (a := p) (k := 1) (ls' := [(0, vr 1 k), (1, vr 5 kv), (2, vi (nI s)), (3, vl ((prdL v s p) * ((nI 0).toInt64))), (5, vi (nI (p + 1))), (6, vi (nI 0))]) C (dx dX1_oddsThatAllCome 35 rfl) rfl rfl (by decide) [1, 2, 3, 4, 0, 5] rfl ?_
              refine r_goto (tgt := 5) C (dx dX1_oddsThatAllCome 36 rfl) (by decide) ?_
              have e9 : ((prdL v s p) * ((nI 0).toInt64)) = (prdL v s (p + 1)) := by simp [prdL, c5, c7]
              rw [e9]
              refine r_weak C [0, 1, 2, 3, 4] rfl ?_
              exact ih)
theorem p5 {j : Nat} (h : j < 4) : 2 ^ j < 32 := Nat.lt_of_lt_of_le (Nat.pow_lt_pow_right (by omega) h) (by decide)
def ChoS (l : Launch) (k kv : Nat) (v : Vg) (n : Nat) : Prop := ∀ (h : Hp) (p : Nat), p + n = vP v → VilAt h kv v → SInv h k → Ms l yX1_choose cX1_choose 4 none (n + 2) [vr 1 k, vr 5 kv, vi (nI p)] h (xK h) (fun r0 h' => r0 = none ∧ SInv h' k ∧ Fr k (k + 13) h h')
set_option maxHeartbeats 4000000 in
theorem c_choose_0 {l : Launch} {h : Hp} {k kv : Nat} {v : Vg} (hd : kv + 9 ≤ k ∨ k + 13 ≤ kv) (h6 : vP v ≤ 6) (h4 : vN v ≤ 4) {p : Nat} (hp0 : p = vP v) (hv : VilAt h kv v) (hs : SInv h k) : Ms l yX1_choose cX1_choose 4 none 2 [vr 1 k, vr 5 kv, vi (nI p)] h (xK h) (fun r0 h' => r0 = none ∧ SInv h' k ∧ Fr k (k + 13) h h') := by
  refine Ms.of (by decide) (Nat.le_of_ble_eq_true rfl) (fun G C X F => ?_)
  have C : Cx G cX1_choose 4 RX1 := C
  show Rr G 0 [(0, vr 1 k), (1, vr 5 kv), (2, vi (nI p))] [] h
  have bP := hv.bP
  have bM := hv.bM
  have bN := hv.bN
  refine r_iload_n C (dx dX1_choose 0 rfl) rfl ?_
  refine r_aload_n C (dx dX1_choose 1 rfl) rfl ?_
  refine g_X1_42 (x := nI (vP v)) C (dx dX1_choose 2 rfl) hv.eP ?_
  refine rn_ge (a := p) (b := vP v) (tgt := 14) C (by omega) (by omega) (dx dX1_choose 3 rfl) (by decide) (fun c1 => ?_) (fun c1 => ?_)
  · first
    | (omega; done)
    | (
        have c1 : vP v ≤ p := c1
        refine r_aload_n C (dx dX1_choose 7 rfl) rfl ?_
        refine r_aload_n C (dx dX1_choose 8 rfl) rfl ?_
        refine r_iload_n C (dx dX1_choose 9 rfl) rfl ?_
        refine r_cv (as := [vr 5 kv, vi (nI p)]) (st := []) C X I_X1_weigh l_X1_68 (c_X1_weigh hv hs hd (g := p) (by omega)) (by omega) (Nat.le_of_ble_eq_true rfl) List.prefix_rfl List.prefix_rfl rfl rfl (Nat.le_of_ble_eq_true rfl) rfl (dx dX1_choose 10 rfl) ?_
        intro rh2 h2 hph2 kkh2
        obtain ⟨rfl, sh2, gh2⟩ := hph2
        have fh2 : Fr k (k + 13) h h2 := gh2
        have kh2 : xK h2 = xK h := kkh2
        have wh2 : VilAt h2 kv v := hv.fr fh2 (by omega)
        exact F.2.2.1 _ _ _ rfl (dx dX1_choose 11 rfl) kh2 ⟨rfl, sh2, fh2⟩)
  · omega
set_option maxHeartbeats 4000000 in
theorem c_choose_s {l : Launch} {h : Hp} {k kv : Nat} {v : Vg} (hd : kv + 9 ≤ k ∨ k + 13 ≤ kv) (h6 : vP v ≤ 6) (h4 : vN v ≤ 4) {p n : Nat} (hp0 : p < vP v) (hpn : p + 1 + n = vP v) (ihc : ChoS l k kv v n) (hv : VilAt h kv v) (hs : SInv h k) : Ms l yX1_choose cX1_choose 4 none (n + 3) [vr 1 k, vr 5 kv, vi (nI p)] h (xK h) (fun r0 h' => r0 = none ∧ SInv h' k ∧ Fr k (k + 13) h h') := by
  refine Ms.of (by decide) (Nat.le_of_ble_eq_true rfl) (fun G C X F => ?_)
  have C : Cx G cX1_choose 4 RX1 := C
  show Rr G 0 [(0, vr 1 k), (1, vr 5 kv), (2, vi (nI p))] [] h
  have bP := hv.bP
  have bM := hv.bM
  have bN := hv.bN
  refine r_iload_n C (dx dX1_choose 0 rfl) rfl ?_
  refine r_aload_n C (dx dX1_choose 1 rfl) rfl ?_
  refine g_X1_42 (x := nI (vP v)) C (dx dX1_choose 2 rfl) hv.eP ?_
  refine rn_ge (a := p) (b := vP v) (tgt := 14) C (by omega) (by omega) (dx dX1_choose 3 rfl) (by decide) (fun c1 => ?_) (fun c1 => ?_)
  · first
    | (omega; done)
    | (
        have c1 : vP v ≤ p := c1
        refine r_aload_n C (dx dX1_choose 7 rfl) rfl ?_
        refine r_aload_n C (dx dX1_choose 8 rfl) rfl ?_
        refine r_iload_n C (dx dX1_choose 9 rfl) rfl ?_
        refine r_cv (as := [vr 5 kv, vi (nI p)]) (st := []) C X I_X1_weigh l_X1_68 (c_X1_weigh hv hs hd (g := p) (by omega)) (by omega) (Nat.le_of_ble_eq_true rfl) List.prefix_rfl List.prefix_rfl rfl rfl (Nat.le_of_ble_eq_true rfl) rfl (dx dX1_choose 10 rfl) ?_
        intro rh2 h2 hph2 kkh2
        obtain ⟨rfl, sh2, gh2⟩ := hph2
        have fh2 : Fr k (k + 13) h h2 := gh2
        have kh2 : xK h2 = xK h := kkh2
        have wh2 : VilAt h2 kv v := hv.fr fh2 (by omega)
        exact F.2.2.1 _ _ _ rfl (dx dX1_choose 11 rfl) kh2 ⟨rfl, sh2, fh2⟩)
  · first
    | (omega; done)
    | (
        have c1 : p < vP v := c1
        refine r_iload_n C (dx dX1_choose 4 rfl) rfl ?_
        refine r_bipush (v := nI 6) C (dx dX1_choose 5 rfl) rfl ?_
        refine rn_lt (a := p) (b := 6) (tgt := 21) C (by omega) (by omega) (dx dX1_choose 6 rfl) (by decide) (fun c3 => ?_) (fun c3 => ?_)
        · first
          | (omega; done)
          | (
              have c3 : p < 6 := c3
              refine r_iconst (v := -1) C (dx dX1_choose 12 rfl) rfl ?_
              refine r_istore_n (ls' := [(0, vr 1 k), (1, vr 5 kv), (2, vi (nI p)), (3, vi (-1))]) C (dx dX1_choose 13 rfl) (by decide) [1, 2, 3, 0] rfl ?_
              refine r_iload_n C (dx dX1_choose 14 rfl) rfl ?_
              refine r_aload_n C (dx dX1_choose 15 rfl) rfl ?_
              refine g_X1_36 (x := nI (vN v)) C (dx dX1_choose 16 rfl) hv.eN ?_
              refine r_icmp_ge (tgt := 121) C (dx dX1_choose 17 rfl) (by decide) (fun c4 => ?_) (fun c4 => ?_)
              · exact absurd c4 (nI_lm1 (by omega))
              ·
                have c4 : ¬ nI (vN v) ≤ -1 := c4
                refine r_iload_n C (dx dX1_choose 18 rfl) rfl ?_
                refine r_iconst (v := -1) C (dx dX1_choose 19 rfl) rfl ?_
                refine r_icmp_ne (tgt := 62) C (dx dX1_choose 20 rfl) (by decide) (fun c5 => ?_) (fun c5 => ?_)
                · exact (c5 rfl).elim
                ·
                  have c5 : (-1 : Int32) = -1 := c5
                  refine r_aload_n C (dx dX1_choose 21 rfl) rfl ?_
                  refine r_aload_n C (dx dX1_choose 22 rfl) rfl ?_
                  refine r_iload_n C (dx dX1_choose 23 rfl) rfl ?_
                  refine r_bipush (v := nI 16) C (dx dX1_choose 24 rfl) rfl ?_
                  refine r_cv (as := [vr 5 kv, vi (nI p), vi (nI 16)]) (st := []) C X I_X1_take l_X1_72 (c_X1_take hv hs hd (p := p) (w := 16) (by omega) (by omega)) (by omega) (Nat.le_of_ble_eq_true rfl) List.prefix_rfl List.prefix_rfl rfl rfl (Nat.le_of_ble_eq_true rfl) rfl (dx dX1_choose 25 rfl) ?_
                  intro rh6 h6 hph6 kkh6
                  obtain ⟨rfl, sh6, gh6⟩ := hph6
                  have fh6 : Fr k (k + 13) h h6 := gh6
                  have kh6 : xK h6 = xK h := kkh6
                  have wh6 : VilAt h6 kv v := hv.fr fh6 (by omega)
                  refine r_aload_n C (dx dX1_choose 26 rfl) rfl ?_
                  refine g_X1_9 C (dx dX1_choose 27 rfl) ?_
                  refine r_iload_n C (dx dX1_choose 28 rfl) rfl ?_
                  refine r_iconst (v := -1) C (dx dX1_choose 29 rfl) rfl ?_
                  refine r_iast (j := p) C rfl rfl (by decide) rfl (by omega) (dx dX1_choose 30 rfl) ?_
                  have sh7 : SInv (sI h6 (k + 1) p (-1)) k := sh6.fr (Fr.sI (lo := k + 1) (hi := k + 2) (by omega) (by omega)) (by omega)
                  have fh7 : Fr k (k + 13) h (sI h6 (k + 1) p (-1)) := fh6.tr (Fr.sI (by omega) (by omega))
                  have kh7 : xK (sI h6 (k + 1) p (-1)) = xK h := kh6
                  have wh7 : VilAt (sI h6 (k + 1) p (-1)) kv v := hv.fr fh7 (by omega)
                  generalize sI h6 (k + 1) p (-1) = h7 at sh7 fh7 kh7 wh7 ⊢
                  refine r_aload_n C (dx dX1_choose 31 rfl) rfl ?_
                  refine r_aload_n C (dx dX1_choose 32 rfl) rfl ?_
                  refine r_iload_n C (dx dX1_choose 33 rfl) rfl ?_
                  refine r_iconst (v := nI 1) C (dx dX1_choose 34 rfl) rfl ?_
                  refine rn_iadd (a := p) (b := 1) C (dx dX1_choose 35 rfl) ?_
                  refine r_cs (as := [vr 1 k, vr 5 kv, vi (nI (p + 1))]) (st := []) C X I_X1_choose l_X1_55 (ihc _ _ (by omega) wh7 sh7) (by omega) (Nat.le_of_ble_eq_true rfl) List.prefix_rfl (pfx_eq kh7) (Nat.le_of_ble_eq_true rfl) rfl (dx dX1_choose 36 rfl) ?_
                  intro rh8 h8 hph8 kkh8
                  obtain ⟨rfl, sh8, gh8⟩ := hph8
                  have fh8 : Fr k (k + 13) h h8 := fh7.tr gh8
                  have kh8 : xK h8 = xK h := kkh8.trans kh7
                  have wh8 : VilAt h8 kv v := hv.fr fh8 (by omega)
                  refine r_goto (tgt := 115) C (dx dX1_choose 37 rfl) (by decide) ?_
                  refine r_iinc (ls' := [(0, vr 1 k), (1, vr 5 kv), (2, vi (nI p)), (3, vi (-1 + (1)))]) C (dx dX1_choose 77 rfl) rfl rfl (by decide) [1, 2, 3, 0] rfl ?_
                  refine r_goto (tgt := 23) C (dx dX1_choose 78 rfl) (by decide) ?_
                  rw [show (-1 + (1) : Int32) = nI 0 from by decide]
                  refine loopU (Φ := fun j => ∀ h9, SInv h9 k → Fr k (k + 13) h h9 → xK h9 = xK h → Rr G 23 [(0, vr 1 k), (1, vr 5 kv), (2, vi (nI p)), (3, vi (nI j))] [] h9) (N := vN v) ?_ ?_ 0 (Nat.zero_le _) _ sh8 fh8 kh8
                  ·
                    intro h9 sh9 fh9 kh9
                    have wh9 : VilAt h9 kv v := hv.fr fh9 (by omega)
                    refine r_iload_n C (dx dX1_choose 14 rfl) rfl ?_
                    refine r_aload_n C (dx dX1_choose 15 rfl) rfl ?_
                    refine g_X1_36 (x := nI (vN v)) C (dx dX1_choose 16 rfl) wh9.eN ?_
                    refine rn_ge (a := vN v) (b := vN v) (tgt := 121) C (by omega) (by omega) (dx dX1_choose 17 rfl) (by decide) (fun c10 => ?_) (fun c10 => ?_)
                    · first
                      | (omega; done)
                      | (
                          have c10 : vN v ≤ vN v := c10
                          exact F.2.2.1 _ _ _ rfl (dx dX1_choose 79 rfl) kh9 ⟨rfl, sh9, fh9⟩)
                    · first
                      | (omega; done)
                  ·
                    intro j hj ih h13 sh13 fh13 kh13
                    have wh13 : VilAt h13 kv v := hv.fr fh13 (by omega)
                    refine r_iload_n C (dx dX1_choose 14 rfl) rfl ?_
                    refine r_aload_n C (dx dX1_choose 15 rfl) rfl ?_
                    refine g_X1_36 (x := nI (vN v)) C (dx dX1_choose 16 rfl) wh13.eN ?_
                    refine rn_ge (a := j) (b := vN v) (tgt := 121) C (by omega) (by omega) (dx dX1_choose 17 rfl) (by decide) (fun c14 => ?_) (fun c14 => ?_)
                    · first
                      | (omega; done)
                      | (
                          have c14 : vN v ≤ j := c14
                          exact F.2.2.1 _ _ _ rfl (dx dX1_choose 79 rfl) kh13 ⟨rfl, sh13, fh13⟩)
                    · first
                      | (omega; done)
                      | (
                          have c14 : j < vN v := c14
                          refine r_iload_n C (dx dX1_choose 18 rfl) rfl ?_
                          refine r_iconst (v := -1) C (dx dX1_choose 19 rfl) rfl ?_
                          refine r_icmp_ne (tgt := 62) C (dx dX1_choose 20 rfl) (by decide) (fun c15 => ?_) (fun c15 => ?_)
                          ·
                            have c15 : ¬ nI j = -1 := c15
                            refine r_aload_n C (dx dX1_choose 38 rfl) rfl ?_
                            refine g_X1_18 C (dx dX1_choose 39 rfl) ?_
                            refine r_iload_n C (dx dX1_choose 40 rfl) rfl ?_
                            refine r_iald (j := j) (x := xI h13 (k + 3) j) C rfl rfl (by decide) rfl (by omega) (dx dX1_choose 41 rfl) rfl ?_
                            refine r_if_le (tgt := 115) C (dx dX1_choose 42 rfl) (by decide) (fun c16 => ?_) (fun c16 => ?_)
                            ·
                              have c16 : xI h13 (k + 3) j ≤ 0 := c16
                              refine rn_iinc (a := j) (k := 1) (ls' := [(0, vr 1 k), (1, vr 5 kv), (2, vi (nI p)), (3, vi (nI (j + 1)))]) C (dx dX1_choose 77 rfl) rfl rfl (by decide) [1, 2, 3, 0] rfl ?_
                              refine r_goto (tgt := 23) C (dx dX1_choose 78 rfl) (by decide) ?_
                              exact ih _ sh13 fh13 kh13
                            ·
                              have c16 : ¬ xI h13 (k + 3) j ≤ 0 := c16
                              refine r_aload_n C (dx dX1_choose 43 rfl) rfl ?_
                              refine r_aload_n C (dx dX1_choose 44 rfl) rfl ?_
                              refine r_iload_n C (dx dX1_choose 45 rfl) rfl ?_
                              refine r_iconst (v := nI 1) C (dx dX1_choose 46 rfl) rfl ?_
                              refine r_iload_n C (dx dX1_choose 47 rfl) rfl ?_
                              refine rn_sh1 (o := j) C (by omega) (dx dX1_choose 48 rfl) ?_
                              refine r_cv (as := [vr 5 kv, vi (nI p), vi (nI (2 ^ j))]) (st := []) C X I_X1_take l_X1_72 (c_X1_take wh13 sh13 hd (p := p) (w := 2 ^ j) (by omega) (p5 (by omega))) (by omega) (Nat.le_of_ble_eq_true rfl) List.prefix_rfl (pfx_eq kh13) rfl rfl (Nat.le_of_ble_eq_true rfl) rfl (dx dX1_choose 49 rfl) ?_
                              intro rh17 h17 hph17 kkh17
                              obtain ⟨rfl, sh17, gh17⟩ := hph17
                              have fh17 : Fr k (k + 13) h h17 := fh13.tr gh17
                              have kh17 : xK h17 = xK h := kkh17.trans kh13
                              have wh17 : VilAt h17 kv v := hv.fr fh17 (by omega)
                              refine r_aload_n C (dx dX1_choose 50 rfl) rfl ?_
                              refine g_X1_9 C (dx dX1_choose 51 rfl) ?_
                              refine r_iload_n C (dx dX1_choose 52 rfl) rfl ?_
                              refine r_iload_n C (dx dX1_choose 53 rfl) rfl ?_
                              refine r_iast (j := p) C rfl rfl (by decide) rfl (by omega) (dx dX1_choose 54 rfl) ?_
                              have sh18 : SInv (sI h17 (k + 1) p (nI j)) k := sh17.fr (Fr.sI (lo := k + 1) (hi := k + 2) (by omega) (by omega)) (by omega)
                              have fh18 : Fr k (k + 13) h (sI h17 (k + 1) p (nI j)) := fh17.tr (Fr.sI (by omega) (by omega))
                              have kh18 : xK (sI h17 (k + 1) p (nI j)) = xK h := kh17
                              have wh18 : VilAt (sI h17 (k + 1) p (nI j)) kv v := hv.fr fh18 (by omega)
                              generalize sI h17 (k + 1) p (nI j) = h18 at sh18 fh18 kh18 wh18 ⊢
                              refine r_aload_n C (dx dX1_choose 55 rfl) rfl ?_
                              refine g_X1_18 C (dx dX1_choose 56 rfl) ?_
                              refine r_iload_n C (dx dX1_choose 57 rfl) rfl ?_
                              refine r_dup2 C (dx dX1_choose 58 rfl) ?_
                              refine r_iald (j := j) (x := xI h18 (k + 3) j) C rfl rfl (by decide) rfl (by omega) (dx dX1_choose 59 rfl) rfl ?_
                              refine r_iconst (v := nI 1) C (dx dX1_choose 60 rfl) rfl ?_
                              refine r_isub C (dx dX1_choose 61 rfl) ?_
                              refine r_iast (j := j) C rfl rfl (by decide) rfl (by omega) (dx dX1_choose 62 rfl) ?_
                              have sh19 : SInv (sI h18 (k + 3) j ((xI h18 (k + 3) j) - (nI 1))) k := sh18.fr (Fr.sI (lo := k + 3) (hi := k + 4) (by omega) (by omega)) (by omega)
                              have fh19 : Fr k (k + 13) h (sI h18 (k + 3) j ((xI h18 (k + 3) j) - (nI 1))) := fh18.tr (Fr.sI (by omega) (by omega))
                              have kh19 : xK (sI h18 (k + 3) j ((xI h18 (k + 3) j) - (nI 1))) = xK h := kh18
                              have wh19 : VilAt (sI h18 (k + 3) j ((xI h18 (k + 3) j) - (nI 1))) kv v := hv.fr fh19 (by omega)
                              generalize sI h18 (k + 3) j ((xI h18 (k + 3) j) - (nI 1)) = h19 at sh19 fh19 kh19 wh19 ⊢
                              refine r_aload_n C (dx dX1_choose 63 rfl) rfl ?_
                              refine r_aload_n C (dx dX1_choose 64 rfl) rfl ?_
                              refine r_iload_n C (dx dX1_choose 65 rfl) rfl ?_
                              refine r_iconst (v := nI 1) C (dx dX1_choose 66 rfl) rfl ?_
                              refine rn_iadd (a := p) (b := 1) C (dx dX1_choose 67 rfl) ?_
                              refine r_cs (as := [vr 1 k, vr 5 kv, vi (nI (p + 1))]) (st := []) C X I_X1_choose l_X1_55 (ihc _ _ (by omega) wh19 sh19) (by omega) (Nat.le_of_ble_eq_true rfl) List.prefix_rfl (pfx_eq kh19) (Nat.le_of_ble_eq_true rfl) rfl (dx dX1_choose 68 rfl) ?_
                              intro rh20 h20 hph20 kkh20
                              obtain ⟨rfl, sh20, gh20⟩ := hph20
                              have fh20 : Fr k (k + 13) h h20 := fh19.tr gh20
                              have kh20 : xK h20 = xK h := kkh20.trans kh19
                              have wh20 : VilAt h20 kv v := hv.fr fh20 (by omega)
                              refine r_aload_n C (dx dX1_choose 69 rfl) rfl ?_
                              refine g_X1_18 C (dx dX1_choose 70 rfl) ?_
                              refine r_iload_n C (dx dX1_choose 71 rfl) rfl ?_
                              refine r_dup2 C (dx dX1_choose 72 rfl) ?_
                              refine r_iald (j := j) (x := xI h20 (k + 3) j) C rfl rfl (by decide) rfl (by omega) (dx dX1_choose 73 rfl) rfl ?_
                              refine r_iconst (v := nI 1) C (dx dX1_choose 74 rfl) rfl ?_
                              refine r_iadd C (dx dX1_choose 75 rfl) ?_
                              refine r_iast (j := j) C rfl rfl (by decide) rfl (by omega) (dx dX1_choose 76 rfl) ?_
                              have sh21 : SInv (sI h20 (k + 3) j ((xI h20 (k + 3) j) + (nI 1))) k := sh20.fr (Fr.sI (lo := k + 3) (hi := k + 4) (by omega) (by omega)) (by omega)
                              have fh21 : Fr k (k + 13) h (sI h20 (k + 3) j ((xI h20 (k + 3) j) + (nI 1))) := fh20.tr (Fr.sI (by omega) (by omega))
                              have kh21 : xK (sI h20 (k + 3) j ((xI h20 (k + 3) j) + (nI 1))) = xK h := kh20
                              have wh21 : VilAt (sI h20 (k + 3) j ((xI h20 (k + 3) j) + (nI 1))) kv v := hv.fr fh21 (by omega)
                              generalize sI h20 (k + 3) j ((xI h20 (k + 3) j) + (nI 1)) = h21 at sh21 fh21 kh21 wh21 ⊢
                              refine rn_iinc (a := j) (k := 1) (ls' := [(0, vr 1 k), (1, vr 5 kv), (2, vi (nI p)), (3, vi (nI (j + 1)))]) C (dx dX1_choose 77 rfl) rfl rfl (by decide) [1, 2, 3, 0] rfl ?_
                              refine r_goto (tgt := 23) C (dx dX1_choose 78 rfl) (by decide) ?_
                              exact ih _ sh21 fh21 kh21
                          · exact absurd c15 (nI_nm1 (by omega))))
        · first
          | (omega; done)
          | (
              have c3 : 6 ≤ p := c3
              refine r_aload_n C (dx dX1_choose 7 rfl) rfl ?_
              refine r_aload_n C (dx dX1_choose 8 rfl) rfl ?_
              refine r_iload_n C (dx dX1_choose 9 rfl) rfl ?_
              refine r_cv (as := [vr 5 kv, vi (nI p)]) (st := []) C X I_X1_weigh l_X1_68 (c_X1_weigh hv hs hd (g := p) (by omega)) (by omega) (Nat.le_of_ble_eq_true rfl) List.prefix_rfl List.prefix_rfl rfl rfl (Nat.le_of_ble_eq_true rfl) rfl (dx dX1_choose 10 rfl) ?_
              intro rh22 h22 hph22 kkh22
              obtain ⟨rfl, sh22, gh22⟩ := hph22
              have fh22 : Fr k (k + 13) h h22 := gh22
              have kh22 : xK h22 = xK h := kkh22
              have wh22 : VilAt h22 kv v := hv.fr fh22 (by omega)
              exact F.2.2.1 _ _ _ rfl (dx dX1_choose 11 rfl) kh22 ⟨rfl, sh22, fh22⟩))
theorem c_choose {l : Launch} {k kv : Nat} {v : Vg} (hd : kv + 9 ≤ k ∨ k + 13 ≤ kv) (h6 : vP v ≤ 6) (h4 : vN v ≤ 4) : ∀ n, ChoS l k kv v n
  | 0 => fun _ _ hp hv hs => c_choose_0 hd h6 h4 (by omega) hv hs
  | n + 1 => fun _ _ hp hv hs => c_choose_s hd h6 h4 (by omega) (by omega) (c_choose hd h6 h4 n) hv hs
set_option maxHeartbeats 4000000 in
theorem c_X1_run {l : Launch} {h : Hp} {k kv : Nat} {v : Vg} (hv : VilAt h kv v) (hs : SInv h k) (hd : kv + 9 ≤ k ∨ k + 13 ≤ kv)  : Ms l yX1_run cX1_run 3 none 9 [vr 1 k, vr 5 kv] h (xK h) (fun r0 h' => r0 = none ∧ SInv h' k ∧ Fr k (k + 13) h h') := by
  refine Ms.of (by decide) (Nat.le_of_ble_eq_true rfl) (fun G C X F => ?_)
  have C : Cx G cX1_run 3 RX1 := C
  show Rr G 0 [(0, vr 1 k), (1, vr 5 kv)] [] h
  have bP := hv.bP
  have bM := hv.bM
  have bN := hv.bN
  refine r_aload_n C (dx dX1_run 0 rfl) rfl ?_
  refine r_ldc2 C n_X1_30 (dx dX1_run 1 rfl) ?_
  refine p_X1_32 C (dx dX1_run 2 rfl) ?_
  have sh1 : SInv (sL h k 5 (-1)) k := hs.fr (Fr.sL (lo := k) (hi := k + 1) (by omega) (by omega)) (by omega)
  have fh1 : Fr k (k + 13) h (sL h k 5 (-1)) := (Fr.sL (by omega) (by omega))
  have kh1 : xK (sL h k 5 (-1)) = xK h := rfl
  have wh1 : VilAt (sL h k 5 (-1)) kv v := hv.fr fh1 (by omega)
  generalize sL h k 5 (-1) = h1 at sh1 fh1 kh1 wh1 ⊢
  refine r_aload_n C (dx dX1_run 3 rfl) rfl ?_
  refine g_X1_36 (x := nI (vN v)) C (dx dX1_run 4 rfl) wh1.eN ?_
  refine r_iconst (v := nI 4) C (dx dX1_run 5 rfl) rfl ?_
  refine rn_gt (a := vN v) (b := 4) (tgt := 24) C (by omega) (by omega) (dx dX1_run 6 rfl) (by decide) (fun c2 => ?_) (fun c2 => ?_)
  · first
    | (omega; done)
    | (
        have c2 : 4 < vN v := c2
        exact F.2.2.1 _ _ _ rfl (dx dX1_run 11 rfl) kh1 ⟨rfl, sh1, fh1⟩)
  · first
    | (omega; done)
    | (
        have c2 : vN v ≤ 4 := c2
        refine r_aload_n C (dx dX1_run 7 rfl) rfl ?_
        refine g_X1_42 (x := nI (vP v)) C (dx dX1_run 8 rfl) wh1.eP ?_
        refine r_bipush (v := nI 6) C (dx dX1_run 9 rfl) rfl ?_
        refine rn_le (a := vP v) (b := 6) (tgt := 25) C (by omega) (by omega) (dx dX1_run 10 rfl) (by decide) (fun c3 => ?_) (fun c3 => ?_)
        · first
          | (omega; done)
          | (
              have c3 : vP v ≤ 6 := c3
              refine r_iconst (v := nI 0) C (dx dX1_run 12 rfl) rfl ?_
              refine r_istore_n (ls' := [(0, vr 1 k), (1, vr 5 kv), (2, vi (nI 0))]) C (dx dX1_run 13 rfl) (by decide) [1, 2, 0] rfl ?_
              refine loopU (Φ := fun j => ∀ h9, SInv h9 k → Fr k (k + 13) h h9 → xK h9 = xK h → Rr G 27 [(0, vr 1 k), (1, vr 5 kv), (2, vi (nI j))] [] h9) (N := 16) ?_ ?_ 0 (Nat.zero_le _) _ sh1 fh1 kh1
              ·
                intro h4 sh4 fh4 kh4
                have wh4 : VilAt h4 kv v := hv.fr fh4 (by omega)
                refine r_iload_n C (dx dX1_run 14 rfl) rfl ?_
                refine r_bipush (v := nI 16) C (dx dX1_run 15 rfl) rfl ?_
                refine rn_ge (a := 16) (b := 16) (tgt := 51) C (by omega) (by omega) (dx dX1_run 16 rfl) (by decide) (fun c5 => ?_) (fun c5 => ?_)
                · first
                  | (omega; done)
                  | (
                      have c5 : 16 ≤ 16 := c5
                      refine r_iconst (v := nI 0) C (dx dX1_run 27 rfl) rfl ?_
                      refine r_istore_n (ls' := [(0, vr 1 k), (1, vr 5 kv), (2, vi (nI 0))]) C (dx dX1_run 28 rfl) (by decide) [1, 2, 0] rfl ?_
                      refine loopU (Φ := fun j => ∀ h9, SInv h9 k → Fr k (k + 13) h h9 → xK h9 = xK h → Rr G 53 [(0, vr 1 k), (1, vr 5 kv), (2, vi (nI j))] [] h9) (N := vN v) ?_ ?_ 0 (Nat.zero_le _) _ sh4 fh4 kh4
                      ·
                        intro h6 sh6 fh6 kh6
                        have wh6 : VilAt h6 kv v := hv.fr fh6 (by omega)
                        refine r_iload_n C (dx dX1_run 29 rfl) rfl ?_
                        refine r_aload_n C (dx dX1_run 30 rfl) rfl ?_
                        refine g_X1_36 (x := nI (vN v)) C (dx dX1_run 31 rfl) wh6.eN ?_
                        refine rn_ge (a := vN v) (b := vN v) (tgt := 79) C (by omega) (by omega) (dx dX1_run 32 rfl) (by decide) (fun c7 => ?_) (fun c7 => ?_)
                        · first
                          | (omega; done)
                          | (
                              have c7 : vN v ≤ vN v := c7
                              refine r_iconst (v := nI 0) C (dx dX1_run 43 rfl) rfl ?_
                              refine r_istore_n (ls' := [(0, vr 1 k), (1, vr 5 kv), (2, vi (nI 0))]) C (dx dX1_run 44 rfl) (by decide) [1, 2, 0] rfl ?_
                              refine loopU (Φ := fun j => ∀ h9, SInv h9 k → Fr k (k + 13) h h9 → xK h9 = xK h → Rr G 81 [(0, vr 1 k), (1, vr 5 kv), (2, vi (nI j))] [] h9) (N := vM v) ?_ ?_ 0 (Nat.zero_le _) _ sh6 fh6 kh6
                              ·
                                intro h8 sh8 fh8 kh8
                                have wh8 : VilAt h8 kv v := hv.fr fh8 (by omega)
                                refine r_iload_n C (dx dX1_run 45 rfl) rfl ?_
                                refine r_aload_n C (dx dX1_run 46 rfl) rfl ?_
                                refine g_X1_52 (x := nI (vM v)) C (dx dX1_run 47 rfl) wh8.eM ?_
                                refine rn_ge (a := vM v) (b := vM v) (tgt := 104) C (by omega) (by omega) (dx dX1_run 48 rfl) (by decide) (fun c9 => ?_) (fun c9 => ?_)
                                · first
                                  | (omega; done)
                                  | (
                                      have c9 : vM v ≤ vM v := c9
                                      refine r_aload_n C (dx dX1_run 58 rfl) rfl ?_
                                      refine r_aload_n C (dx dX1_run 59 rfl) rfl ?_
                                      refine r_iconst (v := nI 0) C (dx dX1_run 60 rfl) rfl ?_
                                      refine r_cs (as := [vr 1 k, vr 5 kv, vi (nI 0)]) (st := []) C X I_X1_choose l_X1_55 (c_choose hd (by omega) (by omega) (vP v) _ 0 (by omega) wh8 sh8) (by omega) (Nat.le_of_ble_eq_true rfl) List.prefix_rfl (pfx_eq kh8) (Nat.le_of_ble_eq_true rfl) rfl (dx dX1_run 61 rfl) ?_
                                      intro rh10 h10 hph10 kkh10
                                      obtain ⟨rfl, sh10, gh10⟩ := hph10
                                      have fh10 : Fr k (k + 13) h h10 := fh8.tr gh10
                                      have kh10 : xK h10 = xK h := kkh10.trans kh8
                                      have wh10 : VilAt h10 kv v := hv.fr fh10 (by omega)
                                      exact F.2.2.1 _ _ _ rfl (dx dX1_run 62 rfl) kh10 ⟨rfl, sh10, fh10⟩)
                                · first
                                  | (omega; done)
                              ·
                                intro j hj ih h12 sh12 fh12 kh12
                                have wh12 : VilAt h12 kv v := hv.fr fh12 (by omega)
                                refine r_iload_n C (dx dX1_run 45 rfl) rfl ?_
                                refine r_aload_n C (dx dX1_run 46 rfl) rfl ?_
                                refine g_X1_52 (x := nI (vM v)) C (dx dX1_run 47 rfl) wh12.eM ?_
                                refine rn_ge (a := j) (b := vM v) (tgt := 104) C (by omega) (by omega) (dx dX1_run 48 rfl) (by decide) (fun c13 => ?_) (fun c13 => ?_)
                                · first
                                  | (omega; done)
                                  | (
                                      have c13 : vM v ≤ j := c13
                                      refine r_aload_n C (dx dX1_run 58 rfl) rfl ?_
                                      refine r_aload_n C (dx dX1_run 59 rfl) rfl ?_
                                      refine r_iconst (v := nI 0) C (dx dX1_run 60 rfl) rfl ?_
                                      refine r_cs (as := [vr 1 k, vr 5 kv, vi (nI 0)]) (st := []) C X I_X1_choose l_X1_55 (c_choose hd (by omega) (by omega) (vP v) _ 0 (by omega) wh12 sh12) (by omega) (Nat.le_of_ble_eq_true rfl) List.prefix_rfl (pfx_eq kh12) (Nat.le_of_ble_eq_true rfl) rfl (dx dX1_run 61 rfl) ?_
                                      intro rh14 h14 hph14 kkh14
                                      obtain ⟨rfl, sh14, gh14⟩ := hph14
                                      have fh14 : Fr k (k + 13) h h14 := fh12.tr gh14
                                      have kh14 : xK h14 = xK h := kkh14.trans kh12
                                      have wh14 : VilAt h14 kv v := hv.fr fh14 (by omega)
                                      exact F.2.2.1 _ _ _ rfl (dx dX1_run 62 rfl) kh14 ⟨rfl, sh14, fh14⟩)
                                · first
                                  | (omega; done)
                                  | (
                                      have c13 : j < vM v := c13
                                      refine r_aload_n C (dx dX1_run 49 rfl) rfl ?_
                                      refine g_X1_23 C (dx dX1_run 50 rfl) ?_
                                      refine r_iconst (v := nI 0) C (dx dX1_run 51 rfl) rfl ?_
                                      refine r_aald4 (j := 0) C rfl rfl (by decide) rfl (by omega) (dx dX1_run 52 rfl) ?_
                                      refine r_iload_n C (dx dX1_run 53 rfl) rfl ?_
                                      refine r_iconst (v := nI 0) C (dx dX1_run 54 rfl) rfl ?_
                                      refine r_iast (j := j) C rfl rfl (by decide) rfl (by omega) (dx dX1_run 55 rfl) ?_
                                      have sh15 : SInv (sI h12 (k + 5) j (nI 0)) k := sh12.st (q := 0) ⟨0, by omega, rfl⟩
                                      have fh15 : Fr k (k + 13) h (sI h12 (k + 5) j (nI 0)) := fh12.tr (Fr.sI (by omega) (by omega))
                                      have kh15 : xK (sI h12 (k + 5) j (nI 0)) = xK h := kh12
                                      have wh15 : VilAt (sI h12 (k + 5) j (nI 0)) kv v := hv.fr fh15 (by omega)
                                      generalize sI h12 (k + 5) j (nI 0) = h15 at sh15 fh15 kh15 wh15 ⊢
                                      refine rn_iinc (a := j) (k := 1) (ls' := [(0, vr 1 k), (1, vr 5 kv), (2, vi (nI (j + 1)))]) C (dx dX1_run 56 rfl) rfl rfl (by decide) [1, 2, 0] rfl ?_
                                      refine r_goto (tgt := 81) C (dx dX1_run 57 rfl) (by decide) ?_
                                      exact ih _ sh15 fh15 kh15))
                        · first
                          | (omega; done)
                      ·
                        intro j hj ih h17 sh17 fh17 kh17
                        have wh17 : VilAt h17 kv v := hv.fr fh17 (by omega)
                        refine r_iload_n C (dx dX1_run 29 rfl) rfl ?_
                        refine r_aload_n C (dx dX1_run 30 rfl) rfl ?_
                        refine g_X1_36 (x := nI (vN v)) C (dx dX1_run 31 rfl) wh17.eN ?_
                        refine rn_ge (a := j) (b := vN v) (tgt := 79) C (by omega) (by omega) (dx dX1_run 32 rfl) (by decide) (fun c18 => ?_) (fun c18 => ?_)
                        · first
                          | (omega; done)
                          | (
                              have c18 : vN v ≤ j := c18
                              refine r_iconst (v := nI 0) C (dx dX1_run 43 rfl) rfl ?_
                              refine r_istore_n (ls' := [(0, vr 1 k), (1, vr 5 kv), (2, vi (nI 0))]) C (dx dX1_run 44 rfl) (by decide) [1, 2, 0] rfl ?_
                              refine loopU (Φ := fun j => ∀ h9, SInv h9 k → Fr k (k + 13) h h9 → xK h9 = xK h → Rr G 81 [(0, vr 1 k), (1, vr 5 kv), (2, vi (nI j))] [] h9) (N := vM v) ?_ ?_ 0 (Nat.zero_le _) _ sh17 fh17 kh17
                              ·
                                intro h19 sh19 fh19 kh19
                                have wh19 : VilAt h19 kv v := hv.fr fh19 (by omega)
                                refine r_iload_n C (dx dX1_run 45 rfl) rfl ?_
                                refine r_aload_n C (dx dX1_run 46 rfl) rfl ?_
                                refine g_X1_52 (x := nI (vM v)) C (dx dX1_run 47 rfl) wh19.eM ?_
                                refine rn_ge (a := vM v) (b := vM v) (tgt := 104) C (by omega) (by omega) (dx dX1_run 48 rfl) (by decide) (fun c20 => ?_) (fun c20 => ?_)
                                · first
                                  | (omega; done)
                                  | (
                                      have c20 : vM v ≤ vM v := c20
                                      refine r_aload_n C (dx dX1_run 58 rfl) rfl ?_
                                      refine r_aload_n C (dx dX1_run 59 rfl) rfl ?_
                                      refine r_iconst (v := nI 0) C (dx dX1_run 60 rfl) rfl ?_
                                      refine r_cs (as := [vr 1 k, vr 5 kv, vi (nI 0)]) (st := []) C X I_X1_choose l_X1_55 (c_choose hd (by omega) (by omega) (vP v) _ 0 (by omega) wh19 sh19) (by omega) (Nat.le_of_ble_eq_true rfl) List.prefix_rfl (pfx_eq kh19) (Nat.le_of_ble_eq_true rfl) rfl (dx dX1_run 61 rfl) ?_
                                      intro rh21 h21 hph21 kkh21
                                      obtain ⟨rfl, sh21, gh21⟩ := hph21
                                      have fh21 : Fr k (k + 13) h h21 := fh19.tr gh21
                                      have kh21 : xK h21 = xK h := kkh21.trans kh19
                                      have wh21 : VilAt h21 kv v := hv.fr fh21 (by omega)
                                      exact F.2.2.1 _ _ _ rfl (dx dX1_run 62 rfl) kh21 ⟨rfl, sh21, fh21⟩)
                                · first
                                  | (omega; done)
                              ·
                                intro j hj ih h23 sh23 fh23 kh23
                                have wh23 : VilAt h23 kv v := hv.fr fh23 (by omega)
                                refine r_iload_n C (dx dX1_run 45 rfl) rfl ?_
                                refine r_aload_n C (dx dX1_run 46 rfl) rfl ?_
                                refine g_X1_52 (x := nI (vM v)) C (dx dX1_run 47 rfl) wh23.eM ?_
                                refine rn_ge (a := j) (b := vM v) (tgt := 104) C (by omega) (by omega) (dx dX1_run 48 rfl) (by decide) (fun c24 => ?_) (fun c24 => ?_)
                                · first
                                  | (omega; done)
                                  | (
                                      have c24 : vM v ≤ j := c24
                                      refine r_aload_n C (dx dX1_run 58 rfl) rfl ?_
                                      refine r_aload_n C (dx dX1_run 59 rfl) rfl ?_
                                      refine r_iconst (v := nI 0) C (dx dX1_run 60 rfl) rfl ?_
                                      refine r_cs (as := [vr 1 k, vr 5 kv, vi (nI 0)]) (st := []) C X I_X1_choose l_X1_55 (c_choose hd (by omega) (by omega) (vP v) _ 0 (by omega) wh23 sh23) (by omega) (Nat.le_of_ble_eq_true rfl) List.prefix_rfl (pfx_eq kh23) (Nat.le_of_ble_eq_true rfl) rfl (dx dX1_run 61 rfl) ?_
                                      intro rh25 h25 hph25 kkh25
                                      obtain ⟨rfl, sh25, gh25⟩ := hph25
                                      have fh25 : Fr k (k + 13) h h25 := fh23.tr gh25
                                      have kh25 : xK h25 = xK h := kkh25.trans kh23
                                      have wh25 : VilAt h25 kv v := hv.fr fh25 (by omega)
                                      exact F.2.2.1 _ _ _ rfl (dx dX1_run 62 rfl) kh25 ⟨rfl, sh25, fh25⟩)
                                · first
                                  | (omega; done)
                                  | (
                                      have c24 : j < vM v := c24
                                      refine r_aload_n C (dx dX1_run 49 rfl) rfl ?_
                                      refine g_X1_23 C (dx dX1_run 50 rfl) ?_
                                      refine r_iconst (v := nI 0) C (dx dX1_run 51 rfl) rfl ?_
                                      refine r_aald4 (j := 0) C rfl rfl (by decide) rfl (by omega) (dx dX1_run 52 rfl) ?_
                                      refine r_iload_n C (dx dX1_run 53 rfl) rfl ?_
                                      refine r_iconst (v := nI 0) C (dx dX1_run 54 rfl) rfl ?_
                                      refine r_iast (j := j) C rfl rfl (by decide) rfl (by omega) (dx dX1_run 55 rfl) ?_
                                      have sh26 : SInv (sI h23 (k + 5) j (nI 0)) k := sh23.st (q := 0) ⟨0, by omega, rfl⟩
                                      have fh26 : Fr k (k + 13) h (sI h23 (k + 5) j (nI 0)) := fh23.tr (Fr.sI (by omega) (by omega))
                                      have kh26 : xK (sI h23 (k + 5) j (nI 0)) = xK h := kh23
                                      have wh26 : VilAt (sI h23 (k + 5) j (nI 0)) kv v := hv.fr fh26 (by omega)
                                      generalize sI h23 (k + 5) j (nI 0) = h26 at sh26 fh26 kh26 wh26 ⊢
                                      refine rn_iinc (a := j) (k := 1) (ls' := [(0, vr 1 k), (1, vr 5 kv), (2, vi (nI (j + 1)))]) C (dx dX1_run 56 rfl) rfl rfl (by decide) [1, 2, 0] rfl ?_
                                      refine r_goto (tgt := 81) C (dx dX1_run 57 rfl) (by decide) ?_
                                      exact ih _ sh26 fh26 kh26))
                        · first
                          | (omega; done)
                          | (
                              have c18 : j < vN v := c18
                              refine r_aload_n C (dx dX1_run 33 rfl) rfl ?_
                              refine g_X1_18 C (dx dX1_run 34 rfl) ?_
                              refine r_iload_n C (dx dX1_run 35 rfl) rfl ?_
                              refine r_aload_n C (dx dX1_run 36 rfl) rfl ?_
                              refine g_X1_49 C (dx dX1_run 37 rfl) ?_
                              refine r_iload_n C (dx dX1_run 38 rfl) rfl ?_
                              refine r_iald (j := j) (x := vF v 4 j) C rfl rfl (by decide) rfl (by omega) (dx dX1_run 39 rfl) (wh17.e4 (by omega)) ?_
                              refine r_iast (j := j) C rfl rfl (by decide) rfl (by omega) (dx dX1_run 40 rfl) ?_
                              have sh27 : SInv (sI h17 (k + 3) j (vF v 4 j)) k := sh17.fr (Fr.sI (lo := k + 3) (hi := k + 4) (by omega) (by omega)) (by omega)
                              have fh27 : Fr k (k + 13) h (sI h17 (k + 3) j (vF v 4 j)) := fh17.tr (Fr.sI (by omega) (by omega))
                              have kh27 : xK (sI h17 (k + 3) j (vF v 4 j)) = xK h := kh17
                              have wh27 : VilAt (sI h17 (k + 3) j (vF v 4 j)) kv v := hv.fr fh27 (by omega)
                              generalize sI h17 (k + 3) j (vF v 4 j) = h27 at sh27 fh27 kh27 wh27 ⊢
                              refine rn_iinc (a := j) (k := 1) (ls' := [(0, vr 1 k), (1, vr 5 kv), (2, vi (nI (j + 1)))]) C (dx dX1_run 41 rfl) rfl rfl (by decide) [1, 2, 0] rfl ?_
                              refine r_goto (tgt := 53) C (dx dX1_run 42 rfl) (by decide) ?_
                              exact ih _ sh27 fh27 kh27))
                · first
                  | (omega; done)
              ·
                intro j hj ih h29 sh29 fh29 kh29
                have wh29 : VilAt h29 kv v := hv.fr fh29 (by omega)
                refine r_iload_n C (dx dX1_run 14 rfl) rfl ?_
                refine r_bipush (v := nI 16) C (dx dX1_run 15 rfl) rfl ?_
                refine rn_ge (a := j) (b := 16) (tgt := 51) C (by omega) (by omega) (dx dX1_run 16 rfl) (by decide) (fun c30 => ?_) (fun c30 => ?_)
                · first
                  | (omega; done)
                  | (
                      have c30 : 16 ≤ j := c30
                      refine r_iconst (v := nI 0) C (dx dX1_run 27 rfl) rfl ?_
                      refine r_istore_n (ls' := [(0, vr 1 k), (1, vr 5 kv), (2, vi (nI 0))]) C (dx dX1_run 28 rfl) (by decide) [1, 2, 0] rfl ?_
                      refine loopU (Φ := fun j => ∀ h9, SInv h9 k → Fr k (k + 13) h h9 → xK h9 = xK h → Rr G 53 [(0, vr 1 k), (1, vr 5 kv), (2, vi (nI j))] [] h9) (N := vN v) ?_ ?_ 0 (Nat.zero_le _) _ sh29 fh29 kh29
                      ·
                        intro h31 sh31 fh31 kh31
                        have wh31 : VilAt h31 kv v := hv.fr fh31 (by omega)
                        refine r_iload_n C (dx dX1_run 29 rfl) rfl ?_
                        refine r_aload_n C (dx dX1_run 30 rfl) rfl ?_
                        refine g_X1_36 (x := nI (vN v)) C (dx dX1_run 31 rfl) wh31.eN ?_
                        refine rn_ge (a := vN v) (b := vN v) (tgt := 79) C (by omega) (by omega) (dx dX1_run 32 rfl) (by decide) (fun c32 => ?_) (fun c32 => ?_)
                        · first
                          | (omega; done)
                          | (
                              have c32 : vN v ≤ vN v := c32
                              refine r_iconst (v := nI 0) C (dx dX1_run 43 rfl) rfl ?_
                              refine r_istore_n (ls' := [(0, vr 1 k), (1, vr 5 kv), (2, vi (nI 0))]) C (dx dX1_run 44 rfl) (by decide) [1, 2, 0] rfl ?_
                              refine loopU (Φ := fun j => ∀ h9, SInv h9 k → Fr k (k + 13) h h9 → xK h9 = xK h → Rr G 81 [(0, vr 1 k), (1, vr 5 kv), (2, vi (nI j))] [] h9) (N := vM v) ?_ ?_ 0 (Nat.zero_le _) _ sh31 fh31 kh31
                              ·
                                intro h33 sh33 fh33 kh33
                                have wh33 : VilAt h33 kv v := hv.fr fh33 (by omega)
                                refine r_iload_n C (dx dX1_run 45 rfl) rfl ?_
                                refine r_aload_n C (dx dX1_run 46 rfl) rfl ?_
                                refine g_X1_52 (x := nI (vM v)) C (dx dX1_run 47 rfl) wh33.eM ?_
                                refine rn_ge (a := vM v) (b := vM v) (tgt := 104) C (by omega) (by omega) (dx dX1_run 48 rfl) (by decide) (fun c34 => ?_) (fun c34 => ?_)
                                · first
                                  | (omega; done)
                                  | (
                                      have c34 : vM v ≤ vM v := c34
                                      refine r_aload_n C (dx dX1_run 58 rfl) rfl ?_
                                      refine r_aload_n C (dx dX1_run 59 rfl) rfl ?_
                                      refine r_iconst (v := nI 0) C (dx dX1_run 60 rfl) rfl ?_
                                      refine r_cs (as := [vr 1 k, vr 5 kv, vi (nI 0)]) (st := []) C X I_X1_choose l_X1_55 (c_choose hd (by omega) (by omega) (vP v) _ 0 (by omega) wh33 sh33) (by omega) (Nat.le_of_ble_eq_true rfl) List.prefix_rfl (pfx_eq kh33) (Nat.le_of_ble_eq_true rfl) rfl (dx dX1_run 61 rfl) ?_
                                      intro rh35 h35 hph35 kkh35
                                      obtain ⟨rfl, sh35, gh35⟩ := hph35
                                      have fh35 : Fr k (k + 13) h h35 := fh33.tr gh35
                                      have kh35 : xK h35 = xK h := kkh35.trans kh33
                                      have wh35 : VilAt h35 kv v := hv.fr fh35 (by omega)
                                      exact F.2.2.1 _ _ _ rfl (dx dX1_run 62 rfl) kh35 ⟨rfl, sh35, fh35⟩)
                                · first
                                  | (omega; done)
                              ·
                                intro j hj ih h37 sh37 fh37 kh37
                                have wh37 : VilAt h37 kv v := hv.fr fh37 (by omega)
                                refine r_iload_n C (dx dX1_run 45 rfl) rfl ?_
                                refine r_aload_n C (dx dX1_run 46 rfl) rfl ?_
                                refine g_X1_52 (x := nI (vM v)) C (dx dX1_run 47 rfl) wh37.eM ?_
                                refine rn_ge (a := j) (b := vM v) (tgt := 104) C (by omega) (by omega) (dx dX1_run 48 rfl) (by decide) (fun c38 => ?_) (fun c38 => ?_)
                                · first
                                  | (omega; done)
                                  | (
                                      have c38 : vM v ≤ j := c38
                                      refine r_aload_n C (dx dX1_run 58 rfl) rfl ?_
                                      refine r_aload_n C (dx dX1_run 59 rfl) rfl ?_
                                      refine r_iconst (v := nI 0) C (dx dX1_run 60 rfl) rfl ?_
                                      refine r_cs (as := [vr 1 k, vr 5 kv, vi (nI 0)]) (st := []) C X I_X1_choose l_X1_55 (c_choose hd (by omega) (by omega) (vP v) _ 0 (by omega) wh37 sh37) (by omega) (Nat.le_of_ble_eq_true rfl) List.prefix_rfl (pfx_eq kh37) (Nat.le_of_ble_eq_true rfl) rfl (dx dX1_run 61 rfl) ?_
                                      intro rh39 h39 hph39 kkh39
                                      obtain ⟨rfl, sh39, gh39⟩ := hph39
                                      have fh39 : Fr k (k + 13) h h39 := fh37.tr gh39
                                      have kh39 : xK h39 = xK h := kkh39.trans kh37
                                      have wh39 : VilAt h39 kv v := hv.fr fh39 (by omega)
                                      exact F.2.2.1 _ _ _ rfl (dx dX1_run 62 rfl) kh39 ⟨rfl, sh39, fh39⟩)
                                · first
                                  | (omega; done)
                                  | (
                                      have c38 : j < vM v := c38
                                      refine r_aload_n C (dx dX1_run 49 rfl) rfl ?_
                                      refine g_X1_23 C (dx dX1_run 50 rfl) ?_
                                      refine r_iconst (v := nI 0) C (dx dX1_run 51 rfl) rfl ?_
                                      refine r_aald4 (j := 0) C rfl rfl (by decide) rfl (by omega) (dx dX1_run 52 rfl) ?_
                                      refine r_iload_n C (dx dX1_run 53 rfl) rfl ?_
                                      refine r_iconst (v := nI 0) C (dx dX1_run 54 rfl) rfl ?_
                                      refine r_iast (j := j) C rfl rfl (by decide) rfl (by omega) (dx dX1_run 55 rfl) ?_
                                      have sh40 : SInv (sI h37 (k + 5) j (nI 0)) k := sh37.st (q := 0) ⟨0, by omega, rfl⟩
                                      have fh40 : Fr k (k + 13) h (sI h37 (k + 5) j (nI 0)) := fh37.tr (Fr.sI (by omega) (by omega))
                                      have kh40 : xK (sI h37 (k + 5) j (nI 0)) = xK h := kh37
                                      have wh40 : VilAt (sI h37 (k + 5) j (nI 0)) kv v := hv.fr fh40 (by omega)
                                      generalize sI h37 (k + 5) j (nI 0) = h40 at sh40 fh40 kh40 wh40 ⊢
                                      refine rn_iinc (a := j) (k := 1) (ls' := [(0, vr 1 k), (1, vr 5 kv), (2, vi (nI (j + 1)))]) C (dx dX1_run 56 rfl) rfl rfl (by decide) [1, 2, 0] rfl ?_
                                      refine r_goto (tgt := 81) C (dx dX1_run 57 rfl) (by decide) ?_
                                      exact ih _ sh40 fh40 kh40))
                        · first
                          | (omega; done)
                      ·
                        intro j hj ih h42 sh42 fh42 kh42
                        have wh42 : VilAt h42 kv v := hv.fr fh42 (by omega)
                        refine r_iload_n C (dx dX1_run 29 rfl) rfl ?_
                        refine r_aload_n C (dx dX1_run 30 rfl) rfl ?_
                        refine g_X1_36 (x := nI (vN v)) C (dx dX1_run 31 rfl) wh42.eN ?_
                        refine rn_ge (a := j) (b := vN v) (tgt := 79) C (by omega) (by omega) (dx dX1_run 32 rfl) (by decide) (fun c43 => ?_) (fun c43 => ?_)
                        · first
                          | (omega; done)
                          | (
                              have c43 : vN v ≤ j := c43
                              refine r_iconst (v := nI 0) C (dx dX1_run 43 rfl) rfl ?_
                              refine r_istore_n (ls' := [(0, vr 1 k), (1, vr 5 kv), (2, vi (nI 0))]) C (dx dX1_run 44 rfl) (by decide) [1, 2, 0] rfl ?_
                              refine loopU (Φ := fun j => ∀ h9, SInv h9 k → Fr k (k + 13) h h9 → xK h9 = xK h → Rr G 81 [(0, vr 1 k), (1, vr 5 kv), (2, vi (nI j))] [] h9) (N := vM v) ?_ ?_ 0 (Nat.zero_le _) _ sh42 fh42 kh42
                              ·
                                intro h44 sh44 fh44 kh44
                                have wh44 : VilAt h44 kv v := hv.fr fh44 (by omega)
                                refine r_iload_n C (dx dX1_run 45 rfl) rfl ?_
                                refine r_aload_n C (dx dX1_run 46 rfl) rfl ?_
                                refine g_X1_52 (x := nI (vM v)) C (dx dX1_run 47 rfl) wh44.eM ?_
                                refine rn_ge (a := vM v) (b := vM v) (tgt := 104) C (by omega) (by omega) (dx dX1_run 48 rfl) (by decide) (fun c45 => ?_) (fun c45 => ?_)
                                · first
                                  | (omega; done)
                                  | (
                                      have c45 : vM v ≤ vM v := c45
                                      refine r_aload_n C (dx dX1_run 58 rfl) rfl ?_
                                      refine r_aload_n C (dx dX1_run 59 rfl) rfl ?_
                                      refine r_iconst (v := nI 0) C (dx dX1_run 60 rfl) rfl ?_
                                      refine r_cs (as := [vr 1 k, vr 5 kv, vi (nI 0)]) (st := []) C X I_X1_choose l_X1_55 (c_choose hd (by omega) (by omega) (vP v) _ 0 (by omega) wh44 sh44) (by omega) (Nat.le_of_ble_eq_true rfl) List.prefix_rfl (pfx_eq kh44) (Nat.le_of_ble_eq_true rfl) rfl (dx dX1_run 61 rfl) ?_
                                      intro rh46 h46 hph46 kkh46
                                      obtain ⟨rfl, sh46, gh46⟩ := hph46
                                      have fh46 : Fr k (k + 13) h h46 := fh44.tr gh46
                                      have kh46 : xK h46 = xK h := kkh46.trans kh44
                                      have wh46 : VilAt h46 kv v := hv.fr fh46 (by omega)
                                      exact F.2.2.1 _ _ _ rfl (dx dX1_run 62 rfl) kh46 ⟨rfl, sh46, fh46⟩)
                                · first
                                  | (omega; done)
                              ·
                                intro j hj ih h48 sh48 fh48 kh48
                                have wh48 : VilAt h48 kv v := hv.fr fh48 (by omega)
                                refine r_iload_n C (dx dX1_run 45 rfl) rfl ?_
                                refine r_aload_n C (dx dX1_run 46 rfl) rfl ?_
                                refine g_X1_52 (x := nI (vM v)) C (dx dX1_run 47 rfl) wh48.eM ?_
                                refine rn_ge (a := j) (b := vM v) (tgt := 104) C (by omega) (by omega) (dx dX1_run 48 rfl) (by decide) (fun c49 => ?_) (fun c49 => ?_)
                                · first
                                  | (omega; done)
                                  | (
                                      have c49 : vM v ≤ j := c49
                                      refine r_aload_n C (dx dX1_run 58 rfl) rfl ?_
                                      refine r_aload_n C (dx dX1_run 59 rfl) rfl ?_
                                      refine r_iconst (v := nI 0) C (dx dX1_run 60 rfl) rfl ?_
                                      refine r_cs (as := [vr 1 k, vr 5 kv, vi (nI 0)]) (st := []) C X I_X1_choose l_X1_55 (c_choose hd (by omega) (by omega) (vP v) _ 0 (by omega) wh48 sh48) (by omega) (Nat.le_of_ble_eq_true rfl) List.prefix_rfl (pfx_eq kh48) (Nat.le_of_ble_eq_true rfl) rfl (dx dX1_run 61 rfl) ?_
                                      intro rh50 h50 hph50 kkh50
                                      obtain ⟨rfl, sh50, gh50⟩ := hph50
                                      have fh50 : Fr k (k + 13) h h50 := fh48.tr gh50
                                      have kh50 : xK h50 = xK h := kkh50.trans kh48
                                      have wh50 : VilAt h50 kv v := hv.fr fh50 (by omega)
                                      exact F.2.2.1 _ _ _ rfl (dx dX1_run 62 rfl) kh50 ⟨rfl, sh50, fh50⟩)
                                · first
                                  | (omega; done)
                                  | (
                                      have c49 : j < vM v := c49
                                      refine r_aload_n C (dx dX1_run 49 rfl) rfl ?_
                                      refine g_X1_23 C (dx dX1_run 50 rfl) ?_
                                      refine r_iconst (v := nI 0) C (dx dX1_run 51 rfl) rfl ?_
                                      refine r_aald4 (j := 0) C rfl rfl (by decide) rfl (by omega) (dx dX1_run 52 rfl) ?_
                                      refine r_iload_n C (dx dX1_run 53 rfl) rfl ?_
                                      refine r_iconst (v := nI 0) C (dx dX1_run 54 rfl) rfl ?_
                                      refine r_iast (j := j) C rfl rfl (by decide) rfl (by omega) (dx dX1_run 55 rfl) ?_
                                      have sh51 : SInv (sI h48 (k + 5) j (nI 0)) k := sh48.st (q := 0) ⟨0, by omega, rfl⟩
                                      have fh51 : Fr k (k + 13) h (sI h48 (k + 5) j (nI 0)) := fh48.tr (Fr.sI (by omega) (by omega))
                                      have kh51 : xK (sI h48 (k + 5) j (nI 0)) = xK h := kh48
                                      have wh51 : VilAt (sI h48 (k + 5) j (nI 0)) kv v := hv.fr fh51 (by omega)
                                      generalize sI h48 (k + 5) j (nI 0) = h51 at sh51 fh51 kh51 wh51 ⊢
                                      refine rn_iinc (a := j) (k := 1) (ls' := [(0, vr 1 k), (1, vr 5 kv), (2, vi (nI (j + 1)))]) C (dx dX1_run 56 rfl) rfl rfl (by decide) [1, 2, 0] rfl ?_
                                      refine r_goto (tgt := 81) C (dx dX1_run 57 rfl) (by decide) ?_
                                      exact ih _ sh51 fh51 kh51))
                        · first
                          | (omega; done)
                          | (
                              have c43 : j < vN v := c43
                              refine r_aload_n C (dx dX1_run 33 rfl) rfl ?_
                              refine g_X1_18 C (dx dX1_run 34 rfl) ?_
                              refine r_iload_n C (dx dX1_run 35 rfl) rfl ?_
                              refine r_aload_n C (dx dX1_run 36 rfl) rfl ?_
                              refine g_X1_49 C (dx dX1_run 37 rfl) ?_
                              refine r_iload_n C (dx dX1_run 38 rfl) rfl ?_
                              refine r_iald (j := j) (x := vF v 4 j) C rfl rfl (by decide) rfl (by omega) (dx dX1_run 39 rfl) (wh42.e4 (by omega)) ?_
                              refine r_iast (j := j) C rfl rfl (by decide) rfl (by omega) (dx dX1_run 40 rfl) ?_
                              have sh52 : SInv (sI h42 (k + 3) j (vF v 4 j)) k := sh42.fr (Fr.sI (lo := k + 3) (hi := k + 4) (by omega) (by omega)) (by omega)
                              have fh52 : Fr k (k + 13) h (sI h42 (k + 3) j (vF v 4 j)) := fh42.tr (Fr.sI (by omega) (by omega))
                              have kh52 : xK (sI h42 (k + 3) j (vF v 4 j)) = xK h := kh42
                              have wh52 : VilAt (sI h42 (k + 3) j (vF v 4 j)) kv v := hv.fr fh52 (by omega)
                              generalize sI h42 (k + 3) j (vF v 4 j) = h52 at sh52 fh52 kh52 wh52 ⊢
                              refine rn_iinc (a := j) (k := 1) (ls' := [(0, vr 1 k), (1, vr 5 kv), (2, vi (nI (j + 1)))]) C (dx dX1_run 41 rfl) rfl rfl (by decide) [1, 2, 0] rfl ?_
                              refine r_goto (tgt := 53) C (dx dX1_run 42 rfl) (by decide) ?_
                              exact ih _ sh52 fh52 kh52))
                · first
                  | (omega; done)
                  | (
                      have c30 : j < 16 := c30
                      refine r_aload_n C (dx dX1_run 17 rfl) rfl ?_
                      refine g_X1_26 C (dx dX1_run 18 rfl) ?_
                      refine r_iload_n C (dx dX1_run 19 rfl) rfl ?_
                      refine r_aload_n C (dx dX1_run 20 rfl) rfl ?_
                      refine r_aload_n C (dx dX1_run 21 rfl) rfl ?_
                      refine r_iload_n C (dx dX1_run 22 rfl) rfl ?_
                      refine r_cvP (as := [vr 5 kv, vi (nI j)]) (st := [vi (nI j), vr 28 (k + 12)]) (v := vl (prdL v j (vN v))) C X I_X1_oddsThatAllCome l_X1_45 (c_X1_oddsThatAllCome wh29 sh29 hd j) (by omega) (Nat.le_of_ble_eq_true rfl) (pfx_eq kh29) rfl rfl (Nat.le_of_ble_eq_true rfl) rfl (dx dX1_run 23 rfl) ?_
                      refine r_last (j := j) C rfl rfl (by decide) rfl (by omega) (dx dX1_run 24 rfl) ?_
                      have sh53 : SInv (sL h29 (k + 12) j (prdL v j (vN v))) k := sh29.od (by omega)
                      have fh53 : Fr k (k + 13) h (sL h29 (k + 12) j (prdL v j (vN v))) := fh29.tr (Fr.sL (by omega) (by omega))
                      have kh53 : xK (sL h29 (k + 12) j (prdL v j (vN v))) = xK h := kh29
                      have wh53 : VilAt (sL h29 (k + 12) j (prdL v j (vN v))) kv v := hv.fr fh53 (by omega)
                      generalize sL h29 (k + 12) j (prdL v j (vN v)) = h53 at sh53 fh53 kh53 wh53 ⊢
                      refine rn_iinc (a := j) (k := 1) (ls' := [(0, vr 1 k), (1, vr 5 kv), (2, vi (nI (j + 1)))]) C (dx dX1_run 25 rfl) rfl rfl (by decide) [1, 2, 0] rfl ?_
                      refine r_goto (tgt := 27) C (dx dX1_run 26 rfl) (by decide) ?_
                      exact ih _ sh53 fh53 kh53))
        · first
          | (omega; done)
          | (
              have c3 : 6 < vP v := c3
              exact F.2.2.1 _ _ _ rfl (dx dX1_run 11 rfl) kh1 ⟨rfl, sh1, fh1⟩))
set_option maxHeartbeats 4000000 in
theorem c_X1_holderOf {l : Launch} {h : Hp} {k a : Nat} (ha : a < 6) : Mp l yX1_holderOf cX1_holderOf 2 (some .int) 1 [vr 1 k, vi (nI a)] h (vi (xI h (k + 2) a)) := by
  refine Ms.of (by decide) (Nat.le_of_ble_eq_true rfl) (fun G C X F => ?_)
  have C : Cx G cX1_holderOf 2 RX1 := C
  show Rr G 0 [(0, vr 1 k), (1, vi (nI a))] [] h
  refine r_iload_n C (dx dX1_holderOf 0 rfl) rfl ?_
  refine r_if_lt (tgt := 22) C (dx dX1_holderOf 1 rfl) (by decide) (fun c1 => ?_) (fun c1 => ?_)
  · exact absurd c1 (nI_pos (by omega))
  ·
    have c1 : ¬ nI a < 0 := c1
    refine r_iload_n C (dx dX1_holderOf 2 rfl) rfl ?_
    refine r_aload_n C (dx dX1_holderOf 3 rfl) rfl ?_
    refine g_X1_15 C (dx dX1_holderOf 4 rfl) ?_
    refine r_alen0 (v := nI 6) C rfl rfl rfl (dx dX1_holderOf 5 rfl) ?_
    refine rn_ge (a := a) (b := 6) (tgt := 22) C (by omega) (by omega) (dx dX1_holderOf 6 rfl) (by decide) (fun c2 => ?_) (fun c2 => ?_)
    · first
      | (omega; done)
      | (
          have c2 : 6 ≤ a := c2
          refine r_iconst (v := -1) C (dx dX1_holderOf 12 rfl) rfl ?_
          exact F.1 _ _ _ _ _ rfl rfl (dx dX1_holderOf 13 rfl) rfl ⟨congrArg (fun x => some (vi x)) (show -1 = xI h (k + 2) a by simp), rfl⟩)
    · first
      | (omega; done)
      | (
          have c2 : a < 6 := c2
          refine r_aload_n C (dx dX1_holderOf 7 rfl) rfl ?_
          refine g_X1_15 C (dx dX1_holderOf 8 rfl) ?_
          refine r_iload_n C (dx dX1_holderOf 9 rfl) rfl ?_
          refine r_iald (j := a) (x := xI h (k + 2) a) C rfl rfl (by decide) rfl (by omega) (dx dX1_holderOf 10 rfl) rfl ?_
          refine r_goto (tgt := 23) C (dx dX1_holderOf 11 rfl) (by decide) ?_
          exact F.1 _ _ _ _ _ rfl rfl (dx dX1_holderOf 13 rfl) rfl ⟨congrArg (fun x => some (vi x)) rfl, rfl⟩)
set_option maxHeartbeats 4000000 in
theorem c_X1_greatestDay {l : Launch} {h : Hp} {k : Nat} : Mp l yX1_greatestDay cX1_greatestDay 1 (some .long) 1 [vr 1 k] h (vl (xL h k 5)) := by
  refine Ms.of (by decide) (Nat.le_of_ble_eq_true rfl) (fun G C X F => ?_)
  have C : Cx G cX1_greatestDay 1 RX1 := C
  show Rr G 0 [(0, vr 1 k)] [] h
  refine r_aload_n C (dx dX1_greatestDay 0 rfl) rfl ?_
  refine g_X1_32 C (dx dX1_greatestDay 1 rfl) rfl ?_
  exact F.2.1 _ _ _ _ rfl (dx dX1_greatestDay 2 rfl) rfl ⟨congrArg (fun x => some (vl x)) rfl, rfl⟩

