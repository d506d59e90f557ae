/-! PART 44: the reference, exactly: what only reads -/
theorem and31 (y : Int32) : ∃ j, j < 32 ∧ y &&& 31 = nI j := by
  obtain ⟨j, rfl⟩ := nI_ex y
  refine ⟨j &&& 31, by have : j &&& 31 ≤ 31 := Nat.and_le_right; omega, ?_⟩
  rw [show (31 : Int32) = nI 31 from rfl]
  exact nI_and
theorem shr_k : ∀ o : Fin 32, (nI o.val &&& 31).toBitVec.smod 32 = BitVec.ofNat 32 o.val := by decide +kernel
theorem and31_i {y : Int32} {j : Nat} (e : y &&& 31 = nI j) (hj : j < 32) : y &&& 31 = nI j &&& 31 := by
  have t : ∀ o : Fin 32, nI o.val &&& 31 = nI o.val := by decide +kernel
  rw [e]; exact (t ⟨j, hj⟩).symm
theorem bt_shr2 (x : Int32) {o : Nat} (ho : o < 32) : bt (x >>> (nI o &&& 31)) 0 = bt x o := by
  have e := shr_k ⟨o, ho⟩
  simp only at e
  unfold bt
  rw [Int32.toBitVec_shiftRight, e, BitVec.sshiftRight_eq', BitVec.getLsbD_sshiftRight, BitVec.toNat_ofNat, Nat.mod_eq_of_lt (by omega)]
  simp [show o < 32 by omega]
theorem bt_pow2 : ∀ n : Fin 32, ∀ i : Fin 32, bt (nI 1 <<< (nI n.val &&& 31)) i.val = decide (i.val = n.val) := by decide +kernel
theorem pow_0 (x : Int32) {o : Nat} (ho : o < 32) : (x &&& (nI 1 <<< (nI o &&& 31)) = 0) ↔ bt x o = false := by
  constructor
  · intro q
    have q2 := congrArg (fun z => bt z o) q
    simp only [bt_and] at q2
    rw [bt_pow2 ⟨o, ho⟩ ⟨o, ho⟩, decide_eq_true rfl, Bool.and_true] at q2
    rw [q2]; exact bt_0 o
  · intro q
    apply bt_ext
    intro i hi
    rw [bt_and, bt_pow2 ⟨o, ho⟩ ⟨i, hi⟩, show bt 0 i = false from bt_0 i]
    by_cases h : i = o
    · subst h; rw [q]; rfl
    · rw [decide_eq_false h, Bool.and_false]
theorem or0 (x : Int32) : x ||| nI 0 = x := by rw [nI_0, Int32.or_zero]
def botP (v : Vg) (m n : Nat) (s : Int32) (p : Nat) : Bool := !(inB (vF v 2 m &&& vF v 2 n) (nI p)) || (inB s (vF v 0 p) && inB s (vF v 1 p))
def bothR (v : Vg) (m n : Nat) (s : Int32) : Bool := needW v (hasP v s) m && (needW v (hasP v s) n && allF (botP v m n s) (vP v))
def crR (v : Vg) : Nat → Int32
  | 0 => nI 0
  | n + 1 => crR v n ||| (vF v 6 n <<< (nI n &&& 31))
def prodL (f : Nat → Int64) : Nat → Int64
  | 0 => 1
  | n + 1 => prodL f n * f n
/-- what one who comes, or doesn't, makes of the odds -/
def facR (v : Vg) (s : Int32) (o : Nat) : Int64 := if vF v 6 o = nI 1 then (if inB s (nI o) = true then 0 else 10) else (if inB s (nI o) = true then (nI 10 - vF v 5 o).toInt64 else (vF v 5 o).toInt64)
def isR (v : Vg) (m n : Nat) (s : Int32) : Bool := if m = n then needW v (hasP v s) m else bothR v m n s
def smF (v : Vg) (m n s : Nat) : Int64 := if isR v m n (nI s) = true then prodL (facR v (nI s)) (vN v) else 0
theorem isR_y {v : Vg} {m n : Nat} {s : Int32} (h : m = n) : isR v m n s = needW v (hasP v s) m := if_pos h
theorem isR_n {v : Vg} {m n : Nat} {s : Int32} (h : ¬ m = n) : isR v m n s = bothR v m n s := if_neg h
theorem sm_1 {v : Vg} {m n s : Nat} (h : isR v m n (nI s) = true) : smF v m n s = prodL (facR v (nI s)) (vN v) := if_pos h
theorem sm_0 {v : Vg} {m n s : Nat} (h : isR v m n (nI s) = false) : smF v m n s = 0 := if_neg (by rw [h]; decide)
/-- a machine's worth at some odds; a set's; -/
def dyM (v : Vg) (od : Int64) (had : Int32) (m : Nat) : Int64 := if vF v 2 m &&& (had ^^^ -1) = 0 then (vF v 3 m).toInt64 * od else 0
def dyF (v : Vg) (s : Nat) : Int64 := if 0 < prodL (facR v (nI s)) (vN v) then sumL (dyM v (prodL (facR v (nI s)) (vN v)) (hasP v (nI s))) (vM v) else 0
theorem dyM_1 {v : Vg} {od : Int64} {had : Int32} {m : Nat} (h : vF v 2 m &&& (had ^^^ -1) = 0) : dyM v od had m = (vF v 3 m).toInt64 * od := if_pos h
theorem dyM_0 {v : Vg} {od : Int64} {had : Int32} {m : Nat} (h : ¬ vF v 2 m &&& (had ^^^ -1) = 0) : dyM v od had m = 0 := if_neg h
theorem dyF_1 {v : Vg} {s : Nat} (h : 0 < prodL (facR v (nI s)) (vN v)) : dyF v s = sumL (dyM v (prodL (facR v (nI s)) (vN v)) (hasP v (nI s))) (vM v) := if_pos h
theorem dyF_0 {v : Vg} {s : Nat} (h : ¬ 0 < prodL (facR v (nI s)) (vN v)) : dyF v s = 0 := if_neg h
def bcN (a : Nat) : Nat → Nat
  | 0 => 0
  | n + 1 => bcN a n + (a >>> n &&& 1)
theorem shr_and {a k : Nat} (ha : a < 4096) (hk : k < 12) : (nI a >>> (nI k &&& 31)) &&& nI 1 = nI (a >>> k &&& 1) := by
  have e : nI a >>> (nI k &&& 31) = nI (a >>> k) := by
    apply bt_ext
    intro i hi
    have q := shr_k ⟨k, by omega⟩
    simp only at q
    rw [bt_nI _ hi, Nat.testBit_shiftRight]
    unfold bt
    rw [Int32.toBitVec_shiftRight, q, BitVec.sshiftRight_eq', BitVec.getLsbD_sshiftRight, BitVec.toNat_ofNat, Nat.mod_eq_of_lt (by omega)]
    have m : (nI a).toBitVec.msb = false := by
      rw [BitVec.msb_eq_getLsbD_last]
      show bt (nI a) 31 = false
      rw [bt_nI _ (by omega)]
      exact Nat.testBit_lt_two_pow (Nat.lt_of_lt_of_le ha (by decide))
    by_cases z : k + i < 32
    · have := bt_nI a (i := k + i) z
      unfold bt at this
      rw [BitVec.getLsbD_eq_getElem z] at this
      simp [z, this, show ¬ 32 ≤ i by omega]
    · have hz : a.testBit (k + i) = false := Nat.testBit_lt_two_pow (Nat.lt_of_lt_of_le ha (Nat.le_trans (by decide : 4096 ≤ 2 ^ 12) (Nat.pow_le_pow_right (by omega) (by omega))))
      simp [z, m, hz]
  rw [e, nI_and]
def pwP (v : Vg) (m o s : Nat) : Bool := !inB (nI s) (nI o) && (!needW v (hasP v (nI s)) m && needW v (hasP v (nI s ||| (nI 1 <<< (nI o &&& 31)))) m)
def anP (v : Vg) (x y : Int32) (m : Nat) : Bool := decide (¬ vF v 2 m &&& ((hasP v x ^^^ -1) ||| y) = 0)
def come9 (v : Vg) : Int32 := full (vN v) &&& (crR v (vN v) ^^^ -1)
def wsP (v : Vg) (m s : Nat) : Bool := decide (nI s &&& (come9 v ^^^ -1) = 0) && !needW v (hasP v (come9 v &&& (nI s ^^^ -1))) m
theorem wsP_1 {v : Vg} {m s : Nat} (h1 : nI s &&& (come9 v ^^^ -1) = 0) (h2 : needW v (hasP v (come9 v &&& (nI s ^^^ -1))) m = false) : wsP v m s = true := by unfold wsP; rw [decide_eq_true h1, h2]; rfl
theorem wsP_a {v : Vg} {m s : Nat} (h1 : ¬ nI s &&& (come9 v ^^^ -1) = 0) : wsP v m s = false := by unfold wsP; rw [decide_eq_false h1]; rfl
theorem wsP_b {v : Vg} {m s : Nat} (h2 : needW v (hasP v (come9 v &&& (nI s ^^^ -1))) m = true) : wsP v m s = false := by unfold wsP; rw [h2]; simp
theorem inB_N {s o : Nat} (ho : o < 32) : inB (nI s) (nI o) = s.testBit o := by
  unfold inB
  rw [decide_eq_true (show ¬ nI o = -1 from fun q => nI_nm1 (by omega) q), Bool.true_and, ← bt_nI s ho]
  rcases Bool.eq_false_or_eq_true (bt (nI s) o) with q | q
  · rw [q]; exact decide_eq_true (fun z => by rw [(pow_0 _ ho).mp z] at q; cases q)
  · rw [q]; exact decide_eq_false (not_not_intro ((pow_0 _ ho).mpr q))
theorem pcn_le8 : ∀ n : Fin 9, ∀ s : Fin 256, s.val < 2 ^ n.val → pcn s.val ≤ n.val := by decide +kernel
theorem pcn_no {s o n : Nat} (ho : o < n) (hn : n ≤ 8) (hs : s < 2 ^ n) (h : s.testBit o = false) : pcn s ≤ n - 1 := by
  have h8 : 2 ^ n ≤ 256 := Nat.le_trans (Nat.pow_le_pow_right (by omega) hn) (by decide)
  have e := pcn_or (by omega) (by omega) h
  have l : s ||| 2 ^ o < 2 ^ n := Nat.or_lt_two_pow hs (Nat.pow_lt_pow_right (by omega) ho)
  have := pcn_le8 ⟨n, by omega⟩ ⟨s ||| 2 ^ o, by omega⟩ l
  simp only at this
  omega
/-- a bit asked by shifting the set, or by shifting 1 -/
theorem sh_bit (x y : Int32) : ((x >>> (y &&& 31)) &&& nI 1 = 0) ↔ (x &&& (nI 1 <<< (y &&& 31)) = 0) := by
  obtain ⟨j, hj, e⟩ := and31 y
  rw [and31_i e hj, and1_0, bt_shr2 x hj, pow_0 x hj]
set_option maxHeartbeats 4000000 in
theorem e_isIn {l : Launch} {h : Hp} (x y : Int32) : Mp l yX7_isIn cX7_isIn 2 (some .boolean) 1 [vi x, vi y] h (vi (b2i (inB x y))) := by
  refine Ms.of (by decide) (Nat.le_of_ble_eq_true rfl) (fun G C X F => ?_)
  have C : Cx G cX7_isIn 2 RX7 := C
  show Rr G 0 [(0, vi x), (1, vi y)] [] h
  refine r_iload_n C (dx dX7_isIn 0 rfl) rfl ?_
  refine r_iconst (v := -1) C (dx dX7_isIn 1 rfl) rfl ?_
  refine r_icmp_eq (tgt := 17) C (dx dX7_isIn 2 rfl) (by decide) (fun c1 => ?_) (fun c1 => ?_)
  ·
    have c1 : y = -1 := c1
    refine r_iconst (v := nI 0) C (dx dX7_isIn 11 rfl) rfl ?_
    exact F.1 _ _ _ _ _ rfl rfl (dx dX7_isIn 12 rfl) rfl ⟨congrArg (fun x => some (vi x)) (show nI 0 = b2i _ by rw [show (inB x y) = false by (unfold inB; first | (rw [decide_eq_false (not_not_intro c1)]; rfl) | (rw [decide_eq_true c1, decide_eq_false (not_not_intro ((sh_bit _ _).mp c1))]; rfl) | (rw [decide_eq_true c1, decide_eq_true (show ¬ x &&& (nI 1 <<< (y &&& 31)) = 0 from fun q => c1 ((sh_bit _ _).mpr q))]; rfl))]; rfl), rfl⟩
  ·
    have c1 : ¬ y = -1 := c1
    refine r_iload_n C (dx dX7_isIn 3 rfl) rfl ?_
    refine r_iload_n C (dx dX7_isIn 4 rfl) rfl ?_
    refine r_ishr C (dx dX7_isIn 5 rfl) ?_
    refine r_iconst (v := nI 1) C (dx dX7_isIn 6 rfl) rfl ?_
    refine r_iand C (dx dX7_isIn 7 rfl) ?_
    refine r_if_eq (tgt := 17) C (dx dX7_isIn 8 rfl) (by decide) (fun c2 => ?_) (fun c2 => ?_)
    ·
      have c2 : (x >>> (y &&& 31)) &&& (nI 1) = 0 := c2
      refine r_iconst (v := nI 0) C (dx dX7_isIn 11 rfl) rfl ?_
      exact F.1 _ _ _ _ _ rfl rfl (dx dX7_isIn 12 rfl) rfl ⟨congrArg (fun x => some (vi x)) (show nI 0 = b2i _ by rw [show (inB x y) = false by (unfold inB; first | (rw [decide_eq_false (not_not_intro c1)]; rfl) | (rw [decide_eq_true c1, decide_eq_false (not_not_intro ((sh_bit _ _).mp c2))]; rfl) | (rw [decide_eq_true c1, decide_eq_true (show ¬ x &&& (nI 1 <<< (y &&& 31)) = 0 from fun q => c2 ((sh_bit _ _).mpr q))]; rfl))]; rfl), rfl⟩
    ·
      have c2 : ¬ (x >>> (y &&& 31)) &&& (nI 1) = 0 := c2
      refine r_iconst (v := nI 1) C (dx dX7_isIn 9 rfl) rfl ?_
      refine r_goto (tgt := 18) C (dx dX7_isIn 10 rfl) (by decide) ?_
      exact F.1 _ _ _ _ _ rfl rfl (dx dX7_isIn 12 rfl) rfl ⟨congrArg (fun x => some (vi x)) (show nI 1 = b2i _ by rw [show (inB x y) = true by (unfold inB; first | (rw [decide_eq_false (not_not_intro c1)]; rfl) | (rw [decide_eq_true c1, decide_eq_false (not_not_intro ((sh_bit _ _).mp c2))]; rfl) | (rw [decide_eq_true c1, decide_eq_true (show ¬ x &&& (nI 1 <<< (y &&& 31)) = 0 from fun q => c2 ((sh_bit _ _).mpr q))]; rfl))]; rfl), rfl⟩
set_option maxHeartbeats 4000000 in
theorem e_piecesOf {l : Launch} {h : Hp} {k : Nat} {v : Vg} (hm : MilAt h k v) (o : Int32) : Mp l yX7_piecesOf cX7_piecesOf 4 (some .int) 1 [vr 7 k, vi o] h (vi (nI (pcs v o (vP v)))) := by
  refine Ms.of (by decide) (Nat.le_of_ble_eq_true rfl) (fun G C X F => ?_)
  have C : Cx G cX7_piecesOf 4 RX7 := C
  show Rr G 0 [(0, vr 7 k), (1, vi o)] [] h
  have bP := hm.bP
  have bM := hm.bM
  have bN := hm.bN
  refine r_iconst (v := nI 0) C (dx dX7_piecesOf 0 rfl) rfl ?_
  refine r_istore_n (ls' := [(0, vr 7 k), (1, vi o), (2, vi (nI 0))]) C (dx dX7_piecesOf 1 rfl) (by decide) [1, 2, 0] rfl ?_
  refine r_iconst (v := nI 0) C (dx dX7_piecesOf 2 rfl) rfl ?_
  refine r_istore_n (ls' := [(0, vr 7 k), (1, vi o), (2, vi (nI 0)), (3, vi (nI 0))]) C (dx dX7_piecesOf 3 rfl) (by decide) [1, 2, 3, 0] rfl ?_
  refine loopU (Φ := fun p => Rr G 4 [(0, vr 7 k), (1, vi o), (2, vi (nI (pcs v o p))), (3, vi (nI p))] [] h) (N := vP v) ?_ ?_ 0 (Nat.zero_le _)
  ·
    refine r_iload_n C (dx dX7_piecesOf 4 rfl) rfl ?_
    refine r_aload_n C (dx dX7_piecesOf 5 rfl) rfl ?_
    refine g_X7_64 (x := nI (vP v)) C (dx dX7_piecesOf 6 rfl) hm.eP ?_
    refine rn_ge (a := vP v) (b := vP v) (tgt := 52) C (by omega) (by omega) (dx dX7_piecesOf 7 rfl) (by decide) (fun c1 => ?_) (fun c1 => ?_)
    · first
      | (omega; done)
      | (
          have c1 : vP v ≤ vP v := c1
          refine r_iload_n C (dx dX7_piecesOf 32 rfl) rfl ?_
          exact F.1 _ _ _ _ _ rfl rfl (dx dX7_piecesOf 33 rfl) rfl ⟨congrArg (fun x => some (vi x)) rfl, rfl⟩)
    · first
      | (omega; done)
  ·
    intro p hp ih
    refine r_iload_n C (dx dX7_piecesOf 4 rfl) rfl ?_
    refine r_aload_n C (dx dX7_piecesOf 5 rfl) rfl ?_
    refine g_X7_64 (x := nI (vP v)) C (dx dX7_piecesOf 6 rfl) hm.eP ?_
    refine rn_ge (a := p) (b := vP v) (tgt := 52) C (by omega) (by omega) (dx dX7_piecesOf 7 rfl) (by decide) (fun c4 => ?_) (fun c4 => ?_)
    · first
      | (omega; done)
      | (
          have c4 : vP v ≤ p := c4
          refine r_iload_n C (dx dX7_piecesOf 32 rfl) rfl ?_
          exact F.1 _ _ _ _ _ rfl rfl (dx dX7_piecesOf 33 rfl) rfl ⟨congrArg (fun x => some (vi x)) (show nI (pcs v o p) = nI (pcs v o (vP v)) by rfl), rfl⟩)
    · first
      | (omega; done)
      | (
          have c4 : p < vP v := c4
          refine r_iload_n C (dx dX7_piecesOf 8 rfl) rfl ?_
          refine r_aload_n C (dx dX7_piecesOf 9 rfl) rfl ?_
          refine g_X7_40 C (dx dX7_piecesOf 10 rfl) ?_
          refine r_iload_n C (dx dX7_piecesOf 11 rfl) rfl ?_
          refine r_iald (j := p) (x := vF v 0 p) C rfl rfl (by decide) rfl (by omega) (dx dX7_piecesOf 12 rfl) (hm.e0 (by omega)) ?_
          refine r_iload_n C (dx dX7_piecesOf 13 rfl) rfl ?_
          refine r_icmp_ne (tgt := 27) C (dx dX7_piecesOf 14 rfl) (by decide) (fun c5 => ?_) (fun c5 => ?_)
          ·
            have c5 : ¬ vF v 0 p = o := c5
            refine r_iconst (v := nI 0) C (dx dX7_piecesOf 17 rfl) rfl ?_
            refine r_aload_n C (dx dX7_piecesOf 18 rfl) rfl ?_
            refine g_X7_43 C (dx dX7_piecesOf 19 rfl) ?_
            refine r_iload_n C (dx dX7_piecesOf 20 rfl) rfl ?_
            refine r_iald (j := p) (x := vF v 1 p) C rfl rfl (by decide) rfl (by omega) (dx dX7_piecesOf 21 rfl) (hm.e1 (by omega)) ?_
            refine r_iload_n C (dx dX7_piecesOf 22 rfl) rfl ?_
            refine r_icmp_ne (tgt := 42) C (dx dX7_piecesOf 23 rfl) (by decide) (fun c6 => ?_) (fun c6 => ?_)
            ·
              have c6 : ¬ vF v 1 p = o := c6
              refine r_iconst (v := nI 0) C (dx dX7_piecesOf 26 rfl) rfl ?_
              refine rn_iadd (a := 0) (b := 0) C (dx dX7_piecesOf 27 rfl) ?_
              refine rn_iadd (a := pcs v o p) (b := 0) C (dx dX7_piecesOf 28 rfl) ?_
              refine r_istore_n (ls' := [(0, vr 7 k), (1, vi o), (2, vi (nI (pcs v o p + 0))), (3, vi (nI p))]) C (dx dX7_piecesOf 29 rfl) (by decide) [1, 2, 0, 3] rfl ?_
              refine rn_iinc (a := p) (k := 1) (ls' := [(0, vr 7 k), (1, vi o), (2, vi (nI (pcs v o p + 0))), (3, vi (nI (p + 1)))]) C (dx dX7_piecesOf 30 rfl) rfl rfl (by decide) [1, 2, 3, 0] rfl ?_
              refine r_goto (tgt := 4) C (dx dX7_piecesOf 31 rfl) (by decide) ?_
              have e9 : (nI (pcs v o p + 0)) = (nI (pcs v o (p + 1))) := by simp [pcs, c4, c5, c6]
              rw [e9]
              exact ih
            ·
              have c6 : vF v 1 p = o := c6
              refine r_iconst (v := nI 1) C (dx dX7_piecesOf 24 rfl) rfl ?_
              refine r_goto (tgt := 43) C (dx dX7_piecesOf 25 rfl) (by decide) ?_
              refine rn_iadd (a := 0) (b := 1) C (dx dX7_piecesOf 27 rfl) ?_
              refine rn_iadd (a := pcs v o p) (b := 1) C (dx dX7_piecesOf 28 rfl) ?_
              refine r_istore_n (ls' := [(0, vr 7 k), (1, vi o), (2, vi (nI (pcs v o p + 1))), (3, vi (nI p))]) C (dx dX7_piecesOf 29 rfl) (by decide) [1, 2, 0, 3] rfl ?_
              refine rn_iinc (a := p) (k := 1) (ls' := [(0, vr 7 k), (1, vi o), (2, vi (nI (pcs v o p + 1))), (3, vi (nI (p + 1)))]) C (dx dX7_piecesOf 30 rfl) rfl rfl (by decide) [1, 2, 3, 0] rfl ?_
              refine r_goto (tgt := 4) C (dx dX7_piecesOf 31 rfl) (by decide) ?_
              have e9 : (nI (pcs v o p + 1)) = (nI (pcs v o (p + 1))) := by simp [pcs, c4, c5, c6]
              rw [e9]
              exact ih
          ·
            have c5 : vF v 0 p = o := c5
            refine r_iconst (v := nI 1) C (dx dX7_piecesOf 15 rfl) rfl ?_
            refine r_goto (tgt := 28) C (dx dX7_piecesOf 16 rfl) (by decide) ?_
            refine r_aload_n C (dx dX7_piecesOf 18 rfl) rfl ?_
            refine g_X7_43 C (dx dX7_piecesOf 19 rfl) ?_
            refine r_iload_n C (dx dX7_piecesOf 20 rfl) rfl ?_
            refine r_iald (j := p) (x := vF v 1 p) C rfl rfl (by decide) rfl (by omega) (dx dX7_piecesOf 21 rfl) (hm.e1 (by omega)) ?_
            refine r_iload_n C (dx dX7_piecesOf 22 rfl) rfl ?_
            refine r_icmp_ne (tgt := 42) C (dx dX7_piecesOf 23 rfl) (by decide) (fun c7 => ?_) (fun c7 => ?_)
            ·
              have c7 : ¬ vF v 1 p = o := c7
              refine r_iconst (v := nI 0) C (dx dX7_piecesOf 26 rfl) rfl ?_
              refine rn_iadd (a := 1) (b := 0) C (dx dX7_piecesOf 27 rfl) ?_
              refine rn_iadd (a := pcs v o p) (b := 1) C (dx dX7_piecesOf 28 rfl) ?_
              refine r_istore_n (ls' := [(0, vr 7 k), (1, vi o), (2, vi (nI (pcs v o p + 1))), (3, vi (nI p))]) C (dx dX7_piecesOf 29 rfl) (by decide) [1, 2, 0, 3] rfl ?_
              refine rn_iinc (a := p) (k := 1) (ls' := [(0, vr 7 k), (1, vi o), (2, vi (nI (pcs v o p + 1))), (3, vi (nI (p + 1)))]) C (dx dX7_piecesOf 30 rfl) rfl rfl (by decide) [1, 2, 3, 0] rfl ?_
              refine r_goto (tgt := 4) C (dx dX7_piecesOf 31 rfl) (by decide) ?_
              have e9 : (nI (pcs v o p + 1)) = (nI (pcs v o (p + 1))) := by simp [pcs, c4, c5, c7]
              rw [e9]
              exact ih
            ·
              have c7 : vF v 1 p = o := c7
              refine r_iconst (v := nI 1) C (dx dX7_piecesOf 24 rfl) rfl ?_
              refine r_goto (tgt := 43) C (dx dX7_piecesOf 25 rfl) (by decide) ?_
              refine rn_iadd (a := 1) (b := 1) C (dx dX7_piecesOf 27 rfl) ?_
              refine rn_iadd (a := pcs v o p) (b := 2) C (dx dX7_piecesOf 28 rfl) ?_
              refine r_istore_n (ls' := [(0, vr 7 k), (1, vi o), (2, vi (nI (pcs v o p + 2))), (3, vi (nI p))]) C (dx dX7_piecesOf 29 rfl) (by decide) [1, 2, 0, 3] rfl ?_
              refine rn_iinc (a := p) (k := 1) (ls' := [(0, vr 7 k), (1, vi o), (2, vi (nI (pcs v o p + 2))), (3, vi (nI (p + 1)))]) C (dx dX7_piecesOf 30 rfl) rfl rfl (by decide) [1, 2, 3, 0] rfl ?_
              refine r_goto (tgt := 4) C (dx dX7_piecesOf 31 rfl) (by decide) ?_
              have e9 : (nI (pcs v o p + 2)) = (nI (pcs v o (p + 1))) := by simp [pcs, c4, c5, c7]
              rw [e9]
              exact ih)
set_option maxHeartbeats 4000000 in
theorem e_hasOf {l : Launch} {h : Hp} {k : Nat} {v : Vg} (hm : MilAt h k v) (s : Int32) : Mp l yX7_hasOf cX7_hasOf 4 (some .int) 2 [vr 7 k, vi s] h (vi (hasP v s)) := by
  refine Ms.of (by decide) (Nat.le_of_ble_eq_true rfl) (fun G C X F => ?_)
  have C : Cx G cX7_hasOf 4 RX7 := C
  show Rr G 0 [(0, vr 7 k), (1, vi s)] [] h
  have bP := hm.bP
  have bM := hm.bM
  have bN := hm.bN
  refine r_iconst (v := nI 0) C (dx dX7_hasOf 0 rfl) rfl ?_
  refine r_istore_n (ls' := [(0, vr 7 k), (1, vi s), (2, vi (nI 0))]) C (dx dX7_hasOf 1 rfl) (by decide) [1, 2, 0] rfl ?_
  refine r_iconst (v := nI 0) C (dx dX7_hasOf 2 rfl) rfl ?_
  refine r_istore_n (ls' := [(0, vr 7 k), (1, vi s), (2, vi (nI 0)), (3, vi (nI 0))]) C (dx dX7_hasOf 3 rfl) (by decide) [1, 2, 3, 0] rfl ?_
  refine loopU (Φ := fun p => Rr G 4 [(0, vr 7 k), (1, vi s), (2, vi (bset (fun p => inB s (vF v 0 p) || inB s (vF v 1 p)) p)), (3, vi (nI p))] [] h) (N := vP v) ?_ ?_ 0 (Nat.zero_le _)
  ·
    refine r_iload_n C (dx dX7_hasOf 4 rfl) rfl ?_
    refine r_aload_n C (dx dX7_hasOf 5 rfl) rfl ?_
    refine g_X7_64 (x := nI (vP v)) C (dx dX7_hasOf 6 rfl) hm.eP ?_
    refine rn_ge (a := vP v) (b := vP v) (tgt := 54) C (by omega) (by omega) (dx dX7_hasOf 7 rfl) (by decide) (fun c1 => ?_) (fun c1 => ?_)
    · first
      | (omega; done)
      | (
          have c1 : vP v ≤ vP v := c1
          refine r_iload_n C (dx dX7_hasOf 32 rfl) rfl ?_
          exact F.1 _ _ _ _ _ rfl rfl (dx dX7_hasOf 33 rfl) rfl ⟨congrArg (fun x => some (vi x)) (show bset (fun p => inB s (vF v 0 p) || inB s (vF v 1 p)) (vP v) = hasP v s by rfl), rfl⟩)
    · first
      | (omega; done)
  ·
    intro p hp ih
    refine r_iload_n C (dx dX7_hasOf 4 rfl) rfl ?_
    refine r_aload_n C (dx dX7_hasOf 5 rfl) rfl ?_
    refine g_X7_64 (x := nI (vP v)) C (dx dX7_hasOf 6 rfl) hm.eP ?_
    refine rn_ge (a := p) (b := vP v) (tgt := 54) C (by omega) (by omega) (dx dX7_hasOf 7 rfl) (by decide) (fun c3 => ?_) (fun c3 => ?_)
    · first
      | (omega; done)
      | (
          have c3 : vP v ≤ p := c3
          refine r_iload_n C (dx dX7_hasOf 32 rfl) rfl ?_
          exact F.1 _ _ _ _ _ rfl rfl (dx dX7_hasOf 33 rfl) rfl ⟨congrArg (fun x => some (vi x)) (show bset (fun p => inB s (vF v 0 p) || inB s (vF v 1 p)) p = hasP v s by rfl), rfl⟩)
    · first
      | (omega; done)
      | (
          have c3 : p < vP v := c3
          refine r_iload_n C (dx dX7_hasOf 8 rfl) rfl ?_
          refine r_iload_n C (dx dX7_hasOf 9 rfl) rfl ?_
          refine r_aload_n C (dx dX7_hasOf 10 rfl) rfl ?_
          refine g_X7_40 C (dx dX7_hasOf 11 rfl) ?_
          refine r_iload_n C (dx dX7_hasOf 12 rfl) rfl ?_
          refine r_iald (j := p) (x := vF v 0 p) C rfl rfl (by decide) rfl (by omega) (dx dX7_hasOf 13 rfl) (hm.e0 (by omega)) ?_
          refine r_csP (as := [vi s, vi (vF v 0 p)]) (st := [vi (bset (fun p => inB s (vF v 0 p) || inB s (vF v 1 p)) p)]) (v := vi (b2i (inB s (vF v 0 p)))) C X I_X7_isIn l_X7_244 (e_isIn _ _) (by decide) (Nat.le_of_ble_eq_true rfl) List.prefix_rfl (Nat.le_of_ble_eq_true rfl) rfl (dx dX7_hasOf 14 rfl) ?_
          refine rb_ne (b := inB s (vF v 0 p)) (tgt := 39) C (dx dX7_hasOf 15 rfl) (by decide) (fun c4 => ?_) (fun c4 => ?_)
          ·
            have c4 : (inB s (vF v 0 p)) = true := c4
            refine r_iconst (v := nI 1) C (dx dX7_hasOf 23 rfl) rfl ?_
            refine r_iload_n C (dx dX7_hasOf 24 rfl) rfl ?_
            refine r_ishl C (dx dX7_hasOf 25 rfl) ?_
            refine r_goto (tgt := 46) C (dx dX7_hasOf 26 rfl) (by decide) ?_
            refine r_ior C (dx dX7_hasOf 28 rfl) ?_
            refine r_istore_n (ls' := [(0, vr 7 k), (1, vi s), (2, vi ((bset (fun p => inB s (vF v 0 p) || inB s (vF v 1 p)) p) ||| ((nI 1) <<< ((nI p) &&& 31)))), (3, vi (nI p))]) C (dx dX7_hasOf 29 rfl) (by decide) [1, 2, 0, 3] rfl ?_
            refine rn_iinc (a := p) (k := 1) (ls' := [(0, vr 7 k), (1, vi s), (2, vi ((bset (fun p => inB s (vF v 0 p) || inB s (vF v 1 p)) p) ||| ((nI 1) <<< ((nI p) &&& 31)))), (3, vi (nI (p + 1)))]) C (dx dX7_hasOf 30 rfl) rfl rfl (by decide) [1, 2, 3, 0] rfl ?_
            refine r_goto (tgt := 4) C (dx dX7_hasOf 31 rfl) (by decide) ?_
            have e9 : ((bset (fun p => inB s (vF v 0 p) || inB s (vF v 1 p)) p) ||| ((nI 1) <<< ((nI p) &&& 31))) = (bset (fun p => inB s (vF v 0 p) || inB s (vF v 1 p)) (p + 1)) := by simp [bset, or0, c3, c4]
            rw [e9]
            exact ih
          ·
            have c4 : (inB s (vF v 0 p)) = false := c4
            refine r_iload_n C (dx dX7_hasOf 16 rfl) rfl ?_
            refine r_aload_n C (dx dX7_hasOf 17 rfl) rfl ?_
            refine g_X7_43 C (dx dX7_hasOf 18 rfl) ?_
            refine r_iload_n C (dx dX7_hasOf 19 rfl) rfl ?_
            refine r_iald (j := p) (x := vF v 1 p) C rfl rfl (by decide) rfl (by omega) (dx dX7_hasOf 20 rfl) (hm.e1 (by omega)) ?_
            refine r_csP (as := [vi s, vi (vF v 1 p)]) (st := [vi (bset (fun p => inB s (vF v 0 p) || inB s (vF v 1 p)) p)]) (v := vi (b2i (inB s (vF v 1 p)))) C X I_X7_isIn l_X7_244 (e_isIn _ _) (by decide) (Nat.le_of_ble_eq_true rfl) List.prefix_rfl (Nat.le_of_ble_eq_true rfl) rfl (dx dX7_hasOf 21 rfl) ?_
            refine rb_eq (b := inB s (vF v 1 p)) (tgt := 45) C (dx dX7_hasOf 22 rfl) (by decide) (fun c5 => ?_) (fun c5 => ?_)
            ·
              have c5 : (inB s (vF v 1 p)) = false := c5
              refine r_iconst (v := nI 0) C (dx dX7_hasOf 27 rfl) rfl ?_
              refine r_ior C (dx dX7_hasOf 28 rfl) ?_
              refine r_istore_n (ls' := [(0, vr 7 k), (1, vi s), (2, vi ((bset (fun p => inB s (vF v 0 p) || inB s (vF v 1 p)) p) ||| (nI 0))), (3, vi (nI p))]) C (dx dX7_hasOf 29 rfl) (by decide) [1, 2, 0, 3] rfl ?_
              refine rn_iinc (a := p) (k := 1) (ls' := [(0, vr 7 k), (1, vi s), (2, vi ((bset (fun p => inB s (vF v 0 p) || inB s (vF v 1 p)) p) ||| (nI 0))), (3, vi (nI (p + 1)))]) C (dx dX7_hasOf 30 rfl) rfl rfl (by decide) [1, 2, 3, 0] rfl ?_
              refine r_goto (tgt := 4) C (dx dX7_hasOf 31 rfl) (by decide) ?_
              have e9 : ((bset (fun p => inB s (vF v 0 p) || inB s (vF v 1 p)) p) ||| (nI 0)) = (bset (fun p => inB s (vF v 0 p) || inB s (vF v 1 p)) (p + 1)) := by simp [bset, or0, c3, c4, c5]
              rw [e9]
              exact ih
            ·
              have c5 : (inB s (vF v 1 p)) = true := c5
              refine r_iconst (v := nI 1) C (dx dX7_hasOf 23 rfl) rfl ?_
              refine r_iload_n C (dx dX7_hasOf 24 rfl) rfl ?_
              refine r_ishl C (dx dX7_hasOf 25 rfl) ?_
              refine r_goto (tgt := 46) C (dx dX7_hasOf 26 rfl) (by decide) ?_
              refine r_ior C (dx dX7_hasOf 28 rfl) ?_
              refine r_istore_n (ls' := [(0, vr 7 k), (1, vi s), (2, vi ((bset (fun p => inB s (vF v 0 p) || inB s (vF v 1 p)) p) ||| ((nI 1) <<< ((nI p) &&& 31)))), (3, vi (nI p))]) C (dx dX7_hasOf 29 rfl) (by decide) [1, 2, 0, 3] rfl ?_
              refine rn_iinc (a := p) (k := 1) (ls' := [(0, vr 7 k), (1, vi s), (2, vi ((bset (fun p => inB s (vF v 0 p) || inB s (vF v 1 p)) p) ||| ((nI 1) <<< ((nI p) &&& 31)))), (3, vi (nI (p + 1)))]) C (dx dX7_hasOf 30 rfl) rfl rfl (by decide) [1, 2, 3, 0] rfl ?_
              refine r_goto (tgt := 4) C (dx dX7_hasOf 31 rfl) (by decide) ?_
              have e9 : ((bset (fun p => inB s (vF v 0 p) || inB s (vF v 1 p)) p) ||| ((nI 1) <<< ((nI p) &&& 31))) = (bset (fun p => inB s (vF v 0 p) || inB s (vF v 1 p)) (p + 1)) := by simp [bset, or0, c3, c4, c5]
              rw [e9]
              exact ih)
set_option maxHeartbeats 4000000 in
theorem e_hasRoom {l : Launch} {h : Hp} {k : Nat} {v : Vg} (hm : MilAt h k v) {j : Nat} (hj : j < vN v) : Mp l yX7_hasRoom cX7_hasRoom 2 (some .boolean) 2 [vr 7 k, vi (nI j)] h (vi (b2i (hasRm v (nI j)))) := by
  refine Ms.of (by decide) (Nat.le_of_ble_eq_true rfl) (fun G C X F => ?_)
  have C : Cx G cX7_hasRoom 2 RX7 := C
  show Rr G 0 [(0, vr 7 k), (1, vi (nI j))] [] h
  have bP := hm.bP
  have bM := hm.bM
  have bN := hm.bN
  refine r_aload_n C (dx dX7_hasRoom 0 rfl) rfl ?_
  refine r_iload_n C (dx dX7_hasRoom 1 rfl) rfl ?_
  refine r_cvP (as := [vi (nI j)]) (st := []) (v := vi (nI (pcs v (nI j) (vP v)))) C X I_X7_piecesOf l_X7_129 (e_piecesOf hm _) (by decide) (Nat.le_of_ble_eq_true rfl) List.prefix_rfl rfl rfl (Nat.le_of_ble_eq_true rfl) rfl (dx dX7_hasRoom 2 rfl) ?_
  refine r_aload_n C (dx dX7_hasRoom 3 rfl) rfl ?_
  refine g_X7_54 C (dx dX7_hasRoom 4 rfl) ?_
  refine r_iload_n C (dx dX7_hasRoom 5 rfl) rfl ?_
  refine r_aald4 (j := j) C rfl rfl (by decide) rfl (by omega) (dx dX7_hasRoom 6 rfl) ?_
  refine r_iconst (v := nI 0) C (dx dX7_hasRoom 7 rfl) rfl ?_
  refine r_iald (j := 0) (x := vF v 4 j) C rfl rfl (by decide) rfl (by omega) (dx dX7_hasRoom 8 rfl) (hm.eo (by omega) (by omega)) ?_
  refine r_icmp_ge (tgt := 20) C (dx dX7_hasRoom 9 rfl) (by decide) (fun c1 => ?_) (fun c1 => ?_)
  ·
    have c1 : vF v 4 j ≤ nI (pcs v (nI j) (vP v)) := c1
    refine r_iconst (v := nI 0) C (dx dX7_hasRoom 12 rfl) rfl ?_
    exact F.1 _ _ _ _ _ rfl rfl (dx dX7_hasRoom 13 rfl) rfl ⟨congrArg (fun x => some (vi x)) (show nI 0 = b2i _ by rw [show (hasRm v (nI j)) = false by (unfold hasRm; rw [inN (show j < 2 ^ 31 by omega) hj, clN (show j < 2 ^ 31 by omega)]; first | (rw [decide_eq_true (Int32.not_le.mp c1)]; rfl) | (rw [decide_eq_false (Int32.not_lt.mpr c1)]; rfl))]; rfl), rfl⟩
  ·
    have c1 : ¬ vF v 4 j ≤ nI (pcs v (nI j) (vP v)) := c1
    refine r_iconst (v := nI 1) C (dx dX7_hasRoom 10 rfl) rfl ?_
    refine r_goto (tgt := 21) C (dx dX7_hasRoom 11 rfl) (by decide) ?_
    exact F.1 _ _ _ _ _ rfl rfl (dx dX7_hasRoom 13 rfl) rfl ⟨congrArg (fun x => some (vi x)) (show nI 1 = b2i _ by rw [show (hasRm v (nI j)) = true by (unfold hasRm; rw [inN (show j < 2 ^ 31 by omega) hj, clN (show j < 2 ^ 31 by omega)]; first | (rw [decide_eq_true (Int32.not_le.mp c1)]; rfl) | (rw [decide_eq_false (Int32.not_lt.mpr c1)]; rfl))]; rfl), rfl⟩
set_option maxHeartbeats 4000000 in
theorem e_worksOf {l : Launch} {h : Hp} {k : Nat} {v : Vg} (hm : MilAt h k v) {m : Nat} (hj : m < vM v) (s : Int32) : Mp l yX7_worksOf cX7_worksOf 3 (some .boolean) 3 [vr 7 k, vi (nI m), vi s] h (vi (b2i (needW v (hasP v s) m))) := by
  refine Ms.of (by decide) (Nat.le_of_ble_eq_true rfl) (fun G C X F => ?_)
  have C : Cx G cX7_worksOf 3 RX7 := C
  show Rr G 0 [(0, vr 7 k), (1, vi (nI m)), (2, vi s)] [] h
  have bP := hm.bP
  have bM := hm.bM
  have bN := hm.bN
  refine r_aload_n C (dx dX7_worksOf 0 rfl) rfl ?_
  refine g_X7_46 C (dx dX7_worksOf 1 rfl) ?_
  refine r_iload_n C (dx dX7_worksOf 2 rfl) rfl ?_
  refine r_iald (j := m) (x := vF v 2 m) C rfl rfl (by decide) rfl (by omega) (dx dX7_worksOf 3 rfl) (hm.e2 (by omega)) ?_
  refine r_aload_n C (dx dX7_worksOf 4 rfl) rfl ?_
  refine r_iload_n C (dx dX7_worksOf 5 rfl) rfl ?_
  refine r_cvP (as := [vi s]) (st := [vi (vF v 2 m)]) (v := vi (hasP v s)) C X I_X7_hasOf l_X7_247 (e_hasOf hm _) (by decide) (Nat.le_of_ble_eq_true rfl) List.prefix_rfl rfl rfl (Nat.le_of_ble_eq_true rfl) rfl (dx dX7_worksOf 6 rfl) ?_
  refine r_iconst (v := -1) C (dx dX7_worksOf 7 rfl) rfl ?_
  refine r_ixor C (dx dX7_worksOf 8 rfl) ?_
  refine r_iand C (dx dX7_worksOf 9 rfl) ?_
  refine r_if_ne (tgt := 21) C (dx dX7_worksOf 10 rfl) (by decide) (fun c1 => ?_) (fun c1 => ?_)
  ·
    have c1 : ¬ (vF v 2 m) &&& ((hasP v s) ^^^ (-1)) = 0 := c1
    refine r_iconst (v := nI 0) C (dx dX7_worksOf 13 rfl) rfl ?_
    exact F.1 _ _ _ _ _ rfl rfl (dx dX7_worksOf 14 rfl) rfl ⟨congrArg (fun x => some (vi x)) (show nI 0 = b2i _ by rw [show (needW v (hasP v s) m) = false by (unfold needW; first | exact decide_eq_true c1 | exact decide_eq_false c1)]; rfl), rfl⟩
  ·
    have c1 : (vF v 2 m) &&& ((hasP v s) ^^^ (-1)) = 0 := c1
    refine r_iconst (v := nI 1) C (dx dX7_worksOf 11 rfl) rfl ?_
    refine r_goto (tgt := 22) C (dx dX7_worksOf 12 rfl) (by decide) ?_
    exact F.1 _ _ _ _ _ rfl rfl (dx dX7_worksOf 14 rfl) rfl ⟨congrArg (fun x => some (vi x)) (show nI 1 = b2i _ by rw [show (needW v (hasP v s) m) = true by (unfold needW; first | exact decide_eq_true c1 | exact decide_eq_false c1)]; rfl), rfl⟩
set_option maxHeartbeats 4000000 in
theorem e_held {l : Launch} {h : Hp} {k : Nat} {v : Vg} (hm : MilAt h k v) (b : Bool) : Mp l yX7_held cX7_held 4 (some .int) 1 [vr 7 k, vi (b2i b)] h (vi (nI (cnt (fun p => decide (¬ vF v (if b then 1 else 0) p = -1)) (vP v)))) := by
  refine Ms.of (by decide) (Nat.le_of_ble_eq_true rfl) (fun G C X F => ?_)
  have C : Cx G cX7_held 4 RX7 := C
  show Rr G 0 [(0, vr 7 k), (1, vi (b2i b))] [] h
  have bP := hm.bP
  have bM := hm.bM
  have bN := hm.bN
  refine r_iconst (v := nI 0) C (dx dX7_held 0 rfl) rfl ?_
  refine r_istore_n (ls' := [(0, vr 7 k), (1, vi (b2i b)), (2, vi (nI 0))]) C (dx dX7_held 1 rfl) (by decide) [1, 2, 0] rfl ?_
  refine r_iconst (v := nI 0) C (dx dX7_held 2 rfl) rfl ?_
  refine r_istore_n (ls' := [(0, vr 7 k), (1, vi (b2i b)), (2, vi (nI 0)), (3, vi (nI 0))]) C (dx dX7_held 3 rfl) (by decide) [1, 2, 3, 0] rfl ?_
  refine loopU (Φ := fun p => Rr G 4 [(0, vr 7 k), (1, vi (b2i b)), (2, vi (nI (cnt (fun p => decide (¬ vF v (if b then 1 else 0) p = -1)) p))), (3, vi (nI p))] [] h) (N := vP v) ?_ ?_ 0 (Nat.zero_le _)
  ·
    refine r_iload_n C (dx dX7_held 4 rfl) rfl ?_
    refine r_aload_n C (dx dX7_held 5 rfl) rfl ?_
    refine g_X7_64 (x := nI (vP v)) C (dx dX7_held 6 rfl) hm.eP ?_
    refine rn_ge (a := vP v) (b := vP v) (tgt := 49) C (by omega) (by omega) (dx dX7_held 7 rfl) (by decide) (fun c1 => ?_) (fun c1 => ?_)
    · first
      | (omega; done)
      | (
          have c1 : vP v ≤ vP v := c1
          refine r_iload_n C (dx dX7_held 29 rfl) rfl ?_
          exact F.1 _ _ _ _ _ rfl rfl (dx dX7_held 30 rfl) rfl ⟨congrArg (fun x => some (vi x)) rfl, rfl⟩)
    · first
      | (omega; done)
  ·
    intro p hp ih
    refine r_iload_n C (dx dX7_held 4 rfl) rfl ?_
    refine r_aload_n C (dx dX7_held 5 rfl) rfl ?_
    refine g_X7_64 (x := nI (vP v)) C (dx dX7_held 6 rfl) hm.eP ?_
    refine rn_ge (a := p) (b := vP v) (tgt := 49) C (by omega) (by omega) (dx dX7_held 7 rfl) (by decide) (fun c4 => ?_) (fun c4 => ?_)
    · first
      | (omega; done)
      | (
          have c4 : vP v ≤ p := c4
          refine r_iload_n C (dx dX7_held 29 rfl) rfl ?_
          exact F.1 _ _ _ _ _ rfl rfl (dx dX7_held 30 rfl) rfl ⟨congrArg (fun x => some (vi x)) (show nI (cnt (fun p => decide (¬ vF v (if b then 1 else 0) p = -1)) p) = nI (cnt (fun p => decide (¬ vF v (if b then 1 else 0) p = -1)) (vP v)) by rfl), rfl⟩)
    · first
      | (omega; done)
      | (
          have c4 : p < vP v := c4
          refine r_iload_n C (dx dX7_held 8 rfl) rfl ?_
          refine r_iload_n C (dx dX7_held 9 rfl) rfl ?_
          refine rb_eq (b := b) (tgt := 26) C (dx dX7_held 10 rfl) (by decide) (fun c5 => ?_) (fun c5 => ?_)
          ·
            have c5 : b = false := c5
            refine r_aload_n C (dx dX7_held 16 rfl) rfl ?_
            refine g_X7_40 C (dx dX7_held 17 rfl) ?_
            refine r_iload_n C (dx dX7_held 18 rfl) rfl ?_
            refine r_iald (j := p) (x := vF v 0 p) C rfl rfl (by decide) rfl (by omega) (dx dX7_held 19 rfl) (hm.e0 (by omega)) ?_
            refine r_iconst (v := -1) C (dx dX7_held 20 rfl) rfl ?_
            refine r_icmp_eq (tgt := 40) C (dx dX7_held 21 rfl) (by decide) (fun c6 => ?_) (fun c6 => ?_)
            ·
              have c6 : vF v 0 p = -1 := c6
              refine r_iconst (v := nI 0) C (dx dX7_held 24 rfl) rfl ?_
              refine rn_iadd (a := cnt (fun p => decide (¬ vF v (if b then 1 else 0) p = -1)) p) (b := 0) C (dx dX7_held 25 rfl) ?_
              refine r_istore_n (ls' := [(0, vr 7 k), (1, vi (b2i b)), (2, vi (nI (cnt (fun p => decide (¬ vF v (if b then 1 else 0) p = -1)) p + 0))), (3, vi (nI p))]) C (dx dX7_held 26 rfl) (by decide) [1, 2, 0, 3] rfl ?_
              refine rn_iinc (a := p) (k := 1) (ls' := [(0, vr 7 k), (1, vi (b2i b)), (2, vi (nI (cnt (fun p => decide (¬ vF v (if b then 1 else 0) p = -1)) p + 0))), (3, vi (nI (p + 1)))]) C (dx dX7_held 27 rfl) rfl rfl (by decide) [1, 2, 3, 0] rfl ?_
              refine r_goto (tgt := 4) C (dx dX7_held 28 rfl) (by decide) ?_
              have e9 : (nI (cnt (fun p => decide (¬ vF v (if b then 1 else 0) p = -1)) p + 0)) = (nI (cnt (fun p => decide (¬ vF v (if b then 1 else 0) p = -1)) (p + 1))) := by simp [cnt, c4, c5, c6]
              rw [e9]
              exact ih
            ·
              have c6 : ¬ vF v 0 p = -1 := c6
              refine r_iconst (v := nI 1) C (dx dX7_held 22 rfl) rfl ?_
              refine r_goto (tgt := 41) C (dx dX7_held 23 rfl) (by decide) ?_
              refine rn_iadd (a := cnt (fun p => decide (¬ vF v (if b then 1 else 0) p = -1)) p) (b := 1) C (dx dX7_held 25 rfl) ?_
              refine r_istore_n (ls' := [(0, vr 7 k), (1, vi (b2i b)), (2, vi (nI (cnt (fun p => decide (¬ vF v (if b then 1 else 0) p = -1)) p + 1))), (3, vi (nI p))]) C (dx dX7_held 26 rfl) (by decide) [1, 2, 0, 3] rfl ?_
              refine rn_iinc (a := p) (k := 1) (ls' := [(0, vr 7 k), (1, vi (b2i b)), (2, vi (nI (cnt (fun p => decide (¬ vF v (if b then 1 else 0) p = -1)) p + 1))), (3, vi (nI (p + 1)))]) C (dx dX7_held 27 rfl) rfl rfl (by decide) [1, 2, 3, 0] rfl ?_
              refine r_goto (tgt := 4) C (dx dX7_held 28 rfl) (by decide) ?_
              have e9 : (nI (cnt (fun p => decide (¬ vF v (if b then 1 else 0) p = -1)) p + 1)) = (nI (cnt (fun p => decide (¬ vF v (if b then 1 else 0) p = -1)) (p + 1))) := by simp [cnt, c4, c5, c6]
              rw [e9]
              exact ih
          ·
            have c5 : b = true := c5
            refine r_aload_n C (dx dX7_held 11 rfl) rfl ?_
            refine g_X7_43 C (dx dX7_held 12 rfl) ?_
            refine r_iload_n C (dx dX7_held 13 rfl) rfl ?_
            refine r_iald (j := p) (x := vF v 1 p) C rfl rfl (by decide) rfl (by omega) (dx dX7_held 14 rfl) (hm.e1 (by omega)) ?_
            refine r_goto (tgt := 32) C (dx dX7_held 15 rfl) (by decide) ?_
            refine r_iconst (v := -1) C (dx dX7_held 20 rfl) rfl ?_
            refine r_icmp_eq (tgt := 40) C (dx dX7_held 21 rfl) (by decide) (fun c7 => ?_) (fun c7 => ?_)
            ·
              have c7 : vF v 1 p = -1 := c7
              refine r_iconst (v := nI 0) C (dx dX7_held 24 rfl) rfl ?_
              refine rn_iadd (a := cnt (fun p => decide (¬ vF v (if b then 1 else 0) p = -1)) p) (b := 0) C (dx dX7_held 25 rfl) ?_
              refine r_istore_n (ls' := [(0, vr 7 k), (1, vi (b2i b)), (2, vi (nI (cnt (fun p => decide (¬ vF v (if b then 1 else 0) p = -1)) p + 0))), (3, vi (nI p))]) C (dx dX7_held 26 rfl) (by decide) [1, 2, 0, 3] rfl ?_
              refine rn_iinc (a := p) (k := 1) (ls' := [(0, vr 7 k), (1, vi (b2i b)), (2, vi (nI (cnt (fun p => decide (¬ vF v (if b then 1 else 0) p = -1)) p + 0))), (3, vi (nI (p + 1)))]) C (dx dX7_held 27 rfl) rfl rfl (by decide) [1, 2, 3, 0] rfl ?_
              refine r_goto (tgt := 4) C (dx dX7_held 28 rfl) (by decide) ?_
              have e9 : (nI (cnt (fun p => decide (¬ vF v (if b then 1 else 0) p = -1)) p + 0)) = (nI (cnt (fun p => decide (¬ vF v (if b then 1 else 0) p = -1)) (p + 1))) := by simp [cnt, c4, c5, c7]
              rw [e9]
              exact ih
            ·
              have c7 : ¬ vF v 1 p = -1 := c7
              refine r_iconst (v := nI 1) C (dx dX7_held 22 rfl) rfl ?_
              refine r_goto (tgt := 41) C (dx dX7_held 23 rfl) (by decide) ?_
              refine rn_iadd (a := cnt (fun p => decide (¬ vF v (if b then 1 else 0) p = -1)) p) (b := 1) C (dx dX7_held 25 rfl) ?_
              refine r_istore_n (ls' := [(0, vr 7 k), (1, vi (b2i b)), (2, vi (nI (cnt (fun p => decide (¬ vF v (if b then 1 else 0) p = -1)) p + 1))), (3, vi (nI p))]) C (dx dX7_held 26 rfl) (by decide) [1, 2, 0, 3] rfl ?_
              refine rn_iinc (a := p) (k := 1) (ls' := [(0, vr 7 k), (1, vi (b2i b)), (2, vi (nI (cnt (fun p => decide (¬ vF v (if b then 1 else 0) p = -1)) p + 1))), (3, vi (nI (p + 1)))]) C (dx dX7_held 27 rfl) rfl rfl (by decide) [1, 2, 3, 0] rfl ?_
              refine r_goto (tgt := 4) C (dx dX7_held 28 rfl) (by decide) ?_
              have e9 : (nI (cnt (fun p => decide (¬ vF v (if b then 1 else 0) p = -1)) p + 1)) = (nI (cnt (fun p => decide (¬ vF v (if b then 1 else 0) p = -1)) (p + 1))) := by simp [cnt, c4, c5, c7]
              rw [e9]
              exact ih)
set_option maxHeartbeats 4000000 in
theorem e_bothOf {l : Launch} {h : Hp} {k : Nat} {v : Vg} (hm : MilAt h k v) {m n : Nat} (hj : m < vM v) (hn : n < vM v) (s : Int32) : Mp l yX7_bothOf cX7_bothOf 5 (some .boolean) 4 [vr 7 k, vi (nI m), vi (nI n), vi s] h (vi (b2i (bothR v m n s))) := by
  refine Ms.of (by decide) (Nat.le_of_ble_eq_true rfl) (fun G C X F => ?_)
  have C : Cx G cX7_bothOf 5 RX7 := C
  show Rr G 0 [(0, vr 7 k), (1, vi (nI m)), (2, vi (nI n)), (3, vi s)] [] h
  have bP := hm.bP
  have bM := hm.bM
  have bN := hm.bN
  refine r_aload_n C (dx dX7_bothOf 0 rfl) rfl ?_
  refine r_iload_n C (dx dX7_bothOf 1 rfl) rfl ?_
  refine r_iload_n C (dx dX7_bothOf 2 rfl) rfl ?_
  refine r_cvP (as := [vi (nI m), vi s]) (st := []) (v := vi (b2i (needW v (hasP v s) m))) C X I_X7_worksOf l_X7_250 (e_worksOf hm (m := m) (by omega) _) (by decide) (Nat.le_of_ble_eq_true rfl) List.prefix_rfl rfl rfl (Nat.le_of_ble_eq_true rfl) rfl (dx dX7_bothOf 3 rfl) ?_
  refine rb_eq (b := needW v (hasP v s) m) (tgt := 18) C (dx dX7_bothOf 4 rfl) (by decide) (fun c1 => ?_) (fun c1 => ?_)
  ·
    have c1 : (needW v (hasP v s) m) = false := c1
    refine r_iconst (v := nI 0) C (dx dX7_bothOf 10 rfl) rfl ?_
    exact F.1 _ _ _ _ _ rfl rfl (dx dX7_bothOf 11 rfl) rfl ⟨congrArg (fun x => some (vi x)) (show nI 0 = b2i _ by rw [show (bothR v m n s) = false by (unfold bothR; simp [c1])]; rfl), rfl⟩
  ·
    have c1 : (needW v (hasP v s) m) = true := c1
    refine r_aload_n C (dx dX7_bothOf 5 rfl) rfl ?_
    refine r_iload_n C (dx dX7_bothOf 6 rfl) rfl ?_
    refine r_iload_n C (dx dX7_bothOf 7 rfl) rfl ?_
    refine r_cvP (as := [vi (nI n), vi s]) (st := []) (v := vi (b2i (needW v (hasP v s) n))) C X I_X7_worksOf l_X7_250 (e_worksOf hm (m := n) (by omega) _) (by decide) (Nat.le_of_ble_eq_true rfl) List.prefix_rfl rfl rfl (Nat.le_of_ble_eq_true rfl) rfl (dx dX7_bothOf 8 rfl) ?_
    refine rb_ne (b := needW v (hasP v s) n) (tgt := 20) C (dx dX7_bothOf 9 rfl) (by decide) (fun c2 => ?_) (fun c2 => ?_)
    ·
      have c2 : (needW v (hasP v s) n) = true := c2
      refine r_iconst (v := nI 0) C (dx dX7_bothOf 12 rfl) rfl ?_
      refine r_istore (ls' := [(0, vr 7 k), (1, vi (nI m)), (2, vi (nI n)), (3, vi s), (4, vi (nI 0))]) C (dx dX7_bothOf 13 rfl) (by decide) [1, 2, 3, 4, 0] rfl ?_
      have w1 : needW v (hasP v s) m = true := c1
      have w2 : needW v (hasP v s) n = true := c2
      refine loopU (Φ := fun p => allF (botP v m n s) p = true → Rr G 23 [(0, vr 7 k), (1, vi (nI m)), (2, vi (nI n)), (3, vi s), (4, vi (nI p))] [] h) (N := vP v) ?_ ?_ 0 (Nat.zero_le _) rfl
      ·
        intro hA
        refine r_iload C (dx dX7_bothOf 14 rfl) rfl ?_
        refine r_aload_n C (dx dX7_bothOf 15 rfl) rfl ?_
        refine g_X7_64 (x := nI (vP v)) C (dx dX7_bothOf 16 rfl) hm.eP ?_
        refine rn_ge (a := vP v) (b := vP v) (tgt := 89) C (by omega) (by omega) (dx dX7_bothOf 17 rfl) (by decide) (fun c3 => ?_) (fun c3 => ?_)
        · first
          | (omega; done)
          | (
              have c3 : vP v ≤ vP v := c3
              refine r_iconst (v := nI 1) C (dx dX7_bothOf 48 rfl) rfl ?_
              exact F.1 _ _ _ _ _ rfl rfl (dx dX7_bothOf 49 rfl) rfl ⟨congrArg (fun x => some (vi x)) (show nI 1 = b2i _ by rw [show (bothR v m n s) = true by (unfold bothR; rw [w1, w2, hA]; rfl)]; rfl), rfl⟩)
        · first
          | (omega; done)
      ·
        intro p hp ih hA
        refine r_iload C (dx dX7_bothOf 14 rfl) rfl ?_
        refine r_aload_n C (dx dX7_bothOf 15 rfl) rfl ?_
        refine g_X7_64 (x := nI (vP v)) C (dx dX7_bothOf 16 rfl) hm.eP ?_
        refine rn_ge (a := p) (b := vP v) (tgt := 89) C (by omega) (by omega) (dx dX7_bothOf 17 rfl) (by decide) (fun c5 => ?_) (fun c5 => ?_)
        · first
          | (omega; done)
          | (
              have c5 : vP v ≤ p := c5
              refine r_iconst (v := nI 1) C (dx dX7_bothOf 48 rfl) rfl ?_
              exact F.1 _ _ _ _ _ rfl rfl (dx dX7_bothOf 49 rfl) rfl ⟨congrArg (fun x => some (vi x)) (show nI 1 = b2i _ by rw [show (bothR v m n s) = true by (unfold bothR; rw [all_no (P := botP v m n s) (p := p) (by simp [botP, c5]) _ hp]; simp)]; rfl), rfl⟩)
        · first
          | (omega; done)
          | (
              have c5 : p < vP v := c5
              refine r_aload_n C (dx dX7_bothOf 18 rfl) rfl ?_
              refine g_X7_46 C (dx dX7_bothOf 19 rfl) ?_
              refine r_iload_n C (dx dX7_bothOf 20 rfl) rfl ?_
              refine r_iald (j := m) (x := vF v 2 m) C rfl rfl (by decide) rfl (by omega) (dx dX7_bothOf 21 rfl) (hm.e2 (by omega)) ?_
              refine r_aload_n C (dx dX7_bothOf 22 rfl) rfl ?_
              refine g_X7_46 C (dx dX7_bothOf 23 rfl) ?_
              refine r_iload_n C (dx dX7_bothOf 24 rfl) rfl ?_
              refine r_iald (j := n) (x := vF v 2 n) C rfl rfl (by decide) rfl (by omega) (dx dX7_bothOf 25 rfl) (hm.e2 (by omega)) ?_
              refine r_iand C (dx dX7_bothOf 26 rfl) ?_
              refine r_iload C (dx dX7_bothOf 27 rfl) rfl ?_
              refine r_csP (as := [vi ((vF v 2 m) &&& (vF v 2 n)), vi (nI p)]) (st := []) (v := vi (b2i (inB ((vF v 2 m) &&& (vF v 2 n)) (nI p)))) C X I_X7_isIn l_X7_244 (e_isIn _ _) (by decide) (Nat.le_of_ble_eq_true rfl) List.prefix_rfl (Nat.le_of_ble_eq_true rfl) rfl (dx dX7_bothOf 28 rfl) ?_
              refine rb_eq (b := inB ((vF v 2 m) &&& (vF v 2 n)) (nI p)) (tgt := 83) C (dx dX7_bothOf 29 rfl) (by decide) (fun c6 => ?_) (fun c6 => ?_)
              ·
                have c6 : (inB ((vF v 2 m) &&& (vF v 2 n)) (nI p)) = false := c6
                refine rn_iinc (a := p) (k := 1) (ls' := [(0, vr 7 k), (1, vi (nI m)), (2, vi (nI n)), (3, vi s), (4, vi (nI (p + 1)))]) C (dx dX7_bothOf 46 rfl) rfl rfl (by decide) [1, 2, 3, 4, 0] rfl ?_
                refine r_goto (tgt := 23) C (dx dX7_bothOf 47 rfl) (by decide) ?_
                exact ih (by simp only [allF]; rw [hA, Bool.true_and]; simp [botP, c5, c6])
              ·
                have c6 : (inB ((vF v 2 m) &&& (vF v 2 n)) (nI p)) = true := c6
                refine r_iload_n C (dx dX7_bothOf 30 rfl) rfl ?_
                refine r_aload_n C (dx dX7_bothOf 31 rfl) rfl ?_
                refine g_X7_40 C (dx dX7_bothOf 32 rfl) ?_
                refine r_iload C (dx dX7_bothOf 33 rfl) rfl ?_
                refine r_iald (j := p) (x := vF v 0 p) C rfl rfl (by decide) rfl (by omega) (dx dX7_bothOf 34 rfl) (hm.e0 (by omega)) ?_
                refine r_csP (as := [vi s, vi (vF v 0 p)]) (st := []) (v := vi (b2i (inB s (vF v 0 p)))) C X I_X7_isIn l_X7_244 (e_isIn _ _) (by decide) (Nat.le_of_ble_eq_true rfl) List.prefix_rfl (Nat.le_of_ble_eq_true rfl) rfl (dx dX7_bothOf 35 rfl) ?_
                refine rb_eq (b := inB s (vF v 0 p)) (tgt := 81) C (dx dX7_bothOf 36 rfl) (by decide) (fun c7 => ?_) (fun c7 => ?_)
                ·
                  have c7 : (inB s (vF v 0 p)) = false := c7
                  refine r_iconst (v := nI 0) C (dx dX7_bothOf 44 rfl) rfl ?_
                  exact F.1 _ _ _ _ _ rfl rfl (dx dX7_bothOf 45 rfl) rfl ⟨congrArg (fun x => some (vi x)) (show nI 0 = b2i _ by rw [show (bothR v m n s) = false by (unfold bothR; rw [all_no (P := botP v m n s) (p := p) (by simp [botP, c5, c6, c7]) _ hp]; simp)]; rfl), rfl⟩
                ·
                  have c7 : (inB s (vF v 0 p)) = true := c7
                  refine r_iload_n C (dx dX7_bothOf 37 rfl) rfl ?_
                  refine r_aload_n C (dx dX7_bothOf 38 rfl) rfl ?_
                  refine g_X7_43 C (dx dX7_bothOf 39 rfl) ?_
                  refine r_iload C (dx dX7_bothOf 40 rfl) rfl ?_
                  refine r_iald (j := p) (x := vF v 1 p) C rfl rfl (by decide) rfl (by omega) (dx dX7_bothOf 41 rfl) (hm.e1 (by omega)) ?_
                  refine r_csP (as := [vi s, vi (vF v 1 p)]) (st := []) (v := vi (b2i (inB s (vF v 1 p)))) C X I_X7_isIn l_X7_244 (e_isIn _ _) (by decide) (Nat.le_of_ble_eq_true rfl) List.prefix_rfl (Nat.le_of_ble_eq_true rfl) rfl (dx dX7_bothOf 42 rfl) ?_
                  refine rb_ne (b := inB s (vF v 1 p)) (tgt := 83) C (dx dX7_bothOf 43 rfl) (by decide) (fun c8 => ?_) (fun c8 => ?_)
                  ·
                    have c8 : (inB s (vF v 1 p)) = true := c8
                    refine rn_iinc (a := p) (k := 1) (ls' := [(0, vr 7 k), (1, vi (nI m)), (2, vi (nI n)), (3, vi s), (4, vi (nI (p + 1)))]) C (dx dX7_bothOf 46 rfl) rfl rfl (by decide) [1, 2, 3, 4, 0] rfl ?_
                    refine r_goto (tgt := 23) C (dx dX7_bothOf 47 rfl) (by decide) ?_
                    exact ih (by simp only [allF]; rw [hA, Bool.true_and]; simp [botP, c5, c6, c7, c8])
                  ·
                    have c8 : (inB s (vF v 1 p)) = false := c8
                    refine r_iconst (v := nI 0) C (dx dX7_bothOf 44 rfl) rfl ?_
                    exact F.1 _ _ _ _ _ rfl rfl (dx dX7_bothOf 45 rfl) rfl ⟨congrArg (fun x => some (vi x)) (show nI 0 = b2i _ by rw [show (bothR v m n s) = false by (unfold bothR; rw [all_no (P := botP v m n s) (p := p) (by simp [botP, c5, c6, c7, c8]) _ hp]; simp)]; rfl), rfl⟩)
    ·
      have c2 : (needW v (hasP v s) n) = false := c2
      refine r_iconst (v := nI 0) C (dx dX7_bothOf 10 rfl) rfl ?_
      exact F.1 _ _ _ _ _ rfl rfl (dx dX7_bothOf 11 rfl) rfl ⟨congrArg (fun x => some (vi x)) (show nI 0 = b2i _ by rw [show (bothR v m n s) = false by (unfold bothR; simp [c1, c2])]; rfl), rfl⟩
set_option maxHeartbeats 4000000 in
theorem e_crossOnes {l : Launch} {h : Hp} {k : Nat} {v : Vg} (hm : MilAt h k v)  : Mp l yX7_crossOnes cX7_crossOnes 3 (some .int) 1 [vr 7 k] h (vi (crR v (vN v))) := by
  refine Ms.of (by decide) (Nat.le_of_ble_eq_true rfl) (fun G C X F => ?_)
  have C : Cx G cX7_crossOnes 3 RX7 := C
  show Rr G 0 [(0, vr 7 k)] [] h
  have bP := hm.bP
  have bM := hm.bM
  have bN := hm.bN
  refine r_iconst (v := nI 0) C (dx dX7_crossOnes 0 rfl) rfl ?_
  refine r_istore_n (ls' := [(0, vr 7 k), (1, vi (nI 0))]) C (dx dX7_crossOnes 1 rfl) (by decide) [1, 0] rfl ?_
  refine r_iconst (v := nI 0) C (dx dX7_crossOnes 2 rfl) rfl ?_
  refine r_istore_n (ls' := [(0, vr 7 k), (1, vi (nI 0)), (2, vi (nI 0))]) C (dx dX7_crossOnes 3 rfl) (by decide) [1, 2, 0] rfl ?_
  refine loopU (Φ := fun p => Rr G 4 [(0, vr 7 k), (1, vi (crR v p)), (2, vi (nI p))] [] h) (N := vN v) ?_ ?_ 0 (Nat.zero_le _)
  ·
    refine r_iload_n C (dx dX7_crossOnes 4 rfl) rfl ?_
    refine r_aload_n C (dx dX7_crossOnes 5 rfl) rfl ?_
    refine g_X7_74 (x := nI (vN v)) C (dx dX7_crossOnes 6 rfl) hm.eN ?_
    refine rn_ge (a := vN v) (b := vN v) (tgt := 31) C (by omega) (by omega) (dx dX7_crossOnes 7 rfl) (by decide) (fun c1 => ?_) (fun c1 => ?_)
    · first
      | (omega; done)
      | (
          have c1 : vN v ≤ vN v := c1
          refine r_iload_n C (dx dX7_crossOnes 21 rfl) rfl ?_
          exact F.1 _ _ _ _ _ rfl rfl (dx dX7_crossOnes 22 rfl) rfl ⟨congrArg (fun x => some (vi x)) rfl, rfl⟩)
    · first
      | (omega; done)
  ·
    intro p hp ih
    refine r_iload_n C (dx dX7_crossOnes 4 rfl) rfl ?_
    refine r_aload_n C (dx dX7_crossOnes 5 rfl) rfl ?_
    refine g_X7_74 (x := nI (vN v)) C (dx dX7_crossOnes 6 rfl) hm.eN ?_
    refine rn_ge (a := p) (b := vN v) (tgt := 31) C (by omega) (by omega) (dx dX7_crossOnes 7 rfl) (by decide) (fun c2 => ?_) (fun c2 => ?_)
    · first
      | (omega; done)
      | (
          have c2 : vN v ≤ p := c2
          refine r_iload_n C (dx dX7_crossOnes 21 rfl) rfl ?_
          exact F.1 _ _ _ _ _ rfl rfl (dx dX7_crossOnes 22 rfl) rfl ⟨congrArg (fun x => some (vi x)) (show crR v p = crR v (vN v) by rfl), rfl⟩)
    · first
      | (omega; done)
      | (
          have c2 : p < vN v := c2
          refine r_iload_n C (dx dX7_crossOnes 8 rfl) rfl ?_
          refine r_aload_n C (dx dX7_crossOnes 9 rfl) rfl ?_
          refine g_X7_54 C (dx dX7_crossOnes 10 rfl) ?_
          refine r_iload_n C (dx dX7_crossOnes 11 rfl) rfl ?_
          refine r_aald4 (j := p) C rfl rfl (by decide) rfl (by omega) (dx dX7_crossOnes 12 rfl) ?_
          refine r_iconst (v := nI 2) C (dx dX7_crossOnes 13 rfl) rfl ?_
          refine r_iald (j := 2) (x := vF v 6 p) C rfl rfl (by decide) rfl (by omega) (dx dX7_crossOnes 14 rfl) (hm.eo (by omega) (by omega)) ?_
          refine r_iload_n C (dx dX7_crossOnes 15 rfl) rfl ?_
          refine r_ishl C (dx dX7_crossOnes 16 rfl) ?_
          refine r_ior C (dx dX7_crossOnes 17 rfl) ?_
          refine r_istore_n (ls' := [(0, vr 7 k), (1, vi ((crR v p) ||| ((vF v 6 p) <<< ((nI p) &&& 31)))), (2, vi (nI p))]) C (dx dX7_crossOnes 18 rfl) (by decide) [1, 0, 2] rfl ?_
          refine rn_iinc (a := p) (k := 1) (ls' := [(0, vr 7 k), (1, vi ((crR v p) ||| ((vF v 6 p) <<< ((nI p) &&& 31)))), (2, vi (nI (p + 1)))]) C (dx dX7_crossOnes 19 rfl) rfl rfl (by decide) [1, 2, 0] rfl ?_
          refine r_goto (tgt := 4) C (dx dX7_crossOnes 20 rfl) (by decide) ?_
          have e9 : ((crR v p) ||| ((vF v 6 p) <<< ((nI p) &&& 31))) = (crR v (p + 1)) := by simp [crR, c2]
          rw [e9]
          exact ih)
set_option maxHeartbeats 4000000 in
theorem e_oddsOf {l : Launch} {h : Hp} {k : Nat} {v : Vg} (hm : MilAt h k v) (s : Int32) : Mp l yX7_oddsOf cX7_oddsOf 6 (some .long) 2 [vr 7 k, vi s] h (vl (prodL (facR v s) (vN v))) := by
  refine Ms.of (by decide) (Nat.le_of_ble_eq_true rfl) (fun G C X F => ?_)
  have C : Cx G cX7_oddsOf 6 RX7 := C
  show Rr G 0 [(0, vr 7 k), (1, vi s)] [] h
  have bP := hm.bP
  have bM := hm.bM
  have bN := hm.bN
  refine r_lconst (v := 1) C (dx dX7_oddsOf 0 rfl) rfl ?_
  refine r_lstore_n (ls' := [(0, vr 7 k), (1, vi s), (2, vl 1)]) C (dx dX7_oddsOf 1 rfl) (by decide) [1, 2, 0] rfl ?_
  refine r_iconst (v := nI 0) C (dx dX7_oddsOf 2 rfl) rfl ?_
  refine r_istore (ls' := [(0, vr 7 k), (1, vi s), (2, vl 1), (4, vi (nI 0))]) C (dx dX7_oddsOf 3 rfl) (by decide) [1, 2, 3, 0] rfl ?_
  refine loopU (Φ := fun p => Rr G 5 [(0, vr 7 k), (1, vi s), (2, vl (prodL (facR v s) p)), (4, vi (nI p))] [] h) (N := vN v) ?_ ?_ 0 (Nat.zero_le _)
  ·
    refine r_iload C (dx dX7_oddsOf 4 rfl) rfl ?_
    refine r_aload_n C (dx dX7_oddsOf 5 rfl) rfl ?_
    refine g_X7_74 (x := nI (vN v)) C (dx dX7_oddsOf 6 rfl) hm.eN ?_
    refine rn_ge (a := vN v) (b := vN v) (tgt := 93) C (by omega) (by omega) (dx dX7_oddsOf 7 rfl) (by decide) (fun c1 => ?_) (fun c1 => ?_)
    · first
      | (omega; done)
      | (
          have c1 : vN v ≤ vN v := c1
          refine r_lload_n C (dx dX7_oddsOf 53 rfl) rfl ?_
          exact F.2.1 _ _ _ _ rfl (dx dX7_oddsOf 54 rfl) rfl ⟨congrArg (fun x => some (vl x)) rfl, rfl⟩)
    · first
      | (omega; done)
  ·
    intro p hp ih
    refine r_iload C (dx dX7_oddsOf 4 rfl) rfl ?_
    refine r_aload_n C (dx dX7_oddsOf 5 rfl) rfl ?_
    refine g_X7_74 (x := nI (vN v)) C (dx dX7_oddsOf 6 rfl) hm.eN ?_
    refine rn_ge (a := p) (b := vN v) (tgt := 93) C (by omega) (by omega) (dx dX7_oddsOf 7 rfl) (by decide) (fun c4 => ?_) (fun c4 => ?_)
    · first
      | (omega; done)
      | (
          have c4 : vN v ≤ p := c4
          refine r_lload_n C (dx dX7_oddsOf 53 rfl) rfl ?_
          exact F.2.1 _ _ _ _ rfl (dx dX7_oddsOf 54 rfl) rfl ⟨congrArg (fun x => some (vl x)) (show prodL (facR v s) p = prodL (facR v s) (vN v) by rfl), rfl⟩)
    · first
      | (omega; done)
      | (
          have c4 : p < vN v := c4
          refine r_iload_n C (dx dX7_oddsOf 8 rfl) rfl ?_
          refine r_iload C (dx dX7_oddsOf 9 rfl) rfl ?_
          refine r_csP (as := [vi s, vi (nI p)]) (st := []) (v := vi (b2i (inB s (nI p)))) C X I_X7_isIn l_X7_244 (e_isIn _ _) (by decide) (Nat.le_of_ble_eq_true rfl) List.prefix_rfl (Nat.le_of_ble_eq_true rfl) rfl (dx dX7_oddsOf 10 rfl) ?_
          refine r_istore (ls' := [(0, vr 7 k), (1, vi s), (2, vl (prodL (facR v s) p)), (4, vi (nI p)), (5, vi (b2i (inB s (nI p))))]) C (dx dX7_oddsOf 11 rfl) (by decide) [1, 2, 3, 4, 0] rfl ?_
          refine r_aload_n C (dx dX7_oddsOf 12 rfl) rfl ?_
          refine g_X7_54 C (dx dX7_oddsOf 13 rfl) ?_
          refine r_iload C (dx dX7_oddsOf 14 rfl) rfl ?_
          refine r_aald4 (j := p) C rfl rfl (by decide) rfl (by omega) (dx dX7_oddsOf 15 rfl) ?_
          refine r_iconst (v := nI 2) C (dx dX7_oddsOf 16 rfl) rfl ?_
          refine r_iald (j := 2) (x := vF v 6 p) C rfl rfl (by decide) rfl (by omega) (dx dX7_oddsOf 17 rfl) (hm.eo (by omega) (by omega)) ?_
          refine r_iconst (v := nI 1) C (dx dX7_oddsOf 18 rfl) rfl ?_
          refine r_icmp_ne (tgt := 53) C (dx dX7_oddsOf 19 rfl) (by decide) (fun c5 => ?_) (fun c5 => ?_)
          ·
            have c5 : ¬ vF v 6 p = nI 1 := c5
            refine r_lload_n C (dx dX7_oddsOf 29 rfl) rfl ?_
            refine r_iload C (dx dX7_oddsOf 30 rfl) rfl ?_
            refine rb_eq (b := inB s (nI p)) (tgt := 75) C (dx dX7_oddsOf 31 rfl) (by decide) (fun c6 => ?_) (fun c6 => ?_)
            ·
              have c6 : (inB s (nI p)) = false := c6
              refine r_aload_n C (dx dX7_oddsOf 42 rfl) rfl ?_
              refine g_X7_54 C (dx dX7_oddsOf 43 rfl) ?_
              refine r_iload C (dx dX7_oddsOf 44 rfl) rfl ?_
              refine r_aald4 (j := p) C rfl rfl (by decide) rfl (by omega) (dx dX7_oddsOf 45 rfl) ?_
              refine r_iconst (v := nI 1) C (dx dX7_oddsOf 46 rfl) rfl ?_
              refine r_iald (j := 1) (x := vF v 5 p) C rfl rfl (by decide) rfl (by omega) (dx dX7_oddsOf 47 rfl) (hm.eo (by omega) (by omega)) ?_
              refine r_i2l C (dx dX7_oddsOf 48 rfl) ?_
              refine r_lmul C (dx dX7_oddsOf 49 rfl) ?_
              refine r_lstore_n (ls' := [(0, vr 7 k), (1, vi s), (2, vl ((prodL (facR v s) p) * ((vF v 5 p).toInt64))), (4, vi (nI p)), (5, vi (b2i (inB s (nI p))))]) C (dx dX7_oddsOf 50 rfl) (by decide) [1, 2, 0, 3, 4] rfl ?_
              refine rn_iinc (a := p) (k := 1) (ls' := [(0, vr 7 k), (1, vi s), (2, vl ((prodL (facR v s) p) * ((vF v 5 p).toInt64))), (4, vi (nI (p + 1))), (5, vi (b2i (inB s (nI p))))]) C (dx dX7_oddsOf 51 rfl) rfl rfl (by decide) [1, 2, 3, 0, 4] rfl ?_
              refine r_goto (tgt := 5) C (dx dX7_oddsOf 52 rfl) (by decide) ?_
              have e9 : ((prodL (facR v s) p) * ((vF v 5 p).toInt64)) = (prodL (facR v s) (p + 1)) := by simp [prodL, facR, c4, c5, c6]
              rw [e9]
              refine r_weak C [0, 1, 2, 3] rfl ?_
              exact ih
            ·
              have c6 : (inB s (nI p)) = true := c6
              refine r_bipush (v := nI 10) C (dx dX7_oddsOf 32 rfl) rfl ?_
              refine r_aload_n C (dx dX7_oddsOf 33 rfl) rfl ?_
              refine g_X7_54 C (dx dX7_oddsOf 34 rfl) ?_
              refine r_iload C (dx dX7_oddsOf 35 rfl) rfl ?_
              refine r_aald4 (j := p) C rfl rfl (by decide) rfl (by omega) (dx dX7_oddsOf 36 rfl) ?_
              refine r_iconst (v := nI 1) C (dx dX7_oddsOf 37 rfl) rfl ?_
              refine r_iald (j := 1) (x := vF v 5 p) C rfl rfl (by decide) rfl (by omega) (dx dX7_oddsOf 38 rfl) (hm.eo (by omega) (by omega)) ?_
              refine r_isub C (dx dX7_oddsOf 39 rfl) ?_
              refine r_i2l C (dx dX7_oddsOf 40 rfl) ?_
              refine r_goto (tgt := 85) C (dx dX7_oddsOf 41 rfl) (by decide) ?_
              refine r_lmul C (dx dX7_oddsOf 49 rfl) ?_
              refine r_lstore_n (ls' := [(0, vr 7 k), (1, vi s), (2, vl ((prodL (facR v s) p) * (((nI 10) - (vF v 5 p)).toInt64))), (4, vi (nI p)), (5, vi (b2i (inB s (nI p))))]) C (dx dX7_oddsOf 50 rfl) (by decide) [1, 2, 0, 3, 4] rfl ?_
              refine rn_iinc (a := p) (k := 1) (ls' := [(0, vr 7 k), (1, vi s), (2, vl ((prodL (facR v s) p) * (((nI 10) - (vF v 5 p)).toInt64))), (4, vi (nI (p + 1))), (5, vi (b2i (inB s (nI p))))]) C (dx dX7_oddsOf 51 rfl) rfl rfl (by decide) [1, 2, 3, 0, 4] rfl ?_
              refine r_goto (tgt := 5) C (dx dX7_oddsOf 52 rfl) (by decide) ?_
              have e9 : ((prodL (facR v s) p) * (((nI 10) - (vF v 5 p)).toInt64)) = (prodL (facR v s) (p + 1)) := by simp [prodL, facR, c4, c5, c6]
              rw [e9]
              refine r_weak C [0, 1, 2, 3] rfl ?_
              exact ih
          ·
            have c5 : vF v 6 p = nI 1 := c5
            refine r_lload_n C (dx dX7_oddsOf 20 rfl) rfl ?_
            refine r_iload C (dx dX7_oddsOf 21 rfl) rfl ?_
            refine rb_eq (b := inB s (nI p)) (tgt := 45) C (dx dX7_oddsOf 22 rfl) (by decide) (fun c7 => ?_) (fun c7 => ?_)
            ·
              have c7 : (inB s (nI p)) = false := c7
              refine r_ldc2 C n_X7_120 (dx dX7_oddsOf 25 rfl) ?_
              refine r_lmul C (dx dX7_oddsOf 26 rfl) ?_
              refine r_lstore_n (ls' := [(0, vr 7 k), (1, vi s), (2, vl ((prodL (facR v s) p) * 10)), (4, vi (nI p)), (5, vi (b2i (inB s (nI p))))]) C (dx dX7_oddsOf 27 rfl) (by decide) [1, 2, 0, 3, 4] rfl ?_
              refine r_goto (tgt := 87) C (dx dX7_oddsOf 28 rfl) (by decide) ?_
              refine rn_iinc (a := p) (k := 1) (ls' := [(0, vr 7 k), (1, vi s), (2, vl ((prodL (facR v s) p) * 10)), (4, vi (nI (p + 1))), (5, vi (b2i (inB s (nI p))))]) C (dx dX7_oddsOf 51 rfl) rfl rfl (by decide) [1, 2, 3, 0, 4] rfl ?_
              refine r_goto (tgt := 5) C (dx dX7_oddsOf 52 rfl) (by decide) ?_
              have e9 : ((prodL (facR v s) p) * 10) = (prodL (facR v s) (p + 1)) := by simp [prodL, facR, c4, c5, c7]
              rw [e9]
              refine r_weak C [0, 1, 2, 3] rfl ?_
              exact ih
            ·
              have c7 : (inB s (nI p)) = true := c7
              refine r_lconst (v := 0) C (dx dX7_oddsOf 23 rfl) rfl ?_
              refine r_goto (tgt := 48) C (dx dX7_oddsOf 24 rfl) (by decide) ?_
              refine r_lmul C (dx dX7_oddsOf 26 rfl) ?_
              refine r_lstore_n (ls' := [(0, vr 7 k), (1, vi s), (2, vl ((prodL (facR v s) p) * 0)), (4, vi (nI p)), (5, vi (b2i (inB s (nI p))))]) C (dx dX7_oddsOf 27 rfl) (by decide) [1, 2, 0, 3, 4] rfl ?_
              refine r_goto (tgt := 87) C (dx dX7_oddsOf 28 rfl) (by decide) ?_
              refine rn_iinc (a := p) (k := 1) (ls' := [(0, vr 7 k), (1, vi s), (2, vl ((prodL (facR v s) p) * 0)), (4, vi (nI (p + 1))), (5, vi (b2i (inB s (nI p))))]) C (dx dX7_oddsOf 51 rfl) rfl rfl (by decide) [1, 2, 3, 0, 4] rfl ?_
              refine r_goto (tgt := 5) C (dx dX7_oddsOf 52 rfl) (by decide) ?_
              have e9 : ((prodL (facR v s) p) * 0) = (prodL (facR v s) (p + 1)) := by simp [prodL, facR, c4, c5, c7]
              rw [e9]
              refine r_weak C [0, 1, 2, 3] rfl ?_
              exact ih)
set_option maxHeartbeats 4000000 in
theorem e_sumOf {l : Launch} {h : Hp} {k : Nat} {v : Vg} (hm : MilAt h k v) {m n : Nat} (hj : m < vM v) (hn : n < vM v) : Mp l yX7_sumOf cX7_sumOf 7 (some .long) 5 [vr 7 k, vi (nI m), vi (nI n)] h (vl (sumL (smF v m n) (2 ^ vN v))) := by
  refine Ms.of (by decide) (Nat.le_of_ble_eq_true rfl) (fun G C X F => ?_)
  have C : Cx G cX7_sumOf 7 RX7 := C
  show Rr G 0 [(0, vr 7 k), (1, vi (nI m)), (2, vi (nI n))] [] h
  have bP := hm.bP
  have bM := hm.bM
  have bN := hm.bN
  obtain ⟨S, hS⟩ : ∃ S, S = 2 ^ vN v := ⟨_, rfl⟩
  have p8 := pow8 bN
  rw [← hS] at p8
  refine r_lconst (v := 0) C (dx dX7_sumOf 0 rfl) rfl ?_
  refine r_lstore_n (ls' := [(0, vr 7 k), (1, vi (nI m)), (2, vi (nI n)), (3, vl 0)]) C (dx dX7_sumOf 1 rfl) (by decide) [1, 2, 3, 0] rfl ?_
  refine r_iconst (v := nI 0) C (dx dX7_sumOf 2 rfl) rfl ?_
  refine r_istore (ls' := [(0, vr 7 k), (1, vi (nI m)), (2, vi (nI n)), (3, vl 0), (5, vi (nI 0))]) C (dx dX7_sumOf 3 rfl) (by decide) [1, 2, 3, 4, 0] rfl ?_
  refine loopU (Φ := fun p => Rr G 5 [(0, vr 7 k), (1, vi (nI m)), (2, vi (nI n)), (3, vl (sumL (smF v m n) p)), (5, vi (nI p))] [] h) (N := S) ?_ ?_ 0 (Nat.zero_le _)
  ·
    refine r_iload C (dx dX7_sumOf 4 rfl) rfl ?_
    refine r_aload_n C (dx dX7_sumOf 5 rfl) rfl ?_
    refine r_cvP (as := []) (st := [vi (nI S)]) (v := vi (nI (S - 1))) C X I_X7_all l_X7_253 (c_mallS hm hS) (by decide) (Nat.le_of_ble_eq_true rfl) List.prefix_rfl rfl rfl (Nat.le_of_ble_eq_true rfl) rfl (dx dX7_sumOf 6 rfl) ?_
    refine rn_gt (a := S) (b := S - 1) (tgt := 63) C (by omega) (by omega) (dx dX7_sumOf 7 rfl) (by decide) (fun c1 => ?_) (fun c1 => ?_)
    · first
      | (omega; done)
      | (
          have c1 : S - 1 < S := c1
          refine r_lload_n C (dx dX7_sumOf 34 rfl) rfl ?_
          exact F.2.1 _ _ _ _ rfl (dx dX7_sumOf 35 rfl) rfl ⟨congrArg (fun x => some (vl x)) (show sumL (smF v m n) S = sumL (smF v m n) (2 ^ vN v) by rw [hS]), rfl⟩)
    · first
      | (omega; done)
      | (
          have c1 : S ≤ S - 1 := c1
          refine r_iload_n C (dx dX7_sumOf 8 rfl) rfl ?_
          refine r_iload_n C (dx dX7_sumOf 9 rfl) rfl ?_
          refine rn_ne (a := m) (b := n) (tgt := 29) C (by omega) (by omega) (dx dX7_sumOf 10 rfl) (by decide) (fun c2 => ?_) (fun c2 => ?_)
          · first
            | (omega; done)
          · first
            | (omega; done))
  ·
    intro p hp ih
    refine r_iload C (dx dX7_sumOf 4 rfl) rfl ?_
    refine r_aload_n C (dx dX7_sumOf 5 rfl) rfl ?_
    refine r_cvP (as := []) (st := [vi (nI p)]) (v := vi (nI (S - 1))) C X I_X7_all l_X7_253 (c_mallS hm hS) (by decide) (Nat.le_of_ble_eq_true rfl) List.prefix_rfl rfl rfl (Nat.le_of_ble_eq_true rfl) rfl (dx dX7_sumOf 6 rfl) ?_
    refine rn_gt (a := p) (b := S - 1) (tgt := 63) C (by omega) (by omega) (dx dX7_sumOf 7 rfl) (by decide) (fun c5 => ?_) (fun c5 => ?_)
    · first
      | (omega; done)
      | (
          have c5 : S - 1 < p := c5
          refine r_lload_n C (dx dX7_sumOf 34 rfl) rfl ?_
          exact F.2.1 _ _ _ _ rfl (dx dX7_sumOf 35 rfl) rfl ⟨congrArg (fun x => some (vl x)) (show sumL (smF v m n) p = sumL (smF v m n) (2 ^ vN v) by rw [hS]), rfl⟩)
    · first
      | (omega; done)
      | (
          have c5 : p ≤ S - 1 := c5
          refine r_iload_n C (dx dX7_sumOf 8 rfl) rfl ?_
          refine r_iload_n C (dx dX7_sumOf 9 rfl) rfl ?_
          refine rn_ne (a := m) (b := n) (tgt := 29) C (by omega) (by omega) (dx dX7_sumOf 10 rfl) (by decide) (fun c6 => ?_) (fun c6 => ?_)
          · first
            | (omega; done)
            | (
                have c6 : ¬ m = n := c6
                refine r_aload_n C (dx dX7_sumOf 16 rfl) rfl ?_
                refine r_iload_n C (dx dX7_sumOf 17 rfl) rfl ?_
                refine r_iload_n C (dx dX7_sumOf 18 rfl) rfl ?_
                refine r_iload C (dx dX7_sumOf 19 rfl) rfl ?_
                refine r_cvP (as := [vi (nI m), vi (nI n), vi (nI p)]) (st := []) (v := vi (b2i (bothR v m n (nI p)))) C X I_X7_bothOf l_X7_256 (e_bothOf hm (m := m) (n := n) (by omega) (by omega) _) (by decide) (Nat.le_of_ble_eq_true rfl) List.prefix_rfl rfl rfl (Nat.le_of_ble_eq_true rfl) rfl (dx dX7_sumOf 20 rfl) ?_
                refine r_istore (ls' := [(0, vr 7 k), (1, vi (nI m)), (2, vi (nI n)), (3, vl (sumL (smF v m n) p)), (5, vi (nI p)), (6, vi (b2i (bothR v m n (nI p))))]) C (dx dX7_sumOf 21 rfl) (by decide) [1, 2, 3, 4, 5, 0] rfl ?_
                refine r_lload_n C (dx dX7_sumOf 22 rfl) rfl ?_
                refine r_iload C (dx dX7_sumOf 23 rfl) rfl ?_
                refine rb_eq (b := bothR v m n (nI p)) (tgt := 54) C (dx dX7_sumOf 24 rfl) (by decide) (fun c7 => ?_) (fun c7 => ?_)
                ·
                  have c7 : (bothR v m n (nI p)) = false := c7
                  refine r_lconst (v := 0) C (dx dX7_sumOf 29 rfl) rfl ?_
                  refine r_ladd C (dx dX7_sumOf 30 rfl) ?_
                  refine r_lstore_n (ls' := [(0, vr 7 k), (1, vi (nI m)), (2, vi (nI n)), (3, vl ((sumL (smF v m n) p) + 0)), (5, vi (nI p)), (6, vi (b2i (bothR v m n (nI p))))]) C (dx dX7_sumOf 31 rfl) (by decide) [1, 2, 3, 0, 4, 5] rfl ?_
                  refine rn_iinc (a := p) (k := 1) (ls' := [(0, vr 7 k), (1, vi (nI m)), (2, vi (nI n)), (3, vl ((sumL (smF v m n) p) + 0)), (5, vi (nI (p + 1))), (6, vi (b2i (bothR v m n (nI p))))]) C (dx dX7_sumOf 32 rfl) rfl rfl (by decide) [1, 2, 3, 4, 0, 5] rfl ?_
                  refine r_goto (tgt := 5) C (dx dX7_sumOf 33 rfl) (by decide) ?_
                  have e9 : ((sumL (smF v m n) p) + 0) = (sumL (smF v m n) (p + 1)) := by (show _ = sumL (smF v m n) p + smF v m n p; rw [sm_0 ((isR_n c6).trans c7)])
                  rw [e9]
                  refine r_weak C [0, 1, 2, 3, 4] rfl ?_
                  exact ih
                ·
                  have c7 : (bothR v m n (nI p)) = true := c7
                  refine r_aload_n C (dx dX7_sumOf 25 rfl) rfl ?_
                  refine r_iload C (dx dX7_sumOf 26 rfl) rfl ?_
                  refine r_cvP (as := [vi (nI p)]) (st := [vl (sumL (smF v m n) p)]) (v := vl (prodL (facR v (nI p)) (vN v))) C X I_X7_oddsOf l_X7_260 (e_oddsOf hm _) (by decide) (Nat.le_of_ble_eq_true rfl) List.prefix_rfl rfl rfl (Nat.le_of_ble_eq_true rfl) rfl (dx dX7_sumOf 27 rfl) ?_
                  refine r_goto (tgt := 55) C (dx dX7_sumOf 28 rfl) (by decide) ?_
                  refine r_ladd C (dx dX7_sumOf 30 rfl) ?_
                  refine r_lstore_n (ls' := [(0, vr 7 k), (1, vi (nI m)), (2, vi (nI n)), (3, vl ((sumL (smF v m n) p) + (prodL (facR v (nI p)) (vN v)))), (5, vi (nI p)), (6, vi (b2i (bothR v m n (nI p))))]) C (dx dX7_sumOf 31 rfl) (by decide) [1, 2, 3, 0, 4, 5] rfl ?_
                  refine rn_iinc (a := p) (k := 1) (ls' := [(0, vr 7 k), (1, vi (nI m)), (2, vi (nI n)), (3, vl ((sumL (smF v m n) p) + (prodL (facR v (nI p)) (vN v)))), (5, vi (nI (p + 1))), (6, vi (b2i (bothR v m n (nI p))))]) C (dx dX7_sumOf 32 rfl) rfl rfl (by decide) [1, 2, 3, 4, 0, 5] rfl ?_
                  refine r_goto (tgt := 5) C (dx dX7_sumOf 33 rfl) (by decide) ?_
                  have e9 : ((sumL (smF v m n) p) + (prodL (facR v (nI p)) (vN v))) = (sumL (smF v m n) (p + 1)) := by (show _ = sumL (smF v m n) p + smF v m n p; rw [sm_1 ((isR_n c6).trans c7)])
                  rw [e9]
                  refine r_weak C [0, 1, 2, 3, 4] rfl ?_
                  exact ih)
          · first
            | (omega; done)
            | (
                have c6 : m = n := c6
                refine r_aload_n C (dx dX7_sumOf 11 rfl) rfl ?_
                refine r_iload_n C (dx dX7_sumOf 12 rfl) rfl ?_
                refine r_iload C (dx dX7_sumOf 13 rfl) rfl ?_
                refine r_cvP (as := [vi (nI m), vi (nI p)]) (st := []) (v := vi (b2i (needW v (hasP v (nI p)) m))) C X I_X7_worksOf l_X7_250 (e_worksOf hm (m := m) (by omega) _) (by decide) (Nat.le_of_ble_eq_true rfl) List.prefix_rfl rfl rfl (Nat.le_of_ble_eq_true rfl) rfl (dx dX7_sumOf 14 rfl) ?_
                refine r_goto (tgt := 37) C (dx dX7_sumOf 15 rfl) (by decide) ?_
                refine r_istore (ls' := [(0, vr 7 k), (1, vi (nI m)), (2, vi (nI n)), (3, vl (sumL (smF v m n) p)), (5, vi (nI p)), (6, vi (b2i (needW v (hasP v (nI p)) m)))]) C (dx dX7_sumOf 21 rfl) (by decide) [1, 2, 3, 4, 5, 0] rfl ?_
                refine r_lload_n C (dx dX7_sumOf 22 rfl) rfl ?_
                refine r_iload C (dx dX7_sumOf 23 rfl) rfl ?_
                refine rb_eq (b := needW v (hasP v (nI p)) m) (tgt := 54) C (dx dX7_sumOf 24 rfl) (by decide) (fun c8 => ?_) (fun c8 => ?_)
                ·
                  have c8 : (needW v (hasP v (nI p)) m) = false := c8
                  refine r_lconst (v := 0) C (dx dX7_sumOf 29 rfl) rfl ?_
                  refine r_ladd C (dx dX7_sumOf 30 rfl) ?_
                  refine r_lstore_n (ls' := [(0, vr 7 k), (1, vi (nI m)), (2, vi (nI n)), (3, vl ((sumL (smF v m n) p) + 0)), (5, vi (nI p)), (6, vi (b2i (needW v (hasP v (nI p)) m)))]) C (dx dX7_sumOf 31 rfl) (by decide) [1, 2, 3, 0, 4, 5] rfl ?_
                  refine rn_iinc (a := p) (k := 1) (ls' := [(0, vr 7 k), (1, vi (nI m)), (2, vi (nI n)), (3, vl ((sumL (smF v m n) p) + 0)), (5, vi (nI (p + 1))), (6, vi (b2i (needW v (hasP v (nI p)) m)))]) C (dx dX7_sumOf 32 rfl) rfl rfl (by decide) [1, 2, 3, 4, 0, 5] rfl ?_
                  refine r_goto (tgt := 5) C (dx dX7_sumOf 33 rfl) (by decide) ?_
                  have e9 : ((sumL (smF v m n) p) + 0) = (sumL (smF v m n) (p + 1)) := by (show _ = sumL (smF v m n) p + smF v m n p; rw [sm_0 ((isR_y c6).trans c8)])
                  rw [e9]
                  refine r_weak C [0, 1, 2, 3, 4] rfl ?_
                  exact ih
                ·
                  have c8 : (needW v (hasP v (nI p)) m) = true := c8
                  refine r_aload_n C (dx dX7_sumOf 25 rfl) rfl ?_
                  refine r_iload C (dx dX7_sumOf 26 rfl) rfl ?_
                  refine r_cvP (as := [vi (nI p)]) (st := [vl (sumL (smF v m n) p)]) (v := vl (prodL (facR v (nI p)) (vN v))) C X I_X7_oddsOf l_X7_260 (e_oddsOf hm _) (by decide) (Nat.le_of_ble_eq_true rfl) List.prefix_rfl rfl rfl (Nat.le_of_ble_eq_true rfl) rfl (dx dX7_sumOf 27 rfl) ?_
                  refine r_goto (tgt := 55) C (dx dX7_sumOf 28 rfl) (by decide) ?_
                  refine r_ladd C (dx dX7_sumOf 30 rfl) ?_
                  refine r_lstore_n (ls' := [(0, vr 7 k), (1, vi (nI m)), (2, vi (nI n)), (3, vl ((sumL (smF v m n) p) + (prodL (facR v (nI p)) (vN v)))), (5, vi (nI p)), (6, vi (b2i (needW v (hasP v (nI p)) m)))]) C (dx dX7_sumOf 31 rfl) (by decide) [1, 2, 3, 0, 4, 5] rfl ?_
                  refine rn_iinc (a := p) (k := 1) (ls' := [(0, vr 7 k), (1, vi (nI m)), (2, vi (nI n)), (3, vl ((sumL (smF v m n) p) + (prodL (facR v (nI p)) (vN v)))), (5, vi (nI (p + 1))), (6, vi (b2i (needW v (hasP v (nI p)) m)))]) C (dx dX7_sumOf 32 rfl) rfl rfl (by decide) [1, 2, 3, 4, 0, 5] rfl ?_
                  refine r_goto (tgt := 5) C (dx dX7_sumOf 33 rfl) (by decide) ?_
                  have e9 : ((sumL (smF v m n) p) + (prodL (facR v (nI p)) (vN v))) = (sumL (smF v m n) (p + 1)) := by (show _ = sumL (smF v m n) p + smF v m n p; rw [sm_1 ((isR_y c6).trans c8)])
                  rw [e9]
                  refine r_weak C [0, 1, 2, 3, 4] rfl ?_
                  exact ih))
set_option maxHeartbeats 4000000 in
theorem e_day {l : Launch} {h : Hp} {k : Nat} {v : Vg} (hm : MilAt h k v) : Mp l yX7_day cX7_day 8 (some .long) 3 [vr 7 k] h (vl (sumL (dyF v) (2 ^ vN v))) := by
  refine Ms.of (by decide) (Nat.le_of_ble_eq_true rfl) (fun G C X F => ?_)
  have C : Cx G cX7_day 8 RX7 := C
  show Rr G 0 [(0, vr 7 k)] [] h
  have bP := hm.bP
  have bM := hm.bM
  have bN := hm.bN
  obtain ⟨S, hS⟩ : ∃ S, S = 2 ^ vN v := ⟨_, rfl⟩
  have p8 := pow8 bN
  rw [← hS] at p8
  refine r_lconst (v := 0) C (dx dX7_day 0 rfl) rfl ?_
  refine r_lstore_n (ls' := [(0, vr 7 k), (1, vl 0)]) C (dx dX7_day 1 rfl) (by decide) [1, 0] rfl ?_
  refine r_iconst (v := nI 0) C (dx dX7_day 2 rfl) rfl ?_
  refine r_istore_n (ls' := [(0, vr 7 k), (1, vl 0), (3, vi (nI 0))]) C (dx dX7_day 3 rfl) (by decide) [1, 2, 0] rfl ?_
  refine loopU (Φ := fun p => Rr G 4 [(0, vr 7 k), (1, vl (sumL (dyF v) p)), (3, vi (nI p))] [] h) (N := S) ?_ ?_ 0 (Nat.zero_le _)
  ·
    refine r_iload_n C (dx dX7_day 4 rfl) rfl ?_
    refine r_aload_n C (dx dX7_day 5 rfl) rfl ?_
    refine r_cvP (as := []) (st := [vi (nI S)]) (v := vi (nI (S - 1))) C X I_X7_all l_X7_253 (c_mallS hm hS) (by decide) (Nat.le_of_ble_eq_true rfl) List.prefix_rfl rfl rfl (Nat.le_of_ble_eq_true rfl) rfl (dx dX7_day 6 rfl) ?_
    refine rn_gt (a := S) (b := S - 1) (tgt := 101) C (by omega) (by omega) (dx dX7_day 7 rfl) (by decide) (fun c1 => ?_) (fun c1 => ?_)
    · first
      | (omega; done)
      | (
          have c1 : S - 1 < S := c1
          refine r_lload_n C (dx dX7_day 57 rfl) rfl ?_
          exact F.2.1 _ _ _ _ rfl (dx dX7_day 58 rfl) rfl ⟨congrArg (fun x => some (vl x)) (show sumL (dyF v) S = sumL (dyF v) (2 ^ vN v) by rw [hS]), rfl⟩)
    · first
      | (omega; done)
      | (
          have c1 : S ≤ S - 1 := c1
          refine r_aload_n C (dx dX7_day 8 rfl) rfl ?_
          refine r_iload_n C (dx dX7_day 9 rfl) rfl ?_
          refine r_cvP (as := [vi (nI S)]) (st := []) (v := vl (prodL (facR v (nI S)) (vN v))) C X I_X7_oddsOf l_X7_260 (e_oddsOf hm _) (by decide) (Nat.le_of_ble_eq_true rfl) List.prefix_rfl rfl rfl (Nat.le_of_ble_eq_true rfl) rfl (dx dX7_day 10 rfl) ?_
          refine r_lstore (ls' := [(0, vr 7 k), (1, vl (sumL (dyF v) S)), (3, vi (nI S)), (4, vl (prodL (facR v (nI S)) (vN v)))]) C (dx dX7_day 11 rfl) (by decide) [1, 2, 3, 0] rfl ?_
          refine r_lload C (dx dX7_day 12 rfl) rfl ?_
          refine r_lconst (v := 0) C (dx dX7_day 13 rfl) rfl ?_
          refine r_lcmp C (dx dX7_day 14 rfl) ?_
          refine r_if_ne (tgt := 30) C (dx dX7_day 15 rfl) (by decide) (fun c2 => ?_) (fun c2 => ?_)
          ·
            have c2 : ¬ (prodL (facR v (nI S)) (vN v) = 0) := fun q => c2 ((lg_cmp_eq _ _).mpr q)
            refine r_aload_n C (dx dX7_day 18 rfl) rfl ?_
            refine r_iload_n C (dx dX7_day 19 rfl) rfl ?_
            refine r_cvP (as := [vi (nI S)]) (st := []) (v := vi (hasP v (nI S))) C X I_X7_hasOf l_X7_247 (e_hasOf hm _) (by decide) (Nat.le_of_ble_eq_true rfl) List.prefix_rfl rfl rfl (Nat.le_of_ble_eq_true rfl) rfl (dx dX7_day 20 rfl) ?_
            refine r_istore (ls' := [(0, vr 7 k), (1, vl (sumL (dyF v) S)), (3, vi (nI S)), (4, vl (prodL (facR v (nI S)) (vN v))), (6, vi (hasP v (nI S)))]) C (dx dX7_day 21 rfl) (by decide) [1, 2, 3, 4, 0] rfl ?_
            by_cases h0 : 0 < prodL (facR v (nI p)) (vN v)
            ·
              refine r_iconst (v := nI 0) C (dx dX7_day 22 rfl) rfl ?_
              refine r_istore (ls' := [(0, vr 7 k), (1, vl (sumL (dyF v) S)), (3, vi (nI S)), (4, vl (prodL (facR v (nI S)) (vN v))), (6, vi (hasP v (nI S))), (7, vi (nI 0))]) C (dx dX7_day 23 rfl) (by decide) [1, 2, 3, 4, 5, 0] rfl ?_
              suffices q9 : Rr G 40 [(0, vr 7 k), (1, vl (sumL (dyF v) p + sumL (dyM v (prodL (facR v (nI p)) (vN v)) (hasP v (nI p))) 0)), (3, vi (nI S)), (4, vl (prodL (facR v (nI S)) (vN v))), (6, vi (hasP v (nI S))), (7, vi (nI 0))] [] h by rw [show sumL (dyM v (prodL (facR v (nI p)) (vN v)) (hasP v (nI p))) 0 = 0 from rfl, Int64.add_zero] at q9; exact q9
              refine loopU (Φ := fun m9 => Rr G 40 [(0, vr 7 k), (1, vl (sumL (dyF v) p + sumL (dyM v (prodL (facR v (nI p)) (vN v)) (hasP v (nI p))) m9)), (3, vi (nI S)), (4, vl (prodL (facR v (nI S)) (vN v))), (6, vi (hasP v (nI S))), (7, vi (nI m9))] [] h) (N := vM v) ?_ ?_ 0 (Nat.zero_le _)
              ·
                refine r_iload C (dx dX7_day 24 rfl) rfl ?_
                refine r_aload_n C (dx dX7_day 25 rfl) rfl ?_
                refine g_X7_71 (x := nI (vM v)) C (dx dX7_day 26 rfl) hm.eM ?_
                refine rn_ge (a := vM v) (b := vM v) (tgt := 95) C (by omega) (by omega) (dx dX7_day 27 rfl) (by decide) (fun c3 => ?_) (fun c3 => ?_)
                · first
                  | (omega; done)
                · first
                  | (omega; done)
              ·
                intro m9 hm9 ihm
                refine r_iload C (dx dX7_day 24 rfl) rfl ?_
                refine r_aload_n C (dx dX7_day 25 rfl) rfl ?_
                refine g_X7_71 (x := nI (vM v)) C (dx dX7_day 26 rfl) hm.eM ?_
                refine rn_ge (a := m9) (b := vM v) (tgt := 95) C (by omega) (by omega) (dx dX7_day 27 rfl) (by decide) (fun c6 => ?_) (fun c6 => ?_)
                · first
                  | (omega; done)
                · first
                  | (omega; done)
                  | (
                      have c6 : m9 < vM v := c6
                      refine r_lload C (dx dX7_day 28 rfl) rfl ?_
                      refine r_lconst (v := 0) C (dx dX7_day 29 rfl) rfl ?_
                      refine r_lcmp C (dx dX7_day 30 rfl) ?_
                      refine r_if_le (tgt := 95) C (dx dX7_day 31 rfl) (by decide) (fun c7 => ?_) (fun c7 => ?_)
                      · exact absurd ((lg_cmp_le _ _).mp c7) (Int64.not_le.mpr h0)
                      ·
                        have c7 : ¬ (prodL (facR v (nI S)) (vN v) ≤ 0) := fun q => c7 ((lg_cmp_le _ _).mpr q)
                        refine r_lload_n C (dx dX7_day 32 rfl) rfl ?_
                        refine r_aload_n C (dx dX7_day 33 rfl) rfl ?_
                        refine g_X7_46 C (dx dX7_day 34 rfl) ?_
                        refine r_iload C (dx dX7_day 35 rfl) rfl ?_
                        refine r_iald (j := m9) (x := vF v 2 m9) C rfl rfl (by decide) rfl (by omega) (dx dX7_day 36 rfl) (hm.e2 (by omega)) ?_
                        refine r_iload C (dx dX7_day 37 rfl) rfl ?_
                        refine r_iconst (v := -1) C (dx dX7_day 38 rfl) rfl ?_
                        refine r_ixor C (dx dX7_day 39 rfl) ?_
                        refine r_iand C (dx dX7_day 40 rfl) ?_
                        refine r_if_ne (tgt := 86) C (dx dX7_day 41 rfl) (by decide) (fun c8 => ?_) (fun c8 => ?_)
                        ·
                          have c8 : ¬ (vF v 2 m9) &&& ((hasP v (nI S)) ^^^ (-1)) = 0 := c8
                          refine r_lconst (v := 0) C (dx dX7_day 50 rfl) rfl ?_
                          refine r_ladd C (dx dX7_day 51 rfl) ?_
                          refine r_lstore_n (ls' := [(0, vr 7 k), (1, vl ((sumL (dyF v) p + sumL (dyM v (prodL (facR v (nI p)) (vN v)) (hasP v (nI p))) m9) + 0)), (3, vi (nI S)), (4, vl (prodL (facR v (nI S)) (vN v))), (6, vi (hasP v (nI S))), (7, vi (nI m9))]) C (dx dX7_day 52 rfl) (by decide) [1, 0, 2, 3, 4, 5] rfl ?_
                          refine rn_iinc (a := m9) (k := 1) (ls' := [(0, vr 7 k), (1, vl ((sumL (dyF v) p + sumL (dyM v (prodL (facR v (nI p)) (vN v)) (hasP v (nI p))) m9) + 0)), (3, vi (nI S)), (4, vl (prodL (facR v (nI S)) (vN v))), (6, vi (hasP v (nI S))), (7, vi (nI (m9 + 1)))]) C (dx dX7_day 53 rfl) rfl rfl (by decide) [1, 2, 3, 4, 5, 0] rfl ?_
                          refine r_goto (tgt := 40) C (dx dX7_day 54 rfl) (by decide) ?_
                          have e9 : ((sumL (dyF v) p + sumL (dyM v (prodL (facR v (nI p)) (vN v)) (hasP v (nI p))) m9) + 0) = (sumL (dyF v) p + sumL (dyM v (prodL (facR v (nI p)) (vN v)) (hasP v (nI p))) (m9 + 1)) := by (show _ = sumL (dyF v) p + (sumL (dyM v (prodL (facR v (nI p)) (vN v)) (hasP v (nI p))) m9 + dyM v (prodL (facR v (nI p)) (vN v)) (hasP v (nI p)) m9); rw [← Int64.add_assoc, dyM_0 c8])
                          rw [e9]
                          exact ihm
                        ·
                          have c8 : (vF v 2 m9) &&& ((hasP v (nI S)) ^^^ (-1)) = 0 := c8
                          refine r_aload_n C (dx dX7_day 42 rfl) rfl ?_
                          refine g_X7_49 C (dx dX7_day 43 rfl) ?_
                          refine r_iload C (dx dX7_day 44 rfl) rfl ?_
                          refine r_iald (j := m9) (x := vF v 3 m9) C rfl rfl (by decide) rfl (by omega) (dx dX7_day 45 rfl) (hm.e3 (by omega)) ?_
                          refine r_i2l C (dx dX7_day 46 rfl) ?_
                          refine r_lload C (dx dX7_day 47 rfl) rfl ?_
                          refine r_lmul C (dx dX7_day 48 rfl) ?_
                          refine r_goto (tgt := 87) C (dx dX7_day 49 rfl) (by decide) ?_
                          refine r_ladd C (dx dX7_day 51 rfl) ?_
                          refine r_lstore_n (ls' := [(0, vr 7 k), (1, vl ((sumL (dyF v) p + sumL (dyM v (prodL (facR v (nI p)) (vN v)) (hasP v (nI p))) m9) + (((vF v 3 m9).toInt64) * (prodL (facR v (nI S)) (vN v))))), (3, vi (nI S)), (4, vl (prodL (facR v (nI S)) (vN v))), (6, vi (hasP v (nI S))), (7, vi (nI m9))]) C (dx dX7_day 52 rfl) (by decide) [1, 0, 2, 3, 4, 5] rfl ?_
                          refine rn_iinc (a := m9) (k := 1) (ls' := [(0, vr 7 k), (1, vl ((sumL (dyF v) p + sumL (dyM v (prodL (facR v (nI p)) (vN v)) (hasP v (nI p))) m9) + (((vF v 3 m9).toInt64) * (prodL (facR v (nI S)) (vN v))))), (3, vi (nI S)), (4, vl (prodL (facR v (nI S)) (vN v))), (6, vi (hasP v (nI S))), (7, vi (nI (m9 + 1)))]) C (dx dX7_day 53 rfl) rfl rfl (by decide) [1, 2, 3, 4, 5, 0] rfl ?_
                          refine r_goto (tgt := 40) C (dx dX7_day 54 rfl) (by decide) ?_
                          have e9 : ((sumL (dyF v) p + sumL (dyM v (prodL (facR v (nI p)) (vN v)) (hasP v (nI p))) m9) + (((vF v 3 m9).toInt64) * (prodL (facR v (nI S)) (vN v)))) = (sumL (dyF v) p + sumL (dyM v (prodL (facR v (nI p)) (vN v)) (hasP v (nI p))) (m9 + 1)) := by (show _ = sumL (dyF v) p + (sumL (dyM v (prodL (facR v (nI p)) (vN v)) (hasP v (nI p))) m9 + dyM v (prodL (facR v (nI p)) (vN v)) (hasP v (nI p)) m9); rw [← Int64.add_assoc, dyM_1 c8])
                          rw [e9]
                          exact ihm)
            ·
              refine r_iconst (v := nI 0) C (dx dX7_day 22 rfl) rfl ?_
              refine r_istore (ls' := [(0, vr 7 k), (1, vl (sumL (dyF v) S)), (3, vi (nI S)), (4, vl (prodL (facR v (nI S)) (vN v))), (6, vi (hasP v (nI S))), (7, vi (nI 0))]) C (dx dX7_day 23 rfl) (by decide) [1, 2, 3, 4, 5, 0] rfl ?_
              refine r_iload C (dx dX7_day 24 rfl) rfl ?_
              refine r_aload_n C (dx dX7_day 25 rfl) rfl ?_
              refine g_X7_71 (x := nI (vM v)) C (dx dX7_day 26 rfl) hm.eM ?_
              refine rn_ge (a := 0) (b := vM v) (tgt := 95) C (by omega) (by omega) (dx dX7_day 27 rfl) (by decide) (fun c9 => ?_) (fun c9 => ?_)
              · first
                | (omega; done)
              · first
                | (omega; done)
          ·
            have c2 : prodL (facR v (nI S)) (vN v) = 0 := (lg_cmp_eq _ _).mp c2
            have dz9 : prodL (facR v (nI p)) (vN v) = 0 := by first | exact c2 | exact Classical.not_not.mp c2
            refine r_iconst (v := nI 0) C (dx dX7_day 16 rfl) rfl ?_
            refine r_goto (tgt := 35) C (dx dX7_day 17 rfl) (by decide) ?_
            refine r_istore (ls' := [(0, vr 7 k), (1, vl (sumL (dyF v) S)), (3, vi (nI S)), (4, vl (prodL (facR v (nI S)) (vN v))), (6, vi (nI 0))]) C (dx dX7_day 21 rfl) (by decide) [1, 2, 3, 4, 0] rfl ?_
            by_cases h0 : 0 < prodL (facR v (nI p)) (vN v)
            ·
              rw [dz9] at h0; exact absurd h0 (by decide)
            ·
              refine r_iconst (v := nI 0) C (dx dX7_day 22 rfl) rfl ?_
              refine r_istore (ls' := [(0, vr 7 k), (1, vl (sumL (dyF v) S)), (3, vi (nI S)), (4, vl (prodL (facR v (nI S)) (vN v))), (6, vi (nI 0)), (7, vi (nI 0))]) C (dx dX7_day 23 rfl) (by decide) [1, 2, 3, 4, 5, 0] rfl ?_
              refine r_iload C (dx dX7_day 24 rfl) rfl ?_
              refine r_aload_n C (dx dX7_day 25 rfl) rfl ?_
              refine g_X7_71 (x := nI (vM v)) C (dx dX7_day 26 rfl) hm.eM ?_
              refine rn_ge (a := 0) (b := vM v) (tgt := 95) C (by omega) (by omega) (dx dX7_day 27 rfl) (by decide) (fun c11 => ?_) (fun c11 => ?_)
              · first
                | (omega; done)
              · first
                | (omega; done))
  ·
    intro p hp ih
    refine r_iload_n C (dx dX7_day 4 rfl) rfl ?_
    refine r_aload_n C (dx dX7_day 5 rfl) rfl ?_
    refine r_cvP (as := []) (st := [vi (nI p)]) (v := vi (nI (S - 1))) C X I_X7_all l_X7_253 (c_mallS hm hS) (by decide) (Nat.le_of_ble_eq_true rfl) List.prefix_rfl rfl rfl (Nat.le_of_ble_eq_true rfl) rfl (dx dX7_day 6 rfl) ?_
    refine rn_gt (a := p) (b := S - 1) (tgt := 101) C (by omega) (by omega) (dx dX7_day 7 rfl) (by decide) (fun c13 => ?_) (fun c13 => ?_)
    · first
      | (omega; done)
      | (
          have c13 : S - 1 < p := c13
          refine r_lload_n C (dx dX7_day 57 rfl) rfl ?_
          exact F.2.1 _ _ _ _ rfl (dx dX7_day 58 rfl) rfl ⟨congrArg (fun x => some (vl x)) (show sumL (dyF v) p = sumL (dyF v) (2 ^ vN v) by rw [hS]), rfl⟩)
    · first
      | (omega; done)
      | (
          have c13 : p ≤ S - 1 := c13
          refine r_aload_n C (dx dX7_day 8 rfl) rfl ?_
          refine r_iload_n C (dx dX7_day 9 rfl) rfl ?_
          refine r_cvP (as := [vi (nI p)]) (st := []) (v := vl (prodL (facR v (nI p)) (vN v))) C X I_X7_oddsOf l_X7_260 (e_oddsOf hm _) (by decide) (Nat.le_of_ble_eq_true rfl) List.prefix_rfl rfl rfl (Nat.le_of_ble_eq_true rfl) rfl (dx dX7_day 10 rfl) ?_
          refine r_lstore (ls' := [(0, vr 7 k), (1, vl (sumL (dyF v) p)), (3, vi (nI p)), (4, vl (prodL (facR v (nI p)) (vN v)))]) C (dx dX7_day 11 rfl) (by decide) [1, 2, 3, 0] rfl ?_
          refine r_lload C (dx dX7_day 12 rfl) rfl ?_
          refine r_lconst (v := 0) C (dx dX7_day 13 rfl) rfl ?_
          refine r_lcmp C (dx dX7_day 14 rfl) ?_
          refine r_if_ne (tgt := 30) C (dx dX7_day 15 rfl) (by decide) (fun c14 => ?_) (fun c14 => ?_)
          ·
            have c14 : ¬ (prodL (facR v (nI p)) (vN v) = 0) := fun q => c14 ((lg_cmp_eq _ _).mpr q)
            refine r_aload_n C (dx dX7_day 18 rfl) rfl ?_
            refine r_iload_n C (dx dX7_day 19 rfl) rfl ?_
            refine r_cvP (as := [vi (nI p)]) (st := []) (v := vi (hasP v (nI p))) C X I_X7_hasOf l_X7_247 (e_hasOf hm _) (by decide) (Nat.le_of_ble_eq_true rfl) List.prefix_rfl rfl rfl (Nat.le_of_ble_eq_true rfl) rfl (dx dX7_day 20 rfl) ?_
            refine r_istore (ls' := [(0, vr 7 k), (1, vl (sumL (dyF v) p)), (3, vi (nI p)), (4, vl (prodL (facR v (nI p)) (vN v))), (6, vi (hasP v (nI p)))]) C (dx dX7_day 21 rfl) (by decide) [1, 2, 3, 4, 0] rfl ?_
            by_cases h0 : 0 < prodL (facR v (nI p)) (vN v)
            ·
              refine r_iconst (v := nI 0) C (dx dX7_day 22 rfl) rfl ?_
              refine r_istore (ls' := [(0, vr 7 k), (1, vl (sumL (dyF v) p)), (3, vi (nI p)), (4, vl (prodL (facR v (nI p)) (vN v))), (6, vi (hasP v (nI p))), (7, vi (nI 0))]) C (dx dX7_day 23 rfl) (by decide) [1, 2, 3, 4, 5, 0] rfl ?_
              suffices q9 : Rr G 40 [(0, vr 7 k), (1, vl (sumL (dyF v) p + sumL (dyM v (prodL (facR v (nI p)) (vN v)) (hasP v (nI p))) 0)), (3, vi (nI p)), (4, vl (prodL (facR v (nI p)) (vN v))), (6, vi (hasP v (nI p))), (7, vi (nI 0))] [] h by rw [show sumL (dyM v (prodL (facR v (nI p)) (vN v)) (hasP v (nI p))) 0 = 0 from rfl, Int64.add_zero] at q9; exact q9
              refine loopU (Φ := fun m9 => Rr G 40 [(0, vr 7 k), (1, vl (sumL (dyF v) p + sumL (dyM v (prodL (facR v (nI p)) (vN v)) (hasP v (nI p))) m9)), (3, vi (nI p)), (4, vl (prodL (facR v (nI p)) (vN v))), (6, vi (hasP v (nI p))), (7, vi (nI m9))] [] h) (N := vM v) ?_ ?_ 0 (Nat.zero_le _)
              ·
                refine r_iload C (dx dX7_day 24 rfl) rfl ?_
                refine r_aload_n C (dx dX7_day 25 rfl) rfl ?_
                refine g_X7_71 (x := nI (vM v)) C (dx dX7_day 26 rfl) hm.eM ?_
                refine rn_ge (a := vM v) (b := vM v) (tgt := 95) C (by omega) (by omega) (dx dX7_day 27 rfl) (by decide) (fun c15 => ?_) (fun c15 => ?_)
                · first
                  | (omega; done)
                  | (
                      have c15 : vM v ≤ vM v := c15
                      refine rn_iinc (a := p) (k := 1) (ls' := [(0, vr 7 k), (1, vl (sumL (dyF v) p + sumL (dyM v (prodL (facR v (nI p)) (vN v)) (hasP v (nI p))) (vM v))), (3, vi (nI (p + 1))), (4, vl (prodL (facR v (nI p)) (vN v))), (6, vi (hasP v (nI p))), (7, vi (nI (vM v)))]) C (dx dX7_day 55 rfl) rfl rfl (by decide) [1, 2, 0, 3, 4, 5] rfl ?_
                      refine r_goto (tgt := 4) C (dx dX7_day 56 rfl) (by decide) ?_
                      have e9 : (sumL (dyF v) p + sumL (dyM v (prodL (facR v (nI p)) (vN v)) (hasP v (nI p))) (vM v)) = (sumL (dyF v) (p + 1)) := by (show sumL (dyF v) p + sumL (dyM v (prodL (facR v (nI p)) (vN v)) (hasP v (nI p))) (vM v) = sumL (dyF v) p + dyF v p; rw [dyF_1 h0])
                      rw [e9]
                      refine r_weak C [0, 1, 2] rfl ?_
                      exact ih)
                · first
                  | (omega; done)
              ·
                intro m9 hm9 ihm
                refine r_iload C (dx dX7_day 24 rfl) rfl ?_
                refine r_aload_n C (dx dX7_day 25 rfl) rfl ?_
                refine g_X7_71 (x := nI (vM v)) C (dx dX7_day 26 rfl) hm.eM ?_
                refine rn_ge (a := m9) (b := vM v) (tgt := 95) C (by omega) (by omega) (dx dX7_day 27 rfl) (by decide) (fun c18 => ?_) (fun c18 => ?_)
                · first
                  | (omega; done)
                · first
                  | (omega; done)
                  | (
                      have c18 : m9 < vM v := c18
                      refine r_lload C (dx dX7_day 28 rfl) rfl ?_
                      refine r_lconst (v := 0) C (dx dX7_day 29 rfl) rfl ?_
                      refine r_lcmp C (dx dX7_day 30 rfl) ?_
                      refine r_if_le (tgt := 95) C (dx dX7_day 31 rfl) (by decide) (fun c19 => ?_) (fun c19 => ?_)
                      · exact absurd ((lg_cmp_le _ _).mp c19) (Int64.not_le.mpr h0)
                      ·
                        have c19 : ¬ (prodL (facR v (nI p)) (vN v) ≤ 0) := fun q => c19 ((lg_cmp_le _ _).mpr q)
                        refine r_lload_n C (dx dX7_day 32 rfl) rfl ?_
                        refine r_aload_n C (dx dX7_day 33 rfl) rfl ?_
                        refine g_X7_46 C (dx dX7_day 34 rfl) ?_
                        refine r_iload C (dx dX7_day 35 rfl) rfl ?_
                        refine r_iald (j := m9) (x := vF v 2 m9) C rfl rfl (by decide) rfl (by omega) (dx dX7_day 36 rfl) (hm.e2 (by omega)) ?_
                        refine r_iload C (dx dX7_day 37 rfl) rfl ?_
                        refine r_iconst (v := -1) C (dx dX7_day 38 rfl) rfl ?_
                        refine r_ixor C (dx dX7_day 39 rfl) ?_
                        refine r_iand C (dx dX7_day 40 rfl) ?_
                        refine r_if_ne (tgt := 86) C (dx dX7_day 41 rfl) (by decide) (fun c20 => ?_) (fun c20 => ?_)
                        ·
                          have c20 : ¬ (vF v 2 m9) &&& ((hasP v (nI p)) ^^^ (-1)) = 0 := c20
                          refine r_lconst (v := 0) C (dx dX7_day 50 rfl) rfl ?_
                          refine r_ladd C (dx dX7_day 51 rfl) ?_
                          refine r_lstore_n (ls' := [(0, vr 7 k), (1, vl ((sumL (dyF v) p + sumL (dyM v (prodL (facR v (nI p)) (vN v)) (hasP v (nI p))) m9) + 0)), (3, vi (nI p)), (4, vl (prodL (facR v (nI p)) (vN v))), (6, vi (hasP v (nI p))), (7, vi (nI m9))]) C (dx dX7_day 52 rfl) (by decide) [1, 0, 2, 3, 4, 5] rfl ?_
                          refine rn_iinc (a := m9) (k := 1) (ls' := [(0, vr 7 k), (1, vl ((sumL (dyF v) p + sumL (dyM v (prodL (facR v (nI p)) (vN v)) (hasP v (nI p))) m9) + 0)), (3, vi (nI p)), (4, vl (prodL (facR v (nI p)) (vN v))), (6, vi (hasP v (nI p))), (7, vi (nI (m9 + 1)))]) C (dx dX7_day 53 rfl) rfl rfl (by decide) [1, 2, 3, 4, 5, 0] rfl ?_
                          refine r_goto (tgt := 40) C (dx dX7_day 54 rfl) (by decide) ?_
                          have e9 : ((sumL (dyF v) p + sumL (dyM v (prodL (facR v (nI p)) (vN v)) (hasP v (nI p))) m9) + 0) = (sumL (dyF v) p + sumL (dyM v (prodL (facR v (nI p)) (vN v)) (hasP v (nI p))) (m9 + 1)) := by (show _ = sumL (dyF v) p + (sumL (dyM v (prodL (facR v (nI p)) (vN v)) (hasP v (nI p))) m9 + dyM v (prodL (facR v (nI p)) (vN v)) (hasP v (nI p)) m9); rw [← Int64.add_assoc, dyM_0 c20])
                          rw [e9]
                          exact ihm
                        ·
                          have c20 : (vF v 2 m9) &&& ((hasP v (nI p)) ^^^ (-1)) = 0 := c20
                          refine r_aload_n C (dx dX7_day 42 rfl) rfl ?_
                          refine g_X7_49 C (dx dX7_day 43 rfl) ?_
                          refine r_iload C (dx dX7_day 44 rfl) rfl ?_
                          refine r_iald (j := m9) (x := vF v 3 m9) C rfl rfl (by decide) rfl (by omega) (dx dX7_day 45 rfl) (hm.e3 (by omega)) ?_
                          refine r_i2l C (dx dX7_day 46 rfl) ?_
                          refine r_lload C (dx dX7_day 47 rfl) rfl ?_
                          refine r_lmul C (dx dX7_day 48 rfl) ?_
                          refine r_goto (tgt := 87) C (dx dX7_day 49 rfl) (by decide) ?_
                          refine r_ladd C (dx dX7_day 51 rfl) ?_
                          refine r_lstore_n (ls' := [(0, vr 7 k), (1, vl ((sumL (dyF v) p + sumL (dyM v (prodL (facR v (nI p)) (vN v)) (hasP v (nI p))) m9) + (((vF v 3 m9).toInt64) * (prodL (facR v (nI p)) (vN v))))), (3, vi (nI p)), (4, vl (prodL (facR v (nI p)) (vN v))), (6, vi (hasP v (nI p))), (7, vi (nI m9))]) C (dx dX7_day 52 rfl) (by decide) [1, 0, 2, 3, 4, 5] rfl ?_
                          refine rn_iinc (a := m9) (k := 1) (ls' := [(0, vr 7 k), (1, vl ((sumL (dyF v) p + sumL (dyM v (prodL (facR v (nI p)) (vN v)) (hasP v (nI p))) m9) + (((vF v 3 m9).toInt64) * (prodL (facR v (nI p)) (vN v))))), (3, vi (nI p)), (4, vl (prodL (facR v (nI p)) (vN v))), (6, vi (hasP v (nI p))), (7, vi (nI (m9 + 1)))]) C (dx dX7_day 53 rfl) rfl rfl (by decide) [1, 2, 3, 4, 5, 0] rfl ?_
                          refine r_goto (tgt := 40) C (dx dX7_day 54 rfl) (by decide) ?_
                          have e9 : ((sumL (dyF v) p + sumL (dyM v (prodL (facR v (nI p)) (vN v)) (hasP v (nI p))) m9) + (((vF v 3 m9).toInt64) * (prodL (facR v (nI p)) (vN v)))) = (sumL (dyF v) p + sumL (dyM v (prodL (facR v (nI p)) (vN v)) (hasP v (nI p))) (m9 + 1)) := by (show _ = sumL (dyF v) p + (sumL (dyM v (prodL (facR v (nI p)) (vN v)) (hasP v (nI p))) m9 + dyM v (prodL (facR v (nI p)) (vN v)) (hasP v (nI p)) m9); rw [← Int64.add_assoc, dyM_1 c20])
                          rw [e9]
                          exact ihm)
            ·
              refine r_iconst (v := nI 0) C (dx dX7_day 22 rfl) rfl ?_
              refine r_istore (ls' := [(0, vr 7 k), (1, vl (sumL (dyF v) p)), (3, vi (nI p)), (4, vl (prodL (facR v (nI p)) (vN v))), (6, vi (hasP v (nI p))), (7, vi (nI 0))]) C (dx dX7_day 23 rfl) (by decide) [1, 2, 3, 4, 5, 0] rfl ?_
              refine r_iload C (dx dX7_day 24 rfl) rfl ?_
              refine r_aload_n C (dx dX7_day 25 rfl) rfl ?_
              refine g_X7_71 (x := nI (vM v)) C (dx dX7_day 26 rfl) hm.eM ?_
              refine rn_ge (a := 0) (b := vM v) (tgt := 95) C (by omega) (by omega) (dx dX7_day 27 rfl) (by decide) (fun c21 => ?_) (fun c21 => ?_)
              · first
                | (omega; done)
                | (
                    have c21 : vM v ≤ 0 := c21
                    refine rn_iinc (a := p) (k := 1) (ls' := [(0, vr 7 k), (1, vl (sumL (dyF v) p)), (3, vi (nI (p + 1))), (4, vl (prodL (facR v (nI p)) (vN v))), (6, vi (hasP v (nI p))), (7, vi (nI 0))]) C (dx dX7_day 55 rfl) rfl rfl (by decide) [1, 2, 0, 3, 4, 5] rfl ?_
                    refine r_goto (tgt := 4) C (dx dX7_day 56 rfl) (by decide) ?_
                    have e9 : (sumL (dyF v) p) = (sumL (dyF v) (p + 1)) := by (show _ = sumL (dyF v) p + dyF v p; rw [dyF_0 h0, Int64.add_zero])
                    rw [e9]
                    refine r_weak C [0, 1, 2] rfl ?_
                    exact ih)
              · first
                | (omega; done)
                | (
                    have c21 : 0 < vM v := c21
                    refine r_lload C (dx dX7_day 28 rfl) rfl ?_
                    refine r_lconst (v := 0) C (dx dX7_day 29 rfl) rfl ?_
                    refine r_lcmp C (dx dX7_day 30 rfl) ?_
                    refine r_if_le (tgt := 95) C (dx dX7_day 31 rfl) (by decide) (fun c22 => ?_) (fun c22 => ?_)
                    ·
                      have c22 : prodL (facR v (nI p)) (vN v) ≤ 0 := (lg_cmp_le _ _).mp c22
                      refine rn_iinc (a := p) (k := 1) (ls' := [(0, vr 7 k), (1, vl (sumL (dyF v) p)), (3, vi (nI (p + 1))), (4, vl (prodL (facR v (nI p)) (vN v))), (6, vi (hasP v (nI p))), (7, vi (nI 0))]) C (dx dX7_day 55 rfl) rfl rfl (by decide) [1, 2, 0, 3, 4, 5] rfl ?_
                      refine r_goto (tgt := 4) C (dx dX7_day 56 rfl) (by decide) ?_
                      have e9 : (sumL (dyF v) p) = (sumL (dyF v) (p + 1)) := by (show _ = sumL (dyF v) p + dyF v p; rw [dyF_0 h0, Int64.add_zero])
                      rw [e9]
                      refine r_weak C [0, 1, 2] rfl ?_
                      exact ih
                    · exact (c22 ((lg_cmp_le _ _).mpr (Int64.not_lt.mp h0))).elim)
          ·
            have c14 : prodL (facR v (nI p)) (vN v) = 0 := (lg_cmp_eq _ _).mp c14
            have dz9 : prodL (facR v (nI p)) (vN v) = 0 := by first | exact c14 | exact Classical.not_not.mp c14
            refine r_iconst (v := nI 0) C (dx dX7_day 16 rfl) rfl ?_
            refine r_goto (tgt := 35) C (dx dX7_day 17 rfl) (by decide) ?_
            refine r_istore (ls' := [(0, vr 7 k), (1, vl (sumL (dyF v) p)), (3, vi (nI p)), (4, vl (prodL (facR v (nI p)) (vN v))), (6, vi (nI 0))]) C (dx dX7_day 21 rfl) (by decide) [1, 2, 3, 4, 0] rfl ?_
            by_cases h0 : 0 < prodL (facR v (nI p)) (vN v)
            ·
              rw [dz9] at h0; exact absurd h0 (by decide)
            ·
              refine r_iconst (v := nI 0) C (dx dX7_day 22 rfl) rfl ?_
              refine r_istore (ls' := [(0, vr 7 k), (1, vl (sumL (dyF v) p)), (3, vi (nI p)), (4, vl (prodL (facR v (nI p)) (vN v))), (6, vi (nI 0)), (7, vi (nI 0))]) C (dx dX7_day 23 rfl) (by decide) [1, 2, 3, 4, 5, 0] rfl ?_
              refine r_iload C (dx dX7_day 24 rfl) rfl ?_
              refine r_aload_n C (dx dX7_day 25 rfl) rfl ?_
              refine g_X7_71 (x := nI (vM v)) C (dx dX7_day 26 rfl) hm.eM ?_
              refine rn_ge (a := 0) (b := vM v) (tgt := 95) C (by omega) (by omega) (dx dX7_day 27 rfl) (by decide) (fun c23 => ?_) (fun c23 => ?_)
              · first
                | (omega; done)
                | (
                    have c23 : vM v ≤ 0 := c23
                    refine rn_iinc (a := p) (k := 1) (ls' := [(0, vr 7 k), (1, vl (sumL (dyF v) p)), (3, vi (nI (p + 1))), (4, vl (prodL (facR v (nI p)) (vN v))), (6, vi (nI 0)), (7, vi (nI 0))]) C (dx dX7_day 55 rfl) rfl rfl (by decide) [1, 2, 0, 3, 4, 5] rfl ?_
                    refine r_goto (tgt := 4) C (dx dX7_day 56 rfl) (by decide) ?_
                    have e9 : (sumL (dyF v) p) = (sumL (dyF v) (p + 1)) := by (show _ = sumL (dyF v) p + dyF v p; rw [dyF_0 h0, Int64.add_zero])
                    rw [e9]
                    refine r_weak C [0, 1, 2] rfl ?_
                    exact ih)
              · first
                | (omega; done)
                | (
                    have c23 : 0 < vM v := c23
                    refine r_lload C (dx dX7_day 28 rfl) rfl ?_
                    refine r_lconst (v := 0) C (dx dX7_day 29 rfl) rfl ?_
                    refine r_lcmp C (dx dX7_day 30 rfl) ?_
                    refine r_if_le (tgt := 95) C (dx dX7_day 31 rfl) (by decide) (fun c24 => ?_) (fun c24 => ?_)
                    ·
                      have c24 : prodL (facR v (nI p)) (vN v) ≤ 0 := (lg_cmp_le _ _).mp c24
                      refine rn_iinc (a := p) (k := 1) (ls' := [(0, vr 7 k), (1, vl (sumL (dyF v) p)), (3, vi (nI (p + 1))), (4, vl (prodL (facR v (nI p)) (vN v))), (6, vi (nI 0)), (7, vi (nI 0))]) C (dx dX7_day 55 rfl) rfl rfl (by decide) [1, 2, 0, 3, 4, 5] rfl ?_
                      refine r_goto (tgt := 4) C (dx dX7_day 56 rfl) (by decide) ?_
                      have e9 : (sumL (dyF v) p) = (sumL (dyF v) (p + 1)) := by (show _ = sumL (dyF v) p + dyF v p; rw [dyF_0 h0, Int64.add_zero])
                      rw [e9]
                      refine r_weak C [0, 1, 2] rfl ?_
                      exact ih
                    · exact (c24 ((lg_cmp_le _ _).mpr (Int64.not_lt.mp h0))).elim))
set_option maxHeartbeats 4000000 in
theorem e_bits {l : Launch} {h : Hp} {a : Nat} (ha : a < 4096) : Mp l yX7_bits cX7_bits 3 (some .int) 1 [vi (nI a)] h (vi (nI (pcn a))) := by
  refine Ms.of (by decide) (Nat.le_of_ble_eq_true rfl) (fun G C X F => ?_)
  have C : Cx G cX7_bits 3 RX7 := C
  show Rr G 0 [(0, vi (nI a))] [] h
  refine r_iconst (v := nI 0) C (dx dX7_bits 0 rfl) rfl ?_
  refine r_istore_n (ls' := [(0, vi (nI a)), (1, vi (nI 0))]) C (dx dX7_bits 1 rfl) (by decide) [1, 0] rfl ?_
  refine r_iconst (v := nI 0) C (dx dX7_bits 2 rfl) rfl ?_
  refine r_istore_n (ls' := [(0, vi (nI a)), (1, vi (nI 0)), (2, vi (nI 0))]) C (dx dX7_bits 3 rfl) (by decide) [1, 2, 0] rfl ?_
  refine loopU (Φ := fun p => Rr G 4 [(0, vi (nI a)), (1, vi (nI (bcN a p))), (2, vi (nI p))] [] h) (N := 12) ?_ ?_ 0 (Nat.zero_le _)
  ·
    refine r_iload_n C (dx dX7_bits 4 rfl) rfl ?_
    refine r_bipush (v := nI 12) C (dx dX7_bits 5 rfl) rfl ?_
    refine rn_ge (a := 12) (b := 12) (tgt := 24) C (by omega) (by omega) (dx dX7_bits 6 rfl) (by decide) (fun c1 => ?_) (fun c1 => ?_)
    · first
      | (omega; done)
      | (
          have c1 : 12 ≤ 12 := c1
          refine r_iload_n C (dx dX7_bits 17 rfl) rfl ?_
          exact F.1 _ _ _ _ _ rfl rfl (dx dX7_bits 18 rfl) rfl ⟨congrArg (fun x => some (vi x)) (show nI (bcN a 12) = nI (pcn a) by (congr 1; simp [bcN, pcn])), rfl⟩)
    · first
      | (omega; done)
  ·
    intro p hp ih
    refine r_iload_n C (dx dX7_bits 4 rfl) rfl ?_
    refine r_bipush (v := nI 12) C (dx dX7_bits 5 rfl) rfl ?_
    refine rn_ge (a := p) (b := 12) (tgt := 24) C (by omega) (by omega) (dx dX7_bits 6 rfl) (by decide) (fun c2 => ?_) (fun c2 => ?_)
    · first
      | (omega; done)
      | (
          have c2 : 12 ≤ p := c2
          refine r_iload_n C (dx dX7_bits 17 rfl) rfl ?_
          exact F.1 _ _ _ _ _ rfl rfl (dx dX7_bits 18 rfl) rfl ⟨congrArg (fun x => some (vi x)) (show nI (bcN a p) = nI (pcn a) by (congr 1; simp [bcN, pcn])), rfl⟩)
    · first
      | (omega; done)
      | (
          have c2 : p < 12 := c2
          refine r_iload_n C (dx dX7_bits 7 rfl) rfl ?_
          refine r_iload_n C (dx dX7_bits 8 rfl) rfl ?_
          refine r_iload_n C (dx dX7_bits 9 rfl) rfl ?_
          refine r_ishr C (dx dX7_bits 10 rfl) ?_
          refine r_iconst (v := nI 1) C (dx dX7_bits 11 rfl) rfl ?_
          refine r_iand C (dx dX7_bits 12 rfl) ?_
          rw [shr_and (by omega) hp]
          refine rn_iadd (a := bcN a p) (b := a >>> p &&& 1) C (dx dX7_bits 13 rfl) ?_
          refine r_istore_n (ls' := [(0, vi (nI a)), (1, vi (nI (bcN a p + (a >>> p &&& 1)))), (2, vi (nI p))]) C (dx dX7_bits 14 rfl) (by decide) [1, 0, 2] rfl ?_
          refine rn_iinc (a := p) (k := 1) (ls' := [(0, vi (nI a)), (1, vi (nI (bcN a p + (a >>> p &&& 1)))), (2, vi (nI (p + 1)))]) C (dx dX7_bits 15 rfl) rfl rfl (by decide) [1, 2, 0] rfl ?_
          refine r_goto (tgt := 4) C (dx dX7_bits 16 rfl) (by decide) ?_
          have e9 : (nI (bcN a p + (a >>> p &&& 1))) = (nI (bcN a (p + 1))) := by rfl
          rw [e9]
          exact ih)
set_option maxHeartbeats 4000000 in
theorem e_orders {l : Launch} {h : Hp} {n : Nat} (h2 : 1 ≤ n) (hn : n ≤ 12) : Mp l yX7_orders cX7_orders 3 (some .int) 1 [vi (nI n)] h (vi (nI (fct n))) := by
  refine Ms.of (by decide) (Nat.le_of_ble_eq_true rfl) (fun G C X F => ?_)
  have C : Cx G cX7_orders 3 RX7 := C
  show Rr G 0 [(0, vi (nI n))] [] h
  refine r_iconst (v := nI 1) C (dx dX7_orders 0 rfl) rfl ?_
  refine r_istore_n (ls' := [(0, vi (nI n)), (1, vi (nI 1))]) C (dx dX7_orders 1 rfl) (by decide) [1, 0] rfl ?_
  refine r_iconst (v := nI 2) C (dx dX7_orders 2 rfl) rfl ?_
  refine r_istore_n (ls' := [(0, vi (nI n)), (1, vi (nI 1)), (2, vi (nI 2))]) C (dx dX7_orders 3 rfl) (by decide) [1, 2, 0] rfl ?_
  suffices q9 : Rr G 4 [(0, vi (nI n)), (1, vi (nI (fct (0 + 1)))), (2, vi (nI (0 + 2)))] [] h by exact q9
  refine loopU (Φ := fun p => Rr G 4 [(0, vi (nI n)), (1, vi (nI (fct (p + 1)))), (2, vi (nI (p + 2)))] [] h) (N := n - 1) ?_ ?_ 0 (Nat.zero_le _)
  ·
    refine r_iload_n C (dx dX7_orders 4 rfl) rfl ?_
    refine r_iload_n C (dx dX7_orders 5 rfl) rfl ?_
    refine rn_gt (a := (n - 1) + 2) (b := n) (tgt := 19) C (by omega) (by omega) (dx dX7_orders 6 rfl) (by decide) (fun c1 => ?_) (fun c1 => ?_)
    · first
      | (omega; done)
      | (
          have c1 : n < (n - 1) + 2 := c1
          refine r_iload_n C (dx dX7_orders 13 rfl) rfl ?_
          exact F.1 _ _ _ _ _ rfl rfl (dx dX7_orders 14 rfl) rfl ⟨congrArg (fun x => some (vi x)) (show nI (fct ((n - 1) + 1)) = nI (fct n) by rw [show n - 1 + 1 = n by omega]), rfl⟩)
    · first
      | (omega; done)
  ·
    intro p hp ih
    refine r_iload_n C (dx dX7_orders 4 rfl) rfl ?_
    refine r_iload_n C (dx dX7_orders 5 rfl) rfl ?_
    refine rn_gt (a := p + 2) (b := n) (tgt := 19) C (by omega) (by omega) (dx dX7_orders 6 rfl) (by decide) (fun c2 => ?_) (fun c2 => ?_)
    · first
      | (omega; done)
      | (
          have c2 : n < p + 2 := c2
          refine r_iload_n C (dx dX7_orders 13 rfl) rfl ?_
          exact F.1 _ _ _ _ _ rfl rfl (dx dX7_orders 14 rfl) rfl ⟨congrArg (fun x => some (vi x)) (show nI (fct (p + 1)) = nI (fct n) by rw [show n - 1 + 1 = n by omega]), rfl⟩)
    · first
      | (omega; done)
      | (
          have c2 : p + 2 ≤ n := c2
          refine r_iload_n C (dx dX7_orders 7 rfl) rfl ?_
          refine r_iload_n C (dx dX7_orders 8 rfl) rfl ?_
          refine rn_imul (a := fct (p + 1)) (b := p + 2) C (dx dX7_orders 9 rfl) ?_
          refine r_istore_n (ls' := [(0, vi (nI n)), (1, vi (nI ((fct (p + 1)) * (p + 2)))), (2, vi (nI (p + 2)))]) C (dx dX7_orders 10 rfl) (by decide) [1, 0, 2] rfl ?_
          refine rn_iinc (a := p + 2) (k := 1) (ls' := [(0, vi (nI n)), (1, vi (nI ((fct (p + 1)) * (p + 2)))), (2, vi (nI (p + 2 + 1)))]) C (dx dX7_orders 11 rfl) rfl rfl (by decide) [1, 2, 0] rfl ?_
          refine r_goto (tgt := 4) C (dx dX7_orders 12 rfl) (by decide) ?_
          have e9 : (nI ((fct (p + 1)) * (p + 2))) = nI (fct (p + 2)) := by rw [show fct (p + 1) * (p + 2) = fct (p + 2) by rw [Nat.mul_comm]; rfl]
          rw [e9]
          exact ih)
set_option maxHeartbeats 4000000 in
theorem e_ord0 {l : Launch} {h : Hp} : Mp l yX7_orders cX7_orders 3 (some .int) 1 [vi (nI 0)] h (vi (nI (fct 0))) := by
  refine Ms.of (by decide) (Nat.le_of_ble_eq_true rfl) (fun G C X F => ?_)
  have C : Cx G cX7_orders 3 RX7 := C
  show Rr G 0 [(0, vi (nI 0))] [] h
  refine r_iconst (v := nI 1) C (dx dX7_orders 0 rfl) rfl ?_
  refine r_istore_n (ls' := [(0, vi (nI 0)), (1, vi (nI 1))]) C (dx dX7_orders 1 rfl) (by decide) [1, 0] rfl ?_
  refine r_iconst (v := nI 2) C (dx dX7_orders 2 rfl) rfl ?_
  refine r_istore_n (ls' := [(0, vi (nI 0)), (1, vi (nI 1)), (2, vi (nI 2))]) C (dx dX7_orders 3 rfl) (by decide) [1, 2, 0] rfl ?_
  refine r_iload_n C (dx dX7_orders 4 rfl) rfl ?_
  refine r_iload_n C (dx dX7_orders 5 rfl) rfl ?_
  refine rn_gt (a := 2) (b := 0) (tgt := 19) C (by omega) (by omega) (dx dX7_orders 6 rfl) (by decide) (fun c1 => ?_) (fun c1 => ?_)
  ·
    have c1 : 0 < 2 := c1
    refine r_iload_n C (dx dX7_orders 13 rfl) rfl ?_
    exact F.1 _ _ _ _ _ rfl rfl (dx dX7_orders 14 rfl) rfl ⟨congrArg (fun x => some (vi x)) (show nI 1 = nI (fct 0) by rfl), rfl⟩
  · omega
theorem e_ord {l : Launch} {h : Hp} {n : Nat} (hn : n ≤ 12) : Mp l yX7_orders cX7_orders 3 (some .int) 1 [vi (nI n)] h (vi (nI (fct n))) := by
  rcases Nat.eq_zero_or_pos n with rfl | q
  · exact e_ord0
  · exact e_orders q hn
set_option maxHeartbeats 4000000 in
theorem e_powerOf {l : Launch} {h : Hp} {k : Nat} {v : Vg} (hm : MilAt h k v) {m o : Nat} (hj : m < vM v) (ho : o < vN v) : Mp l yX7_powerOf cX7_powerOf 5 (some .int) 4 [vr 7 k, vi (nI m), vi (nI o)] h (vi (sumIf (pwP v m o) (turnF v) (2 ^ vN v))) := by
  refine Ms.of (by decide) (Nat.le_of_ble_eq_true rfl) (fun G C X F => ?_)
  have C : Cx G cX7_powerOf 5 RX7 := C
  show Rr G 0 [(0, vr 7 k), (1, vi (nI m)), (2, vi (nI o))] [] h
  have bP := hm.bP
  have bM := hm.bM
  have bN := hm.bN
  obtain ⟨S, hS⟩ : ∃ S, S = 2 ^ vN v := ⟨_, rfl⟩
  have p8 := pow8 bN
  rw [← hS] at p8
  refine r_iconst (v := nI 0) C (dx dX7_powerOf 0 rfl) rfl ?_
  refine r_istore_n (ls' := [(0, vr 7 k), (1, vi (nI m)), (2, vi (nI o)), (3, vi (nI 0))]) C (dx dX7_powerOf 1 rfl) (by decide) [1, 2, 3, 0] rfl ?_
  refine r_iconst (v := nI 0) C (dx dX7_powerOf 2 rfl) rfl ?_
  refine r_istore (ls' := [(0, vr 7 k), (1, vi (nI m)), (2, vi (nI o)), (3, vi (nI 0)), (4, vi (nI 0))]) C (dx dX7_powerOf 3 rfl) (by decide) [1, 2, 3, 4, 0] rfl ?_
  refine loopU (Φ := fun p => Rr G 5 [(0, vr 7 k), (1, vi (nI m)), (2, vi (nI o)), (3, vi (sumIf (pwP v m o) (turnF v) p)), (4, vi (nI p))] [] h) (N := S) ?_ ?_ 0 (Nat.zero_le _)
  ·
    refine r_iload C (dx dX7_powerOf 4 rfl) rfl ?_
    refine r_aload_n C (dx dX7_powerOf 5 rfl) rfl ?_
    refine r_cvP (as := []) (st := [vi (nI S)]) (v := vi (nI (S - 1))) C X I_X7_all l_X7_253 (c_mallS hm hS) (by decide) (Nat.le_of_ble_eq_true rfl) List.prefix_rfl rfl rfl (Nat.le_of_ble_eq_true rfl) rfl (dx dX7_powerOf 6 rfl) ?_
    refine rn_gt (a := S) (b := S - 1) (tgt := 80) C (by omega) (by omega) (dx dX7_powerOf 7 rfl) (by decide) (fun c1 => ?_) (fun c1 => ?_)
    · first
      | (omega; done)
      | (
          have c1 : S - 1 < S := c1
          refine r_iload_n C (dx dX7_powerOf 43 rfl) rfl ?_
          exact F.1 _ _ _ _ _ rfl rfl (dx dX7_powerOf 44 rfl) rfl ⟨congrArg (fun x => some (vi x)) (show sumIf (pwP v m o) (turnF v) S = sumIf (pwP v m o) (turnF v) (2 ^ vN v) by rw [hS]), rfl⟩)
    · first
      | (omega; done)
  ·
    intro p hp ih
    refine r_iload C (dx dX7_powerOf 4 rfl) rfl ?_
    refine r_aload_n C (dx dX7_powerOf 5 rfl) rfl ?_
    refine r_cvP (as := []) (st := [vi (nI p)]) (v := vi (nI (S - 1))) C X I_X7_all l_X7_253 (c_mallS hm hS) (by decide) (Nat.le_of_ble_eq_true rfl) List.prefix_rfl rfl rfl (Nat.le_of_ble_eq_true rfl) rfl (dx dX7_powerOf 6 rfl) ?_
    refine rn_gt (a := p) (b := S - 1) (tgt := 80) C (by omega) (by omega) (dx dX7_powerOf 7 rfl) (by decide) (fun c3 => ?_) (fun c3 => ?_)
    · first
      | (omega; done)
      | (
          have c3 : S - 1 < p := c3
          refine r_iload_n C (dx dX7_powerOf 43 rfl) rfl ?_
          exact F.1 _ _ _ _ _ rfl rfl (dx dX7_powerOf 44 rfl) rfl ⟨congrArg (fun x => some (vi x)) (show sumIf (pwP v m o) (turnF v) p = sumIf (pwP v m o) (turnF v) (2 ^ vN v) by rw [hS]), rfl⟩)
    · first
      | (omega; done)
      | (
          have c3 : p ≤ S - 1 := c3
          refine r_iload C (dx dX7_powerOf 8 rfl) rfl ?_
          refine r_iload_n C (dx dX7_powerOf 9 rfl) rfl ?_
          refine r_csP (as := [vi (nI p), vi (nI o)]) (st := []) (v := vi (b2i (inB (nI p) (nI o)))) C X I_X7_isIn l_X7_244 (e_isIn _ _) (by decide) (Nat.le_of_ble_eq_true rfl) List.prefix_rfl (Nat.le_of_ble_eq_true rfl) rfl (dx dX7_powerOf 10 rfl) ?_
          refine rb_ne (b := inB (nI p) (nI o)) (tgt := 74) C (dx dX7_powerOf 11 rfl) (by decide) (fun c4 => ?_) (fun c4 => ?_)
          ·
            have c4 : (inB (nI p) (nI o)) = true := c4
            refine rn_iinc (a := p) (k := 1) (ls' := [(0, vr 7 k), (1, vi (nI m)), (2, vi (nI o)), (3, vi (sumIf (pwP v m o) (turnF v) p)), (4, vi (nI (p + 1)))]) C (dx dX7_powerOf 41 rfl) rfl rfl (by decide) [1, 2, 3, 4, 0] rfl ?_
            refine r_goto (tgt := 5) C (dx dX7_powerOf 42 rfl) (by decide) ?_
            have e9 : (sumIf (pwP v m o) (turnF v) p) = (sumIf (pwP v m o) (turnF v) (p + 1)) := by (show _ = (if pwP v m o p = true then sumIf (pwP v m o) (turnF v) p + turnF v p else sumIf (pwP v m o) (turnF v) p); rw [if_neg (by unfold pwP; simp [c3, c4])])
            rw [e9]
            exact ih
          ·
            have c4 : (inB (nI p) (nI o)) = false := c4
            have lp9 : pcn p ≤ vN v - 1 := pcn_no ho bN (by omega) (by rw [← inB_N (by omega)]; exact c4)
            refine r_aload_n C (dx dX7_powerOf 12 rfl) rfl ?_
            refine r_iload_n C (dx dX7_powerOf 13 rfl) rfl ?_
            refine r_iload C (dx dX7_powerOf 14 rfl) rfl ?_
            refine r_cvP (as := [vi (nI m), vi (nI p)]) (st := []) (v := vi (b2i (needW v (hasP v (nI p)) m))) C X I_X7_worksOf l_X7_250 (e_worksOf hm (m := m) (by omega) _) (by decide) (Nat.le_of_ble_eq_true rfl) List.prefix_rfl rfl rfl (Nat.le_of_ble_eq_true rfl) rfl (dx dX7_powerOf 15 rfl) ?_
            refine rb_ne (b := needW v (hasP v (nI p)) m) (tgt := 74) C (dx dX7_powerOf 16 rfl) (by decide) (fun c5 => ?_) (fun c5 => ?_)
            ·
              have c5 : (needW v (hasP v (nI p)) m) = true := c5
              refine rn_iinc (a := p) (k := 1) (ls' := [(0, vr 7 k), (1, vi (nI m)), (2, vi (nI o)), (3, vi (sumIf (pwP v m o) (turnF v) p)), (4, vi (nI (p + 1)))]) C (dx dX7_powerOf 41 rfl) rfl rfl (by decide) [1, 2, 3, 4, 0] rfl ?_
              refine r_goto (tgt := 5) C (dx dX7_powerOf 42 rfl) (by decide) ?_
              have e9 : (sumIf (pwP v m o) (turnF v) p) = (sumIf (pwP v m o) (turnF v) (p + 1)) := by (show _ = (if pwP v m o p = true then sumIf (pwP v m o) (turnF v) p + turnF v p else sumIf (pwP v m o) (turnF v) p); rw [if_neg (by unfold pwP; simp [c3, c4, c5])])
              rw [e9]
              exact ih
            ·
              have c5 : (needW v (hasP v (nI p)) m) = false := c5
              refine r_aload_n C (dx dX7_powerOf 17 rfl) rfl ?_
              refine r_iload_n C (dx dX7_powerOf 18 rfl) rfl ?_
              refine r_iload C (dx dX7_powerOf 19 rfl) rfl ?_
              refine r_iconst (v := nI 1) C (dx dX7_powerOf 20 rfl) rfl ?_
              refine r_iload_n C (dx dX7_powerOf 21 rfl) rfl ?_
              refine r_ishl C (dx dX7_powerOf 22 rfl) ?_
              refine r_ior C (dx dX7_powerOf 23 rfl) ?_
              refine r_cvP (as := [vi (nI m), vi ((nI p) ||| ((nI 1) <<< ((nI o) &&& 31)))]) (st := []) (v := vi (b2i (needW v (hasP v ((nI p) ||| ((nI 1) <<< ((nI o) &&& 31)))) m))) C X I_X7_worksOf l_X7_250 (e_worksOf hm (m := m) (by omega) _) (by decide) (Nat.le_of_ble_eq_true rfl) List.prefix_rfl rfl rfl (Nat.le_of_ble_eq_true rfl) rfl (dx dX7_powerOf 24 rfl) ?_
              refine rb_eq (b := needW v (hasP v ((nI p) ||| ((nI 1) <<< ((nI o) &&& 31)))) m) (tgt := 74) C (dx dX7_powerOf 25 rfl) (by decide) (fun c6 => ?_) (fun c6 => ?_)
              ·
                have c6 : (needW v (hasP v ((nI p) ||| ((nI 1) <<< ((nI o) &&& 31)))) m) = false := c6
                refine rn_iinc (a := p) (k := 1) (ls' := [(0, vr 7 k), (1, vi (nI m)), (2, vi (nI o)), (3, vi (sumIf (pwP v m o) (turnF v) p)), (4, vi (nI (p + 1)))]) C (dx dX7_powerOf 41 rfl) rfl rfl (by decide) [1, 2, 3, 4, 0] rfl ?_
                refine r_goto (tgt := 5) C (dx dX7_powerOf 42 rfl) (by decide) ?_
                have e9 : (sumIf (pwP v m o) (turnF v) p) = (sumIf (pwP v m o) (turnF v) (p + 1)) := by (show _ = (if pwP v m o p = true then sumIf (pwP v m o) (turnF v) p + turnF v p else sumIf (pwP v m o) (turnF v) p); rw [if_neg (by unfold pwP; simp [c3, c4, c5, c6])])
                rw [e9]
                exact ih
              ·
                have c6 : (needW v (hasP v ((nI p) ||| ((nI 1) <<< ((nI o) &&& 31)))) m) = true := c6
                refine r_iload_n C (dx dX7_powerOf 26 rfl) rfl ?_
                refine r_iload C (dx dX7_powerOf 27 rfl) rfl ?_
                refine r_csP (as := [vi (nI p)]) (st := [vi (sumIf (pwP v m o) (turnF v) p)]) (v := vi (nI (pcn p))) C X I_X7_bits l_X7_268 (e_bits (a := p) (by omega)) (by decide) (Nat.le_of_ble_eq_true rfl) List.prefix_rfl (Nat.le_of_ble_eq_true rfl) rfl (dx dX7_powerOf 28 rfl) ?_
                refine r_csP (as := [vi (nI (pcn p))]) (st := [vi (sumIf (pwP v m o) (turnF v) p)]) (v := vi (nI (fct (pcn p)))) C X I_X7_orders l_X7_271 (e_ord (n := pcn p) (by omega)) (by decide) (Nat.le_of_ble_eq_true rfl) List.prefix_rfl (Nat.le_of_ble_eq_true rfl) rfl (dx dX7_powerOf 29 rfl) ?_
                refine r_aload_n C (dx dX7_powerOf 30 rfl) rfl ?_
                refine g_X7_74 (x := nI (vN v)) C (dx dX7_powerOf 31 rfl) hm.eN ?_
                refine r_iconst (v := nI 1) C (dx dX7_powerOf 32 rfl) rfl ?_
                refine rn_isub (a := vN v) (b := 1) C (by omega) (dx dX7_powerOf 33 rfl) ?_
                refine r_iload C (dx dX7_powerOf 34 rfl) rfl ?_
                refine r_csP (as := [vi (nI p)]) (st := [vi (nI (vN v - 1)), vi (nI (fct (pcn p))), vi (sumIf (pwP v m o) (turnF v) p)]) (v := vi (nI (pcn p))) C X I_X7_bits l_X7_268 (e_bits (a := p) (by omega)) (by decide) (Nat.le_of_ble_eq_true rfl) List.prefix_rfl (Nat.le_of_ble_eq_true rfl) rfl (dx dX7_powerOf 35 rfl) ?_
                refine rn_isub (a := vN v - 1) (b := pcn p) C (by omega) (dx dX7_powerOf 36 rfl) ?_
                refine r_csP (as := [vi (nI (vN v - 1 - (pcn p)))]) (st := [vi (nI (fct (pcn p))), vi (sumIf (pwP v m o) (turnF v) p)]) (v := vi (nI (fct (vN v - 1 - (pcn p))))) C X I_X7_orders l_X7_271 (e_ord (n := vN v - 1 - (pcn p)) (by omega)) (by decide) (Nat.le_of_ble_eq_true rfl) List.prefix_rfl (Nat.le_of_ble_eq_true rfl) rfl (dx dX7_powerOf 37 rfl) ?_
                refine rn_imul (a := fct (pcn p)) (b := fct (vN v - 1 - (pcn p))) C (dx dX7_powerOf 38 rfl) ?_
                refine r_iadd C (dx dX7_powerOf 39 rfl) ?_
                refine r_istore_n (ls' := [(0, vr 7 k), (1, vi (nI m)), (2, vi (nI o)), (3, vi ((sumIf (pwP v m o) (turnF v) p) + (nI ((fct (pcn p)) * (fct (vN v - 1 - (pcn p))))))), (4, vi (nI p))]) C (dx dX7_powerOf 40 rfl) (by decide) [1, 2, 3, 0, 4] rfl ?_
                refine rn_iinc (a := p) (k := 1) (ls' := [(0, vr 7 k), (1, vi (nI m)), (2, vi (nI o)), (3, vi ((sumIf (pwP v m o) (turnF v) p) + (nI ((fct (pcn p)) * (fct (vN v - 1 - (pcn p))))))), (4, vi (nI (p + 1)))]) C (dx dX7_powerOf 41 rfl) rfl rfl (by decide) [1, 2, 3, 4, 0] rfl ?_
                refine r_goto (tgt := 5) C (dx dX7_powerOf 42 rfl) (by decide) ?_
                have e9 : ((sumIf (pwP v m o) (turnF v) p) + (nI ((fct (pcn p)) * (fct (vN v - 1 - (pcn p)))))) = (sumIf (pwP v m o) (turnF v) (p + 1)) := by (show _ = (if pwP v m o p = true then sumIf (pwP v m o) (turnF v) p + turnF v p else sumIf (pwP v m o) (turnF v) p); rw [if_pos (by unfold pwP; simp [c3, c4, c5, c6])]; rfl)
                rw [e9]
                exact ih)
set_option maxHeartbeats 4000000 in
theorem e_anyWorks {l : Launch} {h : Hp} {k : Nat} {v : Vg} (hm : MilAt h k v) (x y : Int32) : Mp l yX7_anyWorks cX7_anyWorks 4 (some .boolean) 3 [vr 7 k, vi x, vi y] h (vi (b2i (!allF (anP v x y) (vM v)))) := by
  refine Ms.of (by decide) (Nat.le_of_ble_eq_true rfl) (fun G C X F => ?_)
  have C : Cx G cX7_anyWorks 4 RX7 := C
  show Rr G 0 [(0, vr 7 k), (1, vi x), (2, vi y)] [] h
  have bP := hm.bP
  have bM := hm.bM
  have bN := hm.bN
  refine r_iconst (v := nI 0) C (dx dX7_anyWorks 0 rfl) rfl ?_
  refine r_istore_n (ls' := [(0, vr 7 k), (1, vi x), (2, vi y), (3, vi (nI 0))]) C (dx dX7_anyWorks 1 rfl) (by decide) [1, 2, 3, 0] rfl ?_
  refine loopU (Φ := fun p => allF (anP v x y) p = true → Rr G 2 [(0, vr 7 k), (1, vi x), (2, vi y), (3, vi (nI p))] [] h) (N := vM v) ?_ ?_ 0 (Nat.zero_le _) rfl
  ·
    intro hA
    refine r_iload_n C (dx dX7_anyWorks 2 rfl) rfl ?_
    refine r_aload_n C (dx dX7_anyWorks 3 rfl) rfl ?_
    refine g_X7_71 (x := nI (vM v)) C (dx dX7_anyWorks 4 rfl) hm.eM ?_
    refine rn_ge (a := vM v) (b := vM v) (tgt := 37) C (by omega) (by omega) (dx dX7_anyWorks 5 rfl) (by decide) (fun c1 => ?_) (fun c1 => ?_)
    · first
      | (omega; done)
      | (
          have c1 : vM v ≤ vM v := c1
          refine r_iconst (v := nI 0) C (dx dX7_anyWorks 23 rfl) rfl ?_
          exact F.1 _ _ _ _ _ rfl rfl (dx dX7_anyWorks 24 rfl) rfl ⟨congrArg (fun x => some (vi x)) (show nI 0 = b2i _ by rw [show (!allF (anP v x y) (vM v)) = false by (rw [hA]; rfl)]; rfl), rfl⟩)
    · first
      | (omega; done)
  ·
    intro p hp ih hA
    refine r_iload_n C (dx dX7_anyWorks 2 rfl) rfl ?_
    refine r_aload_n C (dx dX7_anyWorks 3 rfl) rfl ?_
    refine g_X7_71 (x := nI (vM v)) C (dx dX7_anyWorks 4 rfl) hm.eM ?_
    refine rn_ge (a := p) (b := vM v) (tgt := 37) C (by omega) (by omega) (dx dX7_anyWorks 5 rfl) (by decide) (fun c3 => ?_) (fun c3 => ?_)
    · first
      | (omega; done)
      | (
          have c3 : vM v ≤ p := c3
          refine r_iconst (v := nI 0) C (dx dX7_anyWorks 23 rfl) rfl ?_
          exact F.1 _ _ _ _ _ rfl rfl (dx dX7_anyWorks 24 rfl) rfl ⟨congrArg (fun x => some (vi x)) (show nI 0 = b2i _ by rw [show (!allF (anP v x y) (vM v)) = false by (rw [all_no (P := anP v x y) (p := p) (decide_eq_false (not_not_intro c3)) _ hp]; rfl)]; rfl), rfl⟩)
    · first
      | (omega; done)
      | (
          have c3 : p < vM v := c3
          refine r_aload_n C (dx dX7_anyWorks 6 rfl) rfl ?_
          refine g_X7_46 C (dx dX7_anyWorks 7 rfl) ?_
          refine r_iload_n C (dx dX7_anyWorks 8 rfl) rfl ?_
          refine r_iald (j := p) (x := vF v 2 p) C rfl rfl (by decide) rfl (by omega) (dx dX7_anyWorks 9 rfl) (hm.e2 (by omega)) ?_
          refine r_aload_n C (dx dX7_anyWorks 10 rfl) rfl ?_
          refine r_iload_n C (dx dX7_anyWorks 11 rfl) rfl ?_
          refine r_cvP (as := [vi x]) (st := [vi (vF v 2 p)]) (v := vi (hasP v x)) C X I_X7_hasOf l_X7_247 (e_hasOf hm _) (by decide) (Nat.le_of_ble_eq_true rfl) List.prefix_rfl rfl rfl (Nat.le_of_ble_eq_true rfl) rfl (dx dX7_anyWorks 12 rfl) ?_
          refine r_iconst (v := -1) C (dx dX7_anyWorks 13 rfl) rfl ?_
          refine r_ixor C (dx dX7_anyWorks 14 rfl) ?_
          refine r_iload_n C (dx dX7_anyWorks 15 rfl) rfl ?_
          refine r_ior C (dx dX7_anyWorks 16 rfl) ?_
          refine r_iand C (dx dX7_anyWorks 17 rfl) ?_
          refine r_if_ne (tgt := 31) C (dx dX7_anyWorks 18 rfl) (by decide) (fun c4 => ?_) (fun c4 => ?_)
          ·
            have c4 : ¬ (vF v 2 p) &&& (((hasP v x) ^^^ (-1)) ||| y) = 0 := c4
            refine rn_iinc (a := p) (k := 1) (ls' := [(0, vr 7 k), (1, vi x), (2, vi y), (3, vi (nI (p + 1)))]) C (dx dX7_anyWorks 21 rfl) rfl rfl (by decide) [1, 2, 3, 0] rfl ?_
            refine r_goto (tgt := 2) C (dx dX7_anyWorks 22 rfl) (by decide) ?_
            exact ih (by simp only [allF]; rw [hA, Bool.true_and]; exact decide_eq_true c4)
          ·
            have c4 : (vF v 2 p) &&& (((hasP v x) ^^^ (-1)) ||| y) = 0 := c4
            refine r_iconst (v := nI 1) C (dx dX7_anyWorks 19 rfl) rfl ?_
            exact F.1 _ _ _ _ _ rfl rfl (dx dX7_anyWorks 20 rfl) rfl ⟨congrArg (fun x => some (vi x)) (show nI 1 = b2i _ by rw [show (!allF (anP v x y) (vM v)) = true by (rw [all_no (P := anP v x y) (p := p) (decide_eq_false (not_not_intro c4)) _ hp]; rfl)]; rfl), rfl⟩)
set_option maxHeartbeats 4000000 in
theorem e_worstOf {l : Launch} {h : Hp} {k : Nat} {v : Vg} (hm : MilAt h k v) {m : Nat} (hj : m < vM v) : Mp l yX7_worstOf cX7_worstOf 5 (some .int) 4 [vr 7 k, vi (nI m)] h (vi (minIf (wsP v m) (fun s => nI (pcn s)) (nI 9) (2 ^ vN v))) := by
  refine Ms.of (by decide) (Nat.le_of_ble_eq_true rfl) (fun G C X F => ?_)
  have C : Cx G cX7_worstOf 5 RX7 := C
  show Rr G 0 [(0, vr 7 k), (1, vi (nI m))] [] h
  have bP := hm.bP
  have bM := hm.bM
  have bN := hm.bN
  obtain ⟨S, hS⟩ : ∃ S, S = 2 ^ vN v := ⟨_, rfl⟩
  have p8 := pow8 bN
  rw [← hS] at p8
  refine r_aload_n C (dx dX7_worstOf 0 rfl) rfl ?_
  refine r_cvP (as := []) (st := []) (v := vi (full (vN v))) C X I_X7_all l_X7_253 (c_X7_all hm) (by decide) (Nat.le_of_ble_eq_true rfl) List.prefix_rfl rfl rfl (Nat.le_of_ble_eq_true rfl) rfl (dx dX7_worstOf 1 rfl) ?_
  refine r_aload_n C (dx dX7_worstOf 2 rfl) rfl ?_
  refine r_cvP (as := []) (st := [vi (full (vN v))]) (v := vi (crR v (vN v))) C X I_X7_crossOnes l_X7_322 (e_crossOnes hm) (by decide) (Nat.le_of_ble_eq_true rfl) List.prefix_rfl rfl rfl (Nat.le_of_ble_eq_true rfl) rfl (dx dX7_worstOf 3 rfl) ?_
  refine r_iconst (v := -1) C (dx dX7_worstOf 4 rfl) rfl ?_
  refine r_ixor C (dx dX7_worstOf 5 rfl) ?_
  refine r_iand C (dx dX7_worstOf 6 rfl) ?_
  refine r_istore_n (ls' := [(0, vr 7 k), (1, vi (nI m)), (2, vi ((full (vN v)) &&& ((crR v (vN v)) ^^^ (-1))))]) C (dx dX7_worstOf 7 rfl) (by decide) [1, 2, 0] rfl ?_
  refine r_bipush (v := nI 9) C (dx dX7_worstOf 8 rfl) rfl ?_
  refine r_istore_n (ls' := [(0, vr 7 k), (1, vi (nI m)), (2, vi ((full (vN v)) &&& ((crR v (vN v)) ^^^ (-1)))), (3, vi (nI 9))]) C (dx dX7_worstOf 9 rfl) (by decide) [1, 2, 3, 0] rfl ?_
  refine r_iconst (v := nI 0) C (dx dX7_worstOf 10 rfl) rfl ?_
  refine r_istore (ls' := [(0, vr 7 k), (1, vi (nI m)), (2, vi ((full (vN v)) &&& ((crR v (vN v)) ^^^ (-1)))), (3, vi (nI 9)), (4, vi (nI 0))]) C (dx dX7_worstOf 11 rfl) (by decide) [1, 2, 3, 4, 0] rfl ?_
  refine loopU (Φ := fun p => Rr G 18 [(0, vr 7 k), (1, vi (nI m)), (2, vi ((full (vN v)) &&& ((crR v (vN v)) ^^^ (-1)))), (3, vi (minIf (wsP v m) (fun s => nI (pcn s)) (nI 9) p)), (4, vi (nI p))] [] h) (N := S) ?_ ?_ 0 (Nat.zero_le _)
  ·
    refine r_iload C (dx dX7_worstOf 12 rfl) rfl ?_
    refine r_aload_n C (dx dX7_worstOf 13 rfl) rfl ?_
    refine r_cvP (as := []) (st := [vi (nI S)]) (v := vi (nI (S - 1))) C X I_X7_all l_X7_253 (c_mallS hm hS) (by decide) (Nat.le_of_ble_eq_true rfl) List.prefix_rfl rfl rfl (Nat.le_of_ble_eq_true rfl) rfl (dx dX7_worstOf 14 rfl) ?_
    refine rn_gt (a := S) (b := S - 1) (tgt := 75) C (by omega) (by omega) (dx dX7_worstOf 15 rfl) (by decide) (fun c1 => ?_) (fun c1 => ?_)
    · first
      | (omega; done)
      | (
          have c1 : S - 1 < S := c1
          refine r_iload_n C (dx dX7_worstOf 42 rfl) rfl ?_
          exact F.1 _ _ _ _ _ rfl rfl (dx dX7_worstOf 43 rfl) rfl ⟨congrArg (fun x => some (vi x)) (show minIf (wsP v m) (fun s => nI (pcn s)) (nI 9) S = minIf (wsP v m) (fun s => nI (pcn s)) (nI 9) (2 ^ vN v) by rw [hS]), rfl⟩)
    · first
      | (omega; done)
  ·
    intro p hp ih
    refine r_iload C (dx dX7_worstOf 12 rfl) rfl ?_
    refine r_aload_n C (dx dX7_worstOf 13 rfl) rfl ?_
    refine r_cvP (as := []) (st := [vi (nI p)]) (v := vi (nI (S - 1))) C X I_X7_all l_X7_253 (c_mallS hm hS) (by decide) (Nat.le_of_ble_eq_true rfl) List.prefix_rfl rfl rfl (Nat.le_of_ble_eq_true rfl) rfl (dx dX7_worstOf 14 rfl) ?_
    refine rn_gt (a := p) (b := S - 1) (tgt := 75) C (by omega) (by omega) (dx dX7_worstOf 15 rfl) (by decide) (fun c3 => ?_) (fun c3 => ?_)
    · first
      | (omega; done)
      | (
          have c3 : S - 1 < p := c3
          refine r_iload_n C (dx dX7_worstOf 42 rfl) rfl ?_
          exact F.1 _ _ _ _ _ rfl rfl (dx dX7_worstOf 43 rfl) rfl ⟨congrArg (fun x => some (vi x)) (show minIf (wsP v m) (fun s => nI (pcn s)) (nI 9) p = minIf (wsP v m) (fun s => nI (pcn s)) (nI 9) (2 ^ vN v) by rw [hS]), rfl⟩)
    · first
      | (omega; done)
      | (
          have c3 : p ≤ S - 1 := c3
          refine r_iload C (dx dX7_worstOf 16 rfl) rfl ?_
          refine r_iload_n C (dx dX7_worstOf 17 rfl) rfl ?_
          refine r_iconst (v := -1) C (dx dX7_worstOf 18 rfl) rfl ?_
          refine r_ixor C (dx dX7_worstOf 19 rfl) ?_
          refine r_iand C (dx dX7_worstOf 20 rfl) ?_
          refine r_if_ne (tgt := 69) C (dx dX7_worstOf 21 rfl) (by decide) (fun c4 => ?_) (fun c4 => ?_)
          ·
            have c4 : ¬ (nI p) &&& (((full (vN v)) &&& ((crR v (vN v)) ^^^ (-1))) ^^^ (-1)) = 0 := c4
            refine rn_iinc (a := p) (k := 1) (ls' := [(0, vr 7 k), (1, vi (nI m)), (2, vi ((full (vN v)) &&& ((crR v (vN v)) ^^^ (-1)))), (3, vi (minIf (wsP v m) (fun s => nI (pcn s)) (nI 9) p)), (4, vi (nI (p + 1)))]) C (dx dX7_worstOf 40 rfl) rfl rfl (by decide) [1, 2, 3, 4, 0] rfl ?_
            refine r_goto (tgt := 18) C (dx dX7_worstOf 41 rfl) (by decide) ?_
            have e9 : (minIf (wsP v m) (fun s => nI (pcn s)) (nI 9) p) = (minIf (wsP v m) (fun s => nI (pcn s)) (nI 9) (p + 1)) := by (show _ = (if wsP v m p = true then (if nI (pcn p) < minIf (wsP v m) (fun s => nI (pcn s)) (nI 9) p then nI (pcn p) else minIf (wsP v m) (fun s => nI (pcn s)) (nI 9) p) else minIf (wsP v m) (fun s => nI (pcn s)) (nI 9) p); rw [if_neg (by rw [wsP_a c4]; decide)])
            rw [e9]
            exact ih
          ·
            have c4 : (nI p) &&& (((full (vN v)) &&& ((crR v (vN v)) ^^^ (-1))) ^^^ (-1)) = 0 := c4
            refine r_aload_n C (dx dX7_worstOf 22 rfl) rfl ?_
            refine r_iload_n C (dx dX7_worstOf 23 rfl) rfl ?_
            refine r_iload_n C (dx dX7_worstOf 24 rfl) rfl ?_
            refine r_iload C (dx dX7_worstOf 25 rfl) rfl ?_
            refine r_iconst (v := -1) C (dx dX7_worstOf 26 rfl) rfl ?_
            refine r_ixor C (dx dX7_worstOf 27 rfl) ?_
            refine r_iand C (dx dX7_worstOf 28 rfl) ?_
            refine r_cvP (as := [vi (nI m), vi (((full (vN v)) &&& ((crR v (vN v)) ^^^ (-1))) &&& ((nI p) ^^^ (-1)))]) (st := []) (v := vi (b2i (needW v (hasP v (((full (vN v)) &&& ((crR v (vN v)) ^^^ (-1))) &&& ((nI p) ^^^ (-1)))) m))) C X I_X7_worksOf l_X7_250 (e_worksOf hm (m := m) (by omega) _) (by decide) (Nat.le_of_ble_eq_true rfl) List.prefix_rfl rfl rfl (Nat.le_of_ble_eq_true rfl) rfl (dx dX7_worstOf 29 rfl) ?_
            refine rb_ne (b := needW v (hasP v (((full (vN v)) &&& ((crR v (vN v)) ^^^ (-1))) &&& ((nI p) ^^^ (-1)))) m) (tgt := 69) C (dx dX7_worstOf 30 rfl) (by decide) (fun c5 => ?_) (fun c5 => ?_)
            ·
              have c5 : (needW v (hasP v (((full (vN v)) &&& ((crR v (vN v)) ^^^ (-1))) &&& ((nI p) ^^^ (-1)))) m) = true := c5
              refine rn_iinc (a := p) (k := 1) (ls' := [(0, vr 7 k), (1, vi (nI m)), (2, vi ((full (vN v)) &&& ((crR v (vN v)) ^^^ (-1)))), (3, vi (minIf (wsP v m) (fun s => nI (pcn s)) (nI 9) p)), (4, vi (nI (p + 1)))]) C (dx dX7_worstOf 40 rfl) rfl rfl (by decide) [1, 2, 3, 4, 0] rfl ?_
              refine r_goto (tgt := 18) C (dx dX7_worstOf 41 rfl) (by decide) ?_
              have e9 : (minIf (wsP v m) (fun s => nI (pcn s)) (nI 9) p) = (minIf (wsP v m) (fun s => nI (pcn s)) (nI 9) (p + 1)) := by (show _ = (if wsP v m p = true then (if nI (pcn p) < minIf (wsP v m) (fun s => nI (pcn s)) (nI 9) p then nI (pcn p) else minIf (wsP v m) (fun s => nI (pcn s)) (nI 9) p) else minIf (wsP v m) (fun s => nI (pcn s)) (nI 9) p); rw [if_neg (by rw [wsP_b c5]; decide)])
              rw [e9]
              exact ih
            ·
              have c5 : (needW v (hasP v (((full (vN v)) &&& ((crR v (vN v)) ^^^ (-1))) &&& ((nI p) ^^^ (-1)))) m) = false := c5
              refine r_iload C (dx dX7_worstOf 31 rfl) rfl ?_
              refine r_csP (as := [vi (nI p)]) (st := []) (v := vi (nI (pcn p))) C X I_X7_bits l_X7_268 (e_bits (a := p) (by omega)) (by decide) (Nat.le_of_ble_eq_true rfl) List.prefix_rfl (Nat.le_of_ble_eq_true rfl) rfl (dx dX7_worstOf 32 rfl) ?_
              refine r_iload_n C (dx dX7_worstOf 33 rfl) rfl ?_
              refine r_icmp_ge (tgt := 67) C (dx dX7_worstOf 34 rfl) (by decide) (fun c6 => ?_) (fun c6 => ?_)
              ·
                have c6 : minIf (wsP v m) (fun s => nI (pcn s)) (nI 9) p ≤ nI (pcn p) := c6
                refine r_iload_n C (dx dX7_worstOf 38 rfl) rfl ?_
                refine r_istore_n (ls' := [(0, vr 7 k), (1, vi (nI m)), (2, vi ((full (vN v)) &&& ((crR v (vN v)) ^^^ (-1)))), (3, vi (minIf (wsP v m) (fun s => nI (pcn s)) (nI 9) p)), (4, vi (nI p))]) C (dx dX7_worstOf 39 rfl) (by decide) [1, 2, 3, 0, 4] rfl ?_
                refine rn_iinc (a := p) (k := 1) (ls' := [(0, vr 7 k), (1, vi (nI m)), (2, vi ((full (vN v)) &&& ((crR v (vN v)) ^^^ (-1)))), (3, vi (minIf (wsP v m) (fun s => nI (pcn s)) (nI 9) p)), (4, vi (nI (p + 1)))]) C (dx dX7_worstOf 40 rfl) rfl rfl (by decide) [1, 2, 3, 4, 0] rfl ?_
                refine r_goto (tgt := 18) C (dx dX7_worstOf 41 rfl) (by decide) ?_
                have e9 : (minIf (wsP v m) (fun s => nI (pcn s)) (nI 9) p) = (minIf (wsP v m) (fun s => nI (pcn s)) (nI 9) (p + 1)) := by (show _ = (if wsP v m p = true then (if nI (pcn p) < minIf (wsP v m) (fun s => nI (pcn s)) (nI 9) p then nI (pcn p) else minIf (wsP v m) (fun s => nI (pcn s)) (nI 9) p) else minIf (wsP v m) (fun s => nI (pcn s)) (nI 9) p); rw [if_pos (wsP_1 c4 c5)]; first | rw [if_pos (Int32.not_le.mp c6)] | rw [if_neg (Int32.not_lt.mpr c6)])
                rw [e9]
                exact ih
              ·
                have c6 : ¬ minIf (wsP v m) (fun s => nI (pcn s)) (nI 9) p ≤ nI (pcn p) := c6
                refine r_iload C (dx dX7_worstOf 35 rfl) rfl ?_
                refine r_csP (as := [vi (nI p)]) (st := []) (v := vi (nI (pcn p))) C X I_X7_bits l_X7_268 (e_bits (a := p) (by omega)) (by decide) (Nat.le_of_ble_eq_true rfl) List.prefix_rfl (Nat.le_of_ble_eq_true rfl) rfl (dx dX7_worstOf 36 rfl) ?_
                refine r_goto (tgt := 68) C (dx dX7_worstOf 37 rfl) (by decide) ?_
                refine r_istore_n (ls' := [(0, vr 7 k), (1, vi (nI m)), (2, vi ((full (vN v)) &&& ((crR v (vN v)) ^^^ (-1)))), (3, vi (nI (pcn p))), (4, vi (nI p))]) C (dx dX7_worstOf 39 rfl) (by decide) [1, 2, 3, 0, 4] rfl ?_
                refine rn_iinc (a := p) (k := 1) (ls' := [(0, vr 7 k), (1, vi (nI m)), (2, vi ((full (vN v)) &&& ((crR v (vN v)) ^^^ (-1)))), (3, vi (nI (pcn p))), (4, vi (nI (p + 1)))]) C (dx dX7_worstOf 40 rfl) rfl rfl (by decide) [1, 2, 3, 4, 0] rfl ?_
                refine r_goto (tgt := 18) C (dx dX7_worstOf 41 rfl) (by decide) ?_
                have e9 : (nI (pcn p)) = (minIf (wsP v m) (fun s => nI (pcn s)) (nI 9) (p + 1)) := by (show _ = (if wsP v m p = true then (if nI (pcn p) < minIf (wsP v m) (fun s => nI (pcn s)) (nI 9) p then nI (pcn p) else minIf (wsP v m) (fun s => nI (pcn s)) (nI 9) p) else minIf (wsP v m) (fun s => nI (pcn s)) (nI 9) p); rw [if_pos (wsP_1 c4 c5)]; first | rw [if_pos (Int32.not_le.mp c6)] | rw [if_neg (Int32.not_lt.mpr c6)])
                rw [e9]
                exact ih)

