/-! PART 44: the reference, exactly: what only reads -/
theorem and31 (y : Int32) : ∃ j, j < 32 ∧ y &&& 31 = nI j := by
  obtain ⟨j, rfl⟩ := nI_ex y
  refine ⟨j &&& 31, by have : j &&& 31 ≤ 31 := Nat.and_le_right; omega, ?_⟩
  rw [show (31 : Int32) = nI 31 from rfl]
  exact nI_and
theorem shr_k : ∀ o : Fin 32, (nI o.val &&& 31).toBitVec.smod 32 = BitVec.ofNat 32 o.val := by decide +kernel
theorem and31_i {y : Int32} {j : Nat} (e : y &&& 31 = nI j) (hj : j < 32) : y &&& 31 = nI j &&& 31 := by
  have t : ∀ o : Fin 32, nI o.val &&& 31 = nI o.val := by decide +kernel
  rw [e]; exact (t ⟨j, hj⟩).symm
theorem bt_shr2 (x : Int32) {o : Nat} (ho : o < 32) : bt (x >>> (nI o &&& 31)) 0 = bt x o := by
  have e := shr_k ⟨o, ho⟩
  simp only at e
  unfold bt
  rw [Int32.toBitVec_shiftRight, e, BitVec.sshiftRight_eq', BitVec.getLsbD_sshiftRight, BitVec.toNat_ofNat, Nat.mod_eq_of_lt (by omega)]
  simp [show o < 32 by omega]
theorem bt_pow2 : ∀ n : Fin 32, ∀ i : Fin 32, bt (nI 1 <<< (nI n.val &&& 31)) i.val = decide (i.val = n.val) := by decide +kernel
theorem pow_0 (x : Int32) {o : Nat} (ho : o < 32) : (x &&& (nI 1 <<< (nI o &&& 31)) = 0) ↔ bt x o = false := by
  constructor
  · intro q
    have q2 := congrArg (fun z => bt z o) q
    simp only [bt_and] at q2
    rw [bt_pow2 ⟨o, ho⟩ ⟨o, ho⟩, decide_eq_true rfl, Bool.and_true] at q2
    rw [q2]; exact bt_0 o
  · intro q
    apply bt_ext
    intro i hi
    rw [bt_and, bt_pow2 ⟨o, ho⟩ ⟨i, hi⟩, show bt 0 i = false from bt_0 i]
    by_cases h : i = o
    · subst h; rw [q]; rfl
    · rw [decide_eq_false h, Bool.and_false]
theorem or0 (x : Int32) : x ||| nI 0 = x := by rw [nI_0, Int32.or_zero]
def prodL (f : Nat → Int64) : Nat → Int64
  | 0 => 1
  | n + 1 => prodL f n * f n
/-- what one who comes, or doesn't, makes of the odds -/
def facR (v : Vg) (s : Int32) (o : Nat) : Int64 := if vF v 6 o = nI 1 then (if inB s (nI o) = true then 0 else 10) else (if inB s (nI o) = true then (nI 10 - vF v 5 o).toInt64 else (vF v 5 o).toInt64)
/-- a machine's worth at some odds; a set's; -/
def dyM (v : Vg) (od : Int64) (had : Int32) (m : Nat) : Int64 := if vF v 2 m &&& (had ^^^ -1) = 0 then (vF v 3 m).toInt64 * od else 0
def dyF (v : Vg) (s : Nat) : Int64 := if 0 < prodL (facR v (nI s)) (vN v) then sumL (dyM v (prodL (facR v (nI s)) (vN v)) (hasP v (nI s))) (vM v) else 0
theorem dyM_1 {v : Vg} {od : Int64} {had : Int32} {m : Nat} (h : vF v 2 m &&& (had ^^^ -1) = 0) : dyM v od had m = (vF v 3 m).toInt64 * od := if_pos h
theorem dyM_0 {v : Vg} {od : Int64} {had : Int32} {m : Nat} (h : ¬ vF v 2 m &&& (had ^^^ -1) = 0) : dyM v od had m = 0 := if_neg h
theorem dyF_1 {v : Vg} {s : Nat} (h : 0 < prodL (facR v (nI s)) (vN v)) : dyF v s = sumL (dyM v (prodL (facR v (nI s)) (vN v)) (hasP v (nI s))) (vM v) := if_pos h
theorem dyF_0 {v : Vg} {s : Nat} (h : ¬ 0 < prodL (facR v (nI s)) (vN v)) : dyF v s = 0 := if_neg h
theorem inB_N {s o : Nat} (ho : o < 32) : inB (nI s) (nI o) = s.testBit o := by
  unfold inB
  rw [decide_eq_true (show ¬ nI o = -1 from fun q => nI_nm1 (by omega) q), Bool.true_and, ← bt_nI s ho]
  rcases Bool.eq_false_or_eq_true (bt (nI s) o) with q | q
  · rw [q]; exact decide_eq_true (fun z => by rw [(pow_0 _ ho).mp z] at q; cases q)
  · rw [q]; exact decide_eq_false (not_not_intro ((pow_0 _ ho).mpr q))
/-- a bit asked by shifting the set, or by shifting 1 -/
theorem sh_bit (x y : Int32) : ((x >>> (y &&& 31)) &&& nI 1 = 0) ↔ (x &&& (nI 1 <<< (y &&& 31)) = 0) := by
  obtain ⟨j, hj, e⟩ := and31 y
  rw [and31_i e hj, and1_0, bt_shr2 x hj, pow_0 x hj]
set_option maxHeartbeats 4000000 in
theorem e_isIn {l : Launch} {h : Hp} (x y : Int32) : Mp l yX7_isIn cX7_isIn 2 (some .boolean) 1 [vi x, vi y] h (vi (b2i (inB x y))) := by
  refine Ms.of (by decide) (Nat.le_of_ble_eq_true rfl) (fun G C X F => ?_)
  have C : Cx G cX7_isIn 2 RX7 := C
  show Rr G 0 [(0, vi x), (1, vi y)] [] h
  refine r_iload_n C (dx dX7_isIn 0 rfl) rfl ?_
  refine r_iconst (v := -1) C (dx dX7_isIn 1 rfl) rfl ?_
  refine r_icmp_eq (tgt := 17) C (dx dX7_isIn 2 rfl) (by decide) (fun c1 => ?_) (fun c1 => ?_)
  ·
    have c1 : y = -1 := c1
    refine r_iconst (v := nI 0) C (dx dX7_isIn 11 rfl) rfl ?_
    exact F.1 _ _ _ _ _ rfl rfl (dx dX7_isIn 12 rfl) rfl ⟨congrArg (fun x => some (vi x)) (show nI 0 = b2i _ by rw [show (inB x y) = false by (unfold inB; first | (rw [decide_eq_false (not_not_intro c1)]; rfl) | (rw [decide_eq_true c1, decide_eq_false (not_not_intro ((sh_bit _ _).mp c1))]; rfl) | (rw [decide_eq_true c1, decide_eq_true (show ¬ x &&& (nI 1 <<< (y &&& 31)) = 0 from fun q => c1 ((sh_bit _ _).mpr q))]; rfl))]; rfl), rfl⟩
  ·
    have c1 : ¬ y = -1 := c1
    refine r_iload_n C (dx dX7_isIn 3 rfl) rfl ?_
    refine r_iload_n C (dx dX7_isIn 4 rfl) rfl ?_
    refine r_ishr C (dx dX7_isIn 5 rfl) ?_
    refine r_iconst (v := nI 1) C (dx dX7_isIn 6 rfl) rfl ?_
    refine r_iand C (dx dX7_isIn 7 rfl) ?_
    refine r_if_eq (tgt := 17) C (dx dX7_isIn 8 rfl) (by decide) (fun c2 => ?_) (fun c2 => ?_)
    ·
      have c2 : (x >>> (y &&& 31)) &&& (nI 1) = 0 := c2
      refine r_iconst (v := nI 0) C (dx dX7_isIn 11 rfl) rfl ?_
      exact F.1 _ _ _ _ _ rfl rfl (dx dX7_isIn 12 rfl) rfl ⟨congrArg (fun x => some (vi x)) (show nI 0 = b2i _ by rw [show (inB x y) = false by (unfold inB; first | (rw [decide_eq_false (not_not_intro c1)]; rfl) | (rw [decide_eq_true c1, decide_eq_false (not_not_intro ((sh_bit _ _).mp c2))]; rfl) | (rw [decide_eq_true c1, decide_eq_true (show ¬ x &&& (nI 1 <<< (y &&& 31)) = 0 from fun q => c2 ((sh_bit _ _).mpr q))]; rfl))]; rfl), rfl⟩
    ·
      have c2 : ¬ (x >>> (y &&& 31)) &&& (nI 1) = 0 := c2
      refine r_iconst (v := nI 1) C (dx dX7_isIn 9 rfl) rfl ?_
      refine r_goto (tgt := 18) C (dx dX7_isIn 10 rfl) (by decide) ?_
      exact F.1 _ _ _ _ _ rfl rfl (dx dX7_isIn 12 rfl) rfl ⟨congrArg (fun x => some (vi x)) (show nI 1 = b2i _ by rw [show (inB x y) = true by (unfold inB; first | (rw [decide_eq_false (not_not_intro c1)]; rfl) | (rw [decide_eq_true c1, decide_eq_false (not_not_intro ((sh_bit _ _).mp c2))]; rfl) | (rw [decide_eq_true c1, decide_eq_true (show ¬ x &&& (nI 1 <<< (y &&& 31)) = 0 from fun q => c2 ((sh_bit _ _).mpr q))]; rfl))]; rfl), rfl⟩
set_option maxHeartbeats 4000000 in
theorem e_piecesOf {l : Launch} {h : Hp} {k : Nat} {v : Vg} (hm : MilAt h k v) (o : Int32) : Mp l yX7_piecesOf cX7_piecesOf 4 (some .int) 1 [vr 7 k, vi o] h (vi (nI (pcs v o (vP v)))) := by
  refine Ms.of (by decide) (Nat.le_of_ble_eq_true rfl) (fun G C X F => ?_)
  have C : Cx G cX7_piecesOf 4 RX7 := C
  show Rr G 0 [(0, vr 7 k), (1, vi o)] [] h
  have bP := hm.bP
  have bM := hm.bM
  have bN := hm.bN
  refine r_iconst (v := nI 0) C (dx dX7_piecesOf 0 rfl) rfl ?_
  refine r_istore_n (ls' := [(0, vr 7 k), (1, vi o), (2, vi (nI 0))]) C (dx dX7_piecesOf 1 rfl) (by decide) [1, 2, 0] rfl ?_
  refine r_iconst (v := nI 0) C (dx dX7_piecesOf 2 rfl) rfl ?_
  refine r_istore_n (ls' := [(0, vr 7 k), (1, vi o), (2, vi (nI 0)), (3, vi (nI 0))]) C (dx dX7_piecesOf 3 rfl) (by decide) [1, 2, 3, 0] rfl ?_
  refine loopU (Φ := fun p => Rr G 4 [(0, vr 7 k), (1, vi o), (2, vi (nI (pcs v o p))), (3, vi (nI p))] [] h) (N := vP v) ?_ ?_ 0 (Nat.zero_le _)
  ·
    refine r_iload_n C (dx dX7_piecesOf 4 rfl) rfl ?_
    refine r_aload_n C (dx dX7_piecesOf 5 rfl) rfl ?_
    refine g_X7_64 (x := nI (vP v)) C (dx dX7_piecesOf 6 rfl) hm.eP ?_
    refine rn_ge (a := vP v) (b := vP v) (tgt := 52) C (by omega) (by omega) (dx dX7_piecesOf 7 rfl) (by decide) (fun c1 => ?_) (fun c1 => ?_)
    · first
      | (omega; done)
      | (
          have c1 : vP v ≤ vP v := c1
          refine r_iload_n C (dx dX7_piecesOf 32 rfl) rfl ?_
          exact F.1 _ _ _ _ _ rfl rfl (dx dX7_piecesOf 33 rfl) rfl ⟨congrArg (fun x => some (vi x)) rfl, rfl⟩)
    · first
      | (omega; done)
  ·
    intro p hp ih
    refine r_iload_n C (dx dX7_piecesOf 4 rfl) rfl ?_
    refine r_aload_n C (dx dX7_piecesOf 5 rfl) rfl ?_
    refine g_X7_64 (x := nI (vP v)) C (dx dX7_piecesOf 6 rfl) hm.eP ?_
    refine rn_ge (a := p) (b := vP v) (tgt := 52) C (by omega) (by omega) (dx dX7_piecesOf 7 rfl) (by decide) (fun c4 => ?_) (fun c4 => ?_)
    · first
      | (omega; done)
      | (
          have c4 : vP v ≤ p := c4
          refine r_iload_n C (dx dX7_piecesOf 32 rfl) rfl ?_
          exact F.1 _ _ _ _ _ rfl rfl (dx dX7_piecesOf 33 rfl) rfl ⟨congrArg (fun x => some (vi x)) (show nI (pcs v o p) = nI (pcs v o (vP v)) by rfl), rfl⟩)
    · first
      | (omega; done)
      | (
          have c4 : p < vP v := c4
          refine r_iload_n C (dx dX7_piecesOf 8 rfl) rfl ?_
          refine r_aload_n C (dx dX7_piecesOf 9 rfl) rfl ?_
          refine g_X7_40 C (dx dX7_piecesOf 10 rfl) ?_
          refine r_iload_n C (dx dX7_piecesOf 11 rfl) rfl ?_
          refine r_iald (j := p) (x := vF v 0 p) C rfl rfl (by decide) rfl (by omega) (dx dX7_piecesOf 12 rfl) (hm.e0 (by omega)) ?_
          refine r_iload_n C (dx dX7_piecesOf 13 rfl) rfl ?_
          refine r_icmp_ne (tgt := 27) C (dx dX7_piecesOf 14 rfl) (by decide) (fun c5 => ?_) (fun c5 => ?_)
          ·
            have c5 : ¬ vF v 0 p = o := c5
            refine r_iconst (v := nI 0) C (dx dX7_piecesOf 17 rfl) rfl ?_
            refine r_aload_n C (dx dX7_piecesOf 18 rfl) rfl ?_
            refine g_X7_43 C (dx dX7_piecesOf 19 rfl) ?_
            refine r_iload_n C (dx dX7_piecesOf 20 rfl) rfl ?_
            refine r_iald (j := p) (x := vF v 1 p) C rfl rfl (by decide) rfl (by omega) (dx dX7_piecesOf 21 rfl) (hm.e1 (by omega)) ?_
            refine r_iload_n C (dx dX7_piecesOf 22 rfl) rfl ?_
            refine r_icmp_ne (tgt := 42) C (dx dX7_piecesOf 23 rfl) (by decide) (fun c6 => ?_) (fun c6 => ?_)
            ·
              have c6 : ¬ vF v 1 p = o := c6
              refine r_iconst (v := nI 0) C (dx dX7_piecesOf 26 rfl) rfl ?_
              refine rn_iadd (a := 0) (b := 0) C (dx dX7_piecesOf 27 rfl) ?_
              refine rn_iadd (a := pcs v o p) (b := 0) C (dx dX7_piecesOf 28 rfl) ?_
              refine r_istore_n (ls' := [(0, vr 7 k), (1, vi o), (2, vi (nI (pcs v o p + 0))), (3, vi (nI p))]) C (dx dX7_piecesOf 29 rfl) (by decide) [1, 2, 0, 3] rfl ?_
              refine rn_iinc (a := p) (k := 1) (ls' := [(0, vr 7 k), (1, vi o), (2, vi (nI (pcs v o p + 0))), (3, vi (nI (p + 1)))]) C (dx dX7_piecesOf 30 rfl) rfl rfl (by decide) [1, 2, 3, 0] rfl ?_
              refine r_goto (tgt := 4) C (dx dX7_piecesOf 31 rfl) (by decide) ?_
              have e9 : (nI (pcs v o p + 0)) = (nI (pcs v o (p + 1))) := by simp [pcs, c4, c5, c6]
              rw [e9]
              exact ih
            ·
              have c6 : vF v 1 p = o := c6
              refine r_iconst (v := nI 1) C (dx dX7_piecesOf 24 rfl) rfl ?_
              refine r_goto (tgt := 43) C (dx dX7_piecesOf 25 rfl) (by decide) ?_
              refine rn_iadd (a := 0) (b := 1) C (dx dX7_piecesOf 27 rfl) ?_
              refine rn_iadd (a := pcs v o p) (b := 1) C (dx dX7_piecesOf 28 rfl) ?_
              refine r_istore_n (ls' := [(0, vr 7 k), (1, vi o), (2, vi (nI (pcs v o p + 1))), (3, vi (nI p))]) C (dx dX7_piecesOf 29 rfl) (by decide) [1, 2, 0, 3] rfl ?_
              refine rn_iinc (a := p) (k := 1) (ls' := [(0, vr 7 k), (1, vi o), (2, vi (nI (pcs v o p + 1))), (3, vi (nI (p + 1)))]) C (dx dX7_piecesOf 30 rfl) rfl rfl (by decide) [1, 2, 3, 0] rfl ?_
              refine r_goto (tgt := 4) C (dx dX7_piecesOf 31 rfl) (by decide) ?_
              have e9 : (nI (pcs v o p + 1)) = (nI (pcs v o (p + 1))) := by simp [pcs, c4, c5, c6]
              rw [e9]
              exact ih
          ·
            have c5 : vF v 0 p = o := c5
            refine r_iconst (v := nI 1) C (dx dX7_piecesOf 15 rfl) rfl ?_
            refine r_goto (tgt := 28) C (dx dX7_piecesOf 16 rfl) (by decide) ?_
            refine r_aload_n C (dx dX7_piecesOf 18 rfl) rfl ?_
            refine g_X7_43 C (dx dX7_piecesOf 19 rfl) ?_
            refine r_iload_n C (dx dX7_piecesOf 20 rfl) rfl ?_
            refine r_iald (j := p) (x := vF v 1 p) C rfl rfl (by decide) rfl (by omega) (dx dX7_piecesOf 21 rfl) (hm.e1 (by omega)) ?_
            refine r_iload_n C (dx dX7_piecesOf 22 rfl) rfl ?_
            refine r_icmp_ne (tgt := 42) C (dx dX7_piecesOf 23 rfl) (by decide) (fun c7 => ?_) (fun c7 => ?_)
            ·
              have c7 : ¬ vF v 1 p = o := c7
              refine r_iconst (v := nI 0) C (dx dX7_piecesOf 26 rfl) rfl ?_
              refine rn_iadd (a := 1) (b := 0) C (dx dX7_piecesOf 27 rfl) ?_
              refine rn_iadd (a := pcs v o p) (b := 1) C (dx dX7_piecesOf 28 rfl) ?_
              refine r_istore_n (ls' := [(0, vr 7 k), (1, vi o), (2, vi (nI (pcs v o p + 1))), (3, vi (nI p))]) C (dx dX7_piecesOf 29 rfl) (by decide) [1, 2, 0, 3] rfl ?_
              refine rn_iinc (a := p) (k := 1) (ls' := [(0, vr 7 k), (1, vi o), (2, vi (nI (pcs v o p + 1))), (3, vi (nI (p + 1)))]) C (dx dX7_piecesOf 30 rfl) rfl rfl (by decide) [1, 2, 3, 0] rfl ?_
              refine r_goto (tgt := 4) C (dx dX7_piecesOf 31 rfl) (by decide) ?_
              have e9 : (nI (pcs v o p + 1)) = (nI (pcs v o (p + 1))) := by simp [pcs, c4, c5, c7]
              rw [e9]
              exact ih
            ·
              have c7 : vF v 1 p = o := c7
              refine r_iconst (v := nI 1) C (dx dX7_piecesOf 24 rfl) rfl ?_
              refine r_goto (tgt := 43) C (dx dX7_piecesOf 25 rfl) (by decide) ?_
              refine rn_iadd (a := 1) (b := 1) C (dx dX7_piecesOf 27 rfl) ?_
              refine rn_iadd (a := pcs v o p) (b := 2) C (dx dX7_piecesOf 28 rfl) ?_
              refine r_istore_n (ls' := [(0, vr 7 k), (1, vi o), (2, vi (nI (pcs v o p + 2))), (3, vi (nI p))]) C (dx dX7_piecesOf 29 rfl) (by decide) [1, 2, 0, 3] rfl ?_
              refine rn_iinc (a := p) (k := 1) (ls' := [(0, vr 7 k), (1, vi o), (2, vi (nI (pcs v o p + 2))), (3, vi (nI (p + 1)))]) C (dx dX7_piecesOf 30 rfl) rfl rfl (by decide) [1, 2, 3, 0] rfl ?_
              refine r_goto (tgt := 4) C (dx dX7_piecesOf 31 rfl) (by decide) ?_
              have e9 : (nI (pcs v o p + 2)) = (nI (pcs v o (p + 1))) := by simp [pcs, c4, c5, c7]
              rw [e9]
              exact ih)
set_option maxHeartbeats 4000000 in
theorem e_hasOf {l : Launch} {h : Hp} {k : Nat} {v : Vg} (hm : MilAt h k v) (s : Int32) : Mp l yX7_hasOf cX7_hasOf 4 (some .int) 2 [vr 7 k, vi s] h (vi (hasP v s)) := by
  refine Ms.of (by decide) (Nat.le_of_ble_eq_true rfl) (fun G C X F => ?_)
  have C : Cx G cX7_hasOf 4 RX7 := C
  show Rr G 0 [(0, vr 7 k), (1, vi s)] [] h
  have bP := hm.bP
  have bM := hm.bM
  have bN := hm.bN
  refine r_iconst (v := nI 0) C (dx dX7_hasOf 0 rfl) rfl ?_
  refine r_istore_n (ls' := [(0, vr 7 k), (1, vi s), (2, vi (nI 0))]) C (dx dX7_hasOf 1 rfl) (by decide) [1, 2, 0] rfl ?_
  refine r_iconst (v := nI 0) C (dx dX7_hasOf 2 rfl) rfl ?_
  refine r_istore_n (ls' := [(0, vr 7 k), (1, vi s), (2, vi (nI 0)), (3, vi (nI 0))]) C (dx dX7_hasOf 3 rfl) (by decide) [1, 2, 3, 0] rfl ?_
  refine loopU (Φ := fun p => Rr G 4 [(0, vr 7 k), (1, vi s), (2, vi (bset (fun p => inB s (vF v 0 p) || inB s (vF v 1 p)) p)), (3, vi (nI p))] [] h) (N := vP v) ?_ ?_ 0 (Nat.zero_le _)
  ·
    refine r_iload_n C (dx dX7_hasOf 4 rfl) rfl ?_
    refine r_aload_n C (dx dX7_hasOf 5 rfl) rfl ?_
    refine g_X7_64 (x := nI (vP v)) C (dx dX7_hasOf 6 rfl) hm.eP ?_
    refine rn_ge (a := vP v) (b := vP v) (tgt := 54) C (by omega) (by omega) (dx dX7_hasOf 7 rfl) (by decide) (fun c1 => ?_) (fun c1 => ?_)
    · first
      | (omega; done)
      | (
          have c1 : vP v ≤ vP v := c1
          refine r_iload_n C (dx dX7_hasOf 32 rfl) rfl ?_
          exact F.1 _ _ _ _ _ rfl rfl (dx dX7_hasOf 33 rfl) rfl ⟨congrArg (fun x => some (vi x)) (show bset (fun p => inB s (vF v 0 p) || inB s (vF v 1 p)) (vP v) = hasP v s by rfl), rfl⟩)
    · first
      | (omega; done)
  ·
    intro p hp ih
    refine r_iload_n C (dx dX7_hasOf 4 rfl) rfl ?_
    refine r_aload_n C (dx dX7_hasOf 5 rfl) rfl ?_
    refine g_X7_64 (x := nI (vP v)) C (dx dX7_hasOf 6 rfl) hm.eP ?_
    refine rn_ge (a := p) (b := vP v) (tgt := 54) C (by omega) (by omega) (dx dX7_hasOf 7 rfl) (by decide) (fun c3 => ?_) (fun c3 => ?_)
    · first
      | (omega; done)
      | (
          have c3 : vP v ≤ p := c3
          refine r_iload_n C (dx dX7_hasOf 32 rfl) rfl ?_
          exact F.1 _ _ _ _ _ rfl rfl (dx dX7_hasOf 33 rfl) rfl ⟨congrArg (fun x => some (vi x)) (show bset (fun p => inB s (vF v 0 p) || inB s (vF v 1 p)) p = hasP v s by rfl), rfl⟩)
    · first
      | (omega; done)
      | (
          have c3 : p < vP v := c3
          refine r_iload_n C (dx dX7_hasOf 8 rfl) rfl ?_
          refine r_iload_n C (dx dX7_hasOf 9 rfl) rfl ?_
          refine r_aload_n C (dx dX7_hasOf 10 rfl) rfl ?_
          refine g_X7_40 C (dx dX7_hasOf 11 rfl) ?_
          refine r_iload_n C (dx dX7_hasOf 12 rfl) rfl ?_
          refine r_iald (j := p) (x := vF v 0 p) C rfl rfl (by decide) rfl (by omega) (dx dX7_hasOf 13 rfl) (hm.e0 (by omega)) ?_
          refine r_csP (as := [vi s, vi (vF v 0 p)]) (st := [vi (bset (fun p => inB s (vF v 0 p) || inB s (vF v 1 p)) p)]) (v := vi (b2i (inB s (vF v 0 p)))) C X I_X7_isIn l_X7_244 (e_isIn _ _) (by decide) (Nat.le_of_ble_eq_true rfl) List.prefix_rfl (Nat.le_of_ble_eq_true rfl) rfl (dx dX7_hasOf 14 rfl) ?_
          refine rb_ne (b := inB s (vF v 0 p)) (tgt := 39) C (dx dX7_hasOf 15 rfl) (by decide) (fun c4 => ?_) (fun c4 => ?_)
          ·
            have c4 : (inB s (vF v 0 p)) = true := c4
            refine r_iconst (v := nI 1) C (dx dX7_hasOf 23 rfl) rfl ?_
            refine r_iload_n C (dx dX7_hasOf 24 rfl) rfl ?_
            refine r_ishl C (dx dX7_hasOf 25 rfl) ?_
            refine r_goto (tgt := 46) C (dx dX7_hasOf 26 rfl) (by decide) ?_
            refine r_ior C (dx dX7_hasOf 28 rfl) ?_
            refine r_istore_n (ls' := [(0, vr 7 k), (1, vi s), (2, vi ((bset (fun p => inB s (vF v 0 p) || inB s (vF v 1 p)) p) ||| ((nI 1) <<< ((nI p) &&& 31)))), (3, vi (nI p))]) C (dx dX7_hasOf 29 rfl) (by decide) [1, 2, 0, 3] rfl ?_
            refine rn_iinc (a := p) (k := 1) (ls' := [(0, vr 7 k), (1, vi s), (2, vi ((bset (fun p => inB s (vF v 0 p) || inB s (vF v 1 p)) p) ||| ((nI 1) <<< ((nI p) &&& 31)))), (3, vi (nI (p + 1)))]) C (dx dX7_hasOf 30 rfl) rfl rfl (by decide) [1, 2, 3, 0] rfl ?_
            refine r_goto (tgt := 4) C (dx dX7_hasOf 31 rfl) (by decide) ?_
            have e9 : ((bset (fun p => inB s (vF v 0 p) || inB s (vF v 1 p)) p) ||| ((nI 1) <<< ((nI p) &&& 31))) = (bset (fun p => inB s (vF v 0 p) || inB s (vF v 1 p)) (p + 1)) := by simp [bset, or0, c3, c4]
            rw [e9]
            exact ih
          ·
            have c4 : (inB s (vF v 0 p)) = false := c4
            refine r_iload_n C (dx dX7_hasOf 16 rfl) rfl ?_
            refine r_aload_n C (dx dX7_hasOf 17 rfl) rfl ?_
            refine g_X7_43 C (dx dX7_hasOf 18 rfl) ?_
            refine r_iload_n C (dx dX7_hasOf 19 rfl) rfl ?_
            refine r_iald (j := p) (x := vF v 1 p) C rfl rfl (by decide) rfl (by omega) (dx dX7_hasOf 20 rfl) (hm.e1 (by omega)) ?_
            refine r_csP (as := [vi s, vi (vF v 1 p)]) (st := [vi (bset (fun p => inB s (vF v 0 p) || inB s (vF v 1 p)) p)]) (v := vi (b2i (inB s (vF v 1 p)))) C X I_X7_isIn l_X7_244 (e_isIn _ _) (by decide) (Nat.le_of_ble_eq_true rfl) List.prefix_rfl (Nat.le_of_ble_eq_true rfl) rfl (dx dX7_hasOf 21 rfl) ?_
            refine rb_eq (b := inB s (vF v 1 p)) (tgt := 45) C (dx dX7_hasOf 22 rfl) (by decide) (fun c5 => ?_) (fun c5 => ?_)
            ·
              have c5 : (inB s (vF v 1 p)) = false := c5
              refine r_iconst (v := nI 0) C (dx dX7_hasOf 27 rfl) rfl ?_
              refine r_ior C (dx dX7_hasOf 28 rfl) ?_
              refine r_istore_n (ls' := [(0, vr 7 k), (1, vi s), (2, vi ((bset (fun p => inB s (vF v 0 p) || inB s (vF v 1 p)) p) ||| (nI 0))), (3, vi (nI p))]) C (dx dX7_hasOf 29 rfl) (by decide) [1, 2, 0, 3] rfl ?_
              refine rn_iinc (a := p) (k := 1) (ls' := [(0, vr 7 k), (1, vi s), (2, vi ((bset (fun p => inB s (vF v 0 p) || inB s (vF v 1 p)) p) ||| (nI 0))), (3, vi (nI (p + 1)))]) C (dx dX7_hasOf 30 rfl) rfl rfl (by decide) [1, 2, 3, 0] rfl ?_
              refine r_goto (tgt := 4) C (dx dX7_hasOf 31 rfl) (by decide) ?_
              have e9 : ((bset (fun p => inB s (vF v 0 p) || inB s (vF v 1 p)) p) ||| (nI 0)) = (bset (fun p => inB s (vF v 0 p) || inB s (vF v 1 p)) (p + 1)) := by simp [bset, or0, c3, c4, c5]
              rw [e9]
              exact ih
            ·
              have c5 : (inB s (vF v 1 p)) = true := c5
              refine r_iconst (v := nI 1) C (dx dX7_hasOf 23 rfl) rfl ?_
              refine r_iload_n C (dx dX7_hasOf 24 rfl) rfl ?_
              refine r_ishl C (dx dX7_hasOf 25 rfl) ?_
              refine r_goto (tgt := 46) C (dx dX7_hasOf 26 rfl) (by decide) ?_
              refine r_ior C (dx dX7_hasOf 28 rfl) ?_
              refine r_istore_n (ls' := [(0, vr 7 k), (1, vi s), (2, vi ((bset (fun p => inB s (vF v 0 p) || inB s (vF v 1 p)) p) ||| ((nI 1) <<< ((nI p) &&& 31)))), (3, vi (nI p))]) C (dx dX7_hasOf 29 rfl) (by decide) [1, 2, 0, 3] rfl ?_
              refine rn_iinc (a := p) (k := 1) (ls' := [(0, vr 7 k), (1, vi s), (2, vi ((bset (fun p => inB s (vF v 0 p) || inB s (vF v 1 p)) p) ||| ((nI 1) <<< ((nI p) &&& 31)))), (3, vi (nI (p + 1)))]) C (dx dX7_hasOf 30 rfl) rfl rfl (by decide) [1, 2, 3, 0] rfl ?_
              refine r_goto (tgt := 4) C (dx dX7_hasOf 31 rfl) (by decide) ?_
              have e9 : ((bset (fun p => inB s (vF v 0 p) || inB s (vF v 1 p)) p) ||| ((nI 1) <<< ((nI p) &&& 31))) = (bset (fun p => inB s (vF v 0 p) || inB s (vF v 1 p)) (p + 1)) := by simp [bset, or0, c3, c4, c5]
              rw [e9]
              exact ih)
set_option maxHeartbeats 4000000 in
theorem e_hasRoom {l : Launch} {h : Hp} {k : Nat} {v : Vg} (hm : MilAt h k v) {j : Nat} (hj : j < vN v) : Mp l yX7_hasRoom cX7_hasRoom 2 (some .boolean) 2 [vr 7 k, vi (nI j)] h (vi (b2i (hasRm v (nI j)))) := by
  refine Ms.of (by decide) (Nat.le_of_ble_eq_true rfl) (fun G C X F => ?_)
  have C : Cx G cX7_hasRoom 2 RX7 := C
  show Rr G 0 [(0, vr 7 k), (1, vi (nI j))] [] h
  have bP := hm.bP
  have bM := hm.bM
  have bN := hm.bN
  refine r_aload_n C (dx dX7_hasRoom 0 rfl) rfl ?_
  refine r_iload_n C (dx dX7_hasRoom 1 rfl) rfl ?_
  refine r_cvP (as := [vi (nI j)]) (st := []) (v := vi (nI (pcs v (nI j) (vP v)))) C X I_X7_piecesOf l_X7_129 (e_piecesOf hm _) (by decide) (Nat.le_of_ble_eq_true rfl) List.prefix_rfl rfl rfl (Nat.le_of_ble_eq_true rfl) rfl (dx dX7_hasRoom 2 rfl) ?_
  refine r_aload_n C (dx dX7_hasRoom 3 rfl) rfl ?_
  refine g_X7_54 C (dx dX7_hasRoom 4 rfl) ?_
  refine r_iload_n C (dx dX7_hasRoom 5 rfl) rfl ?_
  refine r_aald4 (j := j) C rfl rfl (by decide) rfl (by omega) (dx dX7_hasRoom 6 rfl) ?_
  refine r_iconst (v := nI 0) C (dx dX7_hasRoom 7 rfl) rfl ?_
  refine r_iald (j := 0) (x := vF v 4 j) C rfl rfl (by decide) rfl (by omega) (dx dX7_hasRoom 8 rfl) (hm.eo (by omega) (by omega)) ?_
  refine r_icmp_ge (tgt := 20) C (dx dX7_hasRoom 9 rfl) (by decide) (fun c1 => ?_) (fun c1 => ?_)
  ·
    have c1 : vF v 4 j ≤ nI (pcs v (nI j) (vP v)) := c1
    refine r_iconst (v := nI 0) C (dx dX7_hasRoom 12 rfl) rfl ?_
    exact F.1 _ _ _ _ _ rfl rfl (dx dX7_hasRoom 13 rfl) rfl ⟨congrArg (fun x => some (vi x)) (show nI 0 = b2i _ by rw [show (hasRm v (nI j)) = false by (unfold hasRm; rw [inN (show j < 2 ^ 31 by omega) hj, clN (show j < 2 ^ 31 by omega)]; first | (rw [decide_eq_true (Int32.not_le.mp c1)]; rfl) | (rw [decide_eq_false (Int32.not_lt.mpr c1)]; rfl))]; rfl), rfl⟩
  ·
    have c1 : ¬ vF v 4 j ≤ nI (pcs v (nI j) (vP v)) := c1
    refine r_iconst (v := nI 1) C (dx dX7_hasRoom 10 rfl) rfl ?_
    refine r_goto (tgt := 21) C (dx dX7_hasRoom 11 rfl) (by decide) ?_
    exact F.1 _ _ _ _ _ rfl rfl (dx dX7_hasRoom 13 rfl) rfl ⟨congrArg (fun x => some (vi x)) (show nI 1 = b2i _ by rw [show (hasRm v (nI j)) = true by (unfold hasRm; rw [inN (show j < 2 ^ 31 by omega) hj, clN (show j < 2 ^ 31 by omega)]; first | (rw [decide_eq_true (Int32.not_le.mp c1)]; rfl) | (rw [decide_eq_false (Int32.not_lt.mpr c1)]; rfl))]; rfl), rfl⟩
set_option maxHeartbeats 4000000 in
theorem e_worksOf {l : Launch} {h : Hp} {k : Nat} {v : Vg} (hm : MilAt h k v) {m : Nat} (hj : m < vM v) (s : Int32) : Mp l yX7_worksOf cX7_worksOf 3 (some .boolean) 3 [vr 7 k, vi (nI m), vi s] h (vi (b2i (needW v (hasP v s) m))) := by
  refine Ms.of (by decide) (Nat.le_of_ble_eq_true rfl) (fun G C X F => ?_)
  have C : Cx G cX7_worksOf 3 RX7 := C
  show Rr G 0 [(0, vr 7 k), (1, vi (nI m)), (2, vi s)] [] h
  have bP := hm.bP
  have bM := hm.bM
  have bN := hm.bN
  refine r_aload_n C (dx dX7_worksOf 0 rfl) rfl ?_
  refine g_X7_46 C (dx dX7_worksOf 1 rfl) ?_
  refine r_iload_n C (dx dX7_worksOf 2 rfl) rfl ?_
  refine r_iald (j := m) (x := vF v 2 m) C rfl rfl (by decide) rfl (by omega) (dx dX7_worksOf 3 rfl) (hm.e2 (by omega)) ?_
  refine r_aload_n C (dx dX7_worksOf 4 rfl) rfl ?_
  refine r_iload_n C (dx dX7_worksOf 5 rfl) rfl ?_
  refine r_cvP (as := [vi s]) (st := [vi (vF v 2 m)]) (v := vi (hasP v s)) C X I_X7_hasOf l_X7_247 (e_hasOf hm _) (by decide) (Nat.le_of_ble_eq_true rfl) List.prefix_rfl rfl rfl (Nat.le_of_ble_eq_true rfl) rfl (dx dX7_worksOf 6 rfl) ?_
  refine r_iconst (v := -1) C (dx dX7_worksOf 7 rfl) rfl ?_
  refine r_ixor C (dx dX7_worksOf 8 rfl) ?_
  refine r_iand C (dx dX7_worksOf 9 rfl) ?_
  refine r_if_ne (tgt := 21) C (dx dX7_worksOf 10 rfl) (by decide) (fun c1 => ?_) (fun c1 => ?_)
  ·
    have c1 : ¬ (vF v 2 m) &&& ((hasP v s) ^^^ (-1)) = 0 := c1
    refine r_iconst (v := nI 0) C (dx dX7_worksOf 13 rfl) rfl ?_
    exact F.1 _ _ _ _ _ rfl rfl (dx dX7_worksOf 14 rfl) rfl ⟨congrArg (fun x => some (vi x)) (show nI 0 = b2i _ by rw [show (needW v (hasP v s) m) = false by (unfold needW; first | exact decide_eq_true c1 | exact decide_eq_false c1)]; rfl), rfl⟩
  ·
    have c1 : (vF v 2 m) &&& ((hasP v s) ^^^ (-1)) = 0 := c1
    refine r_iconst (v := nI 1) C (dx dX7_worksOf 11 rfl) rfl ?_
    refine r_goto (tgt := 22) C (dx dX7_worksOf 12 rfl) (by decide) ?_
    exact F.1 _ _ _ _ _ rfl rfl (dx dX7_worksOf 14 rfl) rfl ⟨congrArg (fun x => some (vi x)) (show nI 1 = b2i _ by rw [show (needW v (hasP v s) m) = true by (unfold needW; first | exact decide_eq_true c1 | exact decide_eq_false c1)]; rfl), rfl⟩
set_option maxHeartbeats 4000000 in
theorem e_held {l : Launch} {h : Hp} {k : Nat} {v : Vg} (hm : MilAt h k v) (b : Bool) : Mp l yX7_held cX7_held 4 (some .int) 1 [vr 7 k, vi (b2i b)] h (vi (nI (cnt (fun p => decide (¬ vF v (if b then 1 else 0) p = -1)) (vP v)))) := by
  refine Ms.of (by decide) (Nat.le_of_ble_eq_true rfl) (fun G C X F => ?_)
  have C : Cx G cX7_held 4 RX7 := C
  show Rr G 0 [(0, vr 7 k), (1, vi (b2i b))] [] h
  have bP := hm.bP
  have bM := hm.bM
  have bN := hm.bN
  refine r_iconst (v := nI 0) C (dx dX7_held 0 rfl) rfl ?_
  refine r_istore_n (ls' := [(0, vr 7 k), (1, vi (b2i b)), (2, vi (nI 0))]) C (dx dX7_held 1 rfl) (by decide) [1, 2, 0] rfl ?_
  refine r_iconst (v := nI 0) C (dx dX7_held 2 rfl) rfl ?_
  refine r_istore_n (ls' := [(0, vr 7 k), (1, vi (b2i b)), (2, vi (nI 0)), (3, vi (nI 0))]) C (dx dX7_held 3 rfl) (by decide) [1, 2, 3, 0] rfl ?_
  refine loopU (Φ := fun p => Rr G 4 [(0, vr 7 k), (1, vi (b2i b)), (2, vi (nI (cnt (fun p => decide (¬ vF v (if b then 1 else 0) p = -1)) p))), (3, vi (nI p))] [] h) (N := vP v) ?_ ?_ 0 (Nat.zero_le _)
  ·
    refine r_iload_n C (dx dX7_held 4 rfl) rfl ?_
    refine r_aload_n C (dx dX7_held 5 rfl) rfl ?_
    refine g_X7_64 (x := nI (vP v)) C (dx dX7_held 6 rfl) hm.eP ?_
    refine rn_ge (a := vP v) (b := vP v) (tgt := 49) C (by omega) (by omega) (dx dX7_held 7 rfl) (by decide) (fun c1 => ?_) (fun c1 => ?_)
    · first
      | (omega; done)
      | (
          have c1 : vP v ≤ vP v := c1
          refine r_iload_n C (dx dX7_held 29 rfl) rfl ?_
          exact F.1 _ _ _ _ _ rfl rfl (dx dX7_held 30 rfl) rfl ⟨congrArg (fun x => some (vi x)) rfl, rfl⟩)
    · first
      | (omega; done)
  ·
    intro p hp ih
    refine r_iload_n C (dx dX7_held 4 rfl) rfl ?_
    refine r_aload_n C (dx dX7_held 5 rfl) rfl ?_
    refine g_X7_64 (x := nI (vP v)) C (dx dX7_held 6 rfl) hm.eP ?_
    refine rn_ge (a := p) (b := vP v) (tgt := 49) C (by omega) (by omega) (dx dX7_held 7 rfl) (by decide) (fun c4 => ?_) (fun c4 => ?_)
    · first
      | (omega; done)
      | (
          have c4 : vP v ≤ p := c4
          refine r_iload_n C (dx dX7_held 29 rfl) rfl ?_
          exact F.1 _ _ _ _ _ rfl rfl (dx dX7_held 30 rfl) rfl ⟨congrArg (fun x => some (vi x)) (show nI (cnt (fun p => decide (¬ vF v (if b then 1 else 0) p = -1)) p) = nI (cnt (fun p => decide (¬ vF v (if b then 1 else 0) p = -1)) (vP v)) by rfl), rfl⟩)
    · first
      | (omega; done)
      | (
          have c4 : p < vP v := c4
          refine r_iload_n C (dx dX7_held 8 rfl) rfl ?_
          refine r_iload_n C (dx dX7_held 9 rfl) rfl ?_
          refine rb_eq (b := b) (tgt := 26) C (dx dX7_held 10 rfl) (by decide) (fun c5 => ?_) (fun c5 => ?_)
          ·
            have c5 : b = false := c5
            refine r_aload_n C (dx dX7_held 16 rfl) rfl ?_
            refine g_X7_40 C (dx dX7_held 17 rfl) ?_
            refine r_iload_n C (dx dX7_held 18 rfl) rfl ?_
            refine r_iald (j := p) (x := vF v 0 p) C rfl rfl (by decide) rfl (by omega) (dx dX7_held 19 rfl) (hm.e0 (by omega)) ?_
            refine r_iconst (v := -1) C (dx dX7_held 20 rfl) rfl ?_
            refine r_icmp_eq (tgt := 40) C (dx dX7_held 21 rfl) (by decide) (fun c6 => ?_) (fun c6 => ?_)
            ·
              have c6 : vF v 0 p = -1 := c6
              refine r_iconst (v := nI 0) C (dx dX7_held 24 rfl) rfl ?_
              refine rn_iadd (a := cnt (fun p => decide (¬ vF v (if b then 1 else 0) p = -1)) p) (b := 0) C (dx dX7_held 25 rfl) ?_
              refine r_istore_n (ls' := [(0, vr 7 k), (1, vi (b2i b)), (2, vi (nI (cnt (fun p => decide (¬ vF v (if b then 1 else 0) p = -1)) p + 0))), (3, vi (nI p))]) C (dx dX7_held 26 rfl) (by decide) [1, 2, 0, 3] rfl ?_
              refine rn_iinc (a := p) (k := 1) (ls' := [(0, vr 7 k), (1, vi (b2i b)), (2, vi (nI (cnt (fun p => decide (¬ vF v (if b then 1 else 0) p = -1)) p + 0))), (3, vi (nI (p + 1)))]) C (dx dX7_held 27 rfl) rfl rfl (by decide) [1, 2, 3, 0] rfl ?_
              refine r_goto (tgt := 4) C (dx dX7_held 28 rfl) (by decide) ?_
              have e9 : (nI (cnt (fun p => decide (¬ vF v (if b then 1 else 0) p = -1)) p + 0)) = (nI (cnt (fun p => decide (¬ vF v (if b then 1 else 0) p = -1)) (p + 1))) := by simp [cnt, c4, c5, c6]
              rw [e9]
              exact ih
            ·
              have c6 : ¬ vF v 0 p = -1 := c6
              refine r_iconst (v := nI 1) C (dx dX7_held 22 rfl) rfl ?_
              refine r_goto (tgt := 41) C (dx dX7_held 23 rfl) (by decide) ?_
              refine rn_iadd (a := cnt (fun p => decide (¬ vF v (if b then 1 else 0) p = -1)) p) (b := 1) C (dx dX7_held 25 rfl) ?_
              refine r_istore_n (ls' := [(0, vr 7 k), (1, vi (b2i b)), (2, vi (nI (cnt (fun p => decide (¬ vF v (if b then 1 else 0) p = -1)) p + 1))), (3, vi (nI p))]) C (dx dX7_held 26 rfl) (by decide) [1, 2, 0, 3] rfl ?_
              refine rn_iinc (a := p) (k := 1) (ls' := [(0, vr 7 k), (1, vi (b2i b)), (2, vi (nI (cnt (fun p => decide (¬ vF v (if b then 1 else 0) p = -1)) p + 1))), (3, vi (nI (p + 1)))]) C (dx dX7_held 27 rfl) rfl rfl (by decide) [1, 2, 3, 0] rfl ?_
              refine r_goto (tgt := 4) C (dx dX7_held 28 rfl) (by decide) ?_
              have e9 : (nI (cnt (fun p => decide (¬ vF v (if b then 1 else 0) p = -1)) p + 1)) = (nI (cnt (fun p => decide (¬ vF v (if b then 1 else 0) p = -1)) (p + 1))) := by simp [cnt, c4, c5, c6]
              rw [e9]
              exact ih
          ·
            have c5 : b = true := c5
            refine r_aload_n C (dx dX7_held 11 rfl) rfl ?_
            refine g_X7_43 C (dx dX7_held 12 rfl) ?_
            refine r_iload_n C (dx dX7_held 13 rfl) rfl ?_
            refine r_iald (j := p) (x := vF v 1 p) C rfl rfl (by decide) rfl (by omega) (dx dX7_held 14 rfl) (hm.e1 (by omega)) ?_
            refine r_goto (tgt := 32) C (dx dX7_held 15 rfl) (by decide) ?_
            refine r_iconst (v := -1) C (dx dX7_held 20 rfl) rfl ?_
            refine r_icmp_eq (tgt := 40) C (dx dX7_held 21 rfl) (by decide) (fun c7 => ?_) (fun c7 => ?_)
            ·
              have c7 : vF v 1 p = -1 := c7
              refine r_iconst (v := nI 0) C (dx dX7_held 24 rfl) rfl ?_
              refine rn_iadd (a := cnt (fun p => decide (¬ vF v (if b then 1 else 0) p = -1)) p) (b := 0) C (dx dX7_held 25 rfl) ?_
              refine r_istore_n (ls' := [(0, vr 7 k), (1, vi (b2i b)), (2, vi (nI (cnt (fun p => decide (¬ vF v (if b then 1 else 0) p = -1)) p + 0))), (3, vi (nI p))]) C (dx dX7_held 26 rfl) (by decide) [1, 2, 0, 3] rfl ?_
              refine rn_iinc (a := p) (k := 1) (ls' := [(0, vr 7 k), (1, vi (b2i b)), (2, vi (nI (cnt (fun p => decide (¬ vF v (if b then 1 else 0) p = -1)) p + 0))), (3, vi (nI (p + 1)))]) C (dx dX7_held 27 rfl) rfl rfl (by decide) [1, 2, 3, 0] rfl ?_
              refine r_goto (tgt := 4) C (dx dX7_held 28 rfl) (by decide) ?_
              have e9 : (nI (cnt (fun p => decide (¬ vF v (if b then 1 else 0) p = -1)) p + 0)) = (nI (cnt (fun p => decide (¬ vF v (if b then 1 else 0) p = -1)) (p + 1))) := by simp [cnt, c4, c5, c7]
              rw [e9]
              exact ih
            ·
              have c7 : ¬ vF v 1 p = -1 := c7
              refine r_iconst (v := nI 1) C (dx dX7_held 22 rfl) rfl ?_
              refine r_goto (tgt := 41) C (dx dX7_held 23 rfl) (by decide) ?_
              refine rn_iadd (a := cnt (fun p => decide (¬ vF v (if b then 1 else 0) p = -1)) p) (b := 1) C (dx dX7_held 25 rfl) ?_
              refine r_istore_n (ls' := [(0, vr 7 k), (1, vi (b2i b)), (2, vi (nI (cnt (fun p => decide (¬ vF v (if b then 1 else 0) p = -1)) p + 1))), (3, vi (nI p))]) C (dx dX7_held 26 rfl) (by decide) [1, 2, 0, 3] rfl ?_
              refine rn_iinc (a := p) (k := 1) (ls' := [(0, vr 7 k), (1, vi (b2i b)), (2, vi (nI (cnt (fun p => decide (¬ vF v (if b then 1 else 0) p = -1)) p + 1))), (3, vi (nI (p + 1)))]) C (dx dX7_held 27 rfl) rfl rfl (by decide) [1, 2, 3, 0] rfl ?_
              refine r_goto (tgt := 4) C (dx dX7_held 28 rfl) (by decide) ?_
              have e9 : (nI (cnt (fun p => decide (¬ vF v (if b then 1 else 0) p = -1)) p + 1)) = (nI (cnt (fun p => decide (¬ vF v (if b then 1 else 0) p = -1)) (p + 1))) := by simp [cnt, c4, c5, c7]
              rw [e9]
              exact ih)
set_option maxHeartbeats 4000000 in
theorem e_oddsOf {l : Launch} {h : Hp} {k : Nat} {v : Vg} (hm : MilAt h k v) (s : Int32) : Mp l yX7_oddsOf cX7_oddsOf 6 (some .long) 2 [vr 7 k, vi s] h (vl (prodL (facR v s) (vN v))) := by
  refine Ms.of (by decide) (Nat.le_of_ble_eq_true rfl) (fun G C X F => ?_)
  have C : Cx G cX7_oddsOf 6 RX7 := C
  show Rr G 0 [(0, vr 7 k), (1, vi s)] [] h
  have bP := hm.bP
  have bM := hm.bM
  have bN := hm.bN
  refine r_lconst (v := 1) C (dx dX7_oddsOf 0 rfl) rfl ?_
  refine r_lstore_n (ls' := [(0, vr 7 k), (1, vi s), (2, vl 1)]) C (dx dX7_oddsOf 1 rfl) (by decide) [1, 2, 0] rfl ?_
  refine r_iconst (v := nI 0) C (dx dX7_oddsOf 2 rfl) rfl ?_
  refine r_istore (ls' := [(0, vr 7 k), (1, vi s), (2, vl 1), (4, vi (nI 0))]) C (dx dX7_oddsOf 3 rfl) (by decide) [1, 2, 3, 0] rfl ?_
  refine loopU (Φ := fun p => Rr G 5 [(0, vr 7 k), (1, vi s), (2, vl (prodL (facR v s) p)), (4, vi (nI p))] [] h) (N := vN v) ?_ ?_ 0 (Nat.zero_le _)
  ·
    refine r_iload C (dx dX7_oddsOf 4 rfl) rfl ?_
    refine r_aload_n C (dx dX7_oddsOf 5 rfl) rfl ?_
    refine g_X7_74 (x := nI (vN v)) C (dx dX7_oddsOf 6 rfl) hm.eN ?_
    refine rn_ge (a := vN v) (b := vN v) (tgt := 93) C (by omega) (by omega) (dx dX7_oddsOf 7 rfl) (by decide) (fun c1 => ?_) (fun c1 => ?_)
    · first
      | (omega; done)
      | (
          have c1 : vN v ≤ vN v := c1
          refine r_lload_n C (dx dX7_oddsOf 53 rfl) rfl ?_
          exact F.2.1 _ _ _ _ rfl (dx dX7_oddsOf 54 rfl) rfl ⟨congrArg (fun x => some (vl x)) rfl, rfl⟩)
    · first
      | (omega; done)
  ·
    intro p hp ih
    refine r_iload C (dx dX7_oddsOf 4 rfl) rfl ?_
    refine r_aload_n C (dx dX7_oddsOf 5 rfl) rfl ?_
    refine g_X7_74 (x := nI (vN v)) C (dx dX7_oddsOf 6 rfl) hm.eN ?_
    refine rn_ge (a := p) (b := vN v) (tgt := 93) C (by omega) (by omega) (dx dX7_oddsOf 7 rfl) (by decide) (fun c4 => ?_) (fun c4 => ?_)
    · first
      | (omega; done)
      | (
          have c4 : vN v ≤ p := c4
          refine r_lload_n C (dx dX7_oddsOf 53 rfl) rfl ?_
          exact F.2.1 _ _ _ _ rfl (dx dX7_oddsOf 54 rfl) rfl ⟨congrArg (fun x => some (vl x)) (show prodL (facR v s) p = prodL (facR v s) (vN v) by rfl), rfl⟩)
    · first
      | (omega; done)
      | (
          have c4 : p < vN v := c4
          refine r_iload_n C (dx dX7_oddsOf 8 rfl) rfl ?_
          refine r_iload C (dx dX7_oddsOf 9 rfl) rfl ?_
          refine r_csP (as := [vi s, vi (nI p)]) (st := []) (v := vi (b2i (inB s (nI p)))) C X I_X7_isIn l_X7_244 (e_isIn _ _) (by decide) (Nat.le_of_ble_eq_true rfl) List.prefix_rfl (Nat.le_of_ble_eq_true rfl) rfl (dx dX7_oddsOf 10 rfl) ?_
          refine r_istore (ls' := [(0, vr 7 k), (1, vi s), (2, vl (prodL (facR v s) p)), (4, vi (nI p)), (5, vi (b2i (inB s (nI p))))]) C (dx dX7_oddsOf 11 rfl) (by decide) [1, 2, 3, 4, 0] rfl ?_
          refine r_aload_n C (dx dX7_oddsOf 12 rfl) rfl ?_
          refine g_X7_54 C (dx dX7_oddsOf 13 rfl) ?_
          refine r_iload C (dx dX7_oddsOf 14 rfl) rfl ?_
          refine r_aald4 (j := p) C rfl rfl (by decide) rfl (by omega) (dx dX7_oddsOf 15 rfl) ?_
          refine r_iconst (v := nI 2) C (dx dX7_oddsOf 16 rfl) rfl ?_
          refine r_iald (j := 2) (x := vF v 6 p) C rfl rfl (by decide) rfl (by omega) (dx dX7_oddsOf 17 rfl) (hm.eo (by omega) (by omega)) ?_
          refine r_iconst (v := nI 1) C (dx dX7_oddsOf 18 rfl) rfl ?_
          refine r_icmp_ne (tgt := 53) C (dx dX7_oddsOf 19 rfl) (by decide) (fun c5 => ?_) (fun c5 => ?_)
          ·
            have c5 : ¬ vF v 6 p = nI 1 := c5
            refine r_lload_n C (dx dX7_oddsOf 29 rfl) rfl ?_
            refine r_iload C (dx dX7_oddsOf 30 rfl) rfl ?_
            refine rb_eq (b := inB s (nI p)) (tgt := 75) C (dx dX7_oddsOf 31 rfl) (by decide) (fun c6 => ?_) (fun c6 => ?_)
            ·
              have c6 : (inB s (nI p)) = false := c6
              refine r_aload_n C (dx dX7_oddsOf 42 rfl) rfl ?_
              refine g_X7_54 C (dx dX7_oddsOf 43 rfl) ?_
              refine r_iload C (dx dX7_oddsOf 44 rfl) rfl ?_
              refine r_aald4 (j := p) C rfl rfl (by decide) rfl (by omega) (dx dX7_oddsOf 45 rfl) ?_
              refine r_iconst (v := nI 1) C (dx dX7_oddsOf 46 rfl) rfl ?_
              refine r_iald (j := 1) (x := vF v 5 p) C rfl rfl (by decide) rfl (by omega) (dx dX7_oddsOf 47 rfl) (hm.eo (by omega) (by omega)) ?_
              refine r_i2l C (dx dX7_oddsOf 48 rfl) ?_
              refine r_lmul C (dx dX7_oddsOf 49 rfl) ?_
              refine r_lstore_n (ls' := [(0, vr 7 k), (1, vi s), (2, vl ((prodL (facR v s) p) * ((vF v 5 p).toInt64))), (4, vi (nI p)), (5, vi (b2i (inB s (nI p))))]) C (dx dX7_oddsOf 50 rfl) (by decide) [1, 2, 0, 3, 4] rfl ?_
              refine rn_iinc (a := p) (k := 1) (ls' := [(0, vr 7 k), (1, vi s), (2, vl ((prodL (facR v s) p) * ((vF v 5 p).toInt64))), (4, vi (nI (p + 1))), (5, vi (b2i (inB s (nI p))))]) C (dx dX7_oddsOf 51 rfl) rfl rfl (by decide) [1, 2, 3, 0, 4] rfl ?_
              refine r_goto (tgt := 5) C (dx dX7_oddsOf 52 rfl) (by decide) ?_
              have e9 : ((prodL (facR v s) p) * ((vF v 5 p).toInt64)) = (prodL (facR v s) (p + 1)) := by simp [prodL, facR, c4, c5, c6]
              rw [e9]
              refine r_weak C [0, 1, 2, 3] rfl ?_
              exact ih
            ·
              have c6 : (inB s (nI p)) = true := c6
              refine r_bipush (v := nI 10) C (dx dX7_oddsOf 32 rfl) rfl ?_
              refine r_aload_n C (dx dX7_oddsOf 33 rfl) rfl ?_
              refine g_X7_54 C (dx dX7_oddsOf 34 rfl) ?_
              refine r_iload C (dx dX7_oddsOf 35 rfl) rfl ?_
              refine r_aald4 (j := p) C rfl rfl (by decide) rfl (by omega) (dx dX7_oddsOf 36 rfl) ?_
              refine r_iconst (v := nI 1) C (dx dX7_oddsOf 37 rfl) rfl ?_
              refine r_iald (j := 1) (x := vF v 5 p) C rfl rfl (by decide) rfl (by omega) (dx dX7_oddsOf 38 rfl) (hm.eo (by omega) (by omega)) ?_
              refine r_isub C (dx dX7_oddsOf 39 rfl) ?_
              refine r_i2l C (dx dX7_oddsOf 40 rfl) ?_
              refine r_goto (tgt := 85) C (dx dX7_oddsOf 41 rfl) (by decide) ?_
              refine r_lmul C (dx dX7_oddsOf 49 rfl) ?_
              refine r_lstore_n (ls' := [(0, vr 7 k), (1, vi s), (2, vl ((prodL (facR v s) p) * (((nI 10) - (vF v 5 p)).toInt64))), (4, vi (nI p)), (5, vi (b2i (inB s (nI p))))]) C (dx dX7_oddsOf 50 rfl) (by decide) [1, 2, 0, 3, 4] rfl ?_
              refine rn_iinc (a := p) (k := 1) (ls' := [(0, vr 7 k), (1, vi s), (2, vl ((prodL (facR v s) p) * (((nI 10) - (vF v 5 p)).toInt64))), (4, vi (nI (p + 1))), (5, vi (b2i (inB s (nI p))))]) C (dx dX7_oddsOf 51 rfl) rfl rfl (by decide) [1, 2, 3, 0, 4] rfl ?_
              refine r_goto (tgt := 5) C (dx dX7_oddsOf 52 rfl) (by decide) ?_
              have e9 : ((prodL (facR v s) p) * (((nI 10) - (vF v 5 p)).toInt64)) = (prodL (facR v s) (p + 1)) := by simp [prodL, facR, c4, c5, c6]
              rw [e9]
              refine r_weak C [0, 1, 2, 3] rfl ?_
              exact ih
          ·
            have c5 : vF v 6 p = nI 1 := c5
            refine r_lload_n C (dx dX7_oddsOf 20 rfl) rfl ?_
            refine r_iload C (dx dX7_oddsOf 21 rfl) rfl ?_
            refine rb_eq (b := inB s (nI p)) (tgt := 45) C (dx dX7_oddsOf 22 rfl) (by decide) (fun c7 => ?_) (fun c7 => ?_)
            ·
              have c7 : (inB s (nI p)) = false := c7
              refine r_ldc2 C n_X7_120 (dx dX7_oddsOf 25 rfl) ?_
              refine r_lmul C (dx dX7_oddsOf 26 rfl) ?_
              refine r_lstore_n (ls' := [(0, vr 7 k), (1, vi s), (2, vl ((prodL (facR v s) p) * 10)), (4, vi (nI p)), (5, vi (b2i (inB s (nI p))))]) C (dx dX7_oddsOf 27 rfl) (by decide) [1, 2, 0, 3, 4] rfl ?_
              refine r_goto (tgt := 87) C (dx dX7_oddsOf 28 rfl) (by decide) ?_
              refine rn_iinc (a := p) (k := 1) (ls' := [(0, vr 7 k), (1, vi s), (2, vl ((prodL (facR v s) p) * 10)), (4, vi (nI (p + 1))), (5, vi (b2i (inB s (nI p))))]) C (dx dX7_oddsOf 51 rfl) rfl rfl (by decide) [1, 2, 3, 0, 4] rfl ?_
              refine r_goto (tgt := 5) C (dx dX7_oddsOf 52 rfl) (by decide) ?_
              have e9 : ((prodL (facR v s) p) * 10) = (prodL (facR v s) (p + 1)) := by simp [prodL, facR, c4, c5, c7]
              rw [e9]
              refine r_weak C [0, 1, 2, 3] rfl ?_
              exact ih
            ·
              have c7 : (inB s (nI p)) = true := c7
              refine r_lconst (v := 0) C (dx dX7_oddsOf 23 rfl) rfl ?_
              refine r_goto (tgt := 48) C (dx dX7_oddsOf 24 rfl) (by decide) ?_
              refine r_lmul C (dx dX7_oddsOf 26 rfl) ?_
              refine r_lstore_n (ls' := [(0, vr 7 k), (1, vi s), (2, vl ((prodL (facR v s) p) * 0)), (4, vi (nI p)), (5, vi (b2i (inB s (nI p))))]) C (dx dX7_oddsOf 27 rfl) (by decide) [1, 2, 0, 3, 4] rfl ?_
              refine r_goto (tgt := 87) C (dx dX7_oddsOf 28 rfl) (by decide) ?_
              refine rn_iinc (a := p) (k := 1) (ls' := [(0, vr 7 k), (1, vi s), (2, vl ((prodL (facR v s) p) * 0)), (4, vi (nI (p + 1))), (5, vi (b2i (inB s (nI p))))]) C (dx dX7_oddsOf 51 rfl) rfl rfl (by decide) [1, 2, 3, 0, 4] rfl ?_
              refine r_goto (tgt := 5) C (dx dX7_oddsOf 52 rfl) (by decide) ?_
              have e9 : ((prodL (facR v s) p) * 0) = (prodL (facR v s) (p + 1)) := by simp [prodL, facR, c4, c5, c7]
              rw [e9]
              refine r_weak C [0, 1, 2, 3] rfl ?_
              exact ih)
set_option maxHeartbeats 4000000 in
theorem e_day {l : Launch} {h : Hp} {k : Nat} {v : Vg} (hm : MilAt h k v) : Mp l yX7_day cX7_day 8 (some .long) 3 [vr 7 k] h (vl (sumL (dyF v) (2 ^ vN v))) := by
  refine Ms.of (by decide) (Nat.le_of_ble_eq_true rfl) (fun G C X F => ?_)
  have C : Cx G cX7_day 8 RX7 := C
  show Rr G 0 [(0, vr 7 k)] [] h
  have bP := hm.bP
  have bM := hm.bM
  have bN := hm.bN
  obtain ⟨S, hS⟩ : ∃ S, S = 2 ^ vN v := ⟨_, rfl⟩
  have p8 := pow8 bN
  rw [← hS] at p8
  refine r_lconst (v := 0) C (dx dX7_day 0 rfl) rfl ?_
  refine r_lstore_n (ls' := [(0, vr 7 k), (1, vl 0)]) C (dx dX7_day 1 rfl) (by decide) [1, 0] rfl ?_
  refine r_iconst (v := nI 0) C (dx dX7_day 2 rfl) rfl ?_
  refine r_istore_n (ls' := [(0, vr 7 k), (1, vl 0), (3, vi (nI 0))]) C (dx dX7_day 3 rfl) (by decide) [1, 2, 0] rfl ?_
  refine loopU (Φ := fun p => Rr G 4 [(0, vr 7 k), (1, vl (sumL (dyF v) p)), (3, vi (nI p))] [] h) (N := S) ?_ ?_ 0 (Nat.zero_le _)
  ·
    refine r_iload_n C (dx dX7_day 4 rfl) rfl ?_
    refine r_aload_n C (dx dX7_day 5 rfl) rfl ?_
    refine r_cvP (as := []) (st := [vi (nI S)]) (v := vi (nI (S - 1))) C X I_X7_all l_X7_253 (c_mallS hm hS) (by decide) (Nat.le_of_ble_eq_true rfl) List.prefix_rfl rfl rfl (Nat.le_of_ble_eq_true rfl) rfl (dx dX7_day 6 rfl) ?_
    refine rn_gt (a := S) (b := S - 1) (tgt := 101) C (by omega) (by omega) (dx dX7_day 7 rfl) (by decide) (fun c1 => ?_) (fun c1 => ?_)
    · first
      | (omega; done)
      | (
          have c1 : S - 1 < S := c1
          refine r_lload_n C (dx dX7_day 57 rfl) rfl ?_
          exact F.2.1 _ _ _ _ rfl (dx dX7_day 58 rfl) rfl ⟨congrArg (fun x => some (vl x)) (show sumL (dyF v) S = sumL (dyF v) (2 ^ vN v) by rw [hS]), rfl⟩)
    · first
      | (omega; done)
      | (
          have c1 : S ≤ S - 1 := c1
          refine r_aload_n C (dx dX7_day 8 rfl) rfl ?_
          refine r_iload_n C (dx dX7_day 9 rfl) rfl ?_
          refine r_cvP (as := [vi (nI S)]) (st := []) (v := vl (prodL (facR v (nI S)) (vN v))) C X I_X7_oddsOf l_X7_260 (e_oddsOf hm _) (by decide) (Nat.le_of_ble_eq_true rfl) List.prefix_rfl rfl rfl (Nat.le_of_ble_eq_true rfl) rfl (dx dX7_day 10 rfl) ?_
          refine r_lstore (ls' := [(0, vr 7 k), (1, vl (sumL (dyF v) S)), (3, vi (nI S)), (4, vl (prodL (facR v (nI S)) (vN v)))]) C (dx dX7_day 11 rfl) (by decide) [1, 2, 3, 0] rfl ?_
          refine r_lload C (dx dX7_day 12 rfl) rfl ?_
          refine r_lconst (v := 0) C (dx dX7_day 13 rfl) rfl ?_
          refine r_lcmp C (dx dX7_day 14 rfl) ?_
          refine r_if_ne (tgt := 30) C (dx dX7_day 15 rfl) (by decide) (fun c2 => ?_) (fun c2 => ?_)
          ·
            have c2 : ¬ (prodL (facR v (nI S)) (vN v) = 0) := fun q => c2 ((lg_cmp_eq _ _).mpr q)
            refine r_aload_n C (dx dX7_day 18 rfl) rfl ?_
            refine r_iload_n C (dx dX7_day 19 rfl) rfl ?_
            refine r_cvP (as := [vi (nI S)]) (st := []) (v := vi (hasP v (nI S))) C X I_X7_hasOf l_X7_247 (e_hasOf hm _) (by decide) (Nat.le_of_ble_eq_true rfl) List.prefix_rfl rfl rfl (Nat.le_of_ble_eq_true rfl) rfl (dx dX7_day 20 rfl) ?_
            refine r_istore (ls' := [(0, vr 7 k), (1, vl (sumL (dyF v) S)), (3, vi (nI S)), (4, vl (prodL (facR v (nI S)) (vN v))), (6, vi (hasP v (nI S)))]) C (dx dX7_day 21 rfl) (by decide) [1, 2, 3, 4, 0] rfl ?_
            by_cases h0 : 0 < prodL (facR v (nI p)) (vN v)
            ·
              refine r_iconst (v := nI 0) C (dx dX7_day 22 rfl) rfl ?_
              refine r_istore (ls' := [(0, vr 7 k), (1, vl (sumL (dyF v) S)), (3, vi (nI S)), (4, vl (prodL (facR v (nI S)) (vN v))), (6, vi (hasP v (nI S))), (7, vi (nI 0))]) C (dx dX7_day 23 rfl) (by decide) [1, 2, 3, 4, 5, 0] rfl ?_
              suffices q9 : Rr G 40 [(0, vr 7 k), (1, vl (sumL (dyF v) p + sumL (dyM v (prodL (facR v (nI p)) (vN v)) (hasP v (nI p))) 0)), (3, vi (nI S)), (4, vl (prodL (facR v (nI S)) (vN v))), (6, vi (hasP v (nI S))), (7, vi (nI 0))] [] h by rw [show sumL (dyM v (prodL (facR v (nI p)) (vN v)) (hasP v (nI p))) 0 = 0 from rfl, Int64.add_zero] at q9; exact q9
              refine loopU (Φ := fun m9 => Rr G 40 [(0, vr 7 k), (1, vl (sumL (dyF v) p + sumL (dyM v (prodL (facR v (nI p)) (vN v)) (hasP v (nI p))) m9)), (3, vi (nI S)), (4, vl (prodL (facR v (nI S)) (vN v))), (6, vi (hasP v (nI S))), (7, vi (nI m9))] [] h) (N := vM v) ?_ ?_ 0 (Nat.zero_le _)
              ·
                refine r_iload C (dx dX7_day 24 rfl) rfl ?_
                refine r_aload_n C (dx dX7_day 25 rfl) rfl ?_
                refine g_X7_71 (x := nI (vM v)) C (dx dX7_day 26 rfl) hm.eM ?_
                refine rn_ge (a := vM v) (b := vM v) (tgt := 95) C (by omega) (by omega) (dx dX7_day 27 rfl) (by decide) (fun c3 => ?_) (fun c3 => ?_)
                · first
                  | (omega; done)
                · first
                  | (omega; done)
              ·
                intro m9 hm9 ihm
                refine r_iload C (dx dX7_day 24 rfl) rfl ?_
                refine r_aload_n C (dx dX7_day 25 rfl) rfl ?_
                refine g_X7_71 (x := nI (vM v)) C (dx dX7_day 26 rfl) hm.eM ?_
                refine rn_ge (a := m9) (b := vM v) (tgt := 95) C (by omega) (by omega) (dx dX7_day 27 rfl) (by decide) (fun c6 => ?_) (fun c6 => ?_)
                · first
                  | (omega; done)
                · first
                  | (omega; done)
                  | (
                      have c6 : m9 < vM v := c6
                      refine r_lload C (dx dX7_day 28 rfl) rfl ?_
                      refine r_lconst (v := 0) C (dx dX7_day 29 rfl) rfl ?_
                      refine r_lcmp C (dx dX7_day 30 rfl) ?_
                      refine r_if_le (tgt := 95) C (dx dX7_day 31 rfl) (by decide) (fun c7 => ?_) (fun c7 => ?_)
                      · exact absurd ((lg_cmp_le _ _).mp c7) (Int64.not_le.mpr h0)
                      ·
                        have c7 : ¬ (prodL (facR v (nI S)) (vN v) ≤ 0) := fun q => c7 ((lg_cmp_le _ _).mpr q)
                        refine r_lload_n C (dx dX7_day 32 rfl) rfl ?_
                        refine r_aload_n C (dx dX7_day 33 rfl) rfl ?_
                        refine g_X7_46 C (dx dX7_day 34 rfl) ?_
                        refine r_iload C (dx dX7_day 35 rfl) rfl ?_
                        refine r_iald (j := m9) (x := vF v 2 m9) C rfl rfl (by decide) rfl (by omega) (dx dX7_day 36 rfl) (hm.e2 (by omega)) ?_
                        refine r_iload C (dx dX7_day 37 rfl) rfl ?_
                        refine r_iconst (v := -1) C (dx dX7_day 38 rfl) rfl ?_
                        refine r_ixor C (dx dX7_day 39 rfl) ?_
                        refine r_iand C (dx dX7_day 40 rfl) ?_
                        refine r_if_ne (tgt := 86) C (dx dX7_day 41 rfl) (by decide) (fun c8 => ?_) (fun c8 => ?_)
                        ·
                          have c8 : ¬ (vF v 2 m9) &&& ((hasP v (nI S)) ^^^ (-1)) = 0 := c8
                          refine r_lconst (v := 0) C (dx dX7_day 50 rfl) rfl ?_
                          refine r_ladd C (dx dX7_day 51 rfl) ?_
                          refine r_lstore_n (ls' := [(0, vr 7 k), (1, vl ((sumL (dyF v) p + sumL (dyM v (prodL (facR v (nI p)) (vN v)) (hasP v (nI p))) m9) + 0)), (3, vi (nI S)), (4, vl (prodL (facR v (nI S)) (vN v))), (6, vi (hasP v (nI S))), (7, vi (nI m9))]) C (dx dX7_day 52 rfl) (by decide) [1, 0, 2, 3, 4, 5] rfl ?_
                          refine rn_iinc (a := m9) (k := 1) (ls' := [(0, vr 7 k), (1, vl ((sumL (dyF v) p + sumL (dyM v (prodL (facR v (nI p)) (vN v)) (hasP v (nI p))) m9) + 0)), (3, vi (nI S)), (4, vl (prodL (facR v (nI S)) (vN v))), (6, vi (hasP v (nI S))), (7, vi (nI (m9 + 1)))]) C (dx dX7_day 53 rfl) rfl rfl (by decide) [1, 2, 3, 4, 5, 0] rfl ?_
                          refine r_goto (tgt := 40) C (dx dX7_day 54 rfl) (by decide) ?_
                          have e9 : ((sumL (dyF v) p + sumL (dyM v (prodL (facR v (nI p)) (vN v)) (hasP v (nI p))) m9) + 0) = (sumL (dyF v) p + sumL (dyM v (prodL (facR v (nI p)) (vN v)) (hasP v (nI p))) (m9 + 1)) := by (show _ = sumL (dyF v) p + (sumL (dyM v (prodL (facR v (nI p)) (vN v)) (hasP v (nI p))) m9 + dyM v (prodL (facR v (nI p)) (vN v)) (hasP v (nI p)) m9); rw [← Int64.add_assoc, dyM_0 c8])
                          rw [e9]
                          exact ihm
                        ·
                          have c8 : (vF v 2 m9) &&& ((hasP v (nI S)) ^^^ (-1)) = 0 := c8
                          refine r_aload_n C (dx dX7_day 42 rfl) rfl ?_
                          refine g_X7_49 C (dx dX7_day 43 rfl) ?_
                          refine r_iload C (dx dX7_day 44 rfl) rfl ?_
                          refine r_iald (j := m9) (x := vF v 3 m9) C rfl rfl (by decide) rfl (by omega) (dx dX7_day 45 rfl) (hm.e3 (by omega)) ?_
                          refine r_i2l C (dx dX7_day 46 rfl) ?_
                          refine r_lload C (dx dX7_day 47 rfl) rfl ?_
                          refine r_lmul C (dx dX7_day 48 rfl) ?_
                          refine r_goto (tgt := 87) C (dx dX7_day 49 rfl) (by decide) ?_
                          refine r_ladd C (dx dX7_day 51 rfl) ?_
                          refine r_lstore_n (ls' := [(0, vr 7 k), (1, vl ((sumL (dyF v) p + sumL (dyM v (prodL (facR v (nI p)) (vN v)) (hasP v (nI p))) m9) + (((vF v 3 m9).toInt64) * (prodL (facR v (nI S)) (vN v))))), (3, vi (nI S)), (4, vl (prodL (facR v (nI S)) (vN v))), (6, vi (hasP v (nI S))), (7, vi (nI m9))]) C (dx dX7_day 52 rfl) (by decide) [1, 0, 2, 3, 4, 5] rfl ?_
                          refine rn_iinc (a := m9) (k := 1) (ls' := [(0, vr 7 k), (1, vl ((sumL (dyF v) p + sumL (dyM v (prodL (facR v (nI p)) (vN v)) (hasP v (nI p))) m9) + (((vF v 3 m9).toInt64) * (prodL (facR v (nI S)) (vN v))))), (3, vi (nI S)), (4, vl (prodL (facR v (nI S)) (vN v))), (6, vi (hasP v (nI S))), (7, vi (nI (m9 + 1)))]) C (dx dX7_day 53 rfl) rfl rfl (by decide) [1, 2, 3, 4, 5, 0] rfl ?_
                          refine r_goto (tgt := 40) C (dx dX7_day 54 rfl) (by decide) ?_
                          have e9 : ((sumL (dyF v) p + sumL (dyM v (prodL (facR v (nI p)) (vN v)) (hasP v (nI p))) m9) + (((vF v 3 m9).toInt64) * (prodL (facR v (nI S)) (vN v)))) = (sumL (dyF v) p + sumL (dyM v (prodL (facR v (nI p)) (vN v)) (hasP v (nI p))) (m9 + 1)) := by (show _ = sumL (dyF v) p + (sumL (dyM v (prodL (facR v (nI p)) (vN v)) (hasP v (nI p))) m9 + dyM v (prodL (facR v (nI p)) (vN v)) (hasP v (nI p)) m9); rw [← Int64.add_assoc, dyM_1 c8])
                          rw [e9]
                          exact ihm)
            ·
              refine r_iconst (v := nI 0) C (dx dX7_day 22 rfl) rfl ?_
              refine r_istore (ls' := [(0, vr 7 k), (1, vl (sumL (dyF v) S)), (3, vi (nI S)), (4, vl (prodL (facR v (nI S)) (vN v))), (6, vi (hasP v (nI S))), (7, vi (nI 0))]) C (dx dX7_day 23 rfl) (by decide) [1, 2, 3, 4, 5, 0] rfl ?_
              refine r_iload C (dx dX7_day 24 rfl) rfl ?_
              refine r_aload_n C (dx dX7_day 25 rfl) rfl ?_
              refine g_X7_71 (x := nI (vM v)) C (dx dX7_day 26 rfl) hm.eM ?_
              refine rn_ge (a := 0) (b := vM v) (tgt := 95) C (by omega) (by omega) (dx dX7_day 27 rfl) (by decide) (fun c9 => ?_) (fun c9 => ?_)
              · first
                | (omega; done)
              · first
                | (omega; done)
          ·
            have c2 : prodL (facR v (nI S)) (vN v) = 0 := (lg_cmp_eq _ _).mp c2
            have dz9 : prodL (facR v (nI p)) (vN v) = 0 := by first | exact c2 | exact Classical.not_not.mp c2
            refine r_iconst (v := nI 0) C (dx dX7_day 16 rfl) rfl ?_
            refine r_goto (tgt := 35) C (dx dX7_day 17 rfl) (by decide) ?_
            refine r_istore (ls' := [(0, vr 7 k), (1, vl (sumL (dyF v) S)), (3, vi (nI S)), (4, vl (prodL (facR v (nI S)) (vN v))), (6, vi (nI 0))]) C (dx dX7_day 21 rfl) (by decide) [1, 2, 3, 4, 0] rfl ?_
            by_cases h0 : 0 < prodL (facR v (nI p)) (vN v)
            ·
              rw [dz9] at h0; exact absurd h0 (by decide)
            ·
              refine r_iconst (v := nI 0) C (dx dX7_day 22 rfl) rfl ?_
              refine r_istore (ls' := [(0, vr 7 k), (1, vl (sumL (dyF v) S)), (3, vi (nI S)), (4, vl (prodL (facR v (nI S)) (vN v))), (6, vi (nI 0)), (7, vi (nI 0))]) C (dx dX7_day 23 rfl) (by decide) [1, 2, 3, 4, 5, 0] rfl ?_
              refine r_iload C (dx dX7_day 24 rfl) rfl ?_
              refine r_aload_n C (dx dX7_day 25 rfl) rfl ?_
              refine g_X7_71 (x := nI (vM v)) C (dx dX7_day 26 rfl) hm.eM ?_
              refine rn_ge (a := 0) (b := vM v) (tgt := 95) C (by omega) (by omega) (dx dX7_day 27 rfl) (by decide) (fun c11 => ?_) (fun c11 => ?_)
              · first
                | (omega; done)
              · first
                | (omega; done))
  ·
    intro p hp ih
    refine r_iload_n C (dx dX7_day 4 rfl) rfl ?_
    refine r_aload_n C (dx dX7_day 5 rfl) rfl ?_
    refine r_cvP (as := []) (st := [vi (nI p)]) (v := vi (nI (S - 1))) C X I_X7_all l_X7_253 (c_mallS hm hS) (by decide) (Nat.le_of_ble_eq_true rfl) List.prefix_rfl rfl rfl (Nat.le_of_ble_eq_true rfl) rfl (dx dX7_day 6 rfl) ?_
    refine rn_gt (a := p) (b := S - 1) (tgt := 101) C (by omega) (by omega) (dx dX7_day 7 rfl) (by decide) (fun c13 => ?_) (fun c13 => ?_)
    · first
      | (omega; done)
      | (
          have c13 : S - 1 < p := c13
          refine r_lload_n C (dx dX7_day 57 rfl) rfl ?_
          exact F.2.1 _ _ _ _ rfl (dx dX7_day 58 rfl) rfl ⟨congrArg (fun x => some (vl x)) (show sumL (dyF v) p = sumL (dyF v) (2 ^ vN v) by rw [hS]), rfl⟩)
    · first
      | (omega; done)
      | (
          have c13 : p ≤ S - 1 := c13
          refine r_aload_n C (dx dX7_day 8 rfl) rfl ?_
          refine r_iload_n C (dx dX7_day 9 rfl) rfl ?_
          refine r_cvP (as := [vi (nI p)]) (st := []) (v := vl (prodL (facR v (nI p)) (vN v))) C X I_X7_oddsOf l_X7_260 (e_oddsOf hm _) (by decide) (Nat.le_of_ble_eq_true rfl) List.prefix_rfl rfl rfl (Nat.le_of_ble_eq_true rfl) rfl (dx dX7_day 10 rfl) ?_
          refine r_lstore (ls' := [(0, vr 7 k), (1, vl (sumL (dyF v) p)), (3, vi (nI p)), (4, vl (prodL (facR v (nI p)) (vN v)))]) C (dx dX7_day 11 rfl) (by decide) [1, 2, 3, 0] rfl ?_
          refine r_lload C (dx dX7_day 12 rfl) rfl ?_
          refine r_lconst (v := 0) C (dx dX7_day 13 rfl) rfl ?_
          refine r_lcmp C (dx dX7_day 14 rfl) ?_
          refine r_if_ne (tgt := 30) C (dx dX7_day 15 rfl) (by decide) (fun c14 => ?_) (fun c14 => ?_)
          ·
            have c14 : ¬ (prodL (facR v (nI p)) (vN v) = 0) := fun q => c14 ((lg_cmp_eq _ _).mpr q)
            refine r_aload_n C (dx dX7_day 18 rfl) rfl ?_
            refine r_iload_n C (dx dX7_day 19 rfl) rfl ?_
            refine r_cvP (as := [vi (nI p)]) (st := []) (v := vi (hasP v (nI p))) C X I_X7_hasOf l_X7_247 (e_hasOf hm _) (by decide) (Nat.le_of_ble_eq_true rfl) List.prefix_rfl rfl rfl (Nat.le_of_ble_eq_true rfl) rfl (dx dX7_day 20 rfl) ?_
            refine r_istore (ls' := [(0, vr 7 k), (1, vl (sumL (dyF v) p)), (3, vi (nI p)), (4, vl (prodL (facR v (nI p)) (vN v))), (6, vi (hasP v (nI p)))]) C (dx dX7_day 21 rfl) (by decide) [1, 2, 3, 4, 0] rfl ?_
            by_cases h0 : 0 < prodL (facR v (nI p)) (vN v)
            ·
              refine r_iconst (v := nI 0) C (dx dX7_day 22 rfl) rfl ?_
              refine r_istore (ls' := [(0, vr 7 k), (1, vl (sumL (dyF v) p)), (3, vi (nI p)), (4, vl (prodL (facR v (nI p)) (vN v))), (6, vi (hasP v (nI p))), (7, vi (nI 0))]) C (dx dX7_day 23 rfl) (by decide) [1, 2, 3, 4, 5, 0] rfl ?_
              suffices q9 : Rr G 40 [(0, vr 7 k), (1, vl (sumL (dyF v) p + sumL (dyM v (prodL (facR v (nI p)) (vN v)) (hasP v (nI p))) 0)), (3, vi (nI p)), (4, vl (prodL (facR v (nI p)) (vN v))), (6, vi (hasP v (nI p))), (7, vi (nI 0))] [] h by rw [show sumL (dyM v (prodL (facR v (nI p)) (vN v)) (hasP v (nI p))) 0 = 0 from rfl, Int64.add_zero] at q9; exact q9
              refine loopU (Φ := fun m9 => Rr G 40 [(0, vr 7 k), (1, vl (sumL (dyF v) p + sumL (dyM v (prodL (facR v (nI p)) (vN v)) (hasP v (nI p))) m9)), (3, vi (nI p)), (4, vl (prodL (facR v (nI p)) (vN v))), (6, vi (hasP v (nI p))), (7, vi (nI m9))] [] h) (N := vM v) ?_ ?_ 0 (Nat.zero_le _)
              ·
                refine r_iload C (dx dX7_day 24 rfl) rfl ?_
                refine r_aload_n C (dx dX7_day 25 rfl) rfl ?_
                refine g_X7_71 (x := nI (vM v)) C (dx dX7_day 26 rfl) hm.eM ?_
                refine rn_ge (a := vM v) (b := vM v) (tgt := 95) C (by omega) (by omega) (dx dX7_day 27 rfl) (by decide) (fun c15 => ?_) (fun c15 => ?_)
                · first
                  | (omega; done)
                  | (
                      have c15 : vM v ≤ vM v := c15
                      refine rn_iinc (a := p) (k := 1) (ls' := [(0, vr 7 k), (1, vl (sumL (dyF v) p + sumL (dyM v (prodL (facR v (nI p)) (vN v)) (hasP v (nI p))) (vM v))), (3, vi (nI (p + 1))), (4, vl (prodL (facR v (nI p)) (vN v))), (6, vi (hasP v (nI p))), (7, vi (nI (vM v)))]) C (dx dX7_day 55 rfl) rfl rfl (by decide) [1, 2, 0, 3, 4, 5] rfl ?_
                      refine r_goto (tgt := 4) C (dx dX7_day 56 rfl) (by decide) ?_
                      have e9 : (sumL (dyF v) p + sumL (dyM v (prodL (facR v (nI p)) (vN v)) (hasP v (nI p))) (vM v)) = (sumL (dyF v) (p + 1)) := by (show sumL (dyF v) p + sumL (dyM v (prodL (facR v (nI p)) (vN v)) (hasP v (nI p))) (vM v) = sumL (dyF v) p + dyF v p; rw [dyF_1 h0])
                      rw [e9]
                      refine r_weak C [0, 1, 2] rfl ?_
                      exact ih)
                · first
                  | (omega; done)
              ·
                intro m9 hm9 ihm
                refine r_iload C (dx dX7_day 24 rfl) rfl ?_
                refine r_aload_n C (dx dX7_day 25 rfl) rfl ?_
                refine g_X7_71 (x := nI (vM v)) C (dx dX7_day 26 rfl) hm.eM ?_
                refine rn_ge (a := m9) (b := vM v) (tgt := 95) C (by omega) (by omega) (dx dX7_day 27 rfl) (by decide) (fun c18 => ?_) (fun c18 => ?_)
                · first
                  | (omega; done)
                · first
                  | (omega; done)
                  | (
                      have c18 : m9 < vM v := c18
                      refine r_lload C (dx dX7_day 28 rfl) rfl ?_
                      refine r_lconst (v := 0) C (dx dX7_day 29 rfl) rfl ?_
                      refine r_lcmp C (dx dX7_day 30 rfl) ?_
                      refine r_if_le (tgt := 95) C (dx dX7_day 31 rfl) (by decide) (fun c19 => ?_) (fun c19 => ?_)
                      · exact absurd ((lg_cmp_le _ _).mp c19) (Int64.not_le.mpr h0)
                      ·
                        have c19 : ¬ (prodL (facR v (nI p)) (vN v) ≤ 0) := fun q => c19 ((lg_cmp_le _ _).mpr q)
                        refine r_lload_n C (dx dX7_day 32 rfl) rfl ?_
                        refine r_aload_n C (dx dX7_day 33 rfl) rfl ?_
                        refine g_X7_46 C (dx dX7_day 34 rfl) ?_
                        refine r_iload C (dx dX7_day 35 rfl) rfl ?_
                        refine r_iald (j := m9) (x := vF v 2 m9) C rfl rfl (by decide) rfl (by omega) (dx dX7_day 36 rfl) (hm.e2 (by omega)) ?_
                        refine r_iload C (dx dX7_day 37 rfl) rfl ?_
                        refine r_iconst (v := -1) C (dx dX7_day 38 rfl) rfl ?_
                        refine r_ixor C (dx dX7_day 39 rfl) ?_
                        refine r_iand C (dx dX7_day 40 rfl) ?_
                        refine r_if_ne (tgt := 86) C (dx dX7_day 41 rfl) (by decide) (fun c20 => ?_) (fun c20 => ?_)
                        ·
                          have c20 : ¬ (vF v 2 m9) &&& ((hasP v (nI p)) ^^^ (-1)) = 0 := c20
                          refine r_lconst (v := 0) C (dx dX7_day 50 rfl) rfl ?_
                          refine r_ladd C (dx dX7_day 51 rfl) ?_
                          refine r_lstore_n (ls' := [(0, vr 7 k), (1, vl ((sumL (dyF v) p + sumL (dyM v (prodL (facR v (nI p)) (vN v)) (hasP v (nI p))) m9) + 0)), (3, vi (nI p)), (4, vl (prodL (facR v (nI p)) (vN v))), (6, vi (hasP v (nI p))), (7, vi (nI m9))]) C (dx dX7_day 52 rfl) (by decide) [1, 0, 2, 3, 4, 5] rfl ?_
                          refine rn_iinc (a := m9) (k := 1) (ls' := [(0, vr 7 k), (1, vl ((sumL (dyF v) p + sumL (dyM v (prodL (facR v (nI p)) (vN v)) (hasP v (nI p))) m9) + 0)), (3, vi (nI p)), (4, vl (prodL (facR v (nI p)) (vN v))), (6, vi (hasP v (nI p))), (7, vi (nI (m9 + 1)))]) C (dx dX7_day 53 rfl) rfl rfl (by decide) [1, 2, 3, 4, 5, 0] rfl ?_
                          refine r_goto (tgt := 40) C (dx dX7_day 54 rfl) (by decide) ?_
                          have e9 : ((sumL (dyF v) p + sumL (dyM v (prodL (facR v (nI p)) (vN v)) (hasP v (nI p))) m9) + 0) = (sumL (dyF v) p + sumL (dyM v (prodL (facR v (nI p)) (vN v)) (hasP v (nI p))) (m9 + 1)) := by (show _ = sumL (dyF v) p + (sumL (dyM v (prodL (facR v (nI p)) (vN v)) (hasP v (nI p))) m9 + dyM v (prodL (facR v (nI p)) (vN v)) (hasP v (nI p)) m9); rw [← Int64.add_assoc, dyM_0 c20])
                          rw [e9]
                          exact ihm
                        ·
                          have c20 : (vF v 2 m9) &&& ((hasP v (nI p)) ^^^ (-1)) = 0 := c20
                          refine r_aload_n C (dx dX7_day 42 rfl) rfl ?_
                          refine g_X7_49 C (dx dX7_day 43 rfl) ?_
                          refine r_iload C (dx dX7_day 44 rfl) rfl ?_
                          refine r_iald (j := m9) (x := vF v 3 m9) C rfl rfl (by decide) rfl (by omega) (dx dX7_day 45 rfl) (hm.e3 (by omega)) ?_
                          refine r_i2l C (dx dX7_day 46 rfl) ?_
                          refine r_lload C (dx dX7_day 47 rfl) rfl ?_
                          refine r_lmul C (dx dX7_day 48 rfl) ?_
                          refine r_goto (tgt := 87) C (dx dX7_day 49 rfl) (by decide) ?_
                          refine r_ladd C (dx dX7_day 51 rfl) ?_
                          refine r_lstore_n (ls' := [(0, vr 7 k), (1, vl ((sumL (dyF v) p + sumL (dyM v (prodL (facR v (nI p)) (vN v)) (hasP v (nI p))) m9) + (((vF v 3 m9).toInt64) * (prodL (facR v (nI p)) (vN v))))), (3, vi (nI p)), (4, vl (prodL (facR v (nI p)) (vN v))), (6, vi (hasP v (nI p))), (7, vi (nI m9))]) C (dx dX7_day 52 rfl) (by decide) [1, 0, 2, 3, 4, 5] rfl ?_
                          refine rn_iinc (a := m9) (k := 1) (ls' := [(0, vr 7 k), (1, vl ((sumL (dyF v) p + sumL (dyM v (prodL (facR v (nI p)) (vN v)) (hasP v (nI p))) m9) + (((vF v 3 m9).toInt64) * (prodL (facR v (nI p)) (vN v))))), (3, vi (nI p)), (4, vl (prodL (facR v (nI p)) (vN v))), (6, vi (hasP v (nI p))), (7, vi (nI (m9 + 1)))]) C (dx dX7_day 53 rfl) rfl rfl (by decide) [1, 2, 3, 4, 5, 0] rfl ?_
                          refine r_goto (tgt := 40) C (dx dX7_day 54 rfl) (by decide) ?_
                          have e9 : ((sumL (dyF v) p + sumL (dyM v (prodL (facR v (nI p)) (vN v)) (hasP v (nI p))) m9) + (((vF v 3 m9).toInt64) * (prodL (facR v (nI p)) (vN v)))) = (sumL (dyF v) p + sumL (dyM v (prodL (facR v (nI p)) (vN v)) (hasP v (nI p))) (m9 + 1)) := by (show _ = sumL (dyF v) p + (sumL (dyM v (prodL (facR v (nI p)) (vN v)) (hasP v (nI p))) m9 + dyM v (prodL (facR v (nI p)) (vN v)) (hasP v (nI p)) m9); rw [← Int64.add_assoc, dyM_1 c20])
                          rw [e9]
                          exact ihm)
            ·
              refine r_iconst (v := nI 0) C (dx dX7_day 22 rfl) rfl ?_
              refine r_istore (ls' := [(0, vr 7 k), (1, vl (sumL (dyF v) p)), (3, vi (nI p)), (4, vl (prodL (facR v (nI p)) (vN v))), (6, vi (hasP v (nI p))), (7, vi (nI 0))]) C (dx dX7_day 23 rfl) (by decide) [1, 2, 3, 4, 5, 0] rfl ?_
              refine r_iload C (dx dX7_day 24 rfl) rfl ?_
              refine r_aload_n C (dx dX7_day 25 rfl) rfl ?_
              refine g_X7_71 (x := nI (vM v)) C (dx dX7_day 26 rfl) hm.eM ?_
              refine rn_ge (a := 0) (b := vM v) (tgt := 95) C (by omega) (by omega) (dx dX7_day 27 rfl) (by decide) (fun c21 => ?_) (fun c21 => ?_)
              · first
                | (omega; done)
                | (
                    have c21 : vM v ≤ 0 := c21
                    refine rn_iinc (a := p) (k := 1) (ls' := [(0, vr 7 k), (1, vl (sumL (dyF v) p)), (3, vi (nI (p + 1))), (4, vl (prodL (facR v (nI p)) (vN v))), (6, vi (hasP v (nI p))), (7, vi (nI 0))]) C (dx dX7_day 55 rfl) rfl rfl (by decide) [1, 2, 0, 3, 4, 5] rfl ?_
                    refine r_goto (tgt := 4) C (dx dX7_day 56 rfl) (by decide) ?_
                    have e9 : (sumL (dyF v) p) = (sumL (dyF v) (p + 1)) := by (show _ = sumL (dyF v) p + dyF v p; rw [dyF_0 h0, Int64.add_zero])
                    rw [e9]
                    refine r_weak C [0, 1, 2] rfl ?_
                    exact ih)
              · first
                | (omega; done)
                | (
                    have c21 : 0 < vM v := c21
                    refine r_lload C (dx dX7_day 28 rfl) rfl ?_
                    refine r_lconst (v := 0) C (dx dX7_day 29 rfl) rfl ?_
                    refine r_lcmp C (dx dX7_day 30 rfl) ?_
                    refine r_if_le (tgt := 95) C (dx dX7_day 31 rfl) (by decide) (fun c22 => ?_) (fun c22 => ?_)
                    ·
                      have c22 : prodL (facR v (nI p)) (vN v) ≤ 0 := (lg_cmp_le _ _).mp c22
                      refine rn_iinc (a := p) (k := 1) (ls' := [(0, vr 7 k), (1, vl (sumL (dyF v) p)), (3, vi (nI (p + 1))), (4, vl (prodL (facR v (nI p)) (vN v))), (6, vi (hasP v (nI p))), (7, vi (nI 0))]) C (dx dX7_day 55 rfl) rfl rfl (by decide) [1, 2, 0, 3, 4, 5] rfl ?_
                      refine r_goto (tgt := 4) C (dx dX7_day 56 rfl) (by decide) ?_
                      have e9 : (sumL (dyF v) p) = (sumL (dyF v) (p + 1)) := by (show _ = sumL (dyF v) p + dyF v p; rw [dyF_0 h0, Int64.add_zero])
                      rw [e9]
                      refine r_weak C [0, 1, 2] rfl ?_
                      exact ih
                    · exact (c22 ((lg_cmp_le _ _).mpr (Int64.not_lt.mp h0))).elim)
          ·
            have c14 : prodL (facR v (nI p)) (vN v) = 0 := (lg_cmp_eq _ _).mp c14
            have dz9 : prodL (facR v (nI p)) (vN v) = 0 := by first | exact c14 | exact Classical.not_not.mp c14
            refine r_iconst (v := nI 0) C (dx dX7_day 16 rfl) rfl ?_
            refine r_goto (tgt := 35) C (dx dX7_day 17 rfl) (by decide) ?_
            refine r_istore (ls' := [(0, vr 7 k), (1, vl (sumL (dyF v) p)), (3, vi (nI p)), (4, vl (prodL (facR v (nI p)) (vN v))), (6, vi (nI 0))]) C (dx dX7_day 21 rfl) (by decide) [1, 2, 3, 4, 0] rfl ?_
            by_cases h0 : 0 < prodL (facR v (nI p)) (vN v)
            ·
              rw [dz9] at h0; exact absurd h0 (by decide)
            ·
              refine r_iconst (v := nI 0) C (dx dX7_day 22 rfl) rfl ?_
              refine r_istore (ls' := [(0, vr 7 k), (1, vl (sumL (dyF v) p)), (3, vi (nI p)), (4, vl (prodL (facR v (nI p)) (vN v))), (6, vi (nI 0)), (7, vi (nI 0))]) C (dx dX7_day 23 rfl) (by decide) [1, 2, 3, 4, 5, 0] rfl ?_
              refine r_iload C (dx dX7_day 24 rfl) rfl ?_
              refine r_aload_n C (dx dX7_day 25 rfl) rfl ?_
              refine g_X7_71 (x := nI (vM v)) C (dx dX7_day 26 rfl) hm.eM ?_
              refine rn_ge (a := 0) (b := vM v) (tgt := 95) C (by omega) (by omega) (dx dX7_day 27 rfl) (by decide) (fun c23 => ?_) (fun c23 => ?_)
              · first
                | (omega; done)
                | (
                    have c23 : vM v ≤ 0 := c23
                    refine rn_iinc (a := p) (k := 1) (ls' := [(0, vr 7 k), (1, vl (sumL (dyF v) p)), (3, vi (nI (p + 1))), (4, vl (prodL (facR v (nI p)) (vN v))), (6, vi (nI 0)), (7, vi (nI 0))]) C (dx dX7_day 55 rfl) rfl rfl (by decide) [1, 2, 0, 3, 4, 5] rfl ?_
                    refine r_goto (tgt := 4) C (dx dX7_day 56 rfl) (by decide) ?_
                    have e9 : (sumL (dyF v) p) = (sumL (dyF v) (p + 1)) := by (show _ = sumL (dyF v) p + dyF v p; rw [dyF_0 h0, Int64.add_zero])
                    rw [e9]
                    refine r_weak C [0, 1, 2] rfl ?_
                    exact ih)
              · first
                | (omega; done)
                | (
                    have c23 : 0 < vM v := c23
                    refine r_lload C (dx dX7_day 28 rfl) rfl ?_
                    refine r_lconst (v := 0) C (dx dX7_day 29 rfl) rfl ?_
                    refine r_lcmp C (dx dX7_day 30 rfl) ?_
                    refine r_if_le (tgt := 95) C (dx dX7_day 31 rfl) (by decide) (fun c24 => ?_) (fun c24 => ?_)
                    ·
                      have c24 : prodL (facR v (nI p)) (vN v) ≤ 0 := (lg_cmp_le _ _).mp c24
                      refine rn_iinc (a := p) (k := 1) (ls' := [(0, vr 7 k), (1, vl (sumL (dyF v) p)), (3, vi (nI (p + 1))), (4, vl (prodL (facR v (nI p)) (vN v))), (6, vi (nI 0)), (7, vi (nI 0))]) C (dx dX7_day 55 rfl) rfl rfl (by decide) [1, 2, 0, 3, 4, 5] rfl ?_
                      refine r_goto (tgt := 4) C (dx dX7_day 56 rfl) (by decide) ?_
                      have e9 : (sumL (dyF v) p) = (sumL (dyF v) (p + 1)) := by (show _ = sumL (dyF v) p + dyF v p; rw [dyF_0 h0, Int64.add_zero])
                      rw [e9]
                      refine r_weak C [0, 1, 2] rfl ?_
                      exact ih
                    · exact (c24 ((lg_cmp_le _ _).mpr (Int64.not_lt.mp h0))).elim))
