section
/-! PART 27: the reference: holdings -/
theorem mo {x : Int32} {n m : Nat} (h : n ≤ m) (a : x = -1 ∨ ∃ a, a < n ∧ x = nI a) : x = -1 ∨ ∃ a, a < m ∧ x = nI a :=
  a.imp_right (fun ⟨a, b, c⟩ => ⟨a, by omega, c⟩)
theorem nz_pos {n : Nat} (h : ¬ nI n = 0) : 0 < n := by
  rcases Nat.eq_zero_or_pos n with rfl | q
  · exact absurd (by decide) h
  · exact q
theorem bt_shr (x : Int32) {o : Nat} (ho : o < 12) : bt (x >>> (nI o &&& 31)) 0 = bt x o := by
  have key : ∀ o : Fin 12, (nI o.val &&& 31).toBitVec.smod 32 = BitVec.ofNat 32 o.val := by decide +kernel
  have e := key ⟨o, ho⟩
  simp only at e
  unfold bt
  rw [Int32.toBitVec_shiftRight, e, BitVec.sshiftRight_eq', BitVec.getLsbD_sshiftRight, BitVec.toNat_ofNat, Nat.mod_eq_of_lt (by omega)]
  simp [show o < 32 by omega]
theorem and1_0 (y : Int32) : (y &&& nI 1 = 0) ↔ bt y 0 = false := by
  constructor
  · intro q
    have q2 := congrArg (fun z => bt z 0) q
    simp only [bt_and] at q2
    rw [show bt (nI 1) 0 = true by decide, Bool.and_true] at q2
    rw [q2]; decide
  · intro q
    apply bt_ext
    intro i hi
    rw [bt_and, bt_nI 1 hi, show bt 0 i = false from bt_0 i]
    by_cases h : i = 0
    · subst h; rw [q]; rfl
    · have : Nat.testBit 1 i = false := by
        rw [Nat.testBit_lt_two_pow]
        exact Nat.one_lt_two_pow h
      rw [this, Bool.and_false]
theorem cnt_all {p : Nat → Bool} : ∀ n, (∀ i, i < n → p i = true) → cnt p n = n
  | 0, _ => rfl
  | n + 1, h => by
    simp only [cnt]
    rw [if_pos (h n (by omega)), cnt_all n (fun i hi => h i (by omega))]
theorem cnt_or {D : Int32} {b n t : Nat} (hn : n ≤ 12) (hb : b < 12) (c : cnt (bt D) n ≤ t) : cnt (bt (D ||| (nI 1 <<< (nI b &&& 31)))) n ≤ t + 1 := by
  have key : ∀ n, n ≤ 12 → cnt (bt (D ||| (nI 1 <<< (nI b &&& 31)))) n ≤ cnt (bt D) n + (if b < n then 1 else 0) := by
    intro n
    induction n with
    | zero => intro _; simp [cnt]
    | succ n ih =>
      intro hn
      have ih := ih (by omega)
      simp only [cnt]
      rw [bt_or, bt_pow (by omega) (show n < 32 by omega)]
      by_cases hb : n = b
      · subst hb
        rw [if_pos (Nat.lt_succ_self n)]
        rw [if_neg (Nat.lt_irrefl n)] at ih
        split <;> split <;> omega
      · have e : (if b < n + 1 then 1 else 0) = (if b < n then 1 else 0) := by
          by_cases hl : b < n
          · rw [if_pos hl, if_pos (by omega)]
          · rw [if_neg hl, if_neg (by omega)]
        rw [e, decide_eq_false hb, Bool.or_false]
        split <;> omega
  have q := key n hn
  have : (if b < n then 1 else 0) ≤ 1 := by split <;> omega
  omega
theorem hw_best {D x : Int32} {n t : Nat} (c : cnt (bt D) n ≤ t) (ht : t < n) (h : (x = -1 ∧ ∀ i, i < n → bt D i = true) ∨ ∃ a, a < n ∧ x = nI a) : ∃ a, a < n ∧ x = nI a := by
  rcases h with ⟨_, h⟩ | h
  · rw [cnt_all n h] at c; omega
  · exact h
theorem hw_in {D x : Int32} {n p : Nat} (h : (x = -1 ∧ ∀ i, i < p → bt D i = true) ∨ ∃ a, a < n ∧ x = nI a) (c : bt D p = true) : (x = -1 ∧ ∀ i, i < p + 1 → bt D i = true) ∨ ∃ a, a < n ∧ x = nI a :=
  h.imp_left (fun ⟨a, b⟩ => ⟨a, fun i hi => by
    by_cases q : i = p
    · subst q; exact c
    · exact b i (by omega)⟩)
set_option maxHeartbeats 4000000 in
theorem c_isInB {l : Launch} {h : Hp} (x : Int32) {o : Nat} (ho : o < 12) : Mp l yX7_isIn cX7_isIn 2 (some .boolean) 1 [vi x, vi (nI o)] h (vi (b2i (bt x o))) := by
  refine Ms.of (by decide) (Nat.le_of_ble_eq_true rfl) (fun G C X F => ?_)
  have C : Cx G cX7_isIn 2 RX7 := C
  show Rr G 0 [(0, vi x), (1, vi (nI o))] [] h
  refine r_iload_n C (dx dX7_isIn 0 rfl) rfl ?_
  refine r_iconst (v := -1) C (dx dX7_isIn 1 rfl) rfl ?_
  refine r_icmp_eq (tgt := 17) C (dx dX7_isIn 2 rfl) (by decide) (fun c1 => ?_) (fun c1 => ?_)
  · exact absurd c1 (nI_nm1 (by omega))
  ·
    have c1 : ¬ nI o = -1 := c1
    refine r_iload_n C (dx dX7_isIn 3 rfl) rfl ?_
    refine r_iload_n C (dx dX7_isIn 4 rfl) rfl ?_
    refine r_ishr C (dx dX7_isIn 5 rfl) ?_
    refine r_iconst (v := nI 1) C (dx dX7_isIn 6 rfl) rfl ?_
    refine r_iand C (dx dX7_isIn 7 rfl) ?_
    refine r_if_eq (tgt := 17) C (dx dX7_isIn 8 rfl) (by decide) (fun c2 => ?_) (fun c2 => ?_)
    ·
      have c2 : (x >>> ((nI o) &&& 31)) &&& (nI 1) = 0 := c2
      refine r_iconst (v := nI 0) C (dx dX7_isIn 11 rfl) rfl ?_
      exact F.1 _ _ _ _ _ rfl rfl (dx dX7_isIn 12 rfl) rfl ⟨congrArg (fun x => some (vi x)) (show nI 0 = b2i _ by rw [show (bt x o) = false by (cases hb : bt x o <;> first | rfl | exact absurd ((and1_0 _).mpr ((bt_shr x ho).trans hb)) c2 | exact absurd (hb.symm.trans ((bt_shr x ho).symm.trans ((and1_0 _).mp c2))) (by decide))]; rfl), rfl⟩
    ·
      have c2 : ¬ (x >>> ((nI o) &&& 31)) &&& (nI 1) = 0 := c2
      refine r_iconst (v := nI 1) C (dx dX7_isIn 9 rfl) rfl ?_
      refine r_goto (tgt := 18) C (dx dX7_isIn 10 rfl) (by decide) ?_
      exact F.1 _ _ _ _ _ rfl rfl (dx dX7_isIn 12 rfl) rfl ⟨congrArg (fun x => some (vi x)) (show nI 1 = b2i _ by rw [show (bt x o) = true by (cases hb : bt x o <;> first | rfl | exact absurd ((and1_0 _).mpr ((bt_shr x ho).trans hb)) c2 | exact absurd (hb.symm.trans ((bt_shr x ho).symm.trans ((and1_0 _).mp c2))) (by decide))]; rfl), rfl⟩
set_option maxHeartbeats 4000000 in
theorem c_fwr_n {l : Launch} {h : Hp} {k : Nat} {v : Vg} (hm : MilAt h k v) {am : Nat} (ha : am ≤ vN v) : Ms l yX7_firstWithRoom cX7_firstWithRoom 6 (some .int) 4 [vr 7 k, vi (nI am), vi (-1)] h (xK h) (fun r h' => (∃ x, (x = -1 ∨ ∃ a, a < vN v ∧ x = nI a) ∧ r = some (vi x)) ∧ h' = h) := by
  refine Ms.of (by decide) (Nat.le_of_ble_eq_true rfl) (fun G C X F => ?_)
  have C : Cx G cX7_firstWithRoom 6 RX7 := C
  show Rr G 0 [(0, vr 7 k), (1, vi (nI am)), (2, vi (-1))] [] h
  have bP := hm.bP
  have bM := hm.bM
  have bN := hm.bN
  refine r_iconst (v := nI 0) C (dx dX7_firstWithRoom 0 rfl) rfl ?_
  refine r_istore_n (ls' := [(0, vr 7 k), (1, vi (nI am)), (2, vi (-1)), (3, vi (nI 0))]) C (dx dX7_firstWithRoom 1 rfl) (by decide) [1, 2, 3, 0] rfl ?_
  refine loopU (Φ := fun p => Rr G 2 [(0, vr 7 k), (1, vi (nI am)), (2, vi (-1)), (3, vi (nI p))] [] h) (N := am) ?_ ?_ 0 (by omega) 
  ·
    refine r_iload_n C (dx dX7_firstWithRoom 2 rfl) rfl ?_
    refine r_iload_n C (dx dX7_firstWithRoom 3 rfl) rfl ?_
    refine rn_ge (a := am) (b := am) (tgt := 95) C (by omega) (by omega) (dx dX7_firstWithRoom 4 rfl) (by decide) (fun c1 => ?_) (fun c1 => ?_)
    · first
      | (omega; done)
      | (
          have c1 : am ≤ am := c1
          refine r_iconst (v := -1) C (dx dX7_firstWithRoom 49 rfl) rfl ?_
          exact F.1 _ _ _ _ .int rfl rfl (dx dX7_firstWithRoom 50 rfl) rfl ⟨⟨_, Or.inl rfl, rfl⟩, rfl⟩)
    · first
      | (omega; done)
      | (
          have c1 : am < am := c1
          refine r_iload_n C (dx dX7_firstWithRoom 5 rfl) rfl ?_
          refine r_iconst (v := -1) C (dx dX7_firstWithRoom 6 rfl) rfl ?_
          refine r_icmp_ne (tgt := 16) C (dx dX7_firstWithRoom 7 rfl) (by decide) (fun c2 => ?_) (fun c2 => ?_)
          · exact (c2 rfl).elim
          ·
            have c2 : (-1 : Int32) = -1 := c2
            refine r_iconst (v := nI 1) C (dx dX7_firstWithRoom 8 rfl) rfl ?_
            refine r_goto (tgt := 17) C (dx dX7_firstWithRoom 9 rfl) (by decide) ?_
            refine r_istore (ls' := [(0, vr 7 k), (1, vi (nI am)), (2, vi (-1)), (3, vi (nI am)), (4, vi (nI 1))]) C (dx dX7_firstWithRoom 11 rfl) (by decide) [1, 2, 3, 4, 0] rfl ?_
            refine r_iconst (v := nI 0) C (dx dX7_firstWithRoom 12 rfl) rfl ?_
            refine r_istore (ls' := [(0, vr 7 k), (1, vi (nI am)), (2, vi (-1)), (3, vi (nI am)), (4, vi (nI 1)), (5, vi (nI 0))]) C (dx dX7_firstWithRoom 13 rfl) (by decide) [1, 2, 3, 4, 5, 0] rfl ?_
            refine r_iload C (dx dX7_firstWithRoom 14 rfl) rfl ?_
            refine r_aload_n C (dx dX7_firstWithRoom 15 rfl) rfl ?_
            refine g_X7_64 (x := nI (vP v)) C (dx dX7_firstWithRoom 16 rfl) hm.eP ?_
            refine rn_ge (a := 0) (b := vP v) (tgt := 74) C (by omega) (by omega) (dx dX7_firstWithRoom 17 rfl) (by decide) (fun c3 => ?_) (fun c3 => ?_)
            · first
              | (omega; done)
            · first
              | (omega; done))
  ·
    intro p hp ihp
    refine r_iload_n C (dx dX7_firstWithRoom 2 rfl) rfl ?_
    refine r_iload_n C (dx dX7_firstWithRoom 3 rfl) rfl ?_
    refine rn_ge (a := p) (b := am) (tgt := 95) C (by omega) (by omega) (dx dX7_firstWithRoom 4 rfl) (by decide) (fun c11 => ?_) (fun c11 => ?_)
    · first
      | (omega; done)
      | (
          have c11 : am ≤ p := c11
          refine r_iconst (v := -1) C (dx dX7_firstWithRoom 49 rfl) rfl ?_
          exact F.1 _ _ _ _ .int rfl rfl (dx dX7_firstWithRoom 50 rfl) rfl ⟨⟨_, Or.inl rfl, rfl⟩, rfl⟩)
    · first
      | (omega; done)
      | (
          have c11 : p < am := c11
          refine r_iload_n C (dx dX7_firstWithRoom 5 rfl) rfl ?_
          refine r_iconst (v := -1) C (dx dX7_firstWithRoom 6 rfl) rfl ?_
          refine r_icmp_ne (tgt := 16) C (dx dX7_firstWithRoom 7 rfl) (by decide) (fun c12 => ?_) (fun c12 => ?_)
          · exact (c12 rfl).elim
          ·
            have c12 : (-1 : Int32) = -1 := c12
            refine r_iconst (v := nI 1) C (dx dX7_firstWithRoom 8 rfl) rfl ?_
            refine r_goto (tgt := 17) C (dx dX7_firstWithRoom 9 rfl) (by decide) ?_
            refine r_istore (ls' := [(0, vr 7 k), (1, vi (nI am)), (2, vi (-1)), (3, vi (nI p)), (4, vi (nI 1))]) C (dx dX7_firstWithRoom 11 rfl) (by decide) [1, 2, 3, 4, 0] rfl ?_
            refine r_iconst (v := nI 0) C (dx dX7_firstWithRoom 12 rfl) rfl ?_
            refine r_istore (ls' := [(0, vr 7 k), (1, vi (nI am)), (2, vi (-1)), (3, vi (nI p)), (4, vi (nI 1)), (5, vi (nI 0))]) C (dx dX7_firstWithRoom 13 rfl) (by decide) [1, 2, 3, 4, 5, 0] rfl ?_
            refine r_iload C (dx dX7_firstWithRoom 14 rfl) rfl ?_
            refine r_aload_n C (dx dX7_firstWithRoom 15 rfl) rfl ?_
            refine g_X7_64 (x := nI (vP v)) C (dx dX7_firstWithRoom 16 rfl) hm.eP ?_
            refine rn_ge (a := 0) (b := vP v) (tgt := 74) C (by omega) (by omega) (dx dX7_firstWithRoom 17 rfl) (by decide) (fun c13 => ?_) (fun c13 => ?_)
            · first
              | (omega; done)
              | (
                  have c13 : vP v ≤ 0 := c13
                  refine r_iload C (dx dX7_firstWithRoom 39 rfl) rfl ?_
                  refine r_if_eq (tgt := 89) C (dx dX7_firstWithRoom 40 rfl) (by decide) (fun c14 => (show False from by revert c14; decide).elim) (fun _ => ?_)
                  refine r_aload_n C (dx dX7_firstWithRoom 41 rfl) rfl ?_
                  refine r_iload_n C (dx dX7_firstWithRoom 42 rfl) rfl ?_
                  refine r_cvW (as := [vi (nI p)]) (st := []) C X I_X7_hasRoom l_X7_135 (c_X7_hasRoom hm (j := p) (by omega)) (by decide) (Nat.le_of_ble_eq_true rfl) List.prefix_rfl rfl rfl (Nat.le_of_ble_eq_true rfl) rfl (dx dX7_firstWithRoom 43 rfl) ?_
                  rintro _ ⟨x15, rfl⟩
                  refine rb_eq (b := x15) (tgt := 89) C (dx dX7_firstWithRoom 44 rfl) (by decide) (fun c16 => ?_) (fun c16 => ?_)
                  ·
                    have c16 : x15 = false := c16
                    refine rn_iinc (a := p) (k := 1) (ls' := [(0, vr 7 k), (1, vi (nI am)), (2, vi (-1)), (3, vi (nI (p + 1))), (4, vi (nI 1)), (5, vi (nI 0))]) C (dx dX7_firstWithRoom 47 rfl) rfl rfl (by decide) [1, 2, 3, 0, 4, 5] rfl ?_
                    refine r_goto (tgt := 2) C (dx dX7_firstWithRoom 48 rfl) (by decide) ?_
                    refine r_weak C [0, 1, 2, 3] rfl ?_
                    exact ihp 
                  ·
                    have c16 : x15 = true := c16
                    refine r_iload_n C (dx dX7_firstWithRoom 45 rfl) rfl ?_
                    exact F.1 _ _ _ _ .int rfl rfl (dx dX7_firstWithRoom 46 rfl) rfl ⟨⟨_, Or.inr ⟨_, by omega, rfl⟩, rfl⟩, rfl⟩)
            · first
              | (omega; done)
              | (
                  have c13 : 0 < vP v := c13
                  refine r_iload C (dx dX7_firstWithRoom 18 rfl) rfl ?_
                  refine r_if_ne (tgt := 74) C (dx dX7_firstWithRoom 19 rfl) (by decide) (fun _ => ?_) (fun c17 => (show False from by revert c17; decide).elim)
                  refine r_iload C (dx dX7_firstWithRoom 39 rfl) rfl ?_
                  refine r_if_eq (tgt := 89) C (dx dX7_firstWithRoom 40 rfl) (by decide) (fun c18 => (show False from by revert c18; decide).elim) (fun _ => ?_)
                  refine r_aload_n C (dx dX7_firstWithRoom 41 rfl) rfl ?_
                  refine r_iload_n C (dx dX7_firstWithRoom 42 rfl) rfl ?_
                  refine r_cvW (as := [vi (nI p)]) (st := []) C X I_X7_hasRoom l_X7_135 (c_X7_hasRoom hm (j := p) (by omega)) (by decide) (Nat.le_of_ble_eq_true rfl) List.prefix_rfl rfl rfl (Nat.le_of_ble_eq_true rfl) rfl (dx dX7_firstWithRoom 43 rfl) ?_
                  rintro _ ⟨x19, rfl⟩
                  refine rb_eq (b := x19) (tgt := 89) C (dx dX7_firstWithRoom 44 rfl) (by decide) (fun c20 => ?_) (fun c20 => ?_)
                  ·
                    have c20 : x19 = false := c20
                    refine rn_iinc (a := p) (k := 1) (ls' := [(0, vr 7 k), (1, vi (nI am)), (2, vi (-1)), (3, vi (nI (p + 1))), (4, vi (nI 1)), (5, vi (nI 0))]) C (dx dX7_firstWithRoom 47 rfl) rfl rfl (by decide) [1, 2, 3, 0, 4, 5] rfl ?_
                    refine r_goto (tgt := 2) C (dx dX7_firstWithRoom 48 rfl) (by decide) ?_
                    refine r_weak C [0, 1, 2, 3] rfl ?_
                    exact ihp 
                  ·
                    have c20 : x19 = true := c20
                    refine r_iload_n C (dx dX7_firstWithRoom 45 rfl) rfl ?_
                    exact F.1 _ _ _ _ .int rfl rfl (dx dX7_firstWithRoom 46 rfl) rfl ⟨⟨_, Or.inr ⟨_, by omega, rfl⟩, rfl⟩, rfl⟩))
set_option maxHeartbeats 4000000 in
theorem c_fwr_m {l : Launch} {h : Hp} {k : Nat} {v : Vg} (hm : MilAt h k v) {am m : Nat} (ha : am ≤ vN v) (hj : m < vM v) : Ms l yX7_firstWithRoom cX7_firstWithRoom 6 (some .int) 4 [vr 7 k, vi (nI am), vi (nI m)] h (xK h) (fun r h' => (∃ x, (x = -1 ∨ ∃ a, a < vN v ∧ x = nI a) ∧ r = some (vi x)) ∧ h' = h) := by
  refine Ms.of (by decide) (Nat.le_of_ble_eq_true rfl) (fun G C X F => ?_)
  have C : Cx G cX7_firstWithRoom 6 RX7 := C
  show Rr G 0 [(0, vr 7 k), (1, vi (nI am)), (2, vi (nI m))] [] h
  have bP := hm.bP
  have bM := hm.bM
  have bN := hm.bN
  refine r_iconst (v := nI 0) C (dx dX7_firstWithRoom 0 rfl) rfl ?_
  refine r_istore_n (ls' := [(0, vr 7 k), (1, vi (nI am)), (2, vi (nI m)), (3, vi (nI 0))]) C (dx dX7_firstWithRoom 1 rfl) (by decide) [1, 2, 3, 0] rfl ?_
  refine loopU (Φ := fun p => Rr G 2 [(0, vr 7 k), (1, vi (nI am)), (2, vi (nI m)), (3, vi (nI p))] [] h) (N := am) ?_ ?_ 0 (by omega) 
  ·
    refine r_iload_n C (dx dX7_firstWithRoom 2 rfl) rfl ?_
    refine r_iload_n C (dx dX7_firstWithRoom 3 rfl) rfl ?_
    refine rn_ge (a := am) (b := am) (tgt := 95) C (by omega) (by omega) (dx dX7_firstWithRoom 4 rfl) (by decide) (fun c1 => ?_) (fun c1 => ?_)
    · first
      | (omega; done)
      | (
          have c1 : am ≤ am := c1
          refine r_iconst (v := -1) C (dx dX7_firstWithRoom 49 rfl) rfl ?_
          exact F.1 _ _ _ _ .int rfl rfl (dx dX7_firstWithRoom 50 rfl) rfl ⟨⟨_, Or.inl rfl, rfl⟩, rfl⟩)
    · first
      | (omega; done)
      | (
          have c1 : am < am := c1
          refine r_iload_n C (dx dX7_firstWithRoom 5 rfl) rfl ?_
          refine r_iconst (v := -1) C (dx dX7_firstWithRoom 6 rfl) rfl ?_
          refine r_icmp_ne (tgt := 16) C (dx dX7_firstWithRoom 7 rfl) (by decide) (fun c2 => ?_) (fun c2 => ?_)
          ·
            have c2 : ¬ nI m = -1 := c2
            refine r_iconst (v := nI 0) C (dx dX7_firstWithRoom 10 rfl) rfl ?_
            refine r_istore (ls' := [(0, vr 7 k), (1, vi (nI am)), (2, vi (nI m)), (3, vi (nI am)), (4, vi (nI 0))]) C (dx dX7_firstWithRoom 11 rfl) (by decide) [1, 2, 3, 4, 0] rfl ?_
            refine r_iconst (v := nI 0) C (dx dX7_firstWithRoom 12 rfl) rfl ?_
            refine r_istore (ls' := [(0, vr 7 k), (1, vi (nI am)), (2, vi (nI m)), (3, vi (nI am)), (4, vi (nI 0)), (5, vi (nI 0))]) C (dx dX7_firstWithRoom 13 rfl) (by decide) [1, 2, 3, 4, 5, 0] rfl ?_
            refine loopU (Φ := fun q => ∀ (x4 : Int32), Rr G 22 [(0, vr 7 k), (1, vi (nI am)), (2, vi (nI m)), (3, vi (nI am)), (4, vi x4), (5, vi (nI q))] [] h) (N := vP v) ?_ ?_ 0 (by omega) (nI 0)
            ·
              intro  x4
              refine r_iload C (dx dX7_firstWithRoom 14 rfl) rfl ?_
              refine r_aload_n C (dx dX7_firstWithRoom 15 rfl) rfl ?_
              refine g_X7_64 (x := nI (vP v)) C (dx dX7_firstWithRoom 16 rfl) hm.eP ?_
              refine rn_ge (a := vP v) (b := vP v) (tgt := 74) C (by omega) (by omega) (dx dX7_firstWithRoom 17 rfl) (by decide) (fun c3 => ?_) (fun c3 => ?_)
              · first
                | (omega; done)
              · first
                | (omega; done)
            ·
              intro q hq ihq x4
              refine r_iload C (dx dX7_firstWithRoom 14 rfl) rfl ?_
              refine r_aload_n C (dx dX7_firstWithRoom 15 rfl) rfl ?_
              refine g_X7_64 (x := nI (vP v)) C (dx dX7_firstWithRoom 16 rfl) hm.eP ?_
              refine rn_ge (a := q) (b := vP v) (tgt := 74) C (by omega) (by omega) (dx dX7_firstWithRoom 17 rfl) (by decide) (fun c9 => ?_) (fun c9 => ?_)
              · first
                | (omega; done)
              · first
                | (omega; done)
          · exact absurd c2 (nI_nm1 (by omega)))
  ·
    intro p hp ihp
    refine r_iload_n C (dx dX7_firstWithRoom 2 rfl) rfl ?_
    refine r_iload_n C (dx dX7_firstWithRoom 3 rfl) rfl ?_
    refine rn_ge (a := p) (b := am) (tgt := 95) C (by omega) (by omega) (dx dX7_firstWithRoom 4 rfl) (by decide) (fun c15 => ?_) (fun c15 => ?_)
    · first
      | (omega; done)
      | (
          have c15 : am ≤ p := c15
          refine r_iconst (v := -1) C (dx dX7_firstWithRoom 49 rfl) rfl ?_
          exact F.1 _ _ _ _ .int rfl rfl (dx dX7_firstWithRoom 50 rfl) rfl ⟨⟨_, Or.inl rfl, rfl⟩, rfl⟩)
    · first
      | (omega; done)
      | (
          have c15 : p < am := c15
          refine r_iload_n C (dx dX7_firstWithRoom 5 rfl) rfl ?_
          refine r_iconst (v := -1) C (dx dX7_firstWithRoom 6 rfl) rfl ?_
          refine r_icmp_ne (tgt := 16) C (dx dX7_firstWithRoom 7 rfl) (by decide) (fun c16 => ?_) (fun c16 => ?_)
          ·
            have c16 : ¬ nI m = -1 := c16
            refine r_iconst (v := nI 0) C (dx dX7_firstWithRoom 10 rfl) rfl ?_
            refine r_istore (ls' := [(0, vr 7 k), (1, vi (nI am)), (2, vi (nI m)), (3, vi (nI p)), (4, vi (nI 0))]) C (dx dX7_firstWithRoom 11 rfl) (by decide) [1, 2, 3, 4, 0] rfl ?_
            refine r_iconst (v := nI 0) C (dx dX7_firstWithRoom 12 rfl) rfl ?_
            refine r_istore (ls' := [(0, vr 7 k), (1, vi (nI am)), (2, vi (nI m)), (3, vi (nI p)), (4, vi (nI 0)), (5, vi (nI 0))]) C (dx dX7_firstWithRoom 13 rfl) (by decide) [1, 2, 3, 4, 5, 0] rfl ?_
            refine loopU (Φ := fun q => ∀ (x4 : Int32), Rr G 22 [(0, vr 7 k), (1, vi (nI am)), (2, vi (nI m)), (3, vi (nI p)), (4, vi x4), (5, vi (nI q))] [] h) (N := vP v) ?_ ?_ 0 (by omega) (nI 0)
            ·
              intro  x4
              refine r_iload C (dx dX7_firstWithRoom 14 rfl) rfl ?_
              refine r_aload_n C (dx dX7_firstWithRoom 15 rfl) rfl ?_
              refine g_X7_64 (x := nI (vP v)) C (dx dX7_firstWithRoom 16 rfl) hm.eP ?_
              refine rn_ge (a := vP v) (b := vP v) (tgt := 74) C (by omega) (by omega) (dx dX7_firstWithRoom 17 rfl) (by decide) (fun c17 => ?_) (fun c17 => ?_)
              · first
                | (omega; done)
                | (
                    have c17 : vP v ≤ vP v := c17
                    refine r_iload C (dx dX7_firstWithRoom 39 rfl) rfl ?_
                    refine r_if_eq (tgt := 89) C (dx dX7_firstWithRoom 40 rfl) (by decide) (fun c18 => ?_) (fun c18 => ?_)
                    ·
                      have c18 : x4 = 0 := c18
                      refine rn_iinc (a := p) (k := 1) (ls' := [(0, vr 7 k), (1, vi (nI am)), (2, vi (nI m)), (3, vi (nI (p + 1))), (4, vi x4), (5, vi (nI (vP v)))]) C (dx dX7_firstWithRoom 47 rfl) rfl rfl (by decide) [1, 2, 3, 0, 4, 5] rfl ?_
                      refine r_goto (tgt := 2) C (dx dX7_firstWithRoom 48 rfl) (by decide) ?_
                      refine r_weak C [0, 1, 2, 3] rfl ?_
                      exact ihp 
                    ·
                      have c18 : ¬ x4 = 0 := c18
                      refine r_aload_n C (dx dX7_firstWithRoom 41 rfl) rfl ?_
                      refine r_iload_n C (dx dX7_firstWithRoom 42 rfl) rfl ?_
                      refine r_cvW (as := [vi (nI p)]) (st := []) C X I_X7_hasRoom l_X7_135 (c_X7_hasRoom hm (j := p) (by omega)) (by decide) (Nat.le_of_ble_eq_true rfl) List.prefix_rfl rfl rfl (Nat.le_of_ble_eq_true rfl) rfl (dx dX7_firstWithRoom 43 rfl) ?_
                      rintro _ ⟨x19, rfl⟩
                      refine rb_eq (b := x19) (tgt := 89) C (dx dX7_firstWithRoom 44 rfl) (by decide) (fun c20 => ?_) (fun c20 => ?_)
                      ·
                        have c20 : x19 = false := c20
                        refine rn_iinc (a := p) (k := 1) (ls' := [(0, vr 7 k), (1, vi (nI am)), (2, vi (nI m)), (3, vi (nI (p + 1))), (4, vi x4), (5, vi (nI (vP v)))]) C (dx dX7_firstWithRoom 47 rfl) rfl rfl (by decide) [1, 2, 3, 0, 4, 5] rfl ?_
                        refine r_goto (tgt := 2) C (dx dX7_firstWithRoom 48 rfl) (by decide) ?_
                        refine r_weak C [0, 1, 2, 3] rfl ?_
                        exact ihp 
                      ·
                        have c20 : x19 = true := c20
                        refine r_iload_n C (dx dX7_firstWithRoom 45 rfl) rfl ?_
                        exact F.1 _ _ _ _ .int rfl rfl (dx dX7_firstWithRoom 46 rfl) rfl ⟨⟨_, Or.inr ⟨_, by omega, rfl⟩, rfl⟩, rfl⟩)
              · first
                | (omega; done)
            ·
              intro q hq ihq x4
              refine r_iload C (dx dX7_firstWithRoom 14 rfl) rfl ?_
              refine r_aload_n C (dx dX7_firstWithRoom 15 rfl) rfl ?_
              refine g_X7_64 (x := nI (vP v)) C (dx dX7_firstWithRoom 16 rfl) hm.eP ?_
              refine rn_ge (a := q) (b := vP v) (tgt := 74) C (by omega) (by omega) (dx dX7_firstWithRoom 17 rfl) (by decide) (fun c27 => ?_) (fun c27 => ?_)
              · first
                | (omega; done)
                | (
                    have c27 : vP v ≤ q := c27
                    refine r_iload C (dx dX7_firstWithRoom 39 rfl) rfl ?_
                    refine r_if_eq (tgt := 89) C (dx dX7_firstWithRoom 40 rfl) (by decide) (fun c28 => ?_) (fun c28 => ?_)
                    ·
                      have c28 : x4 = 0 := c28
                      refine rn_iinc (a := p) (k := 1) (ls' := [(0, vr 7 k), (1, vi (nI am)), (2, vi (nI m)), (3, vi (nI (p + 1))), (4, vi x4), (5, vi (nI q))]) C (dx dX7_firstWithRoom 47 rfl) rfl rfl (by decide) [1, 2, 3, 0, 4, 5] rfl ?_
                      refine r_goto (tgt := 2) C (dx dX7_firstWithRoom 48 rfl) (by decide) ?_
                      refine r_weak C [0, 1, 2, 3] rfl ?_
                      exact ihp 
                    ·
                      have c28 : ¬ x4 = 0 := c28
                      refine r_aload_n C (dx dX7_firstWithRoom 41 rfl) rfl ?_
                      refine r_iload_n C (dx dX7_firstWithRoom 42 rfl) rfl ?_
                      refine r_cvW (as := [vi (nI p)]) (st := []) C X I_X7_hasRoom l_X7_135 (c_X7_hasRoom hm (j := p) (by omega)) (by decide) (Nat.le_of_ble_eq_true rfl) List.prefix_rfl rfl rfl (Nat.le_of_ble_eq_true rfl) rfl (dx dX7_firstWithRoom 43 rfl) ?_
                      rintro _ ⟨x29, rfl⟩
                      refine rb_eq (b := x29) (tgt := 89) C (dx dX7_firstWithRoom 44 rfl) (by decide) (fun c30 => ?_) (fun c30 => ?_)
                      ·
                        have c30 : x29 = false := c30
                        refine rn_iinc (a := p) (k := 1) (ls' := [(0, vr 7 k), (1, vi (nI am)), (2, vi (nI m)), (3, vi (nI (p + 1))), (4, vi x4), (5, vi (nI q))]) C (dx dX7_firstWithRoom 47 rfl) rfl rfl (by decide) [1, 2, 3, 0, 4, 5] rfl ?_
                        refine r_goto (tgt := 2) C (dx dX7_firstWithRoom 48 rfl) (by decide) ?_
                        refine r_weak C [0, 1, 2, 3] rfl ?_
                        exact ihp 
                      ·
                        have c30 : x29 = true := c30
                        refine r_iload_n C (dx dX7_firstWithRoom 45 rfl) rfl ?_
                        exact F.1 _ _ _ _ .int rfl rfl (dx dX7_firstWithRoom 46 rfl) rfl ⟨⟨_, Or.inr ⟨_, by omega, rfl⟩, rfl⟩, rfl⟩)
              · first
                | (omega; done)
                | (
                    have c27 : q < vP v := c27
                    refine r_iload C (dx dX7_firstWithRoom 18 rfl) rfl ?_
                    refine r_if_ne (tgt := 74) C (dx dX7_firstWithRoom 19 rfl) (by decide) (fun c31 => ?_) (fun c31 => ?_)
                    ·
                      have c31 : ¬ x4 = 0 := c31
                      refine r_iload C (dx dX7_firstWithRoom 39 rfl) rfl ?_
                      refine r_if_eq (tgt := 89) C (dx dX7_firstWithRoom 40 rfl) (by decide) (fun c32 => ?_) (fun c32 => ?_)
                      ·
                        have c32 : x4 = 0 := c32
                        exact absurd c32 c31
                      ·
                        have c32 : ¬ x4 = 0 := c32
                        refine r_aload_n C (dx dX7_firstWithRoom 41 rfl) rfl ?_
                        refine r_iload_n C (dx dX7_firstWithRoom 42 rfl) rfl ?_
                        refine r_cvW (as := [vi (nI p)]) (st := []) C X I_X7_hasRoom l_X7_135 (c_X7_hasRoom hm (j := p) (by omega)) (by decide) (Nat.le_of_ble_eq_true rfl) List.prefix_rfl rfl rfl (Nat.le_of_ble_eq_true rfl) rfl (dx dX7_firstWithRoom 43 rfl) ?_
                        rintro _ ⟨x33, rfl⟩
                        refine rb_eq (b := x33) (tgt := 89) C (dx dX7_firstWithRoom 44 rfl) (by decide) (fun c34 => ?_) (fun c34 => ?_)
                        ·
                          have c34 : x33 = false := c34
                          refine rn_iinc (a := p) (k := 1) (ls' := [(0, vr 7 k), (1, vi (nI am)), (2, vi (nI m)), (3, vi (nI (p + 1))), (4, vi x4), (5, vi (nI q))]) C (dx dX7_firstWithRoom 47 rfl) rfl rfl (by decide) [1, 2, 3, 0, 4, 5] rfl ?_
                          refine r_goto (tgt := 2) C (dx dX7_firstWithRoom 48 rfl) (by decide) ?_
                          refine r_weak C [0, 1, 2, 3] rfl ?_
                          exact ihp 
                        ·
                          have c34 : x33 = true := c34
                          refine r_iload_n C (dx dX7_firstWithRoom 45 rfl) rfl ?_
                          exact F.1 _ _ _ _ .int rfl rfl (dx dX7_firstWithRoom 46 rfl) rfl ⟨⟨_, Or.inr ⟨_, by omega, rfl⟩, rfl⟩, rfl⟩
                    ·
                      have c31 : x4 = 0 := c31
                      refine r_aload_n C (dx dX7_firstWithRoom 20 rfl) rfl ?_
                      refine g_X7_46 C (dx dX7_firstWithRoom 21 rfl) ?_
                      refine r_iload_n C (dx dX7_firstWithRoom 22 rfl) rfl ?_
                      refine r_iald (j := m) (x := vF v 2 m) C rfl rfl (by decide) rfl (by omega) (dx dX7_firstWithRoom 23 rfl) (hm.e2 (by omega)) ?_
                      refine r_iload C (dx dX7_firstWithRoom 24 rfl) rfl ?_
                      refine r_csW (as := [vi (vF v 2 m), vi (nI q)]) (st := []) C X I_X7_isIn l_X7_244 (c_X7_isIn _ _) (by decide) (Nat.le_of_ble_eq_true rfl) List.prefix_rfl (Nat.le_of_ble_eq_true rfl) rfl (dx dX7_firstWithRoom 25 rfl) ?_
                      rintro _ ⟨x35, rfl⟩
                      refine rb_eq (b := x35) (tgt := 65) C (dx dX7_firstWithRoom 26 rfl) (by decide) (fun c36 => ?_) (fun c36 => ?_)
                      ·
                        have c36 : x35 = false := c36
                        refine r_iconst (v := nI 0) C (dx dX7_firstWithRoom 35 rfl) rfl ?_
                        refine r_istore (ls' := [(0, vr 7 k), (1, vi (nI am)), (2, vi (nI m)), (3, vi (nI p)), (4, vi (nI 0)), (5, vi (nI q))]) C (dx dX7_firstWithRoom 36 rfl) (by decide) [1, 2, 3, 4, 0, 5] rfl ?_
                        refine rn_iinc (a := q) (k := 1) (ls' := [(0, vr 7 k), (1, vi (nI am)), (2, vi (nI m)), (3, vi (nI p)), (4, vi (nI 0)), (5, vi (nI (q + 1)))]) C (dx dX7_firstWithRoom 37 rfl) rfl rfl (by decide) [1, 2, 3, 4, 5, 0] rfl ?_
                        refine r_goto (tgt := 22) C (dx dX7_firstWithRoom 38 rfl) (by decide) ?_
                        exact ihq (nI 0)
                      ·
                        have c36 : x35 = true := c36
                        refine r_aload_n C (dx dX7_firstWithRoom 27 rfl) rfl ?_
                        refine g_X7_40 C (dx dX7_firstWithRoom 28 rfl) ?_
                        refine r_iload C (dx dX7_firstWithRoom 29 rfl) rfl ?_
                        refine r_iald (j := q) (x := vF v 0 q) C rfl rfl (by decide) rfl (by omega) (dx dX7_firstWithRoom 30 rfl) (hm.e0 (by omega)) ?_
                        refine r_iload_n C (dx dX7_firstWithRoom 31 rfl) rfl ?_
                        refine r_icmp_ne (tgt := 65) C (dx dX7_firstWithRoom 32 rfl) (by decide) (fun c37 => ?_) (fun c37 => ?_)
                        ·
                          have c37 : ¬ vF v 0 q = nI p := c37
                          refine r_iconst (v := nI 0) C (dx dX7_firstWithRoom 35 rfl) rfl ?_
                          refine r_istore (ls' := [(0, vr 7 k), (1, vi (nI am)), (2, vi (nI m)), (3, vi (nI p)), (4, vi (nI 0)), (5, vi (nI q))]) C (dx dX7_firstWithRoom 36 rfl) (by decide) [1, 2, 3, 4, 0, 5] rfl ?_
                          refine rn_iinc (a := q) (k := 1) (ls' := [(0, vr 7 k), (1, vi (nI am)), (2, vi (nI m)), (3, vi (nI p)), (4, vi (nI 0)), (5, vi (nI (q + 1)))]) C (dx dX7_firstWithRoom 37 rfl) rfl rfl (by decide) [1, 2, 3, 4, 5, 0] rfl ?_
                          refine r_goto (tgt := 22) C (dx dX7_firstWithRoom 38 rfl) (by decide) ?_
                          exact ihq (nI 0)
                        ·
                          have c37 : vF v 0 q = nI p := c37
                          refine r_iconst (v := nI 1) C (dx dX7_firstWithRoom 33 rfl) rfl ?_
                          refine r_goto (tgt := 66) C (dx dX7_firstWithRoom 34 rfl) (by decide) ?_
                          refine r_istore (ls' := [(0, vr 7 k), (1, vi (nI am)), (2, vi (nI m)), (3, vi (nI p)), (4, vi (nI 1)), (5, vi (nI q))]) C (dx dX7_firstWithRoom 36 rfl) (by decide) [1, 2, 3, 4, 0, 5] rfl ?_
                          refine rn_iinc (a := q) (k := 1) (ls' := [(0, vr 7 k), (1, vi (nI am)), (2, vi (nI m)), (3, vi (nI p)), (4, vi (nI 1)), (5, vi (nI (q + 1)))]) C (dx dX7_firstWithRoom 37 rfl) rfl rfl (by decide) [1, 2, 3, 4, 5, 0] rfl ?_
                          refine r_goto (tgt := 22) C (dx dX7_firstWithRoom 38 rfl) (by decide) ?_
                          exact ihq (nI 1))
          · exact absurd c16 (nI_nm1 (by omega)))
set_option maxHeartbeats 4000000 in
theorem c_X7_nextWithRoom {l : Launch} {h : Hp} {k : Nat} {v : Vg} (hm : MilAt h k v) {a : Nat} (ha : a < 1000) (y : Int32) : Ms l yX7_nextWithRoom cX7_nextWithRoom 5 (some .int) 4 [vr 7 k, vi (nI a), vi y] h (xK h) (fun r h' => (∃ x, (x = -1 ∨ ∃ a, a < vN v ∧ x = nI a) ∧ r = some (vi x)) ∧ h' = h) := by
  refine Ms.of (by decide) (Nat.le_of_ble_eq_true rfl) (fun G C X F => ?_)
  have C : Cx G cX7_nextWithRoom 5 RX7 := C
  show Rr G 0 [(0, vr 7 k), (1, vi (nI a)), (2, vi y)] [] h
  have bP := hm.bP
  have bM := hm.bM
  have bN := hm.bN
  refine r_iconst (v := nI 0) C (dx dX7_nextWithRoom 0 rfl) rfl ?_
  refine r_istore_n (ls' := [(0, vr 7 k), (1, vi (nI a)), (2, vi y), (3, vi (nI 0))]) C (dx dX7_nextWithRoom 1 rfl) (by decide) [1, 2, 3, 0] rfl ?_
  refine loopU (Φ := fun p => Rr G 2 [(0, vr 7 k), (1, vi (nI a)), (2, vi y), (3, vi (nI p))] [] h) (N := vN v) ?_ ?_ 0 (by omega) 
  ·
    refine r_iload_n C (dx dX7_nextWithRoom 2 rfl) rfl ?_
    refine r_aload_n C (dx dX7_nextWithRoom 3 rfl) rfl ?_
    refine g_X7_74 (x := nI (vN v)) C (dx dX7_nextWithRoom 4 rfl) hm.eN ?_
    refine rn_ge (a := vN v) (b := vN v) (tgt := 44) C (by omega) (by omega) (dx dX7_nextWithRoom 5 rfl) (by decide) (fun c1 => ?_) (fun c1 => ?_)
    · first
      | (omega; done)
      | (
          have c1 : vN v ≤ vN v := c1
          refine r_iconst (v := -1) C (dx dX7_nextWithRoom 24 rfl) rfl ?_
          exact F.1 _ _ _ _ .int rfl rfl (dx dX7_nextWithRoom 25 rfl) rfl ⟨⟨_, Or.inl rfl, rfl⟩, rfl⟩)
    · first
      | (omega; done)
  ·
    intro p hp ihp
    refine r_iload_n C (dx dX7_nextWithRoom 2 rfl) rfl ?_
    refine r_aload_n C (dx dX7_nextWithRoom 3 rfl) rfl ?_
    refine g_X7_74 (x := nI (vN v)) C (dx dX7_nextWithRoom 4 rfl) hm.eN ?_
    refine rn_ge (a := p) (b := vN v) (tgt := 44) C (by omega) (by omega) (dx dX7_nextWithRoom 5 rfl) (by decide) (fun c4 => ?_) (fun c4 => ?_)
    · first
      | (omega; done)
      | (
          have c4 : vN v ≤ p := c4
          refine r_iconst (v := -1) C (dx dX7_nextWithRoom 24 rfl) rfl ?_
          exact F.1 _ _ _ _ .int rfl rfl (dx dX7_nextWithRoom 25 rfl) rfl ⟨⟨_, Or.inl rfl, rfl⟩, rfl⟩)
    · first
      | (omega; done)
      | (
          have c4 : p < vN v := c4
          refine r_iload_n C (dx dX7_nextWithRoom 6 rfl) rfl ?_
          refine r_iload_n C (dx dX7_nextWithRoom 7 rfl) rfl ?_
          refine rn_iadd (a := a) (b := p) C (dx dX7_nextWithRoom 8 rfl) ?_
          refine r_aload_n C (dx dX7_nextWithRoom 9 rfl) rfl ?_
          refine g_X7_74 (x := nI (vN v)) C (dx dX7_nextWithRoom 10 rfl) hm.eN ?_
          refine r_irem C (dx dX7_nextWithRoom 11 rfl) (fun z => by have := congrArg Int32.toInt z; rw [nI_toInt (by omega)] at this; have e0 : (0 : Int32).toInt = 0 := (by decide); omega) ?_
          rw [pmod (by omega) (by omega) (by omega)]
          have hmod : (a + p) % (vN v) < vN v := Nat.mod_lt _ (by omega)
          generalize (a + p) % (vN v) = r5 at hmod ⊢
          refine r_istore (ls' := [(0, vr 7 k), (1, vi (nI a)), (2, vi y), (3, vi (nI p)), (4, vi (nI r5))]) C (dx dX7_nextWithRoom 12 rfl) (by decide) [1, 2, 3, 4, 0] rfl ?_
          refine r_iload C (dx dX7_nextWithRoom 13 rfl) rfl ?_
          refine r_iload_n C (dx dX7_nextWithRoom 14 rfl) rfl ?_
          refine r_icmp_eq (tgt := 38) C (dx dX7_nextWithRoom 15 rfl) (by decide) (fun c6 => ?_) (fun c6 => ?_)
          ·
            have c6 : nI r5 = y := c6
            refine rn_iinc (a := p) (k := 1) (ls' := [(0, vr 7 k), (1, vi (nI a)), (2, vi y), (3, vi (nI (p + 1))), (4, vi (nI r5))]) C (dx dX7_nextWithRoom 22 rfl) rfl rfl (by decide) [1, 2, 3, 0, 4] rfl ?_
            refine r_goto (tgt := 2) C (dx dX7_nextWithRoom 23 rfl) (by decide) ?_
            refine r_weak C [0, 1, 2, 3] rfl ?_
            exact ihp 
          ·
            have c6 : ¬ nI r5 = y := c6
            refine r_aload_n C (dx dX7_nextWithRoom 16 rfl) rfl ?_
            refine r_iload C (dx dX7_nextWithRoom 17 rfl) rfl ?_
            refine r_cvW (as := [vi (nI r5)]) (st := []) C X I_X7_hasRoom l_X7_135 (c_X7_hasRoom hm (j := r5) (by omega)) (by decide) (Nat.le_of_ble_eq_true rfl) List.prefix_rfl rfl rfl (Nat.le_of_ble_eq_true rfl) rfl (dx dX7_nextWithRoom 18 rfl) ?_
            rintro _ ⟨x7, rfl⟩
            refine rb_eq (b := x7) (tgt := 38) C (dx dX7_nextWithRoom 19 rfl) (by decide) (fun c8 => ?_) (fun c8 => ?_)
            ·
              have c8 : x7 = false := c8
              refine rn_iinc (a := p) (k := 1) (ls' := [(0, vr 7 k), (1, vi (nI a)), (2, vi y), (3, vi (nI (p + 1))), (4, vi (nI r5))]) C (dx dX7_nextWithRoom 22 rfl) rfl rfl (by decide) [1, 2, 3, 0, 4] rfl ?_
              refine r_goto (tgt := 2) C (dx dX7_nextWithRoom 23 rfl) (by decide) ?_
              refine r_weak C [0, 1, 2, 3] rfl ?_
              exact ihp 
            ·
              have c8 : x7 = true := c8
              refine r_iload C (dx dX7_nextWithRoom 20 rfl) rfl ?_
              exact F.1 _ _ _ _ .int rfl rfl (dx dX7_nextWithRoom 21 rfl) rfl ⟨⟨_, Or.inr ⟨_, by omega, rfl⟩, rfl⟩, rfl⟩)
set_option maxHeartbeats 4000000 in
theorem c_X7_surest {l : Launch} {h : Hp} {k : Nat} {v : Vg} (hm : MilAt h k v)  : Ms l yX7_surest cX7_surest 3 (some .int) 4 [vr 7 k] h (xK h) (fun r h' => (∃ x, (x = -1 ∨ ∃ a, a < vN v ∧ x = nI a) ∧ r = some (vi x)) ∧ h' = h) := by
  refine Ms.of (by decide) (Nat.le_of_ble_eq_true rfl) (fun G C X F => ?_)
  have C : Cx G cX7_surest 3 RX7 := C
  show Rr G 0 [(0, vr 7 k)] [] h
  have bP := hm.bP
  have bM := hm.bM
  have bN := hm.bN
  refine r_iconst (v := -1) C (dx dX7_surest 0 rfl) rfl ?_
  refine r_istore_n (ls' := [(0, vr 7 k), (1, vi (-1))]) C (dx dX7_surest 1 rfl) (by decide) [1, 0] rfl ?_
  refine r_iconst (v := nI 0) C (dx dX7_surest 2 rfl) rfl ?_
  refine r_istore_n (ls' := [(0, vr 7 k), (1, vi (-1)), (2, vi (nI 0))]) C (dx dX7_surest 3 rfl) (by decide) [1, 2, 0] rfl ?_
  refine loopU (Φ := fun p => ∀ (x1 : Int32), (x1 = -1 ∨ ∃ a, a < vN v ∧ x1 = nI a) → Rr G 4 [(0, vr 7 k), (1, vi x1), (2, vi (nI p))] [] h) (N := vN v) ?_ ?_ 0 (by omega) (-1) (Or.inl rfl)
  ·
    intro  x1 hx1
    refine r_iload_n C (dx dX7_surest 4 rfl) rfl ?_
    refine r_aload_n C (dx dX7_surest 5 rfl) rfl ?_
    refine g_X7_74 (x := nI (vN v)) C (dx dX7_surest 6 rfl) hm.eN ?_
    refine rn_ge (a := vN v) (b := vN v) (tgt := 56) C (by omega) (by omega) (dx dX7_surest 7 rfl) (by decide) (fun c1 => ?_) (fun c1 => ?_)
    · first
      | (omega; done)
      | (
          have c1 : vN v ≤ vN v := c1
          refine r_iload_n C (dx dX7_surest 34 rfl) rfl ?_
          exact F.1 _ _ _ _ .int rfl rfl (dx dX7_surest 35 rfl) rfl ⟨⟨_, mo (by omega) hx1, rfl⟩, rfl⟩)
    · first
      | (omega; done)
  ·
    intro p hp ihp x1 hx1
    refine r_iload_n C (dx dX7_surest 4 rfl) rfl ?_
    refine r_aload_n C (dx dX7_surest 5 rfl) rfl ?_
    refine g_X7_74 (x := nI (vN v)) C (dx dX7_surest 6 rfl) hm.eN ?_
    refine rn_ge (a := p) (b := vN v) (tgt := 56) C (by omega) (by omega) (dx dX7_surest 7 rfl) (by decide) (fun c4 => ?_) (fun c4 => ?_)
    · first
      | (omega; done)
      | (
          have c4 : vN v ≤ p := c4
          refine r_iload_n C (dx dX7_surest 34 rfl) rfl ?_
          exact F.1 _ _ _ _ .int rfl rfl (dx dX7_surest 35 rfl) rfl ⟨⟨_, mo (by omega) hx1, rfl⟩, rfl⟩)
    · first
      | (omega; done)
      | (
          have c4 : p < vN v := c4
          refine r_aload_n C (dx dX7_surest 8 rfl) rfl ?_
          refine r_iload_n C (dx dX7_surest 9 rfl) rfl ?_
          refine r_cvW (as := [vi (nI p)]) (st := []) C X I_X7_hasRoom l_X7_135 (c_X7_hasRoom hm (j := p) (by omega)) (by decide) (Nat.le_of_ble_eq_true rfl) List.prefix_rfl rfl rfl (Nat.le_of_ble_eq_true rfl) rfl (dx dX7_surest 10 rfl) ?_
          rintro _ ⟨x5, rfl⟩
          refine rb_eq (b := x5) (tgt := 48) C (dx dX7_surest 11 rfl) (by decide) (fun c6 => ?_) (fun c6 => ?_)
          ·
            have c6 : x5 = false := c6
            refine r_iload_n C (dx dX7_surest 30 rfl) rfl ?_
            refine r_istore_n (ls' := [(0, vr 7 k), (1, vi x1), (2, vi (nI p))]) C (dx dX7_surest 31 rfl) (by decide) [1, 0, 2] rfl ?_
            refine rn_iinc (a := p) (k := 1) (ls' := [(0, vr 7 k), (1, vi x1), (2, vi (nI (p + 1)))]) C (dx dX7_surest 32 rfl) rfl rfl (by decide) [1, 2, 0] rfl ?_
            refine r_goto (tgt := 4) C (dx dX7_surest 33 rfl) (by decide) ?_
            exact ihp x1 hx1
          ·
            have c6 : x5 = true := c6
            refine r_iload_n C (dx dX7_surest 12 rfl) rfl ?_
            refine r_iconst (v := -1) C (dx dX7_surest 13 rfl) rfl ?_
            refine r_icmp_eq (tgt := 44) C (dx dX7_surest 14 rfl) (by decide) (fun c7 => ?_) (fun c7 => ?_)
            ·
              have c7 : x1 = -1 := c7
              refine r_iload_n C (dx dX7_surest 28 rfl) rfl ?_
              refine r_goto (tgt := 49) C (dx dX7_surest 29 rfl) (by decide) ?_
              refine r_istore_n (ls' := [(0, vr 7 k), (1, vi (nI p)), (2, vi (nI p))]) C (dx dX7_surest 31 rfl) (by decide) [1, 0, 2] rfl ?_
              refine rn_iinc (a := p) (k := 1) (ls' := [(0, vr 7 k), (1, vi (nI p)), (2, vi (nI (p + 1)))]) C (dx dX7_surest 32 rfl) rfl rfl (by decide) [1, 2, 0] rfl ?_
              refine r_goto (tgt := 4) C (dx dX7_surest 33 rfl) (by decide) ?_
              exact ihp (nI p) (Or.inr ⟨_, by omega, rfl⟩)
            ·
              have c7 : ¬ x1 = -1 := c7
              refine r_aload_n C (dx dX7_surest 15 rfl) rfl ?_
              refine g_X7_54 C (dx dX7_surest 16 rfl) ?_
              refine r_iload_n C (dx dX7_surest 17 rfl) rfl ?_
              refine r_aald4 (j := p) C rfl rfl (by decide) rfl (by omega) (dx dX7_surest 18 rfl) ?_
              refine r_iconst (v := nI 1) C (dx dX7_surest 19 rfl) rfl ?_
              refine r_iald (j := 1) (x := vF v 5 p) C rfl rfl (by decide) rfl (by omega) (dx dX7_surest 20 rfl) (hm.eo (by omega) (by omega)) ?_
              refine r_aload_n C (dx dX7_surest 21 rfl) rfl ?_
              refine g_X7_54 C (dx dX7_surest 22 rfl) ?_
              refine r_iload_n C (dx dX7_surest 23 rfl) rfl ?_
              have i8 := (mi (by omega) hx1 c7).2
              refine r_aald4 (j := x1.toNatClampNeg) C rfl rfl (by decide) (mi (by omega) hx1 c7).1 (Nat.lt_of_lt_of_le (mi (by omega) hx1 c7).2 (by omega)) (dx dX7_surest 24 rfl) ?_
              refine r_iconst (v := nI 1) C (dx dX7_surest 25 rfl) rfl ?_
              refine r_iald (j := 1) (x := vF v 5 x1.toNatClampNeg) C rfl rfl (by decide) rfl (by omega) (dx dX7_surest 26 rfl) (hm.eo (by omega) (by omega)) ?_
              refine r_icmp_ge (tgt := 48) C (dx dX7_surest 27 rfl) (by decide) (fun c9 => ?_) (fun c9 => ?_)
              ·
                have c9 : vF v 5 x1.toNatClampNeg ≤ vF v 5 p := c9
                refine r_iload_n C (dx dX7_surest 30 rfl) rfl ?_
                refine r_istore_n (ls' := [(0, vr 7 k), (1, vi x1), (2, vi (nI p))]) C (dx dX7_surest 31 rfl) (by decide) [1, 0, 2] rfl ?_
                refine rn_iinc (a := p) (k := 1) (ls' := [(0, vr 7 k), (1, vi x1), (2, vi (nI (p + 1)))]) C (dx dX7_surest 32 rfl) rfl rfl (by decide) [1, 2, 0] rfl ?_
                refine r_goto (tgt := 4) C (dx dX7_surest 33 rfl) (by decide) ?_
                exact ihp x1 hx1
              ·
                have c9 : ¬ vF v 5 x1.toNatClampNeg ≤ vF v 5 p := c9
                refine r_iload_n C (dx dX7_surest 28 rfl) rfl ?_
                refine r_goto (tgt := 49) C (dx dX7_surest 29 rfl) (by decide) ?_
                refine r_istore_n (ls' := [(0, vr 7 k), (1, vi (nI p)), (2, vi (nI p))]) C (dx dX7_surest 31 rfl) (by decide) [1, 0, 2] rfl ?_
                refine rn_iinc (a := p) (k := 1) (ls' := [(0, vr 7 k), (1, vi (nI p)), (2, vi (nI (p + 1)))]) C (dx dX7_surest 32 rfl) rfl rfl (by decide) [1, 2, 0] rfl ?_
                refine r_goto (tgt := 4) C (dx dX7_surest 33 rfl) (by decide) ?_
                exact ihp (nI p) (Or.inr ⟨_, by omega, rfl⟩))
theorem cnt_0 : ∀ n, cnt (bt (nI 0)) n = 0
  | 0 => rfl
  | n + 1 => by simp only [cnt]; rw [bt_0, if_neg (by decide), cnt_0 n]
set_option maxHeartbeats 4000000 in
theorem c_X7_holdWhole {l : Launch} {h : Hp} {k : Nat} {v : Vg} (hm : MilAt h k v) {am : Nat} (ha : am ≤ vN v) : Ms l yX7_holdWhole cX7_holdWhole 8 none 6 [vr 7 k, vi (nI am)] h (xK h) (fun r h' => r = none ∧ (∃ v', MilAt h' k v' ∧ Sz v v') ∧ Kp k h h') := by
  refine Ms.of (by decide) (Nat.le_of_ble_eq_true rfl) (fun G C X F => ?_)
  have C : Cx G cX7_holdWhole 8 RX7 := C
  show Rr G 0 [(0, vr 7 k), (1, vi (nI am))] [] h
  have bP := hm.bP
  have bM := hm.bM
  have bN := hm.bN
  refine r_iconst (v := nI 0) C (dx dX7_holdWhole 0 rfl) rfl ?_
  refine r_istore_n (ls' := [(0, vr 7 k), (1, vi (nI am)), (2, vi (nI 0))]) C (dx dX7_holdWhole 1 rfl) (by decide) [1, 2, 0] rfl ?_
  refine r_iconst (v := nI 0) C (dx dX7_holdWhole 2 rfl) rfl ?_
  refine r_istore_n (ls' := [(0, vr 7 k), (1, vi (nI am)), (2, vi (nI 0)), (3, vi (nI 0))]) C (dx dX7_holdWhole 3 rfl) (by decide) [1, 2, 3, 0] rfl ?_
  refine r_iconst (v := nI 0) C (dx dX7_holdWhole 4 rfl) rfl ?_
  refine r_istore (ls' := [(0, vr 7 k), (1, vi (nI am)), (2, vi (nI 0)), (3, vi (nI 0)), (4, vi (nI 0))]) C (dx dX7_holdWhole 5 rfl) (by decide) [1, 2, 3, 4, 0] rfl ?_
  refine loopU (Φ := fun p => ∀ (x2 : Int32), cnt (bt x2) (vM v) ≤ p → ∀ (x3 : Int32), ∀ (h9p : Hp) (u9p : Vg), MilAt h9p k u9p → Sz v u9p → Kp k h h9p → xK h9p = xK h → Rr G 7 [(0, vr 7 k), (1, vi (nI am)), (2, vi x2), (3, vi x3), (4, vi (nI p))] [] h9p) (N := vM v) ?_ ?_ 0 (by omega) (nI 0) (by rw [show cnt (bt (nI 0)) (vM v) = 0 from cnt_0 _]; exact Nat.le_refl _) (nI 0) h v hm (⟨by omega, by omega, by omega⟩) Kp.rf rfl
  ·
    intro  x2 hx2 x3 h9p u9p mh9p zh9p ph9p kh9p
    obtain ⟨ah9p, bh9p, ch9p⟩ := zh9p
    refine r_iload C (dx dX7_holdWhole 6 rfl) rfl ?_
    refine r_aload_n C (dx dX7_holdWhole 7 rfl) rfl ?_
    refine g_X7_71 (x := nI (vM u9p)) C (dx dX7_holdWhole 8 rfl) mh9p.eM ?_
    refine rn_ge (a := vM v) (b := vM u9p) (tgt := 173) C (by omega) (by omega) (dx dX7_holdWhole 9 rfl) (by decide) (fun c1 => ?_) (fun c1 => ?_)
    · first
      | (omega; done)
      | (
          have c1 : vM u9p ≤ vM v := c1
          refine r_iconst (v := nI 0) C (dx dX7_holdWhole 91 rfl) rfl ?_
          refine r_istore (ls' := [(0, vr 7 k), (1, vi (nI am)), (2, vi x2), (3, vi x3), (4, vi (nI 0))]) C (dx dX7_holdWhole 92 rfl) (by decide) [1, 2, 3, 4, 0] rfl ?_
          refine loopU (Φ := fun q3 => ∀ (h9q3 : Hp) (u9q3 : Vg), MilAt h9q3 k u9q3 → Sz v u9q3 → Kp k h h9q3 → xK h9q3 = xK h → Rr G 176 [(0, vr 7 k), (1, vi (nI am)), (2, vi x2), (3, vi x3), (4, vi (nI q3))] [] h9q3) (N := vP v) ?_ ?_ 0 (by omega) h9p u9p mh9p (⟨by omega, by omega, by omega⟩) ph9p kh9p
          ·
            intro  h9q3 u9q3 mh9q3 zh9q3 ph9q3 kh9q3
            obtain ⟨ah9q3, bh9q3, ch9q3⟩ := zh9q3
            refine r_iload C (dx dX7_holdWhole 93 rfl) rfl ?_
            refine r_aload_n C (dx dX7_holdWhole 94 rfl) rfl ?_
            refine g_X7_64 (x := nI (vP u9q3)) C (dx dX7_holdWhole 95 rfl) mh9q3.eP ?_
            refine rn_ge (a := vP v) (b := vP u9q3) (tgt := 223) C (by omega) (by omega) (dx dX7_holdWhole 96 rfl) (by decide) (fun c2 => ?_) (fun c2 => ?_)
            · first
              | (omega; done)
              | (
                  have c2 : vP u9q3 ≤ vP v := c2
                  exact F.2.2.1 _ _ _ rfl (dx dX7_holdWhole 116 rfl) kh9q3 ⟨rfl, ⟨_, mh9q3, ⟨by omega, by omega, by omega⟩⟩, ph9q3⟩)
            · first
              | (omega; done)
          ·
            intro q3 hq3 ihq3 h9q3 u9q3 mh9q3 zh9q3 ph9q3 kh9q3
            obtain ⟨ah9q3, bh9q3, ch9q3⟩ := zh9q3
            refine r_iload C (dx dX7_holdWhole 93 rfl) rfl ?_
            refine r_aload_n C (dx dX7_holdWhole 94 rfl) rfl ?_
            refine g_X7_64 (x := nI (vP u9q3)) C (dx dX7_holdWhole 95 rfl) mh9q3.eP ?_
            refine rn_ge (a := q3) (b := vP u9q3) (tgt := 223) C (by omega) (by omega) (dx dX7_holdWhole 96 rfl) (by decide) (fun c6 => ?_) (fun c6 => ?_)
            · first
              | (omega; done)
              | (
                  have c6 : vP u9q3 ≤ q3 := c6
                  exact F.2.2.1 _ _ _ rfl (dx dX7_holdWhole 116 rfl) kh9q3 ⟨rfl, ⟨_, mh9q3, ⟨by omega, by omega, by omega⟩⟩, ph9q3⟩)
            · first
              | (omega; done)
              | (
                  have c6 : q3 < vP u9q3 := c6
                  refine r_aload_n C (dx dX7_holdWhole 97 rfl) rfl ?_
                  refine g_X7_40 C (dx dX7_holdWhole 98 rfl) ?_
                  refine r_iload C (dx dX7_holdWhole 99 rfl) rfl ?_
                  refine r_iload_n C (dx dX7_holdWhole 100 rfl) rfl ?_
                  refine r_iload C (dx dX7_holdWhole 101 rfl) rfl ?_
                  refine r_csP (as := [vi x3, vi (nI q3)]) (st := [vi (nI q3), vr 20 (k + 18)]) (v := vi (b2i (bt x3 q3))) C X I_X7_isIn l_X7_244 (c_isInB x3 (o := q3) (by omega)) (by decide) (Nat.le_of_ble_eq_true rfl) (pfx_eq kh9q3) (Nat.le_of_ble_eq_true rfl) rfl (dx dX7_holdWhole 102 rfl) ?_
                  refine rb_eq (b := bt x3 q3) (tgt := 210) C (dx dX7_holdWhole 103 rfl) (by decide) (fun c7 => ?_) (fun c7 => ?_)
                  ·
                    have c7 : (bt x3 q3) = false := c7
                    refine r_aload_n C (dx dX7_holdWhole 109 rfl) rfl ?_
                    refine r_iload_n C (dx dX7_holdWhole 110 rfl) rfl ?_
                    refine r_iconst (v := -1) C (dx dX7_holdWhole 111 rfl) rfl ?_
                    refine r_cvW (as := [vi (nI am), vi (-1)]) (st := [vi (nI q3), vr 20 (k + 18)]) C X I_X7_firstWithRoom l_X7_279 (c_fwr_n mh9q3 (am := am) (by omega)) (by decide) (Nat.le_of_ble_eq_true rfl) (pfx_eq kh9q3) rfl rfl (Nat.le_of_ble_eq_true rfl) rfl (dx dX7_holdWhole 112 rfl) ?_
                    rintro _ ⟨x8, hx8, rfl⟩
                    refine r_iast (j := q3) C rfl rfl (by decide) rfl (by omega) (dx dX7_holdWhole 113 rfl) ?_
                    obtain ⟨vh9, mh9, zh9⟩ : ∃ v9, MilAt (sI h9q3 (k + 18) q3 x8) k v9 ∧ Sz u9q3 v9 := ⟨vset u9q3 0 q3 x8, mh9q3.s0, ⟨rfl, rfl, rfl⟩⟩
                    have ph9 : Kp k h (sI h9q3 (k + 18) q3 x8) := ph9q3.tr (Kp.c (by omega) (by omega))
                    have kh9 : xK (sI h9q3 (k + 18) q3 x8) = xK h := kh9q3
                    generalize sI h9q3 (k + 18) q3 x8 = h9 at mh9 ph9 kh9 ⊢
                    obtain ⟨ah9, bh9, ch9⟩ := zh9
                    refine rn_iinc (a := q3) (k := 1) (ls' := [(0, vr 7 k), (1, vi (nI am)), (2, vi x2), (3, vi x3), (4, vi (nI (q3 + 1)))]) C (dx dX7_holdWhole 114 rfl) rfl rfl (by decide) [1, 2, 3, 4, 0] rfl ?_
                    refine r_goto (tgt := 176) C (dx dX7_holdWhole 115 rfl) (by decide) ?_
                    exact ihq3 h9 vh9 mh9 (⟨by omega, by omega, by omega⟩) ph9 kh9
                  ·
                    have c7 : (bt x3 q3) = true := c7
                    refine r_aload_n C (dx dX7_holdWhole 104 rfl) rfl ?_
                    refine g_X7_40 C (dx dX7_holdWhole 105 rfl) ?_
                    refine r_iload C (dx dX7_holdWhole 106 rfl) rfl ?_
                    refine r_iald (j := q3) (x := vF u9q3 0 q3) C rfl rfl (by decide) rfl (by omega) (dx dX7_holdWhole 107 rfl) (mh9q3.e0 (by omega)) ?_
                    refine r_goto (tgt := 216) C (dx dX7_holdWhole 108 rfl) (by decide) ?_
                    refine r_iast (j := q3) C rfl rfl (by decide) rfl (by omega) (dx dX7_holdWhole 113 rfl) ?_
                    obtain ⟨vh10, mh10, zh10⟩ : ∃ v9, MilAt (sI h9q3 (k + 18) q3 (vF u9q3 0 q3)) k v9 ∧ Sz u9q3 v9 := ⟨vset u9q3 0 q3 (vF u9q3 0 q3), mh9q3.s0, ⟨rfl, rfl, rfl⟩⟩
                    have ph10 : Kp k h (sI h9q3 (k + 18) q3 (vF u9q3 0 q3)) := ph9q3.tr (Kp.c (by omega) (by omega))
                    have kh10 : xK (sI h9q3 (k + 18) q3 (vF u9q3 0 q3)) = xK h := kh9q3
                    generalize sI h9q3 (k + 18) q3 (vF u9q3 0 q3) = h10 at mh10 ph10 kh10 ⊢
                    obtain ⟨ah10, bh10, ch10⟩ := zh10
                    refine rn_iinc (a := q3) (k := 1) (ls' := [(0, vr 7 k), (1, vi (nI am)), (2, vi x2), (3, vi x3), (4, vi (nI (q3 + 1)))]) C (dx dX7_holdWhole 114 rfl) rfl rfl (by decide) [1, 2, 3, 4, 0] rfl ?_
                    refine r_goto (tgt := 176) C (dx dX7_holdWhole 115 rfl) (by decide) ?_
                    exact ihq3 h10 vh10 mh10 (⟨by omega, by omega, by omega⟩) ph10 kh10))
    · first
      | (omega; done)
      | (
          have c1 : vM v < vM u9p := c1
          refine r_iconst (v := -1) C (dx dX7_holdWhole 10 rfl) rfl ?_
          refine r_istore (ls' := [(0, vr 7 k), (1, vi (nI am)), (2, vi x2), (3, vi x3), (4, vi (nI (vM v))), (5, vi (-1))]) C (dx dX7_holdWhole 11 rfl) (by decide) [1, 2, 3, 4, 5, 0] rfl ?_
          refine r_iconst (v := nI 0) C (dx dX7_holdWhole 12 rfl) rfl ?_
          refine r_istore (ls' := [(0, vr 7 k), (1, vi (nI am)), (2, vi x2), (3, vi x3), (4, vi (nI (vM v))), (5, vi (-1)), (6, vi (nI 0))]) C (dx dX7_holdWhole 13 rfl) (by decide) [1, 2, 3, 4, 5, 6, 0] rfl ?_
          refine loopU (Φ := fun q => ∀ (x5 : Int32), (x5 = -1 ∧ ∀ i, i < q → bt x2 i = true) ∨ (∃ a, a < vM v ∧ x5 = nI a) → Rr G 22 [(0, vr 7 k), (1, vi (nI am)), (2, vi x2), (3, vi x3), (4, vi (nI (vM v))), (5, vi x5), (6, vi (nI q))] [] h9p) (N := vM v) ?_ ?_ 0 (by omega) (-1) (Or.inl ⟨rfl, fun i hi => absurd hi (by omega)⟩)
          ·
            intro  x5 hx5
            refine r_iload C (dx dX7_holdWhole 14 rfl) rfl ?_
            refine r_aload_n C (dx dX7_holdWhole 15 rfl) rfl ?_
            refine g_X7_71 (x := nI (vM u9p)) C (dx dX7_holdWhole 16 rfl) mh9p.eM ?_
            refine rn_ge (a := vM v) (b := vM u9p) (tgt := 78) C (by omega) (by omega) (dx dX7_holdWhole 17 rfl) (by decide) (fun c11 => ?_) (fun c11 => ?_)
            · first
              | (omega; done)
              | (
                  have c11 : vM u9p ≤ vM v := c11
                  obtain ⟨β, hβ, rfl⟩ := hw_best (t := p) (n := vM v) hx2 (by omega) hx5
                  refine r_iload_n C (dx dX7_holdWhole 40 rfl) rfl ?_
                  refine r_iconst (v := nI 1) C (dx dX7_holdWhole 41 rfl) rfl ?_
                  refine r_iload C (dx dX7_holdWhole 42 rfl) rfl ?_
                  refine r_ishl C (dx dX7_holdWhole 43 rfl) ?_
                  refine r_ior C (dx dX7_holdWhole 44 rfl) ?_
                  refine r_istore_n (ls' := [(0, vr 7 k), (1, vi (nI am)), (2, vi (x2 ||| ((nI 1) <<< ((nI β) &&& 31)))), (3, vi x3), (4, vi (nI (vM v))), (5, vi (nI β)), (6, vi (nI (vM v)))]) C (dx dX7_holdWhole 45 rfl) (by decide) [1, 2, 0, 3, 4, 5, 6] rfl ?_
                  refine r_iconst (v := nI 0) C (dx dX7_holdWhole 46 rfl) rfl ?_
                  refine r_istore (ls' := [(0, vr 7 k), (1, vi (nI am)), (2, vi (x2 ||| ((nI 1) <<< ((nI β) &&& 31)))), (3, vi x3), (4, vi (nI (vM v))), (5, vi (nI β)), (6, vi (nI 0))]) C (dx dX7_holdWhole 47 rfl) (by decide) [1, 2, 3, 4, 5, 6, 0] rfl ?_
                  refine loopU (Φ := fun q2 => ∀ (x3 : Int32), ∀ (h9q2 : Hp) (u9q2 : Vg), MilAt h9q2 k u9q2 → Sz v u9q2 → Kp k h h9q2 → xK h9q2 = xK h → Rr G 88 [(0, vr 7 k), (1, vi (nI am)), (2, vi (x2 ||| ((nI 1) <<< ((nI β) &&& 31)))), (3, vi x3), (4, vi (nI (vM v))), (5, vi (nI β)), (6, vi (nI q2))] [] h9q2) (N := vP v) ?_ ?_ 0 (by omega) x3 h9p u9p mh9p (⟨by omega, by omega, by omega⟩) ph9p kh9p
                  ·
                    intro  x3 h9q2 u9q2 mh9q2 zh9q2 ph9q2 kh9q2
                    obtain ⟨ah9q2, bh9q2, ch9q2⟩ := zh9q2
                    refine r_iload C (dx dX7_holdWhole 48 rfl) rfl ?_
                    refine r_aload_n C (dx dX7_holdWhole 49 rfl) rfl ?_
                    refine g_X7_64 (x := nI (vP u9q2)) C (dx dX7_holdWhole 50 rfl) mh9q2.eP ?_
                    refine rn_ge (a := vP v) (b := vP u9q2) (tgt := 167) C (by omega) (by omega) (dx dX7_holdWhole 51 rfl) (by decide) (fun c12 => ?_) (fun c12 => ?_)
                    · first
                      | (omega; done)
                    · first
                      | (omega; done)
                  ·
                    intro q2 hq2 ihq2 x3 h9q2 u9q2 mh9q2 zh9q2 ph9q2 kh9q2
                    obtain ⟨ah9q2, bh9q2, ch9q2⟩ := zh9q2
                    refine r_iload C (dx dX7_holdWhole 48 rfl) rfl ?_
                    refine r_aload_n C (dx dX7_holdWhole 49 rfl) rfl ?_
                    refine g_X7_64 (x := nI (vP u9q2)) C (dx dX7_holdWhole 50 rfl) mh9q2.eP ?_
                    refine rn_ge (a := q2) (b := vP u9q2) (tgt := 167) C (by omega) (by omega) (dx dX7_holdWhole 51 rfl) (by decide) (fun c14 => ?_) (fun c14 => ?_)
                    · first
                      | (omega; done)
                    · first
                      | (omega; done)
                      | (
                          have c14 : q2 < vP u9q2 := c14
                          refine r_aload_n C (dx dX7_holdWhole 52 rfl) rfl ?_
                          refine g_X7_46 C (dx dX7_holdWhole 53 rfl) ?_
                          refine r_iload C (dx dX7_holdWhole 54 rfl) rfl ?_
                          refine r_iald (j := β) (x := vF u9q2 2 β) C rfl rfl (by decide) rfl (by omega) (dx dX7_holdWhole 55 rfl) (mh9q2.e2 (by omega)) ?_
                          refine r_iload C (dx dX7_holdWhole 56 rfl) rfl ?_
                          refine r_csP (as := [vi (vF u9q2 2 β), vi (nI q2)]) (st := []) (v := vi (b2i (bt (vF u9q2 2 β) q2))) C X I_X7_isIn l_X7_244 (c_isInB (vF u9q2 2 β) (o := q2) (by omega)) (by decide) (Nat.le_of_ble_eq_true rfl) (pfx_eq kh9q2) (Nat.le_of_ble_eq_true rfl) rfl (dx dX7_holdWhole 57 rfl) ?_
                          refine rb_eq (b := bt (vF u9q2 2 β) q2) (tgt := 161) C (dx dX7_holdWhole 58 rfl) (by decide) (fun c15 => ?_) (fun c15 => ?_)
                          ·
                            have c15 : (bt (vF u9q2 2 β) q2) = false := c15
                            refine rn_iinc (a := q2) (k := 1) (ls' := [(0, vr 7 k), (1, vi (nI am)), (2, vi (x2 ||| ((nI 1) <<< ((nI β) &&& 31)))), (3, vi x3), (4, vi (nI (vM v))), (5, vi (nI β)), (6, vi (nI (q2 + 1)))]) C (dx dX7_holdWhole 87 rfl) rfl rfl (by decide) [1, 2, 3, 4, 5, 6, 0] rfl ?_
                            refine r_goto (tgt := 88) C (dx dX7_holdWhole 88 rfl) (by decide) ?_
                            exact ihq2 x3 h9q2 u9q2 mh9q2 (⟨by omega, by omega, by omega⟩) ph9q2 kh9q2
                          ·
                            have c15 : (bt (vF u9q2 2 β) q2) = true := c15
                            refine r_iload_n C (dx dX7_holdWhole 59 rfl) rfl ?_
                            refine r_iload C (dx dX7_holdWhole 60 rfl) rfl ?_
                            refine r_csP (as := [vi x3, vi (nI q2)]) (st := []) (v := vi (b2i (bt x3 q2))) C X I_X7_isIn l_X7_244 (c_isInB x3 (o := q2) (by omega)) (by decide) (Nat.le_of_ble_eq_true rfl) (pfx_eq kh9q2) (Nat.le_of_ble_eq_true rfl) rfl (dx dX7_holdWhole 61 rfl) ?_
                            refine rb_ne (b := bt x3 q2) (tgt := 161) C (dx dX7_holdWhole 62 rfl) (by decide) (fun c16 => ?_) (fun c16 => ?_)
                            ·
                              have c16 : (bt x3 q2) = true := c16
                              refine rn_iinc (a := q2) (k := 1) (ls' := [(0, vr 7 k), (1, vi (nI am)), (2, vi (x2 ||| ((nI 1) <<< ((nI β) &&& 31)))), (3, vi x3), (4, vi (nI (vM v))), (5, vi (nI β)), (6, vi (nI (q2 + 1)))]) C (dx dX7_holdWhole 87 rfl) rfl rfl (by decide) [1, 2, 3, 4, 5, 6, 0] rfl ?_
                              refine r_goto (tgt := 88) C (dx dX7_holdWhole 88 rfl) (by decide) ?_
                              exact ihq2 x3 h9q2 u9q2 mh9q2 (⟨by omega, by omega, by omega⟩) ph9q2 kh9q2
                            ·
                              have c16 : (bt x3 q2) = false := c16
                              refine r_aload_n C (dx dX7_holdWhole 63 rfl) rfl ?_
                              refine r_iload_n C (dx dX7_holdWhole 64 rfl) rfl ?_
                              refine r_iload C (dx dX7_holdWhole 65 rfl) rfl ?_
                              refine r_cvW (as := [vi (nI am), vi (nI β)]) (st := []) C X I_X7_firstWithRoom l_X7_279 (c_fwr_m mh9q2 (am := am) (m := β) (by omega) (by omega)) (by decide) (Nat.le_of_ble_eq_true rfl) (pfx_eq kh9q2) rfl rfl (Nat.le_of_ble_eq_true rfl) rfl (dx dX7_holdWhole 66 rfl) ?_
                              rintro _ ⟨x17, hx17, rfl⟩
                              refine r_istore (ls' := [(0, vr 7 k), (1, vi (nI am)), (2, vi (x2 ||| ((nI 1) <<< ((nI β) &&& 31)))), (3, vi x3), (4, vi (nI (vM v))), (5, vi (nI β)), (6, vi (nI q2)), (7, vi x17)]) C (dx dX7_holdWhole 67 rfl) (by decide) [1, 2, 3, 4, 5, 6, 7, 0] rfl ?_
                              refine r_aload_n C (dx dX7_holdWhole 68 rfl) rfl ?_
                              refine g_X7_40 C (dx dX7_holdWhole 69 rfl) ?_
                              refine r_iload C (dx dX7_holdWhole 70 rfl) rfl ?_
                              refine r_iload C (dx dX7_holdWhole 71 rfl) rfl ?_
                              refine r_iconst (v := -1) C (dx dX7_holdWhole 72 rfl) rfl ?_
                              refine r_icmp_ne (tgt := 151) C (dx dX7_holdWhole 73 rfl) (by decide) (fun c18 => ?_) (fun c18 => ?_)
                              ·
                                have c18 : ¬ x17 = -1 := c18
                                refine r_iload C (dx dX7_holdWhole 79 rfl) rfl ?_
                                refine r_iast (j := q2) C rfl rfl (by decide) rfl (by omega) (dx dX7_holdWhole 80 rfl) ?_
                                obtain ⟨vh19, mh19, zh19⟩ : ∃ v9, MilAt (sI h9q2 (k + 18) q2 x17) k v9 ∧ Sz u9q2 v9 := ⟨vset u9q2 0 q2 x17, mh9q2.s0, ⟨rfl, rfl, rfl⟩⟩
                                have ph19 : Kp k h (sI h9q2 (k + 18) q2 x17) := ph9q2.tr (Kp.c (by omega) (by omega))
                                have kh19 : xK (sI h9q2 (k + 18) q2 x17) = xK h := kh9q2
                                generalize sI h9q2 (k + 18) q2 x17 = h19 at mh19 ph19 kh19 ⊢
                                obtain ⟨ah19, bh19, ch19⟩ := zh19
                                refine r_iload_n C (dx dX7_holdWhole 81 rfl) rfl ?_
                                refine r_iconst (v := nI 1) C (dx dX7_holdWhole 82 rfl) rfl ?_
                                refine r_iload C (dx dX7_holdWhole 83 rfl) rfl ?_
                                refine r_ishl C (dx dX7_holdWhole 84 rfl) ?_
                                refine r_ior C (dx dX7_holdWhole 85 rfl) ?_
                                refine r_istore_n (ls' := [(0, vr 7 k), (1, vi (nI am)), (2, vi (x2 ||| ((nI 1) <<< ((nI β) &&& 31)))), (3, vi (x3 ||| ((nI 1) <<< ((nI q2) &&& 31)))), (4, vi (nI (vM v))), (5, vi (nI β)), (6, vi (nI q2)), (7, vi x17)]) C (dx dX7_holdWhole 86 rfl) (by decide) [1, 2, 3, 0, 4, 5, 6, 7] rfl ?_
                                refine rn_iinc (a := q2) (k := 1) (ls' := [(0, vr 7 k), (1, vi (nI am)), (2, vi (x2 ||| ((nI 1) <<< ((nI β) &&& 31)))), (3, vi (x3 ||| ((nI 1) <<< ((nI q2) &&& 31)))), (4, vi (nI (vM v))), (5, vi (nI β)), (6, vi (nI (q2 + 1))), (7, vi x17)]) C (dx dX7_holdWhole 87 rfl) rfl rfl (by decide) [1, 2, 3, 4, 5, 6, 0, 7] rfl ?_
                                refine r_goto (tgt := 88) C (dx dX7_holdWhole 88 rfl) (by decide) ?_
                                refine r_weak C [0, 1, 2, 3, 4, 5, 6] rfl ?_
                                exact ihq2 (x3 ||| ((nI 1) <<< ((nI q2) &&& 31))) h19 vh19 mh19 (⟨by omega, by omega, by omega⟩) ph19 kh19
                              ·
                                have c18 : x17 = -1 := c18
                                refine r_aload_n C (dx dX7_holdWhole 74 rfl) rfl ?_
                                refine r_iload_n C (dx dX7_holdWhole 75 rfl) rfl ?_
                                refine r_iconst (v := -1) C (dx dX7_holdWhole 76 rfl) rfl ?_
                                refine r_cvW (as := [vi (nI am), vi (-1)]) (st := [vi (nI q2), vr 20 (k + 18)]) C X I_X7_firstWithRoom l_X7_279 (c_fwr_n mh9q2 (am := am) (by omega)) (by decide) (Nat.le_of_ble_eq_true rfl) (pfx_eq kh9q2) rfl rfl (Nat.le_of_ble_eq_true rfl) rfl (dx dX7_holdWhole 77 rfl) ?_
                                rintro _ ⟨x20, hx20, rfl⟩
                                refine r_goto (tgt := 153) C (dx dX7_holdWhole 78 rfl) (by decide) ?_
                                refine r_iast (j := q2) C rfl rfl (by decide) rfl (by omega) (dx dX7_holdWhole 80 rfl) ?_
                                obtain ⟨vh21, mh21, zh21⟩ : ∃ v9, MilAt (sI h9q2 (k + 18) q2 x20) k v9 ∧ Sz u9q2 v9 := ⟨vset u9q2 0 q2 x20, mh9q2.s0, ⟨rfl, rfl, rfl⟩⟩
                                have ph21 : Kp k h (sI h9q2 (k + 18) q2 x20) := ph9q2.tr (Kp.c (by omega) (by omega))
                                have kh21 : xK (sI h9q2 (k + 18) q2 x20) = xK h := kh9q2
                                generalize sI h9q2 (k + 18) q2 x20 = h21 at mh21 ph21 kh21 ⊢
                                obtain ⟨ah21, bh21, ch21⟩ := zh21
                                refine r_iload_n C (dx dX7_holdWhole 81 rfl) rfl ?_
                                refine r_iconst (v := nI 1) C (dx dX7_holdWhole 82 rfl) rfl ?_
                                refine r_iload C (dx dX7_holdWhole 83 rfl) rfl ?_
                                refine r_ishl C (dx dX7_holdWhole 84 rfl) ?_
                                refine r_ior C (dx dX7_holdWhole 85 rfl) ?_
                                refine r_istore_n (ls' := [(0, vr 7 k), (1, vi (nI am)), (2, vi (x2 ||| ((nI 1) <<< ((nI β) &&& 31)))), (3, vi (x3 ||| ((nI 1) <<< ((nI q2) &&& 31)))), (4, vi (nI (vM v))), (5, vi (nI β)), (6, vi (nI q2)), (7, vi x17)]) C (dx dX7_holdWhole 86 rfl) (by decide) [1, 2, 3, 0, 4, 5, 6, 7] rfl ?_
                                refine rn_iinc (a := q2) (k := 1) (ls' := [(0, vr 7 k), (1, vi (nI am)), (2, vi (x2 ||| ((nI 1) <<< ((nI β) &&& 31)))), (3, vi (x3 ||| ((nI 1) <<< ((nI q2) &&& 31)))), (4, vi (nI (vM v))), (5, vi (nI β)), (6, vi (nI (q2 + 1))), (7, vi x17)]) C (dx dX7_holdWhole 87 rfl) rfl rfl (by decide) [1, 2, 3, 4, 5, 6, 0, 7] rfl ?_
                                refine r_goto (tgt := 88) C (dx dX7_holdWhole 88 rfl) (by decide) ?_
                                refine r_weak C [0, 1, 2, 3, 4, 5, 6] rfl ?_
                                exact ihq2 (x3 ||| ((nI 1) <<< ((nI q2) &&& 31))) h21 vh21 mh21 (⟨by omega, by omega, by omega⟩) ph21 kh21))
            · first
              | (omega; done)
          ·
            intro q hq ihq x5 hx5
            refine r_iload C (dx dX7_holdWhole 14 rfl) rfl ?_
            refine r_aload_n C (dx dX7_holdWhole 15 rfl) rfl ?_
            refine g_X7_71 (x := nI (vM u9p)) C (dx dX7_holdWhole 16 rfl) mh9p.eM ?_
            refine rn_ge (a := q) (b := vM u9p) (tgt := 78) C (by omega) (by omega) (dx dX7_holdWhole 17 rfl) (by decide) (fun c23 => ?_) (fun c23 => ?_)
            · first
              | (omega; done)
              | (
                  have c23 : vM u9p ≤ q := c23
                  obtain ⟨β, hβ, rfl⟩ := hw_best (t := p) (n := vM v) hx2 (by omega) hx5
                  refine r_iload_n C (dx dX7_holdWhole 40 rfl) rfl ?_
                  refine r_iconst (v := nI 1) C (dx dX7_holdWhole 41 rfl) rfl ?_
                  refine r_iload C (dx dX7_holdWhole 42 rfl) rfl ?_
                  refine r_ishl C (dx dX7_holdWhole 43 rfl) ?_
                  refine r_ior C (dx dX7_holdWhole 44 rfl) ?_
                  refine r_istore_n (ls' := [(0, vr 7 k), (1, vi (nI am)), (2, vi (x2 ||| ((nI 1) <<< ((nI β) &&& 31)))), (3, vi x3), (4, vi (nI (vM v))), (5, vi (nI β)), (6, vi (nI q))]) C (dx dX7_holdWhole 45 rfl) (by decide) [1, 2, 0, 3, 4, 5, 6] rfl ?_
                  refine r_iconst (v := nI 0) C (dx dX7_holdWhole 46 rfl) rfl ?_
                  refine r_istore (ls' := [(0, vr 7 k), (1, vi (nI am)), (2, vi (x2 ||| ((nI 1) <<< ((nI β) &&& 31)))), (3, vi x3), (4, vi (nI (vM v))), (5, vi (nI β)), (6, vi (nI 0))]) C (dx dX7_holdWhole 47 rfl) (by decide) [1, 2, 3, 4, 5, 6, 0] rfl ?_
                  refine loopU (Φ := fun q2 => ∀ (x3 : Int32), ∀ (h9q2 : Hp) (u9q2 : Vg), MilAt h9q2 k u9q2 → Sz v u9q2 → Kp k h h9q2 → xK h9q2 = xK h → Rr G 88 [(0, vr 7 k), (1, vi (nI am)), (2, vi (x2 ||| ((nI 1) <<< ((nI β) &&& 31)))), (3, vi x3), (4, vi (nI (vM v))), (5, vi (nI β)), (6, vi (nI q2))] [] h9q2) (N := vP v) ?_ ?_ 0 (by omega) x3 h9p u9p mh9p (⟨by omega, by omega, by omega⟩) ph9p kh9p
                  ·
                    intro  x3 h9q2 u9q2 mh9q2 zh9q2 ph9q2 kh9q2
                    obtain ⟨ah9q2, bh9q2, ch9q2⟩ := zh9q2
                    refine r_iload C (dx dX7_holdWhole 48 rfl) rfl ?_
                    refine r_aload_n C (dx dX7_holdWhole 49 rfl) rfl ?_
                    refine g_X7_64 (x := nI (vP u9q2)) C (dx dX7_holdWhole 50 rfl) mh9q2.eP ?_
                    refine rn_ge (a := vP v) (b := vP u9q2) (tgt := 167) C (by omega) (by omega) (dx dX7_holdWhole 51 rfl) (by decide) (fun c24 => ?_) (fun c24 => ?_)
                    · first
                      | (omega; done)
                    · first
                      | (omega; done)
                  ·
                    intro q2 hq2 ihq2 x3 h9q2 u9q2 mh9q2 zh9q2 ph9q2 kh9q2
                    obtain ⟨ah9q2, bh9q2, ch9q2⟩ := zh9q2
                    refine r_iload C (dx dX7_holdWhole 48 rfl) rfl ?_
                    refine r_aload_n C (dx dX7_holdWhole 49 rfl) rfl ?_
                    refine g_X7_64 (x := nI (vP u9q2)) C (dx dX7_holdWhole 50 rfl) mh9q2.eP ?_
                    refine rn_ge (a := q2) (b := vP u9q2) (tgt := 167) C (by omega) (by omega) (dx dX7_holdWhole 51 rfl) (by decide) (fun c26 => ?_) (fun c26 => ?_)
                    · first
                      | (omega; done)
                    · first
                      | (omega; done)
                      | (
                          have c26 : q2 < vP u9q2 := c26
                          refine r_aload_n C (dx dX7_holdWhole 52 rfl) rfl ?_
                          refine g_X7_46 C (dx dX7_holdWhole 53 rfl) ?_
                          refine r_iload C (dx dX7_holdWhole 54 rfl) rfl ?_
                          refine r_iald (j := β) (x := vF u9q2 2 β) C rfl rfl (by decide) rfl (by omega) (dx dX7_holdWhole 55 rfl) (mh9q2.e2 (by omega)) ?_
                          refine r_iload C (dx dX7_holdWhole 56 rfl) rfl ?_
                          refine r_csP (as := [vi (vF u9q2 2 β), vi (nI q2)]) (st := []) (v := vi (b2i (bt (vF u9q2 2 β) q2))) C X I_X7_isIn l_X7_244 (c_isInB (vF u9q2 2 β) (o := q2) (by omega)) (by decide) (Nat.le_of_ble_eq_true rfl) (pfx_eq kh9q2) (Nat.le_of_ble_eq_true rfl) rfl (dx dX7_holdWhole 57 rfl) ?_
                          refine rb_eq (b := bt (vF u9q2 2 β) q2) (tgt := 161) C (dx dX7_holdWhole 58 rfl) (by decide) (fun c27 => ?_) (fun c27 => ?_)
                          ·
                            have c27 : (bt (vF u9q2 2 β) q2) = false := c27
                            refine rn_iinc (a := q2) (k := 1) (ls' := [(0, vr 7 k), (1, vi (nI am)), (2, vi (x2 ||| ((nI 1) <<< ((nI β) &&& 31)))), (3, vi x3), (4, vi (nI (vM v))), (5, vi (nI β)), (6, vi (nI (q2 + 1)))]) C (dx dX7_holdWhole 87 rfl) rfl rfl (by decide) [1, 2, 3, 4, 5, 6, 0] rfl ?_
                            refine r_goto (tgt := 88) C (dx dX7_holdWhole 88 rfl) (by decide) ?_
                            exact ihq2 x3 h9q2 u9q2 mh9q2 (⟨by omega, by omega, by omega⟩) ph9q2 kh9q2
                          ·
                            have c27 : (bt (vF u9q2 2 β) q2) = true := c27
                            refine r_iload_n C (dx dX7_holdWhole 59 rfl) rfl ?_
                            refine r_iload C (dx dX7_holdWhole 60 rfl) rfl ?_
                            refine r_csP (as := [vi x3, vi (nI q2)]) (st := []) (v := vi (b2i (bt x3 q2))) C X I_X7_isIn l_X7_244 (c_isInB x3 (o := q2) (by omega)) (by decide) (Nat.le_of_ble_eq_true rfl) (pfx_eq kh9q2) (Nat.le_of_ble_eq_true rfl) rfl (dx dX7_holdWhole 61 rfl) ?_
                            refine rb_ne (b := bt x3 q2) (tgt := 161) C (dx dX7_holdWhole 62 rfl) (by decide) (fun c28 => ?_) (fun c28 => ?_)
                            ·
                              have c28 : (bt x3 q2) = true := c28
                              refine rn_iinc (a := q2) (k := 1) (ls' := [(0, vr 7 k), (1, vi (nI am)), (2, vi (x2 ||| ((nI 1) <<< ((nI β) &&& 31)))), (3, vi x3), (4, vi (nI (vM v))), (5, vi (nI β)), (6, vi (nI (q2 + 1)))]) C (dx dX7_holdWhole 87 rfl) rfl rfl (by decide) [1, 2, 3, 4, 5, 6, 0] rfl ?_
                              refine r_goto (tgt := 88) C (dx dX7_holdWhole 88 rfl) (by decide) ?_
                              exact ihq2 x3 h9q2 u9q2 mh9q2 (⟨by omega, by omega, by omega⟩) ph9q2 kh9q2
                            ·
                              have c28 : (bt x3 q2) = false := c28
                              refine r_aload_n C (dx dX7_holdWhole 63 rfl) rfl ?_
                              refine r_iload_n C (dx dX7_holdWhole 64 rfl) rfl ?_
                              refine r_iload C (dx dX7_holdWhole 65 rfl) rfl ?_
                              refine r_cvW (as := [vi (nI am), vi (nI β)]) (st := []) C X I_X7_firstWithRoom l_X7_279 (c_fwr_m mh9q2 (am := am) (m := β) (by omega) (by omega)) (by decide) (Nat.le_of_ble_eq_true rfl) (pfx_eq kh9q2) rfl rfl (Nat.le_of_ble_eq_true rfl) rfl (dx dX7_holdWhole 66 rfl) ?_
                              rintro _ ⟨x29, hx29, rfl⟩
                              refine r_istore (ls' := [(0, vr 7 k), (1, vi (nI am)), (2, vi (x2 ||| ((nI 1) <<< ((nI β) &&& 31)))), (3, vi x3), (4, vi (nI (vM v))), (5, vi (nI β)), (6, vi (nI q2)), (7, vi x29)]) C (dx dX7_holdWhole 67 rfl) (by decide) [1, 2, 3, 4, 5, 6, 7, 0] rfl ?_
                              refine r_aload_n C (dx dX7_holdWhole 68 rfl) rfl ?_
                              refine g_X7_40 C (dx dX7_holdWhole 69 rfl) ?_
                              refine r_iload C (dx dX7_holdWhole 70 rfl) rfl ?_
                              refine r_iload C (dx dX7_holdWhole 71 rfl) rfl ?_
                              refine r_iconst (v := -1) C (dx dX7_holdWhole 72 rfl) rfl ?_
                              refine r_icmp_ne (tgt := 151) C (dx dX7_holdWhole 73 rfl) (by decide) (fun c30 => ?_) (fun c30 => ?_)
                              ·
                                have c30 : ¬ x29 = -1 := c30
                                refine r_iload C (dx dX7_holdWhole 79 rfl) rfl ?_
                                refine r_iast (j := q2) C rfl rfl (by decide) rfl (by omega) (dx dX7_holdWhole 80 rfl) ?_
                                obtain ⟨vh31, mh31, zh31⟩ : ∃ v9, MilAt (sI h9q2 (k + 18) q2 x29) k v9 ∧ Sz u9q2 v9 := ⟨vset u9q2 0 q2 x29, mh9q2.s0, ⟨rfl, rfl, rfl⟩⟩
                                have ph31 : Kp k h (sI h9q2 (k + 18) q2 x29) := ph9q2.tr (Kp.c (by omega) (by omega))
                                have kh31 : xK (sI h9q2 (k + 18) q2 x29) = xK h := kh9q2
                                generalize sI h9q2 (k + 18) q2 x29 = h31 at mh31 ph31 kh31 ⊢
                                obtain ⟨ah31, bh31, ch31⟩ := zh31
                                refine r_iload_n C (dx dX7_holdWhole 81 rfl) rfl ?_
                                refine r_iconst (v := nI 1) C (dx dX7_holdWhole 82 rfl) rfl ?_
                                refine r_iload C (dx dX7_holdWhole 83 rfl) rfl ?_
                                refine r_ishl C (dx dX7_holdWhole 84 rfl) ?_
                                refine r_ior C (dx dX7_holdWhole 85 rfl) ?_
                                refine r_istore_n (ls' := [(0, vr 7 k), (1, vi (nI am)), (2, vi (x2 ||| ((nI 1) <<< ((nI β) &&& 31)))), (3, vi (x3 ||| ((nI 1) <<< ((nI q2) &&& 31)))), (4, vi (nI (vM v))), (5, vi (nI β)), (6, vi (nI q2)), (7, vi x29)]) C (dx dX7_holdWhole 86 rfl) (by decide) [1, 2, 3, 0, 4, 5, 6, 7] rfl ?_
                                refine rn_iinc (a := q2) (k := 1) (ls' := [(0, vr 7 k), (1, vi (nI am)), (2, vi (x2 ||| ((nI 1) <<< ((nI β) &&& 31)))), (3, vi (x3 ||| ((nI 1) <<< ((nI q2) &&& 31)))), (4, vi (nI (vM v))), (5, vi (nI β)), (6, vi (nI (q2 + 1))), (7, vi x29)]) C (dx dX7_holdWhole 87 rfl) rfl rfl (by decide) [1, 2, 3, 4, 5, 6, 0, 7] rfl ?_
                                refine r_goto (tgt := 88) C (dx dX7_holdWhole 88 rfl) (by decide) ?_
                                refine r_weak C [0, 1, 2, 3, 4, 5, 6] rfl ?_
                                exact ihq2 (x3 ||| ((nI 1) <<< ((nI q2) &&& 31))) h31 vh31 mh31 (⟨by omega, by omega, by omega⟩) ph31 kh31
                              ·
                                have c30 : x29 = -1 := c30
                                refine r_aload_n C (dx dX7_holdWhole 74 rfl) rfl ?_
                                refine r_iload_n C (dx dX7_holdWhole 75 rfl) rfl ?_
                                refine r_iconst (v := -1) C (dx dX7_holdWhole 76 rfl) rfl ?_
                                refine r_cvW (as := [vi (nI am), vi (-1)]) (st := [vi (nI q2), vr 20 (k + 18)]) C X I_X7_firstWithRoom l_X7_279 (c_fwr_n mh9q2 (am := am) (by omega)) (by decide) (Nat.le_of_ble_eq_true rfl) (pfx_eq kh9q2) rfl rfl (Nat.le_of_ble_eq_true rfl) rfl (dx dX7_holdWhole 77 rfl) ?_
                                rintro _ ⟨x32, hx32, rfl⟩
                                refine r_goto (tgt := 153) C (dx dX7_holdWhole 78 rfl) (by decide) ?_
                                refine r_iast (j := q2) C rfl rfl (by decide) rfl (by omega) (dx dX7_holdWhole 80 rfl) ?_
                                obtain ⟨vh33, mh33, zh33⟩ : ∃ v9, MilAt (sI h9q2 (k + 18) q2 x32) k v9 ∧ Sz u9q2 v9 := ⟨vset u9q2 0 q2 x32, mh9q2.s0, ⟨rfl, rfl, rfl⟩⟩
                                have ph33 : Kp k h (sI h9q2 (k + 18) q2 x32) := ph9q2.tr (Kp.c (by omega) (by omega))
                                have kh33 : xK (sI h9q2 (k + 18) q2 x32) = xK h := kh9q2
                                generalize sI h9q2 (k + 18) q2 x32 = h33 at mh33 ph33 kh33 ⊢
                                obtain ⟨ah33, bh33, ch33⟩ := zh33
                                refine r_iload_n C (dx dX7_holdWhole 81 rfl) rfl ?_
                                refine r_iconst (v := nI 1) C (dx dX7_holdWhole 82 rfl) rfl ?_
                                refine r_iload C (dx dX7_holdWhole 83 rfl) rfl ?_
                                refine r_ishl C (dx dX7_holdWhole 84 rfl) ?_
                                refine r_ior C (dx dX7_holdWhole 85 rfl) ?_
                                refine r_istore_n (ls' := [(0, vr 7 k), (1, vi (nI am)), (2, vi (x2 ||| ((nI 1) <<< ((nI β) &&& 31)))), (3, vi (x3 ||| ((nI 1) <<< ((nI q2) &&& 31)))), (4, vi (nI (vM v))), (5, vi (nI β)), (6, vi (nI q2)), (7, vi x29)]) C (dx dX7_holdWhole 86 rfl) (by decide) [1, 2, 3, 0, 4, 5, 6, 7] rfl ?_
                                refine rn_iinc (a := q2) (k := 1) (ls' := [(0, vr 7 k), (1, vi (nI am)), (2, vi (x2 ||| ((nI 1) <<< ((nI β) &&& 31)))), (3, vi (x3 ||| ((nI 1) <<< ((nI q2) &&& 31)))), (4, vi (nI (vM v))), (5, vi (nI β)), (6, vi (nI (q2 + 1))), (7, vi x29)]) C (dx dX7_holdWhole 87 rfl) rfl rfl (by decide) [1, 2, 3, 4, 5, 6, 0, 7] rfl ?_
                                refine r_goto (tgt := 88) C (dx dX7_holdWhole 88 rfl) (by decide) ?_
                                refine r_weak C [0, 1, 2, 3, 4, 5, 6] rfl ?_
                                exact ihq2 (x3 ||| ((nI 1) <<< ((nI q2) &&& 31))) h33 vh33 mh33 (⟨by omega, by omega, by omega⟩) ph33 kh33))
            · first
              | (omega; done)
              | (
                  have c23 : q < vM u9p := c23
                  refine r_iload_n C (dx dX7_holdWhole 18 rfl) rfl ?_
                  refine r_iload C (dx dX7_holdWhole 19 rfl) rfl ?_
                  refine r_csP (as := [vi x2, vi (nI q)]) (st := []) (v := vi (b2i (bt x2 q))) C X I_X7_isIn l_X7_244 (c_isInB x2 (o := q) (by omega)) (by decide) (Nat.le_of_ble_eq_true rfl) (pfx_eq kh9p) (Nat.le_of_ble_eq_true rfl) rfl (dx dX7_holdWhole 20 rfl) ?_
                  refine rb_ne (b := bt x2 q) (tgt := 68) C (dx dX7_holdWhole 21 rfl) (by decide) (fun c34 => ?_) (fun c34 => ?_)
                  ·
                    have c34 : (bt x2 q) = true := c34
                    refine r_iload C (dx dX7_holdWhole 36 rfl) rfl ?_
                    refine r_istore (ls' := [(0, vr 7 k), (1, vi (nI am)), (2, vi x2), (3, vi x3), (4, vi (nI (vM v))), (5, vi x5), (6, vi (nI q))]) C (dx dX7_holdWhole 37 rfl) (by decide) [1, 2, 3, 4, 5, 0, 6] rfl ?_
                    refine rn_iinc (a := q) (k := 1) (ls' := [(0, vr 7 k), (1, vi (nI am)), (2, vi x2), (3, vi x3), (4, vi (nI (vM v))), (5, vi x5), (6, vi (nI (q + 1)))]) C (dx dX7_holdWhole 38 rfl) rfl rfl (by decide) [1, 2, 3, 4, 5, 6, 0] rfl ?_
                    refine r_goto (tgt := 22) C (dx dX7_holdWhole 39 rfl) (by decide) ?_
                    exact ihq x5 (hw_in hx5 c34)
                  ·
                    have c34 : (bt x2 q) = false := c34
                    refine r_iload C (dx dX7_holdWhole 22 rfl) rfl ?_
                    refine r_iconst (v := -1) C (dx dX7_holdWhole 23 rfl) rfl ?_
                    refine r_icmp_eq (tgt := 63) C (dx dX7_holdWhole 24 rfl) (by decide) (fun c35 => ?_) (fun c35 => ?_)
                    ·
                      have c35 : x5 = -1 := c35
                      refine r_iload C (dx dX7_holdWhole 34 rfl) rfl ?_
                      refine r_goto (tgt := 70) C (dx dX7_holdWhole 35 rfl) (by decide) ?_
                      refine r_istore (ls' := [(0, vr 7 k), (1, vi (nI am)), (2, vi x2), (3, vi x3), (4, vi (nI (vM v))), (5, vi (nI q)), (6, vi (nI q))]) C (dx dX7_holdWhole 37 rfl) (by decide) [1, 2, 3, 4, 5, 0, 6] rfl ?_
                      refine rn_iinc (a := q) (k := 1) (ls' := [(0, vr 7 k), (1, vi (nI am)), (2, vi x2), (3, vi x3), (4, vi (nI (vM v))), (5, vi (nI q)), (6, vi (nI (q + 1)))]) C (dx dX7_holdWhole 38 rfl) rfl rfl (by decide) [1, 2, 3, 4, 5, 6, 0] rfl ?_
                      refine r_goto (tgt := 22) C (dx dX7_holdWhole 39 rfl) (by decide) ?_
                      exact ihq (nI q) (Or.inr ⟨_, by omega, rfl⟩)
                    ·
                      have c35 : ¬ x5 = -1 := c35
                      refine r_aload_n C (dx dX7_holdWhole 25 rfl) rfl ?_
                      refine g_X7_49 C (dx dX7_holdWhole 26 rfl) ?_
                      refine r_iload C (dx dX7_holdWhole 27 rfl) rfl ?_
                      refine r_iald (j := q) (x := vF u9p 3 q) C rfl rfl (by decide) rfl (by omega) (dx dX7_holdWhole 28 rfl) (mh9p.e3 (by omega)) ?_
                      refine r_aload_n C (dx dX7_holdWhole 29 rfl) rfl ?_
                      refine g_X7_49 C (dx dX7_holdWhole 30 rfl) ?_
                      refine r_iload C (dx dX7_holdWhole 31 rfl) rfl ?_
                      have i36 := (mi (by omega) (hx5.imp_left And.left) c35).2
                      refine r_iald (j := x5.toNatClampNeg) (x := vF u9p 3 x5.toNatClampNeg) C rfl rfl (by decide) (mi (by omega) (hx5.imp_left And.left) c35).1 (Nat.lt_of_lt_of_le (mi (by omega) (hx5.imp_left And.left) c35).2 (by omega)) (dx dX7_holdWhole 32 rfl) (mh9p.e3 (by omega)) ?_
                      refine r_icmp_le (tgt := 68) C (dx dX7_holdWhole 33 rfl) (by decide) (fun c37 => ?_) (fun c37 => ?_)
                      ·
                        have c37 : vF u9p 3 q ≤ vF u9p 3 x5.toNatClampNeg := c37
                        refine r_iload C (dx dX7_holdWhole 36 rfl) rfl ?_
                        refine r_istore (ls' := [(0, vr 7 k), (1, vi (nI am)), (2, vi x2), (3, vi x3), (4, vi (nI (vM v))), (5, vi x5), (6, vi (nI q))]) C (dx dX7_holdWhole 37 rfl) (by decide) [1, 2, 3, 4, 5, 0, 6] rfl ?_
                        refine rn_iinc (a := q) (k := 1) (ls' := [(0, vr 7 k), (1, vi (nI am)), (2, vi x2), (3, vi x3), (4, vi (nI (vM v))), (5, vi x5), (6, vi (nI (q + 1)))]) C (dx dX7_holdWhole 38 rfl) rfl rfl (by decide) [1, 2, 3, 4, 5, 6, 0] rfl ?_
                        refine r_goto (tgt := 22) C (dx dX7_holdWhole 39 rfl) (by decide) ?_
                        exact ihq x5 (Or.inr (hx5.resolve_left (fun z => c35 z.1)))
                      ·
                        have c37 : ¬ vF u9p 3 q ≤ vF u9p 3 x5.toNatClampNeg := c37
                        refine r_iload C (dx dX7_holdWhole 34 rfl) rfl ?_
                        refine r_goto (tgt := 70) C (dx dX7_holdWhole 35 rfl) (by decide) ?_
                        refine r_istore (ls' := [(0, vr 7 k), (1, vi (nI am)), (2, vi x2), (3, vi x3), (4, vi (nI (vM v))), (5, vi (nI q)), (6, vi (nI q))]) C (dx dX7_holdWhole 37 rfl) (by decide) [1, 2, 3, 4, 5, 0, 6] rfl ?_
                        refine rn_iinc (a := q) (k := 1) (ls' := [(0, vr 7 k), (1, vi (nI am)), (2, vi x2), (3, vi x3), (4, vi (nI (vM v))), (5, vi (nI q)), (6, vi (nI (q + 1)))]) C (dx dX7_holdWhole 38 rfl) rfl rfl (by decide) [1, 2, 3, 4, 5, 6, 0] rfl ?_
                        refine r_goto (tgt := 22) C (dx dX7_holdWhole 39 rfl) (by decide) ?_
                        exact ihq (nI q) (Or.inr ⟨_, by omega, rfl⟩)))
  ·
    intro p hp ihp x2 hx2 x3 h9p u9p mh9p zh9p ph9p kh9p
    obtain ⟨ah9p, bh9p, ch9p⟩ := zh9p
    refine r_iload C (dx dX7_holdWhole 6 rfl) rfl ?_
    refine r_aload_n C (dx dX7_holdWhole 7 rfl) rfl ?_
    refine g_X7_71 (x := nI (vM u9p)) C (dx dX7_holdWhole 8 rfl) mh9p.eM ?_
    refine rn_ge (a := p) (b := vM u9p) (tgt := 173) C (by omega) (by omega) (dx dX7_holdWhole 9 rfl) (by decide) (fun c38 => ?_) (fun c38 => ?_)
    · first
      | (omega; done)
      | (
          have c38 : vM u9p ≤ p := c38
          refine r_iconst (v := nI 0) C (dx dX7_holdWhole 91 rfl) rfl ?_
          refine r_istore (ls' := [(0, vr 7 k), (1, vi (nI am)), (2, vi x2), (3, vi x3), (4, vi (nI 0))]) C (dx dX7_holdWhole 92 rfl) (by decide) [1, 2, 3, 4, 0] rfl ?_
          refine loopU (Φ := fun q3 => ∀ (h9q3 : Hp) (u9q3 : Vg), MilAt h9q3 k u9q3 → Sz v u9q3 → Kp k h h9q3 → xK h9q3 = xK h → Rr G 176 [(0, vr 7 k), (1, vi (nI am)), (2, vi x2), (3, vi x3), (4, vi (nI q3))] [] h9q3) (N := vP v) ?_ ?_ 0 (by omega) h9p u9p mh9p (⟨by omega, by omega, by omega⟩) ph9p kh9p
          ·
            intro  h9q3 u9q3 mh9q3 zh9q3 ph9q3 kh9q3
            obtain ⟨ah9q3, bh9q3, ch9q3⟩ := zh9q3
            refine r_iload C (dx dX7_holdWhole 93 rfl) rfl ?_
            refine r_aload_n C (dx dX7_holdWhole 94 rfl) rfl ?_
            refine g_X7_64 (x := nI (vP u9q3)) C (dx dX7_holdWhole 95 rfl) mh9q3.eP ?_
            refine rn_ge (a := vP v) (b := vP u9q3) (tgt := 223) C (by omega) (by omega) (dx dX7_holdWhole 96 rfl) (by decide) (fun c39 => ?_) (fun c39 => ?_)
            · first
              | (omega; done)
              | (
                  have c39 : vP u9q3 ≤ vP v := c39
                  exact F.2.2.1 _ _ _ rfl (dx dX7_holdWhole 116 rfl) kh9q3 ⟨rfl, ⟨_, mh9q3, ⟨by omega, by omega, by omega⟩⟩, ph9q3⟩)
            · first
              | (omega; done)
          ·
            intro q3 hq3 ihq3 h9q3 u9q3 mh9q3 zh9q3 ph9q3 kh9q3
            obtain ⟨ah9q3, bh9q3, ch9q3⟩ := zh9q3
            refine r_iload C (dx dX7_holdWhole 93 rfl) rfl ?_
            refine r_aload_n C (dx dX7_holdWhole 94 rfl) rfl ?_
            refine g_X7_64 (x := nI (vP u9q3)) C (dx dX7_holdWhole 95 rfl) mh9q3.eP ?_
            refine rn_ge (a := q3) (b := vP u9q3) (tgt := 223) C (by omega) (by omega) (dx dX7_holdWhole 96 rfl) (by decide) (fun c43 => ?_) (fun c43 => ?_)
            · first
              | (omega; done)
              | (
                  have c43 : vP u9q3 ≤ q3 := c43
                  exact F.2.2.1 _ _ _ rfl (dx dX7_holdWhole 116 rfl) kh9q3 ⟨rfl, ⟨_, mh9q3, ⟨by omega, by omega, by omega⟩⟩, ph9q3⟩)
            · first
              | (omega; done)
              | (
                  have c43 : q3 < vP u9q3 := c43
                  refine r_aload_n C (dx dX7_holdWhole 97 rfl) rfl ?_
                  refine g_X7_40 C (dx dX7_holdWhole 98 rfl) ?_
                  refine r_iload C (dx dX7_holdWhole 99 rfl) rfl ?_
                  refine r_iload_n C (dx dX7_holdWhole 100 rfl) rfl ?_
                  refine r_iload C (dx dX7_holdWhole 101 rfl) rfl ?_
                  refine r_csP (as := [vi x3, vi (nI q3)]) (st := [vi (nI q3), vr 20 (k + 18)]) (v := vi (b2i (bt x3 q3))) C X I_X7_isIn l_X7_244 (c_isInB x3 (o := q3) (by omega)) (by decide) (Nat.le_of_ble_eq_true rfl) (pfx_eq kh9q3) (Nat.le_of_ble_eq_true rfl) rfl (dx dX7_holdWhole 102 rfl) ?_
                  refine rb_eq (b := bt x3 q3) (tgt := 210) C (dx dX7_holdWhole 103 rfl) (by decide) (fun c44 => ?_) (fun c44 => ?_)
                  ·
                    have c44 : (bt x3 q3) = false := c44
                    refine r_aload_n C (dx dX7_holdWhole 109 rfl) rfl ?_
                    refine r_iload_n C (dx dX7_holdWhole 110 rfl) rfl ?_
                    refine r_iconst (v := -1) C (dx dX7_holdWhole 111 rfl) rfl ?_
                    refine r_cvW (as := [vi (nI am), vi (-1)]) (st := [vi (nI q3), vr 20 (k + 18)]) C X I_X7_firstWithRoom l_X7_279 (c_fwr_n mh9q3 (am := am) (by omega)) (by decide) (Nat.le_of_ble_eq_true rfl) (pfx_eq kh9q3) rfl rfl (Nat.le_of_ble_eq_true rfl) rfl (dx dX7_holdWhole 112 rfl) ?_
                    rintro _ ⟨x45, hx45, rfl⟩
                    refine r_iast (j := q3) C rfl rfl (by decide) rfl (by omega) (dx dX7_holdWhole 113 rfl) ?_
                    obtain ⟨vh46, mh46, zh46⟩ : ∃ v9, MilAt (sI h9q3 (k + 18) q3 x45) k v9 ∧ Sz u9q3 v9 := ⟨vset u9q3 0 q3 x45, mh9q3.s0, ⟨rfl, rfl, rfl⟩⟩
                    have ph46 : Kp k h (sI h9q3 (k + 18) q3 x45) := ph9q3.tr (Kp.c (by omega) (by omega))
                    have kh46 : xK (sI h9q3 (k + 18) q3 x45) = xK h := kh9q3
                    generalize sI h9q3 (k + 18) q3 x45 = h46 at mh46 ph46 kh46 ⊢
                    obtain ⟨ah46, bh46, ch46⟩ := zh46
                    refine rn_iinc (a := q3) (k := 1) (ls' := [(0, vr 7 k), (1, vi (nI am)), (2, vi x2), (3, vi x3), (4, vi (nI (q3 + 1)))]) C (dx dX7_holdWhole 114 rfl) rfl rfl (by decide) [1, 2, 3, 4, 0] rfl ?_
                    refine r_goto (tgt := 176) C (dx dX7_holdWhole 115 rfl) (by decide) ?_
                    exact ihq3 h46 vh46 mh46 (⟨by omega, by omega, by omega⟩) ph46 kh46
                  ·
                    have c44 : (bt x3 q3) = true := c44
                    refine r_aload_n C (dx dX7_holdWhole 104 rfl) rfl ?_
                    refine g_X7_40 C (dx dX7_holdWhole 105 rfl) ?_
                    refine r_iload C (dx dX7_holdWhole 106 rfl) rfl ?_
                    refine r_iald (j := q3) (x := vF u9q3 0 q3) C rfl rfl (by decide) rfl (by omega) (dx dX7_holdWhole 107 rfl) (mh9q3.e0 (by omega)) ?_
                    refine r_goto (tgt := 216) C (dx dX7_holdWhole 108 rfl) (by decide) ?_
                    refine r_iast (j := q3) C rfl rfl (by decide) rfl (by omega) (dx dX7_holdWhole 113 rfl) ?_
                    obtain ⟨vh47, mh47, zh47⟩ : ∃ v9, MilAt (sI h9q3 (k + 18) q3 (vF u9q3 0 q3)) k v9 ∧ Sz u9q3 v9 := ⟨vset u9q3 0 q3 (vF u9q3 0 q3), mh9q3.s0, ⟨rfl, rfl, rfl⟩⟩
                    have ph47 : Kp k h (sI h9q3 (k + 18) q3 (vF u9q3 0 q3)) := ph9q3.tr (Kp.c (by omega) (by omega))
                    have kh47 : xK (sI h9q3 (k + 18) q3 (vF u9q3 0 q3)) = xK h := kh9q3
                    generalize sI h9q3 (k + 18) q3 (vF u9q3 0 q3) = h47 at mh47 ph47 kh47 ⊢
                    obtain ⟨ah47, bh47, ch47⟩ := zh47
                    refine rn_iinc (a := q3) (k := 1) (ls' := [(0, vr 7 k), (1, vi (nI am)), (2, vi x2), (3, vi x3), (4, vi (nI (q3 + 1)))]) C (dx dX7_holdWhole 114 rfl) rfl rfl (by decide) [1, 2, 3, 4, 0] rfl ?_
                    refine r_goto (tgt := 176) C (dx dX7_holdWhole 115 rfl) (by decide) ?_
                    exact ihq3 h47 vh47 mh47 (⟨by omega, by omega, by omega⟩) ph47 kh47))
    · first
      | (omega; done)
      | (
          have c38 : p < vM u9p := c38
          refine r_iconst (v := -1) C (dx dX7_holdWhole 10 rfl) rfl ?_
          refine r_istore (ls' := [(0, vr 7 k), (1, vi (nI am)), (2, vi x2), (3, vi x3), (4, vi (nI p)), (5, vi (-1))]) C (dx dX7_holdWhole 11 rfl) (by decide) [1, 2, 3, 4, 5, 0] rfl ?_
          refine r_iconst (v := nI 0) C (dx dX7_holdWhole 12 rfl) rfl ?_
          refine r_istore (ls' := [(0, vr 7 k), (1, vi (nI am)), (2, vi x2), (3, vi x3), (4, vi (nI p)), (5, vi (-1)), (6, vi (nI 0))]) C (dx dX7_holdWhole 13 rfl) (by decide) [1, 2, 3, 4, 5, 6, 0] rfl ?_
          refine loopU (Φ := fun q => ∀ (x5 : Int32), (x5 = -1 ∧ ∀ i, i < q → bt x2 i = true) ∨ (∃ a, a < vM v ∧ x5 = nI a) → Rr G 22 [(0, vr 7 k), (1, vi (nI am)), (2, vi x2), (3, vi x3), (4, vi (nI p)), (5, vi x5), (6, vi (nI q))] [] h9p) (N := vM v) ?_ ?_ 0 (by omega) (-1) (Or.inl ⟨rfl, fun i hi => absurd hi (by omega)⟩)
          ·
            intro  x5 hx5
            refine r_iload C (dx dX7_holdWhole 14 rfl) rfl ?_
            refine r_aload_n C (dx dX7_holdWhole 15 rfl) rfl ?_
            refine g_X7_71 (x := nI (vM u9p)) C (dx dX7_holdWhole 16 rfl) mh9p.eM ?_
            refine rn_ge (a := vM v) (b := vM u9p) (tgt := 78) C (by omega) (by omega) (dx dX7_holdWhole 17 rfl) (by decide) (fun c48 => ?_) (fun c48 => ?_)
            · first
              | (omega; done)
              | (
                  have c48 : vM u9p ≤ vM v := c48
                  obtain ⟨β, hβ, rfl⟩ := hw_best (t := p) (n := vM v) hx2 (by omega) hx5
                  refine r_iload_n C (dx dX7_holdWhole 40 rfl) rfl ?_
                  refine r_iconst (v := nI 1) C (dx dX7_holdWhole 41 rfl) rfl ?_
                  refine r_iload C (dx dX7_holdWhole 42 rfl) rfl ?_
                  refine r_ishl C (dx dX7_holdWhole 43 rfl) ?_
                  refine r_ior C (dx dX7_holdWhole 44 rfl) ?_
                  refine r_istore_n (ls' := [(0, vr 7 k), (1, vi (nI am)), (2, vi (x2 ||| ((nI 1) <<< ((nI β) &&& 31)))), (3, vi x3), (4, vi (nI p)), (5, vi (nI β)), (6, vi (nI (vM v)))]) C (dx dX7_holdWhole 45 rfl) (by decide) [1, 2, 0, 3, 4, 5, 6] rfl ?_
                  refine r_iconst (v := nI 0) C (dx dX7_holdWhole 46 rfl) rfl ?_
                  refine r_istore (ls' := [(0, vr 7 k), (1, vi (nI am)), (2, vi (x2 ||| ((nI 1) <<< ((nI β) &&& 31)))), (3, vi x3), (4, vi (nI p)), (5, vi (nI β)), (6, vi (nI 0))]) C (dx dX7_holdWhole 47 rfl) (by decide) [1, 2, 3, 4, 5, 6, 0] rfl ?_
                  refine loopU (Φ := fun q2 => ∀ (x3 : Int32), ∀ (h9q2 : Hp) (u9q2 : Vg), MilAt h9q2 k u9q2 → Sz v u9q2 → Kp k h h9q2 → xK h9q2 = xK h → Rr G 88 [(0, vr 7 k), (1, vi (nI am)), (2, vi (x2 ||| ((nI 1) <<< ((nI β) &&& 31)))), (3, vi x3), (4, vi (nI p)), (5, vi (nI β)), (6, vi (nI q2))] [] h9q2) (N := vP v) ?_ ?_ 0 (by omega) x3 h9p u9p mh9p (⟨by omega, by omega, by omega⟩) ph9p kh9p
                  ·
                    intro  x3 h9q2 u9q2 mh9q2 zh9q2 ph9q2 kh9q2
                    obtain ⟨ah9q2, bh9q2, ch9q2⟩ := zh9q2
                    refine r_iload C (dx dX7_holdWhole 48 rfl) rfl ?_
                    refine r_aload_n C (dx dX7_holdWhole 49 rfl) rfl ?_
                    refine g_X7_64 (x := nI (vP u9q2)) C (dx dX7_holdWhole 50 rfl) mh9q2.eP ?_
                    refine rn_ge (a := vP v) (b := vP u9q2) (tgt := 167) C (by omega) (by omega) (dx dX7_holdWhole 51 rfl) (by decide) (fun c49 => ?_) (fun c49 => ?_)
                    · first
                      | (omega; done)
                      | (
                          have c49 : vP u9q2 ≤ vP v := c49
                          refine rn_iinc (a := p) (k := 1) (ls' := [(0, vr 7 k), (1, vi (nI am)), (2, vi (x2 ||| ((nI 1) <<< ((nI β) &&& 31)))), (3, vi x3), (4, vi (nI (p + 1))), (5, vi (nI β)), (6, vi (nI (vP v)))]) C (dx dX7_holdWhole 89 rfl) rfl rfl (by decide) [1, 2, 3, 4, 0, 5, 6] rfl ?_
                          refine r_goto (tgt := 7) C (dx dX7_holdWhole 90 rfl) (by decide) ?_
                          refine r_weak C [0, 1, 2, 3, 4] rfl ?_
                          exact ihp (x2 ||| ((nI 1) <<< ((nI β) &&& 31))) (cnt_or (by omega) (by omega) hx2) x3 h9q2 u9q2 mh9q2 (⟨by omega, by omega, by omega⟩) ph9q2 kh9q2)
                    · first
                      | (omega; done)
                  ·
                    intro q2 hq2 ihq2 x3 h9q2 u9q2 mh9q2 zh9q2 ph9q2 kh9q2
                    obtain ⟨ah9q2, bh9q2, ch9q2⟩ := zh9q2
                    refine r_iload C (dx dX7_holdWhole 48 rfl) rfl ?_
                    refine r_aload_n C (dx dX7_holdWhole 49 rfl) rfl ?_
                    refine g_X7_64 (x := nI (vP u9q2)) C (dx dX7_holdWhole 50 rfl) mh9q2.eP ?_
                    refine rn_ge (a := q2) (b := vP u9q2) (tgt := 167) C (by omega) (by omega) (dx dX7_holdWhole 51 rfl) (by decide) (fun c51 => ?_) (fun c51 => ?_)
                    · first
                      | (omega; done)
                      | (
                          have c51 : vP u9q2 ≤ q2 := c51
                          refine rn_iinc (a := p) (k := 1) (ls' := [(0, vr 7 k), (1, vi (nI am)), (2, vi (x2 ||| ((nI 1) <<< ((nI β) &&& 31)))), (3, vi x3), (4, vi (nI (p + 1))), (5, vi (nI β)), (6, vi (nI q2))]) C (dx dX7_holdWhole 89 rfl) rfl rfl (by decide) [1, 2, 3, 4, 0, 5, 6] rfl ?_
                          refine r_goto (tgt := 7) C (dx dX7_holdWhole 90 rfl) (by decide) ?_
                          refine r_weak C [0, 1, 2, 3, 4] rfl ?_
                          exact ihp (x2 ||| ((nI 1) <<< ((nI β) &&& 31))) (cnt_or (by omega) (by omega) hx2) x3 h9q2 u9q2 mh9q2 (⟨by omega, by omega, by omega⟩) ph9q2 kh9q2)
                    · first
                      | (omega; done)
                      | (
                          have c51 : q2 < vP u9q2 := c51
                          refine r_aload_n C (dx dX7_holdWhole 52 rfl) rfl ?_
                          refine g_X7_46 C (dx dX7_holdWhole 53 rfl) ?_
                          refine r_iload C (dx dX7_holdWhole 54 rfl) rfl ?_
                          refine r_iald (j := β) (x := vF u9q2 2 β) C rfl rfl (by decide) rfl (by omega) (dx dX7_holdWhole 55 rfl) (mh9q2.e2 (by omega)) ?_
                          refine r_iload C (dx dX7_holdWhole 56 rfl) rfl ?_
                          refine r_csP (as := [vi (vF u9q2 2 β), vi (nI q2)]) (st := []) (v := vi (b2i (bt (vF u9q2 2 β) q2))) C X I_X7_isIn l_X7_244 (c_isInB (vF u9q2 2 β) (o := q2) (by omega)) (by decide) (Nat.le_of_ble_eq_true rfl) (pfx_eq kh9q2) (Nat.le_of_ble_eq_true rfl) rfl (dx dX7_holdWhole 57 rfl) ?_
                          refine rb_eq (b := bt (vF u9q2 2 β) q2) (tgt := 161) C (dx dX7_holdWhole 58 rfl) (by decide) (fun c52 => ?_) (fun c52 => ?_)
                          ·
                            have c52 : (bt (vF u9q2 2 β) q2) = false := c52
                            refine rn_iinc (a := q2) (k := 1) (ls' := [(0, vr 7 k), (1, vi (nI am)), (2, vi (x2 ||| ((nI 1) <<< ((nI β) &&& 31)))), (3, vi x3), (4, vi (nI p)), (5, vi (nI β)), (6, vi (nI (q2 + 1)))]) C (dx dX7_holdWhole 87 rfl) rfl rfl (by decide) [1, 2, 3, 4, 5, 6, 0] rfl ?_
                            refine r_goto (tgt := 88) C (dx dX7_holdWhole 88 rfl) (by decide) ?_
                            exact ihq2 x3 h9q2 u9q2 mh9q2 (⟨by omega, by omega, by omega⟩) ph9q2 kh9q2
                          ·
                            have c52 : (bt (vF u9q2 2 β) q2) = true := c52
                            refine r_iload_n C (dx dX7_holdWhole 59 rfl) rfl ?_
                            refine r_iload C (dx dX7_holdWhole 60 rfl) rfl ?_
                            refine r_csP (as := [vi x3, vi (nI q2)]) (st := []) (v := vi (b2i (bt x3 q2))) C X I_X7_isIn l_X7_244 (c_isInB x3 (o := q2) (by omega)) (by decide) (Nat.le_of_ble_eq_true rfl) (pfx_eq kh9q2) (Nat.le_of_ble_eq_true rfl) rfl (dx dX7_holdWhole 61 rfl) ?_
                            refine rb_ne (b := bt x3 q2) (tgt := 161) C (dx dX7_holdWhole 62 rfl) (by decide) (fun c53 => ?_) (fun c53 => ?_)
                            ·
                              have c53 : (bt x3 q2) = true := c53
                              refine rn_iinc (a := q2) (k := 1) (ls' := [(0, vr 7 k), (1, vi (nI am)), (2, vi (x2 ||| ((nI 1) <<< ((nI β) &&& 31)))), (3, vi x3), (4, vi (nI p)), (5, vi (nI β)), (6, vi (nI (q2 + 1)))]) C (dx dX7_holdWhole 87 rfl) rfl rfl (by decide) [1, 2, 3, 4, 5, 6, 0] rfl ?_
                              refine r_goto (tgt := 88) C (dx dX7_holdWhole 88 rfl) (by decide) ?_
                              exact ihq2 x3 h9q2 u9q2 mh9q2 (⟨by omega, by omega, by omega⟩) ph9q2 kh9q2
                            ·
                              have c53 : (bt x3 q2) = false := c53
                              refine r_aload_n C (dx dX7_holdWhole 63 rfl) rfl ?_
                              refine r_iload_n C (dx dX7_holdWhole 64 rfl) rfl ?_
                              refine r_iload C (dx dX7_holdWhole 65 rfl) rfl ?_
                              refine r_cvW (as := [vi (nI am), vi (nI β)]) (st := []) C X I_X7_firstWithRoom l_X7_279 (c_fwr_m mh9q2 (am := am) (m := β) (by omega) (by omega)) (by decide) (Nat.le_of_ble_eq_true rfl) (pfx_eq kh9q2) rfl rfl (Nat.le_of_ble_eq_true rfl) rfl (dx dX7_holdWhole 66 rfl) ?_
                              rintro _ ⟨x54, hx54, rfl⟩
                              refine r_istore (ls' := [(0, vr 7 k), (1, vi (nI am)), (2, vi (x2 ||| ((nI 1) <<< ((nI β) &&& 31)))), (3, vi x3), (4, vi (nI p)), (5, vi (nI β)), (6, vi (nI q2)), (7, vi x54)]) C (dx dX7_holdWhole 67 rfl) (by decide) [1, 2, 3, 4, 5, 6, 7, 0] rfl ?_
                              refine r_aload_n C (dx dX7_holdWhole 68 rfl) rfl ?_
                              refine g_X7_40 C (dx dX7_holdWhole 69 rfl) ?_
                              refine r_iload C (dx dX7_holdWhole 70 rfl) rfl ?_
                              refine r_iload C (dx dX7_holdWhole 71 rfl) rfl ?_
                              refine r_iconst (v := -1) C (dx dX7_holdWhole 72 rfl) rfl ?_
                              refine r_icmp_ne (tgt := 151) C (dx dX7_holdWhole 73 rfl) (by decide) (fun c55 => ?_) (fun c55 => ?_)
                              ·
                                have c55 : ¬ x54 = -1 := c55
                                refine r_iload C (dx dX7_holdWhole 79 rfl) rfl ?_
                                refine r_iast (j := q2) C rfl rfl (by decide) rfl (by omega) (dx dX7_holdWhole 80 rfl) ?_
                                obtain ⟨vh56, mh56, zh56⟩ : ∃ v9, MilAt (sI h9q2 (k + 18) q2 x54) k v9 ∧ Sz u9q2 v9 := ⟨vset u9q2 0 q2 x54, mh9q2.s0, ⟨rfl, rfl, rfl⟩⟩
                                have ph56 : Kp k h (sI h9q2 (k + 18) q2 x54) := ph9q2.tr (Kp.c (by omega) (by omega))
                                have kh56 : xK (sI h9q2 (k + 18) q2 x54) = xK h := kh9q2
                                generalize sI h9q2 (k + 18) q2 x54 = h56 at mh56 ph56 kh56 ⊢
                                obtain ⟨ah56, bh56, ch56⟩ := zh56
                                refine r_iload_n C (dx dX7_holdWhole 81 rfl) rfl ?_
                                refine r_iconst (v := nI 1) C (dx dX7_holdWhole 82 rfl) rfl ?_
                                refine r_iload C (dx dX7_holdWhole 83 rfl) rfl ?_
                                refine r_ishl C (dx dX7_holdWhole 84 rfl) ?_
                                refine r_ior C (dx dX7_holdWhole 85 rfl) ?_
                                refine r_istore_n (ls' := [(0, vr 7 k), (1, vi (nI am)), (2, vi (x2 ||| ((nI 1) <<< ((nI β) &&& 31)))), (3, vi (x3 ||| ((nI 1) <<< ((nI q2) &&& 31)))), (4, vi (nI p)), (5, vi (nI β)), (6, vi (nI q2)), (7, vi x54)]) C (dx dX7_holdWhole 86 rfl) (by decide) [1, 2, 3, 0, 4, 5, 6, 7] rfl ?_
                                refine rn_iinc (a := q2) (k := 1) (ls' := [(0, vr 7 k), (1, vi (nI am)), (2, vi (x2 ||| ((nI 1) <<< ((nI β) &&& 31)))), (3, vi (x3 ||| ((nI 1) <<< ((nI q2) &&& 31)))), (4, vi (nI p)), (5, vi (nI β)), (6, vi (nI (q2 + 1))), (7, vi x54)]) C (dx dX7_holdWhole 87 rfl) rfl rfl (by decide) [1, 2, 3, 4, 5, 6, 0, 7] rfl ?_
                                refine r_goto (tgt := 88) C (dx dX7_holdWhole 88 rfl) (by decide) ?_
                                refine r_weak C [0, 1, 2, 3, 4, 5, 6] rfl ?_
                                exact ihq2 (x3 ||| ((nI 1) <<< ((nI q2) &&& 31))) h56 vh56 mh56 (⟨by omega, by omega, by omega⟩) ph56 kh56
                              ·
                                have c55 : x54 = -1 := c55
                                refine r_aload_n C (dx dX7_holdWhole 74 rfl) rfl ?_
                                refine r_iload_n C (dx dX7_holdWhole 75 rfl) rfl ?_
                                refine r_iconst (v := -1) C (dx dX7_holdWhole 76 rfl) rfl ?_
                                refine r_cvW (as := [vi (nI am), vi (-1)]) (st := [vi (nI q2), vr 20 (k + 18)]) C X I_X7_firstWithRoom l_X7_279 (c_fwr_n mh9q2 (am := am) (by omega)) (by decide) (Nat.le_of_ble_eq_true rfl) (pfx_eq kh9q2) rfl rfl (Nat.le_of_ble_eq_true rfl) rfl (dx dX7_holdWhole 77 rfl) ?_
                                rintro _ ⟨x57, hx57, rfl⟩
                                refine r_goto (tgt := 153) C (dx dX7_holdWhole 78 rfl) (by decide) ?_
                                refine r_iast (j := q2) C rfl rfl (by decide) rfl (by omega) (dx dX7_holdWhole 80 rfl) ?_
                                obtain ⟨vh58, mh58, zh58⟩ : ∃ v9, MilAt (sI h9q2 (k + 18) q2 x57) k v9 ∧ Sz u9q2 v9 := ⟨vset u9q2 0 q2 x57, mh9q2.s0, ⟨rfl, rfl, rfl⟩⟩
                                have ph58 : Kp k h (sI h9q2 (k + 18) q2 x57) := ph9q2.tr (Kp.c (by omega) (by omega))
                                have kh58 : xK (sI h9q2 (k + 18) q2 x57) = xK h := kh9q2
                                generalize sI h9q2 (k + 18) q2 x57 = h58 at mh58 ph58 kh58 ⊢
                                obtain ⟨ah58, bh58, ch58⟩ := zh58
                                refine r_iload_n C (dx dX7_holdWhole 81 rfl) rfl ?_
                                refine r_iconst (v := nI 1) C (dx dX7_holdWhole 82 rfl) rfl ?_
                                refine r_iload C (dx dX7_holdWhole 83 rfl) rfl ?_
                                refine r_ishl C (dx dX7_holdWhole 84 rfl) ?_
                                refine r_ior C (dx dX7_holdWhole 85 rfl) ?_
                                refine r_istore_n (ls' := [(0, vr 7 k), (1, vi (nI am)), (2, vi (x2 ||| ((nI 1) <<< ((nI β) &&& 31)))), (3, vi (x3 ||| ((nI 1) <<< ((nI q2) &&& 31)))), (4, vi (nI p)), (5, vi (nI β)), (6, vi (nI q2)), (7, vi x54)]) C (dx dX7_holdWhole 86 rfl) (by decide) [1, 2, 3, 0, 4, 5, 6, 7] rfl ?_
                                refine rn_iinc (a := q2) (k := 1) (ls' := [(0, vr 7 k), (1, vi (nI am)), (2, vi (x2 ||| ((nI 1) <<< ((nI β) &&& 31)))), (3, vi (x3 ||| ((nI 1) <<< ((nI q2) &&& 31)))), (4, vi (nI p)), (5, vi (nI β)), (6, vi (nI (q2 + 1))), (7, vi x54)]) C (dx dX7_holdWhole 87 rfl) rfl rfl (by decide) [1, 2, 3, 4, 5, 6, 0, 7] rfl ?_
                                refine r_goto (tgt := 88) C (dx dX7_holdWhole 88 rfl) (by decide) ?_
                                refine r_weak C [0, 1, 2, 3, 4, 5, 6] rfl ?_
                                exact ihq2 (x3 ||| ((nI 1) <<< ((nI q2) &&& 31))) h58 vh58 mh58 (⟨by omega, by omega, by omega⟩) ph58 kh58))
            · first
              | (omega; done)
          ·
            intro q hq ihq x5 hx5
            refine r_iload C (dx dX7_holdWhole 14 rfl) rfl ?_
            refine r_aload_n C (dx dX7_holdWhole 15 rfl) rfl ?_
            refine g_X7_71 (x := nI (vM u9p)) C (dx dX7_holdWhole 16 rfl) mh9p.eM ?_
            refine rn_ge (a := q) (b := vM u9p) (tgt := 78) C (by omega) (by omega) (dx dX7_holdWhole 17 rfl) (by decide) (fun c60 => ?_) (fun c60 => ?_)
            · first
              | (omega; done)
              | (
                  have c60 : vM u9p ≤ q := c60
                  obtain ⟨β, hβ, rfl⟩ := hw_best (t := p) (n := vM v) hx2 (by omega) hx5
                  refine r_iload_n C (dx dX7_holdWhole 40 rfl) rfl ?_
                  refine r_iconst (v := nI 1) C (dx dX7_holdWhole 41 rfl) rfl ?_
                  refine r_iload C (dx dX7_holdWhole 42 rfl) rfl ?_
                  refine r_ishl C (dx dX7_holdWhole 43 rfl) ?_
                  refine r_ior C (dx dX7_holdWhole 44 rfl) ?_
                  refine r_istore_n (ls' := [(0, vr 7 k), (1, vi (nI am)), (2, vi (x2 ||| ((nI 1) <<< ((nI β) &&& 31)))), (3, vi x3), (4, vi (nI p)), (5, vi (nI β)), (6, vi (nI q))]) C (dx dX7_holdWhole 45 rfl) (by decide) [1, 2, 0, 3, 4, 5, 6] rfl ?_
                  refine r_iconst (v := nI 0) C (dx dX7_holdWhole 46 rfl) rfl ?_
                  refine r_istore (ls' := [(0, vr 7 k), (1, vi (nI am)), (2, vi (x2 ||| ((nI 1) <<< ((nI β) &&& 31)))), (3, vi x3), (4, vi (nI p)), (5, vi (nI β)), (6, vi (nI 0))]) C (dx dX7_holdWhole 47 rfl) (by decide) [1, 2, 3, 4, 5, 6, 0] rfl ?_
                  refine loopU (Φ := fun q2 => ∀ (x3 : Int32), ∀ (h9q2 : Hp) (u9q2 : Vg), MilAt h9q2 k u9q2 → Sz v u9q2 → Kp k h h9q2 → xK h9q2 = xK h → Rr G 88 [(0, vr 7 k), (1, vi (nI am)), (2, vi (x2 ||| ((nI 1) <<< ((nI β) &&& 31)))), (3, vi x3), (4, vi (nI p)), (5, vi (nI β)), (6, vi (nI q2))] [] h9q2) (N := vP v) ?_ ?_ 0 (by omega) x3 h9p u9p mh9p (⟨by omega, by omega, by omega⟩) ph9p kh9p
                  ·
                    intro  x3 h9q2 u9q2 mh9q2 zh9q2 ph9q2 kh9q2
                    obtain ⟨ah9q2, bh9q2, ch9q2⟩ := zh9q2
                    refine r_iload C (dx dX7_holdWhole 48 rfl) rfl ?_
                    refine r_aload_n C (dx dX7_holdWhole 49 rfl) rfl ?_
                    refine g_X7_64 (x := nI (vP u9q2)) C (dx dX7_holdWhole 50 rfl) mh9q2.eP ?_
                    refine rn_ge (a := vP v) (b := vP u9q2) (tgt := 167) C (by omega) (by omega) (dx dX7_holdWhole 51 rfl) (by decide) (fun c61 => ?_) (fun c61 => ?_)
                    · first
                      | (omega; done)
                      | (
                          have c61 : vP u9q2 ≤ vP v := c61
                          refine rn_iinc (a := p) (k := 1) (ls' := [(0, vr 7 k), (1, vi (nI am)), (2, vi (x2 ||| ((nI 1) <<< ((nI β) &&& 31)))), (3, vi x3), (4, vi (nI (p + 1))), (5, vi (nI β)), (6, vi (nI (vP v)))]) C (dx dX7_holdWhole 89 rfl) rfl rfl (by decide) [1, 2, 3, 4, 0, 5, 6] rfl ?_
                          refine r_goto (tgt := 7) C (dx dX7_holdWhole 90 rfl) (by decide) ?_
                          refine r_weak C [0, 1, 2, 3, 4] rfl ?_
                          exact ihp (x2 ||| ((nI 1) <<< ((nI β) &&& 31))) (cnt_or (by omega) (by omega) hx2) x3 h9q2 u9q2 mh9q2 (⟨by omega, by omega, by omega⟩) ph9q2 kh9q2)
                    · first
                      | (omega; done)
                  ·
                    intro q2 hq2 ihq2 x3 h9q2 u9q2 mh9q2 zh9q2 ph9q2 kh9q2
                    obtain ⟨ah9q2, bh9q2, ch9q2⟩ := zh9q2
                    refine r_iload C (dx dX7_holdWhole 48 rfl) rfl ?_
                    refine r_aload_n C (dx dX7_holdWhole 49 rfl) rfl ?_
                    refine g_X7_64 (x := nI (vP u9q2)) C (dx dX7_holdWhole 50 rfl) mh9q2.eP ?_
                    refine rn_ge (a := q2) (b := vP u9q2) (tgt := 167) C (by omega) (by omega) (dx dX7_holdWhole 51 rfl) (by decide) (fun c63 => ?_) (fun c63 => ?_)
                    · first
                      | (omega; done)
                      | (
                          have c63 : vP u9q2 ≤ q2 := c63
                          refine rn_iinc (a := p) (k := 1) (ls' := [(0, vr 7 k), (1, vi (nI am)), (2, vi (x2 ||| ((nI 1) <<< ((nI β) &&& 31)))), (3, vi x3), (4, vi (nI (p + 1))), (5, vi (nI β)), (6, vi (nI q2))]) C (dx dX7_holdWhole 89 rfl) rfl rfl (by decide) [1, 2, 3, 4, 0, 5, 6] rfl ?_
                          refine r_goto (tgt := 7) C (dx dX7_holdWhole 90 rfl) (by decide) ?_
                          refine r_weak C [0, 1, 2, 3, 4] rfl ?_
                          exact ihp (x2 ||| ((nI 1) <<< ((nI β) &&& 31))) (cnt_or (by omega) (by omega) hx2) x3 h9q2 u9q2 mh9q2 (⟨by omega, by omega, by omega⟩) ph9q2 kh9q2)
                    · first
                      | (omega; done)
                      | (
                          have c63 : q2 < vP u9q2 := c63
                          refine r_aload_n C (dx dX7_holdWhole 52 rfl) rfl ?_
                          refine g_X7_46 C (dx dX7_holdWhole 53 rfl) ?_
                          refine r_iload C (dx dX7_holdWhole 54 rfl) rfl ?_
                          refine r_iald (j := β) (x := vF u9q2 2 β) C rfl rfl (by decide) rfl (by omega) (dx dX7_holdWhole 55 rfl) (mh9q2.e2 (by omega)) ?_
                          refine r_iload C (dx dX7_holdWhole 56 rfl) rfl ?_
                          refine r_csP (as := [vi (vF u9q2 2 β), vi (nI q2)]) (st := []) (v := vi (b2i (bt (vF u9q2 2 β) q2))) C X I_X7_isIn l_X7_244 (c_isInB (vF u9q2 2 β) (o := q2) (by omega)) (by decide) (Nat.le_of_ble_eq_true rfl) (pfx_eq kh9q2) (Nat.le_of_ble_eq_true rfl) rfl (dx dX7_holdWhole 57 rfl) ?_
                          refine rb_eq (b := bt (vF u9q2 2 β) q2) (tgt := 161) C (dx dX7_holdWhole 58 rfl) (by decide) (fun c64 => ?_) (fun c64 => ?_)
                          ·
                            have c64 : (bt (vF u9q2 2 β) q2) = false := c64
                            refine rn_iinc (a := q2) (k := 1) (ls' := [(0, vr 7 k), (1, vi (nI am)), (2, vi (x2 ||| ((nI 1) <<< ((nI β) &&& 31)))), (3, vi x3), (4, vi (nI p)), (5, vi (nI β)), (6, vi (nI (q2 + 1)))]) C (dx dX7_holdWhole 87 rfl) rfl rfl (by decide) [1, 2, 3, 4, 5, 6, 0] rfl ?_
                            refine r_goto (tgt := 88) C (dx dX7_holdWhole 88 rfl) (by decide) ?_
                            exact ihq2 x3 h9q2 u9q2 mh9q2 (⟨by omega, by omega, by omega⟩) ph9q2 kh9q2
                          ·
                            have c64 : (bt (vF u9q2 2 β) q2) = true := c64
                            refine r_iload_n C (dx dX7_holdWhole 59 rfl) rfl ?_
                            refine r_iload C (dx dX7_holdWhole 60 rfl) rfl ?_
                            refine r_csP (as := [vi x3, vi (nI q2)]) (st := []) (v := vi (b2i (bt x3 q2))) C X I_X7_isIn l_X7_244 (c_isInB x3 (o := q2) (by omega)) (by decide) (Nat.le_of_ble_eq_true rfl) (pfx_eq kh9q2) (Nat.le_of_ble_eq_true rfl) rfl (dx dX7_holdWhole 61 rfl) ?_
                            refine rb_ne (b := bt x3 q2) (tgt := 161) C (dx dX7_holdWhole 62 rfl) (by decide) (fun c65 => ?_) (fun c65 => ?_)
                            ·
                              have c65 : (bt x3 q2) = true := c65
                              refine rn_iinc (a := q2) (k := 1) (ls' := [(0, vr 7 k), (1, vi (nI am)), (2, vi (x2 ||| ((nI 1) <<< ((nI β) &&& 31)))), (3, vi x3), (4, vi (nI p)), (5, vi (nI β)), (6, vi (nI (q2 + 1)))]) C (dx dX7_holdWhole 87 rfl) rfl rfl (by decide) [1, 2, 3, 4, 5, 6, 0] rfl ?_
                              refine r_goto (tgt := 88) C (dx dX7_holdWhole 88 rfl) (by decide) ?_
                              exact ihq2 x3 h9q2 u9q2 mh9q2 (⟨by omega, by omega, by omega⟩) ph9q2 kh9q2
                            ·
                              have c65 : (bt x3 q2) = false := c65
                              refine r_aload_n C (dx dX7_holdWhole 63 rfl) rfl ?_
                              refine r_iload_n C (dx dX7_holdWhole 64 rfl) rfl ?_
                              refine r_iload C (dx dX7_holdWhole 65 rfl) rfl ?_
                              refine r_cvW (as := [vi (nI am), vi (nI β)]) (st := []) C X I_X7_firstWithRoom l_X7_279 (c_fwr_m mh9q2 (am := am) (m := β) (by omega) (by omega)) (by decide) (Nat.le_of_ble_eq_true rfl) (pfx_eq kh9q2) rfl rfl (Nat.le_of_ble_eq_true rfl) rfl (dx dX7_holdWhole 66 rfl) ?_
                              rintro _ ⟨x66, hx66, rfl⟩
                              refine r_istore (ls' := [(0, vr 7 k), (1, vi (nI am)), (2, vi (x2 ||| ((nI 1) <<< ((nI β) &&& 31)))), (3, vi x3), (4, vi (nI p)), (5, vi (nI β)), (6, vi (nI q2)), (7, vi x66)]) C (dx dX7_holdWhole 67 rfl) (by decide) [1, 2, 3, 4, 5, 6, 7, 0] rfl ?_
                              refine r_aload_n C (dx dX7_holdWhole 68 rfl) rfl ?_
                              refine g_X7_40 C (dx dX7_holdWhole 69 rfl) ?_
                              refine r_iload C (dx dX7_holdWhole 70 rfl) rfl ?_
                              refine r_iload C (dx dX7_holdWhole 71 rfl) rfl ?_
                              refine r_iconst (v := -1) C (dx dX7_holdWhole 72 rfl) rfl ?_
                              refine r_icmp_ne (tgt := 151) C (dx dX7_holdWhole 73 rfl) (by decide) (fun c67 => ?_) (fun c67 => ?_)
                              ·
                                have c67 : ¬ x66 = -1 := c67
                                refine r_iload C (dx dX7_holdWhole 79 rfl) rfl ?_
                                refine r_iast (j := q2) C rfl rfl (by decide) rfl (by omega) (dx dX7_holdWhole 80 rfl) ?_
                                obtain ⟨vh68, mh68, zh68⟩ : ∃ v9, MilAt (sI h9q2 (k + 18) q2 x66) k v9 ∧ Sz u9q2 v9 := ⟨vset u9q2 0 q2 x66, mh9q2.s0, ⟨rfl, rfl, rfl⟩⟩
                                have ph68 : Kp k h (sI h9q2 (k + 18) q2 x66) := ph9q2.tr (Kp.c (by omega) (by omega))
                                have kh68 : xK (sI h9q2 (k + 18) q2 x66) = xK h := kh9q2
                                generalize sI h9q2 (k + 18) q2 x66 = h68 at mh68 ph68 kh68 ⊢
                                obtain ⟨ah68, bh68, ch68⟩ := zh68
                                refine r_iload_n C (dx dX7_holdWhole 81 rfl) rfl ?_
                                refine r_iconst (v := nI 1) C (dx dX7_holdWhole 82 rfl) rfl ?_
                                refine r_iload C (dx dX7_holdWhole 83 rfl) rfl ?_
                                refine r_ishl C (dx dX7_holdWhole 84 rfl) ?_
                                refine r_ior C (dx dX7_holdWhole 85 rfl) ?_
                                refine r_istore_n (ls' := [(0, vr 7 k), (1, vi (nI am)), (2, vi (x2 ||| ((nI 1) <<< ((nI β) &&& 31)))), (3, vi (x3 ||| ((nI 1) <<< ((nI q2) &&& 31)))), (4, vi (nI p)), (5, vi (nI β)), (6, vi (nI q2)), (7, vi x66)]) C (dx dX7_holdWhole 86 rfl) (by decide) [1, 2, 3, 0, 4, 5, 6, 7] rfl ?_
                                refine rn_iinc (a := q2) (k := 1) (ls' := [(0, vr 7 k), (1, vi (nI am)), (2, vi (x2 ||| ((nI 1) <<< ((nI β) &&& 31)))), (3, vi (x3 ||| ((nI 1) <<< ((nI q2) &&& 31)))), (4, vi (nI p)), (5, vi (nI β)), (6, vi (nI (q2 + 1))), (7, vi x66)]) C (dx dX7_holdWhole 87 rfl) rfl rfl (by decide) [1, 2, 3, 4, 5, 6, 0, 7] rfl ?_
                                refine r_goto (tgt := 88) C (dx dX7_holdWhole 88 rfl) (by decide) ?_
                                refine r_weak C [0, 1, 2, 3, 4, 5, 6] rfl ?_
                                exact ihq2 (x3 ||| ((nI 1) <<< ((nI q2) &&& 31))) h68 vh68 mh68 (⟨by omega, by omega, by omega⟩) ph68 kh68
                              ·
                                have c67 : x66 = -1 := c67
                                refine r_aload_n C (dx dX7_holdWhole 74 rfl) rfl ?_
                                refine r_iload_n C (dx dX7_holdWhole 75 rfl) rfl ?_
                                refine r_iconst (v := -1) C (dx dX7_holdWhole 76 rfl) rfl ?_
                                refine r_cvW (as := [vi (nI am), vi (-1)]) (st := [vi (nI q2), vr 20 (k + 18)]) C X I_X7_firstWithRoom l_X7_279 (c_fwr_n mh9q2 (am := am) (by omega)) (by decide) (Nat.le_of_ble_eq_true rfl) (pfx_eq kh9q2) rfl rfl (Nat.le_of_ble_eq_true rfl) rfl (dx dX7_holdWhole 77 rfl) ?_
                                rintro _ ⟨x69, hx69, rfl⟩
                                refine r_goto (tgt := 153) C (dx dX7_holdWhole 78 rfl) (by decide) ?_
                                refine r_iast (j := q2) C rfl rfl (by decide) rfl (by omega) (dx dX7_holdWhole 80 rfl) ?_
                                obtain ⟨vh70, mh70, zh70⟩ : ∃ v9, MilAt (sI h9q2 (k + 18) q2 x69) k v9 ∧ Sz u9q2 v9 := ⟨vset u9q2 0 q2 x69, mh9q2.s0, ⟨rfl, rfl, rfl⟩⟩
                                have ph70 : Kp k h (sI h9q2 (k + 18) q2 x69) := ph9q2.tr (Kp.c (by omega) (by omega))
                                have kh70 : xK (sI h9q2 (k + 18) q2 x69) = xK h := kh9q2
                                generalize sI h9q2 (k + 18) q2 x69 = h70 at mh70 ph70 kh70 ⊢
                                obtain ⟨ah70, bh70, ch70⟩ := zh70
                                refine r_iload_n C (dx dX7_holdWhole 81 rfl) rfl ?_
                                refine r_iconst (v := nI 1) C (dx dX7_holdWhole 82 rfl) rfl ?_
                                refine r_iload C (dx dX7_holdWhole 83 rfl) rfl ?_
                                refine r_ishl C (dx dX7_holdWhole 84 rfl) ?_
                                refine r_ior C (dx dX7_holdWhole 85 rfl) ?_
                                refine r_istore_n (ls' := [(0, vr 7 k), (1, vi (nI am)), (2, vi (x2 ||| ((nI 1) <<< ((nI β) &&& 31)))), (3, vi (x3 ||| ((nI 1) <<< ((nI q2) &&& 31)))), (4, vi (nI p)), (5, vi (nI β)), (6, vi (nI q2)), (7, vi x66)]) C (dx dX7_holdWhole 86 rfl) (by decide) [1, 2, 3, 0, 4, 5, 6, 7] rfl ?_
                                refine rn_iinc (a := q2) (k := 1) (ls' := [(0, vr 7 k), (1, vi (nI am)), (2, vi (x2 ||| ((nI 1) <<< ((nI β) &&& 31)))), (3, vi (x3 ||| ((nI 1) <<< ((nI q2) &&& 31)))), (4, vi (nI p)), (5, vi (nI β)), (6, vi (nI (q2 + 1))), (7, vi x66)]) C (dx dX7_holdWhole 87 rfl) rfl rfl (by decide) [1, 2, 3, 4, 5, 6, 0, 7] rfl ?_
                                refine r_goto (tgt := 88) C (dx dX7_holdWhole 88 rfl) (by decide) ?_
                                refine r_weak C [0, 1, 2, 3, 4, 5, 6] rfl ?_
                                exact ihq2 (x3 ||| ((nI 1) <<< ((nI q2) &&& 31))) h70 vh70 mh70 (⟨by omega, by omega, by omega⟩) ph70 kh70))
            · first
              | (omega; done)
              | (
                  have c60 : q < vM u9p := c60
                  refine r_iload_n C (dx dX7_holdWhole 18 rfl) rfl ?_
                  refine r_iload C (dx dX7_holdWhole 19 rfl) rfl ?_
                  refine r_csP (as := [vi x2, vi (nI q)]) (st := []) (v := vi (b2i (bt x2 q))) C X I_X7_isIn l_X7_244 (c_isInB x2 (o := q) (by omega)) (by decide) (Nat.le_of_ble_eq_true rfl) (pfx_eq kh9p) (Nat.le_of_ble_eq_true rfl) rfl (dx dX7_holdWhole 20 rfl) ?_
                  refine rb_ne (b := bt x2 q) (tgt := 68) C (dx dX7_holdWhole 21 rfl) (by decide) (fun c71 => ?_) (fun c71 => ?_)
                  ·
                    have c71 : (bt x2 q) = true := c71
                    refine r_iload C (dx dX7_holdWhole 36 rfl) rfl ?_
                    refine r_istore (ls' := [(0, vr 7 k), (1, vi (nI am)), (2, vi x2), (3, vi x3), (4, vi (nI p)), (5, vi x5), (6, vi (nI q))]) C (dx dX7_holdWhole 37 rfl) (by decide) [1, 2, 3, 4, 5, 0, 6] rfl ?_
                    refine rn_iinc (a := q) (k := 1) (ls' := [(0, vr 7 k), (1, vi (nI am)), (2, vi x2), (3, vi x3), (4, vi (nI p)), (5, vi x5), (6, vi (nI (q + 1)))]) C (dx dX7_holdWhole 38 rfl) rfl rfl (by decide) [1, 2, 3, 4, 5, 6, 0] rfl ?_
                    refine r_goto (tgt := 22) C (dx dX7_holdWhole 39 rfl) (by decide) ?_
                    exact ihq x5 (hw_in hx5 c71)
                  ·
                    have c71 : (bt x2 q) = false := c71
                    refine r_iload C (dx dX7_holdWhole 22 rfl) rfl ?_
                    refine r_iconst (v := -1) C (dx dX7_holdWhole 23 rfl) rfl ?_
                    refine r_icmp_eq (tgt := 63) C (dx dX7_holdWhole 24 rfl) (by decide) (fun c72 => ?_) (fun c72 => ?_)
                    ·
                      have c72 : x5 = -1 := c72
                      refine r_iload C (dx dX7_holdWhole 34 rfl) rfl ?_
                      refine r_goto (tgt := 70) C (dx dX7_holdWhole 35 rfl) (by decide) ?_
                      refine r_istore (ls' := [(0, vr 7 k), (1, vi (nI am)), (2, vi x2), (3, vi x3), (4, vi (nI p)), (5, vi (nI q)), (6, vi (nI q))]) C (dx dX7_holdWhole 37 rfl) (by decide) [1, 2, 3, 4, 5, 0, 6] rfl ?_
                      refine rn_iinc (a := q) (k := 1) (ls' := [(0, vr 7 k), (1, vi (nI am)), (2, vi x2), (3, vi x3), (4, vi (nI p)), (5, vi (nI q)), (6, vi (nI (q + 1)))]) C (dx dX7_holdWhole 38 rfl) rfl rfl (by decide) [1, 2, 3, 4, 5, 6, 0] rfl ?_
                      refine r_goto (tgt := 22) C (dx dX7_holdWhole 39 rfl) (by decide) ?_
                      exact ihq (nI q) (Or.inr ⟨_, by omega, rfl⟩)
                    ·
                      have c72 : ¬ x5 = -1 := c72
                      refine r_aload_n C (dx dX7_holdWhole 25 rfl) rfl ?_
                      refine g_X7_49 C (dx dX7_holdWhole 26 rfl) ?_
                      refine r_iload C (dx dX7_holdWhole 27 rfl) rfl ?_
                      refine r_iald (j := q) (x := vF u9p 3 q) C rfl rfl (by decide) rfl (by omega) (dx dX7_holdWhole 28 rfl) (mh9p.e3 (by omega)) ?_
                      refine r_aload_n C (dx dX7_holdWhole 29 rfl) rfl ?_
                      refine g_X7_49 C (dx dX7_holdWhole 30 rfl) ?_
                      refine r_iload C (dx dX7_holdWhole 31 rfl) rfl ?_
                      have i73 := (mi (by omega) (hx5.imp_left And.left) c72).2
                      refine r_iald (j := x5.toNatClampNeg) (x := vF u9p 3 x5.toNatClampNeg) C rfl rfl (by decide) (mi (by omega) (hx5.imp_left And.left) c72).1 (Nat.lt_of_lt_of_le (mi (by omega) (hx5.imp_left And.left) c72).2 (by omega)) (dx dX7_holdWhole 32 rfl) (mh9p.e3 (by omega)) ?_
                      refine r_icmp_le (tgt := 68) C (dx dX7_holdWhole 33 rfl) (by decide) (fun c74 => ?_) (fun c74 => ?_)
                      ·
                        have c74 : vF u9p 3 q ≤ vF u9p 3 x5.toNatClampNeg := c74
                        refine r_iload C (dx dX7_holdWhole 36 rfl) rfl ?_
                        refine r_istore (ls' := [(0, vr 7 k), (1, vi (nI am)), (2, vi x2), (3, vi x3), (4, vi (nI p)), (5, vi x5), (6, vi (nI q))]) C (dx dX7_holdWhole 37 rfl) (by decide) [1, 2, 3, 4, 5, 0, 6] rfl ?_
                        refine rn_iinc (a := q) (k := 1) (ls' := [(0, vr 7 k), (1, vi (nI am)), (2, vi x2), (3, vi x3), (4, vi (nI p)), (5, vi x5), (6, vi (nI (q + 1)))]) C (dx dX7_holdWhole 38 rfl) rfl rfl (by decide) [1, 2, 3, 4, 5, 6, 0] rfl ?_
                        refine r_goto (tgt := 22) C (dx dX7_holdWhole 39 rfl) (by decide) ?_
                        exact ihq x5 (Or.inr (hx5.resolve_left (fun z => c72 z.1)))
                      ·
                        have c74 : ¬ vF u9p 3 q ≤ vF u9p 3 x5.toNatClampNeg := c74
                        refine r_iload C (dx dX7_holdWhole 34 rfl) rfl ?_
                        refine r_goto (tgt := 70) C (dx dX7_holdWhole 35 rfl) (by decide) ?_
                        refine r_istore (ls' := [(0, vr 7 k), (1, vi (nI am)), (2, vi x2), (3, vi x3), (4, vi (nI p)), (5, vi (nI q)), (6, vi (nI q))]) C (dx dX7_holdWhole 37 rfl) (by decide) [1, 2, 3, 4, 5, 0, 6] rfl ?_
                        refine rn_iinc (a := q) (k := 1) (ls' := [(0, vr 7 k), (1, vi (nI am)), (2, vi x2), (3, vi x3), (4, vi (nI p)), (5, vi (nI q)), (6, vi (nI (q + 1)))]) C (dx dX7_holdWhole 38 rfl) rfl rfl (by decide) [1, 2, 3, 4, 5, 6, 0] rfl ?_
                        refine r_goto (tgt := 22) C (dx dX7_holdWhole 39 rfl) (by decide) ?_
                        exact ihq (nI q) (Or.inr ⟨_, by omega, rfl⟩)))
set_option maxHeartbeats 4000000 in
theorem c_X7_holdAll {l : Launch} {h : Hp} {k : Nat} {v : Vg} (hm : MilAt h k v) {κ b : Nat} (hκ : 1 ≤ κ ∧ κ ≤ 5) (hb : b < 100) : Ms l yX7_holdAll cX7_holdAll 5 none 8 [vr 7 k, vi (nI κ), vi (nI b)] h (xK h) (fun r h' => r = none ∧ (∃ v', MilAt h' k v' ∧ Sz v v') ∧ Kp k h h') := by
  refine Ms.of (by decide) (Nat.le_of_ble_eq_true rfl) (fun G C X F => ?_)
  have C : Cx G cX7_holdAll 5 RX7 := C
  show Rr G 0 [(0, vr 7 k), (1, vi (nI κ)), (2, vi (nI b))] [] h
  have bP := hm.bP
  have bM := hm.bM
  have bN := hm.bN
  refine r_iconst (v := nI 0) C (dx dX7_holdAll 0 rfl) rfl ?_
  refine r_istore_n (ls' := [(0, vr 7 k), (1, vi (nI κ)), (2, vi (nI b)), (3, vi (nI 0))]) C (dx dX7_holdAll 1 rfl) (by decide) [1, 2, 3, 0] rfl ?_
  refine loopU (Φ := fun p => ∀ (h9p : Hp) (u9p : Vg), MilAt h9p k u9p → Sz v u9p → Kp k h h9p → xK h9p = xK h → Rr G 2 [(0, vr 7 k), (1, vi (nI κ)), (2, vi (nI b)), (3, vi (nI p))] [] h9p) (N := vP v) ?_ ?_ 0 (by omega) h v hm (⟨by omega, by omega, by omega⟩) Kp.rf rfl
  ·
    intro  h9p u9p mh9p zh9p ph9p kh9p
    obtain ⟨ah9p, bh9p, ch9p⟩ := zh9p
    refine r_iload_n C (dx dX7_holdAll 2 rfl) rfl ?_
    refine r_aload_n C (dx dX7_holdAll 3 rfl) rfl ?_
    refine g_X7_64 (x := nI (vP u9p)) C (dx dX7_holdAll 4 rfl) mh9p.eP ?_
    refine rn_ge (a := vP v) (b := vP u9p) (tgt := 30) C (by omega) (by omega) (dx dX7_holdAll 5 rfl) (by decide) (fun c1 => ?_) (fun c1 => ?_)
    · first
      | (omega; done)
      | (
          have c1 : vP u9p ≤ vP v := c1
          refine r_iload_n C (dx dX7_holdAll 18 rfl) rfl ?_
          refine r_iconst (v := nI 1) C (dx dX7_holdAll 19 rfl) rfl ?_
          refine rn_eq (a := κ) (b := 1) (tgt := 40) C (by omega) (by omega) (dx dX7_holdAll 20 rfl) (by decide) (fun c2 => ?_) (fun c2 => ?_)
          · first
            | (omega; done)
            | (
                have c2 : κ = 1 := c2
                refine r_aload_n C (dx dX7_holdAll 24 rfl) rfl ?_
                refine r_iload_n C (dx dX7_holdAll 25 rfl) rfl ?_
                refine r_iconst (v := nI 5) C (dx dX7_holdAll 26 rfl) rfl ?_
                refine rn_ne (a := κ) (b := 5) (tgt := 62) C (by omega) (by omega) (dx dX7_holdAll 27 rfl) (by decide) (fun c3 => ?_) (fun c3 => ?_)
                · first
                  | (omega; done)
                  | (
                      have c3 : ¬ κ = 5 := c3
                      refine r_aload_n C (dx dX7_holdAll 36 rfl) rfl ?_
                      refine g_X7_74 (x := nI (vN u9p)) C (dx dX7_holdAll 37 rfl) mh9p.eN ?_
                      refine r_cv (as := [vi (nI (vN u9p))]) (st := []) C X I_X7_holdWhole l_X7_282 (c_X7_holdWhole mh9p (am := vN u9p) (by omega)) (by decide) (Nat.le_of_ble_eq_true rfl) List.prefix_rfl (pfx_eq kh9p) rfl rfl (Nat.le_of_ble_eq_true rfl) rfl (dx dX7_holdAll 38 rfl) ?_
                      rintro _ h4 ⟨rfl, ⟨wh4, m9h4, s9h4⟩, qh4⟩ kkh4
                      obtain ⟨vh4, mh4, zh4⟩ : ∃ v9, MilAt h4 k v9 ∧ Sz u9p v9 := ⟨_, m9h4, s9h4⟩
                      have ph4 : Kp k h h4 := ph9p.tr (qh4)
                      have kh4 : xK h4 = xK h := (kkh4).trans kh9p
                      obtain ⟨ah4, bh4, ch4⟩ := zh4
                      exact F.2.2.1 _ _ _ rfl (dx dX7_holdAll 39 rfl) kh4 ⟨rfl, ⟨_, mh4, ⟨by omega, by omega, by omega⟩⟩, ph4⟩)
                · first
                  | (omega; done)
                  | (
                      have c3 : κ = 5 := c3
                      refine r_iload_n C (dx dX7_holdAll 28 rfl) rfl ?_
                      refine r_if_le (tgt := 62) C (dx dX7_holdAll 29 rfl) (by decide) (fun c5 => ?_) (fun c5 => ?_)
                      ·
                        have c5 : nI b ≤ 0 := c5
                        refine r_aload_n C (dx dX7_holdAll 36 rfl) rfl ?_
                        refine g_X7_74 (x := nI (vN u9p)) C (dx dX7_holdAll 37 rfl) mh9p.eN ?_
                        refine r_cv (as := [vi (nI (vN u9p))]) (st := []) C X I_X7_holdWhole l_X7_282 (c_X7_holdWhole mh9p (am := vN u9p) (by omega)) (by decide) (Nat.le_of_ble_eq_true rfl) List.prefix_rfl (pfx_eq kh9p) rfl rfl (Nat.le_of_ble_eq_true rfl) rfl (dx dX7_holdAll 38 rfl) ?_
                        rintro _ h6 ⟨rfl, ⟨wh6, m9h6, s9h6⟩, qh6⟩ kkh6
                        obtain ⟨vh6, mh6, zh6⟩ : ∃ v9, MilAt h6 k v9 ∧ Sz u9p v9 := ⟨_, m9h6, s9h6⟩
                        have ph6 : Kp k h h6 := ph9p.tr (qh6)
                        have kh6 : xK h6 = xK h := (kkh6).trans kh9p
                        obtain ⟨ah6, bh6, ch6⟩ := zh6
                        exact F.2.2.1 _ _ _ rfl (dx dX7_holdAll 39 rfl) kh6 ⟨rfl, ⟨_, mh6, ⟨by omega, by omega, by omega⟩⟩, ph6⟩
                      ·
                        have c5 : ¬ nI b ≤ 0 := c5
                        refine r_iload_n C (dx dX7_holdAll 30 rfl) rfl ?_
                        refine r_aload_n C (dx dX7_holdAll 31 rfl) rfl ?_
                        refine g_X7_74 (x := nI (vN u9p)) C (dx dX7_holdAll 32 rfl) mh9p.eN ?_
                        refine rn_ge (a := b) (b := vN u9p) (tgt := 62) C (by omega) (by omega) (dx dX7_holdAll 33 rfl) (by decide) (fun c7 => ?_) (fun c7 => ?_)
                        · first
                          | (omega; done)
                          | (
                              have c7 : vN u9p ≤ b := c7
                              refine r_aload_n C (dx dX7_holdAll 36 rfl) rfl ?_
                              refine g_X7_74 (x := nI (vN u9p)) C (dx dX7_holdAll 37 rfl) mh9p.eN ?_
                              refine r_cv (as := [vi (nI (vN u9p))]) (st := []) C X I_X7_holdWhole l_X7_282 (c_X7_holdWhole mh9p (am := vN u9p) (by omega)) (by decide) (Nat.le_of_ble_eq_true rfl) List.prefix_rfl (pfx_eq kh9p) rfl rfl (Nat.le_of_ble_eq_true rfl) rfl (dx dX7_holdAll 38 rfl) ?_
                              rintro _ h8 ⟨rfl, ⟨wh8, m9h8, s9h8⟩, qh8⟩ kkh8
                              obtain ⟨vh8, mh8, zh8⟩ : ∃ v9, MilAt h8 k v9 ∧ Sz u9p v9 := ⟨_, m9h8, s9h8⟩
                              have ph8 : Kp k h h8 := ph9p.tr (qh8)
                              have kh8 : xK h8 = xK h := (kkh8).trans kh9p
                              obtain ⟨ah8, bh8, ch8⟩ := zh8
                              exact F.2.2.1 _ _ _ rfl (dx dX7_holdAll 39 rfl) kh8 ⟨rfl, ⟨_, mh8, ⟨by omega, by omega, by omega⟩⟩, ph8⟩)
                        · first
                          | (omega; done)
                          | (
                              have c7 : b < vN u9p := c7
                              refine r_iload_n C (dx dX7_holdAll 34 rfl) rfl ?_
                              refine r_goto (tgt := 66) C (dx dX7_holdAll 35 rfl) (by decide) ?_
                              refine r_cv (as := [vi (nI b)]) (st := []) C X I_X7_holdWhole l_X7_282 (c_X7_holdWhole mh9p (am := b) (by omega)) (by decide) (Nat.le_of_ble_eq_true rfl) List.prefix_rfl (pfx_eq kh9p) rfl rfl (Nat.le_of_ble_eq_true rfl) rfl (dx dX7_holdAll 38 rfl) ?_
                              rintro _ h9 ⟨rfl, ⟨wh9, m9h9, s9h9⟩, qh9⟩ kkh9
                              obtain ⟨vh9, mh9, zh9⟩ : ∃ v9, MilAt h9 k v9 ∧ Sz u9p v9 := ⟨_, m9h9, s9h9⟩
                              have ph9 : Kp k h h9 := ph9p.tr (qh9)
                              have kh9 : xK h9 = xK h := (kkh9).trans kh9p
                              obtain ⟨ah9, bh9, ch9⟩ := zh9
                              exact F.2.2.1 _ _ _ rfl (dx dX7_holdAll 39 rfl) kh9 ⟨rfl, ⟨_, mh9, ⟨by omega, by omega, by omega⟩⟩, ph9⟩)))
          · first
            | (omega; done)
            | (
                have c2 : ¬ κ = 1 := c2
                refine r_iload_n C (dx dX7_holdAll 21 rfl) rfl ?_
                refine r_iconst (v := nI 5) C (dx dX7_holdAll 22 rfl) rfl ?_
                refine rn_ne (a := κ) (b := 5) (tgt := 70) C (by omega) (by omega) (dx dX7_holdAll 23 rfl) (by decide) (fun c10 => ?_) (fun c10 => ?_)
                · first
                  | (omega; done)
                  | (
                      have c10 : ¬ κ = 5 := c10
                      refine r_aload_n C (dx dX7_holdAll 40 rfl) rfl ?_
                      refine g_X7_74 (x := nI (vN u9p)) C (dx dX7_holdAll 41 rfl) mh9p.eN ?_
                      refine r_if_ne (tgt := 81) C (dx dX7_holdAll 42 rfl) (by decide) (fun c11 => ?_) (fun c11 => ?_)
                      ·
                        have c11 : ¬ nI (vN u9p) = 0 := c11
                        have nc11 := nz_pos c11
                        refine r_iload_n C (dx dX7_holdAll 45 rfl) rfl ?_
                        refine r_aload_n C (dx dX7_holdAll 46 rfl) rfl ?_
                        refine g_X7_74 (x := nI (vN u9p)) C (dx dX7_holdAll 47 rfl) mh9p.eN ?_
                        refine r_irem C (dx dX7_holdAll 48 rfl) (fun z => by have := congrArg Int32.toInt z; rw [nI_toInt (by omega)] at this; have e0 : (0 : Int32).toInt = 0 := (by decide); omega) ?_
                        rw [pmod (by omega) (by omega) (by omega)]
                        have hmod : (b) % (vN u9p) < vN u9p := Nat.mod_lt _ (by omega)
                        generalize (b) % (vN u9p) = r12 at hmod ⊢
                        refine r_istore_n (ls' := [(0, vr 7 k), (1, vi (nI κ)), (2, vi (nI b)), (3, vi (nI r12))]) C (dx dX7_holdAll 49 rfl) (by decide) [1, 2, 3, 0] rfl ?_
                        refine r_iconst (v := nI 0) C (dx dX7_holdAll 50 rfl) rfl ?_
                        refine r_istore (ls' := [(0, vr 7 k), (1, vi (nI κ)), (2, vi (nI b)), (3, vi (nI r12)), (4, vi (nI 0))]) C (dx dX7_holdAll 51 rfl) (by decide) [1, 2, 3, 4, 0] rfl ?_
                        refine loopU (Φ := fun q => ∀ (x3 : Nat), x3 < 200 → ∀ (h9q : Hp) (u9q : Vg), MilAt h9q k u9q → Sz v u9q → Kp k h h9q → xK h9q = xK h → Rr G 91 [(0, vr 7 k), (1, vi (nI κ)), (2, vi (nI b)), (3, vi (nI x3)), (4, vi (nI q))] [] h9q) (N := vP v) ?_ ?_ 0 (by omega) r12 (by omega) h9p u9p mh9p (⟨by omega, by omega, by omega⟩) ph9p kh9p
                        ·
                          intro  x3 hx3 h9q u9q mh9q zh9q ph9q kh9q
                          obtain ⟨ah9q, bh9q, ch9q⟩ := zh9q
                          refine r_iload C (dx dX7_holdAll 52 rfl) rfl ?_
                          refine r_aload_n C (dx dX7_holdAll 53 rfl) rfl ?_
                          refine g_X7_64 (x := nI (vP u9q)) C (dx dX7_holdAll 54 rfl) mh9q.eP ?_
                          refine rn_ge (a := vP v) (b := vP u9q) (tgt := 156) C (by omega) (by omega) (dx dX7_holdAll 55 rfl) (by decide) (fun c13 => ?_) (fun c13 => ?_)
                          · first
                            | (omega; done)
                            | (
                                have c13 : vP u9q ≤ vP v := c13
                                refine r_iconst (v := nI 0) C (dx dX7_holdAll 87 rfl) rfl ?_
                                refine r_istore (ls' := [(0, vr 7 k), (1, vi (nI κ)), (2, vi (nI b)), (3, vi (nI x3)), (4, vi (nI 0))]) C (dx dX7_holdAll 88 rfl) (by decide) [1, 2, 3, 4, 0] rfl ?_
                                refine loopU (Φ := fun q2 => ∀ (x3 : Nat), x3 < 200 → ∀ (h9q2 : Hp) (u9q2 : Vg), MilAt h9q2 k u9q2 → Sz v u9q2 → Kp k h h9q2 → xK h9q2 = xK h → Rr G 159 [(0, vr 7 k), (1, vi (nI κ)), (2, vi (nI b)), (3, vi (nI x3)), (4, vi (nI q2))] [] h9q2) (N := vP v) ?_ ?_ 0 (by omega) x3 (by omega) h9q u9q mh9q (⟨by omega, by omega, by omega⟩) ph9q kh9q
                                ·
                                  intro  x3 hx3 h9q2 u9q2 mh9q2 zh9q2 ph9q2 kh9q2
                                  obtain ⟨ah9q2, bh9q2, ch9q2⟩ := zh9q2
                                  refine r_iload C (dx dX7_holdAll 89 rfl) rfl ?_
                                  refine r_aload_n C (dx dX7_holdAll 90 rfl) rfl ?_
                                  refine g_X7_64 (x := nI (vP u9q2)) C (dx dX7_holdAll 91 rfl) mh9q2.eP ?_
                                  refine rn_ge (a := vP v) (b := vP u9q2) (tgt := 223) C (by omega) (by omega) (dx dX7_holdAll 92 rfl) (by decide) (fun c14 => ?_) (fun c14 => ?_)
                                  · first
                                    | (omega; done)
                                    | (
                                        have c14 : vP u9q2 ≤ vP v := c14
                                        exact F.2.2.1 _ _ _ rfl (dx dX7_holdAll 124 rfl) kh9q2 ⟨rfl, ⟨_, mh9q2, ⟨by omega, by omega, by omega⟩⟩, ph9q2⟩)
                                  · first
                                    | (omega; done)
                                    | (
                                        have c14 : vP v < vP u9q2 := c14
                                        refine r_iload_n C (dx dX7_holdAll 93 rfl) rfl ?_
                                        refine r_iconst (v := nI 3) C (dx dX7_holdAll 94 rfl) rfl ?_
                                        refine rn_ne (a := κ) (b := 3) (tgt := 223) C (by omega) (by omega) (dx dX7_holdAll 95 rfl) (by decide) (fun c15 => ?_) (fun c15 => ?_)
                                        · first
                                          | (omega; done)
                                          | (
                                              have c15 : ¬ κ = 3 := c15
                                              exact F.2.2.1 _ _ _ rfl (dx dX7_holdAll 124 rfl) kh9q2 ⟨rfl, ⟨_, mh9q2, ⟨by omega, by omega, by omega⟩⟩, ph9q2⟩)
                                        · first
                                          | (omega; done))
                                ·
                                  intro q2 hq2 ihq2 x3 hx3 h9q2 u9q2 mh9q2 zh9q2 ph9q2 kh9q2
                                  obtain ⟨ah9q2, bh9q2, ch9q2⟩ := zh9q2
                                  refine r_iload C (dx dX7_holdAll 89 rfl) rfl ?_
                                  refine r_aload_n C (dx dX7_holdAll 90 rfl) rfl ?_
                                  refine g_X7_64 (x := nI (vP u9q2)) C (dx dX7_holdAll 91 rfl) mh9q2.eP ?_
                                  refine rn_ge (a := q2) (b := vP u9q2) (tgt := 223) C (by omega) (by omega) (dx dX7_holdAll 92 rfl) (by decide) (fun c19 => ?_) (fun c19 => ?_)
                                  · first
                                    | (omega; done)
                                    | (
                                        have c19 : vP u9q2 ≤ q2 := c19
                                        exact F.2.2.1 _ _ _ rfl (dx dX7_holdAll 124 rfl) kh9q2 ⟨rfl, ⟨_, mh9q2, ⟨by omega, by omega, by omega⟩⟩, ph9q2⟩)
                                  · first
                                    | (omega; done)
                                    | (
                                        have c19 : q2 < vP u9q2 := c19
                                        refine r_iload_n C (dx dX7_holdAll 93 rfl) rfl ?_
                                        refine r_iconst (v := nI 3) C (dx dX7_holdAll 94 rfl) rfl ?_
                                        refine rn_ne (a := κ) (b := 3) (tgt := 223) C (by omega) (by omega) (dx dX7_holdAll 95 rfl) (by decide) (fun c20 => ?_) (fun c20 => ?_)
                                        · first
                                          | (omega; done)
                                          | (
                                              have c20 : ¬ κ = 3 := c20
                                              exact F.2.2.1 _ _ _ rfl (dx dX7_holdAll 124 rfl) kh9q2 ⟨rfl, ⟨_, mh9q2, ⟨by omega, by omega, by omega⟩⟩, ph9q2⟩)
                                        · first
                                          | (omega; done)
                                          | (
                                              have c20 : κ = 3 := c20
                                              refine r_aload_n C (dx dX7_holdAll 96 rfl) rfl ?_
                                              refine g_X7_43 C (dx dX7_holdAll 97 rfl) ?_
                                              refine r_iload C (dx dX7_holdAll 98 rfl) rfl ?_
                                              refine r_aload_n C (dx dX7_holdAll 99 rfl) rfl ?_
                                              refine r_iload_n C (dx dX7_holdAll 100 rfl) rfl ?_
                                              refine r_aload_n C (dx dX7_holdAll 101 rfl) rfl ?_
                                              refine g_X7_40 C (dx dX7_holdAll 102 rfl) ?_
                                              refine r_iload C (dx dX7_holdAll 103 rfl) rfl ?_
                                              refine r_iald (j := q2) (x := vF u9q2 0 q2) C rfl rfl (by decide) rfl (by omega) (dx dX7_holdAll 104 rfl) (mh9q2.e0 (by omega)) ?_
                                              refine r_cvW (as := [vi (nI x3), vi (vF u9q2 0 q2)]) (st := [vi (nI q2), vr 20 (k + 19)]) C X I_X7_nextWithRoom l_X7_289 (c_X7_nextWithRoom mh9q2 (a := x3) (by omega) _) (by decide) (Nat.le_of_ble_eq_true rfl) (pfx_eq kh9q2) rfl rfl (Nat.le_of_ble_eq_true rfl) rfl (dx dX7_holdAll 105 rfl) ?_
                                              rintro _ ⟨x21, hx21, rfl⟩
                                              refine r_iast (j := q2) C rfl rfl (by decide) rfl (by omega) (dx dX7_holdAll 106 rfl) ?_
                                              have mh22 : MilAt (sI h9q2 (k + 19) q2 x21) k (vset u9q2 1 q2 x21) := mh9q2.s1
                                              have ph22 : Kp k h (sI h9q2 (k + 19) q2 x21) := ph9q2.tr (Kp.c (by omega) (by omega))
                                              have kh22 : xK (sI h9q2 (k + 19) q2 x21) = xK h := kh9q2
                                              generalize sI h9q2 (k + 19) q2 x21 = h22 at mh22 ph22 kh22 ⊢
                                              have ah22 : vP (vset u9q2 1 q2 x21) = vP u9q2 := rfl
                                              have bh22 : vM (vset u9q2 1 q2 x21) = vM u9q2 := rfl
                                              have ch22 : vN (vset u9q2 1 q2 x21) = vN u9q2 := rfl
                                              refine r_aload_n C (dx dX7_holdAll 107 rfl) rfl ?_
                                              refine g_X7_43 C (dx dX7_holdAll 108 rfl) ?_
                                              refine r_iload C (dx dX7_holdAll 109 rfl) rfl ?_
                                              refine r_iald (j := q2) (x := x21) C rfl rfl (by decide) rfl (by omega) (dx dX7_holdAll 110 rfl) ((mh22.e1 (by omega)).trans (by simp [vset, vF])) ?_
                                              refine r_iconst (v := -1) C (dx dX7_holdAll 111 rfl) rfl ?_
                                              refine r_icmp_ne (tgt := 207) C (dx dX7_holdAll 112 rfl) (by decide) (fun c23 => ?_) (fun c23 => ?_)
                                              ·
                                                have c23 : ¬ x21 = -1 := c23
                                                obtain ⟨a21v, ha21v, rfl⟩ := hx21.resolve_left c23
                                                refine r_aload_n C (dx dX7_holdAll 115 rfl) rfl ?_
                                                refine g_X7_43 C (dx dX7_holdAll 116 rfl) ?_
                                                refine r_iload C (dx dX7_holdAll 117 rfl) rfl ?_
                                                refine r_iald (j := q2) (x := nI a21v) C rfl rfl (by decide) rfl (by omega) (dx dX7_holdAll 118 rfl) ((mh22.e1 (by omega)).trans (by simp [vset, vF])) ?_
                                                refine r_iconst (v := nI 1) C (dx dX7_holdAll 119 rfl) rfl ?_
                                                refine rn_iadd (a := a21v) (b := 1) C (dx dX7_holdAll 120 rfl) ?_
                                                refine r_istore_n (ls' := [(0, vr 7 k), (1, vi (nI κ)), (2, vi (nI b)), (3, vi (nI (a21v + 1))), (4, vi (nI q2))]) C (dx dX7_holdAll 121 rfl) (by decide) [1, 2, 3, 0, 4] rfl ?_
                                                refine rn_iinc (a := q2) (k := 1) (ls' := [(0, vr 7 k), (1, vi (nI κ)), (2, vi (nI b)), (3, vi (nI (a21v + 1))), (4, vi (nI (q2 + 1)))]) C (dx dX7_holdAll 122 rfl) rfl rfl (by decide) [1, 2, 3, 4, 0] rfl ?_
                                                refine r_goto (tgt := 159) C (dx dX7_holdAll 123 rfl) (by decide) ?_
                                                exact ihq2 (a21v + 1) (by omega) h22 (vset u9q2 1 q2 (nI a21v)) mh22 (⟨by omega, by omega, by omega⟩) ph22 kh22
                                              ·
                                                have c23 : x21 = -1 := c23
                                                refine r_iload_n C (dx dX7_holdAll 113 rfl) rfl ?_
                                                refine r_goto (tgt := 216) C (dx dX7_holdAll 114 rfl) (by decide) ?_
                                                refine r_istore_n (ls' := [(0, vr 7 k), (1, vi (nI κ)), (2, vi (nI b)), (3, vi (nI x3)), (4, vi (nI q2))]) C (dx dX7_holdAll 121 rfl) (by decide) [1, 2, 3, 0, 4] rfl ?_
                                                refine rn_iinc (a := q2) (k := 1) (ls' := [(0, vr 7 k), (1, vi (nI κ)), (2, vi (nI b)), (3, vi (nI x3)), (4, vi (nI (q2 + 1)))]) C (dx dX7_holdAll 122 rfl) rfl rfl (by decide) [1, 2, 3, 4, 0] rfl ?_
                                                refine r_goto (tgt := 159) C (dx dX7_holdAll 123 rfl) (by decide) ?_
                                                exact ihq2 x3 (by omega) h22 (vset u9q2 1 q2 x21) mh22 (⟨by omega, by omega, by omega⟩) ph22 kh22)))
                          · first
                            | (omega; done)
                            | (
                                have c13 : vP v < vP u9q := c13
                                refine r_aload_n C (dx dX7_holdAll 56 rfl) rfl ?_
                                refine g_X7_40 C (dx dX7_holdAll 57 rfl) ?_
                                refine r_iload C (dx dX7_holdAll 58 rfl) rfl ?_
                                refine r_iload_n C (dx dX7_holdAll 59 rfl) rfl ?_
                                refine r_iconst (v := nI 4) C (dx dX7_holdAll 60 rfl) rfl ?_
                                refine rn_ne (a := κ) (b := 4) (tgt := 118) C (by omega) (by omega) (dx dX7_holdAll 61 rfl) (by decide) (fun c24 => ?_) (fun c24 => ?_)
                                · first
                                  | (omega; done)
                                · first
                                  | (omega; done))
                        ·
                          intro q hq ihq x3 hx3 h9q u9q mh9q zh9q ph9q kh9q
                          obtain ⟨ah9q, bh9q, ch9q⟩ := zh9q
                          refine r_iload C (dx dX7_holdAll 52 rfl) rfl ?_
                          refine r_aload_n C (dx dX7_holdAll 53 rfl) rfl ?_
                          refine g_X7_64 (x := nI (vP u9q)) C (dx dX7_holdAll 54 rfl) mh9q.eP ?_
                          refine rn_ge (a := q) (b := vP u9q) (tgt := 156) C (by omega) (by omega) (dx dX7_holdAll 55 rfl) (by decide) (fun c31 => ?_) (fun c31 => ?_)
                          · first
                            | (omega; done)
                            | (
                                have c31 : vP u9q ≤ q := c31
                                refine r_iconst (v := nI 0) C (dx dX7_holdAll 87 rfl) rfl ?_
                                refine r_istore (ls' := [(0, vr 7 k), (1, vi (nI κ)), (2, vi (nI b)), (3, vi (nI x3)), (4, vi (nI 0))]) C (dx dX7_holdAll 88 rfl) (by decide) [1, 2, 3, 4, 0] rfl ?_
                                refine loopU (Φ := fun q2 => ∀ (x3 : Nat), x3 < 200 → ∀ (h9q2 : Hp) (u9q2 : Vg), MilAt h9q2 k u9q2 → Sz v u9q2 → Kp k h h9q2 → xK h9q2 = xK h → Rr G 159 [(0, vr 7 k), (1, vi (nI κ)), (2, vi (nI b)), (3, vi (nI x3)), (4, vi (nI q2))] [] h9q2) (N := vP v) ?_ ?_ 0 (by omega) x3 (by omega) h9q u9q mh9q (⟨by omega, by omega, by omega⟩) ph9q kh9q
                                ·
                                  intro  x3 hx3 h9q2 u9q2 mh9q2 zh9q2 ph9q2 kh9q2
                                  obtain ⟨ah9q2, bh9q2, ch9q2⟩ := zh9q2
                                  refine r_iload C (dx dX7_holdAll 89 rfl) rfl ?_
                                  refine r_aload_n C (dx dX7_holdAll 90 rfl) rfl ?_
                                  refine g_X7_64 (x := nI (vP u9q2)) C (dx dX7_holdAll 91 rfl) mh9q2.eP ?_
                                  refine rn_ge (a := vP v) (b := vP u9q2) (tgt := 223) C (by omega) (by omega) (dx dX7_holdAll 92 rfl) (by decide) (fun c32 => ?_) (fun c32 => ?_)
                                  · first
                                    | (omega; done)
                                    | (
                                        have c32 : vP u9q2 ≤ vP v := c32
                                        exact F.2.2.1 _ _ _ rfl (dx dX7_holdAll 124 rfl) kh9q2 ⟨rfl, ⟨_, mh9q2, ⟨by omega, by omega, by omega⟩⟩, ph9q2⟩)
                                  · first
                                    | (omega; done)
                                    | (
                                        have c32 : vP v < vP u9q2 := c32
                                        refine r_iload_n C (dx dX7_holdAll 93 rfl) rfl ?_
                                        refine r_iconst (v := nI 3) C (dx dX7_holdAll 94 rfl) rfl ?_
                                        refine rn_ne (a := κ) (b := 3) (tgt := 223) C (by omega) (by omega) (dx dX7_holdAll 95 rfl) (by decide) (fun c33 => ?_) (fun c33 => ?_)
                                        · first
                                          | (omega; done)
                                          | (
                                              have c33 : ¬ κ = 3 := c33
                                              exact F.2.2.1 _ _ _ rfl (dx dX7_holdAll 124 rfl) kh9q2 ⟨rfl, ⟨_, mh9q2, ⟨by omega, by omega, by omega⟩⟩, ph9q2⟩)
                                        · first
                                          | (omega; done))
                                ·
                                  intro q2 hq2 ihq2 x3 hx3 h9q2 u9q2 mh9q2 zh9q2 ph9q2 kh9q2
                                  obtain ⟨ah9q2, bh9q2, ch9q2⟩ := zh9q2
                                  refine r_iload C (dx dX7_holdAll 89 rfl) rfl ?_
                                  refine r_aload_n C (dx dX7_holdAll 90 rfl) rfl ?_
                                  refine g_X7_64 (x := nI (vP u9q2)) C (dx dX7_holdAll 91 rfl) mh9q2.eP ?_
                                  refine rn_ge (a := q2) (b := vP u9q2) (tgt := 223) C (by omega) (by omega) (dx dX7_holdAll 92 rfl) (by decide) (fun c37 => ?_) (fun c37 => ?_)
                                  · first
                                    | (omega; done)
                                    | (
                                        have c37 : vP u9q2 ≤ q2 := c37
                                        exact F.2.2.1 _ _ _ rfl (dx dX7_holdAll 124 rfl) kh9q2 ⟨rfl, ⟨_, mh9q2, ⟨by omega, by omega, by omega⟩⟩, ph9q2⟩)
                                  · first
                                    | (omega; done)
                                    | (
                                        have c37 : q2 < vP u9q2 := c37
                                        refine r_iload_n C (dx dX7_holdAll 93 rfl) rfl ?_
                                        refine r_iconst (v := nI 3) C (dx dX7_holdAll 94 rfl) rfl ?_
                                        refine rn_ne (a := κ) (b := 3) (tgt := 223) C (by omega) (by omega) (dx dX7_holdAll 95 rfl) (by decide) (fun c38 => ?_) (fun c38 => ?_)
                                        · first
                                          | (omega; done)
                                          | (
                                              have c38 : ¬ κ = 3 := c38
                                              exact F.2.2.1 _ _ _ rfl (dx dX7_holdAll 124 rfl) kh9q2 ⟨rfl, ⟨_, mh9q2, ⟨by omega, by omega, by omega⟩⟩, ph9q2⟩)
                                        · first
                                          | (omega; done)
                                          | (
                                              have c38 : κ = 3 := c38
                                              refine r_aload_n C (dx dX7_holdAll 96 rfl) rfl ?_
                                              refine g_X7_43 C (dx dX7_holdAll 97 rfl) ?_
                                              refine r_iload C (dx dX7_holdAll 98 rfl) rfl ?_
                                              refine r_aload_n C (dx dX7_holdAll 99 rfl) rfl ?_
                                              refine r_iload_n C (dx dX7_holdAll 100 rfl) rfl ?_
                                              refine r_aload_n C (dx dX7_holdAll 101 rfl) rfl ?_
                                              refine g_X7_40 C (dx dX7_holdAll 102 rfl) ?_
                                              refine r_iload C (dx dX7_holdAll 103 rfl) rfl ?_
                                              refine r_iald (j := q2) (x := vF u9q2 0 q2) C rfl rfl (by decide) rfl (by omega) (dx dX7_holdAll 104 rfl) (mh9q2.e0 (by omega)) ?_
                                              refine r_cvW (as := [vi (nI x3), vi (vF u9q2 0 q2)]) (st := [vi (nI q2), vr 20 (k + 19)]) C X I_X7_nextWithRoom l_X7_289 (c_X7_nextWithRoom mh9q2 (a := x3) (by omega) _) (by decide) (Nat.le_of_ble_eq_true rfl) (pfx_eq kh9q2) rfl rfl (Nat.le_of_ble_eq_true rfl) rfl (dx dX7_holdAll 105 rfl) ?_
                                              rintro _ ⟨x39, hx39, rfl⟩
                                              refine r_iast (j := q2) C rfl rfl (by decide) rfl (by omega) (dx dX7_holdAll 106 rfl) ?_
                                              have mh40 : MilAt (sI h9q2 (k + 19) q2 x39) k (vset u9q2 1 q2 x39) := mh9q2.s1
                                              have ph40 : Kp k h (sI h9q2 (k + 19) q2 x39) := ph9q2.tr (Kp.c (by omega) (by omega))
                                              have kh40 : xK (sI h9q2 (k + 19) q2 x39) = xK h := kh9q2
                                              generalize sI h9q2 (k + 19) q2 x39 = h40 at mh40 ph40 kh40 ⊢
                                              have ah40 : vP (vset u9q2 1 q2 x39) = vP u9q2 := rfl
                                              have bh40 : vM (vset u9q2 1 q2 x39) = vM u9q2 := rfl
                                              have ch40 : vN (vset u9q2 1 q2 x39) = vN u9q2 := rfl
                                              refine r_aload_n C (dx dX7_holdAll 107 rfl) rfl ?_
                                              refine g_X7_43 C (dx dX7_holdAll 108 rfl) ?_
                                              refine r_iload C (dx dX7_holdAll 109 rfl) rfl ?_
                                              refine r_iald (j := q2) (x := x39) C rfl rfl (by decide) rfl (by omega) (dx dX7_holdAll 110 rfl) ((mh40.e1 (by omega)).trans (by simp [vset, vF])) ?_
                                              refine r_iconst (v := -1) C (dx dX7_holdAll 111 rfl) rfl ?_
                                              refine r_icmp_ne (tgt := 207) C (dx dX7_holdAll 112 rfl) (by decide) (fun c41 => ?_) (fun c41 => ?_)
                                              ·
                                                have c41 : ¬ x39 = -1 := c41
                                                obtain ⟨a39v, ha39v, rfl⟩ := hx39.resolve_left c41
                                                refine r_aload_n C (dx dX7_holdAll 115 rfl) rfl ?_
                                                refine g_X7_43 C (dx dX7_holdAll 116 rfl) ?_
                                                refine r_iload C (dx dX7_holdAll 117 rfl) rfl ?_
                                                refine r_iald (j := q2) (x := nI a39v) C rfl rfl (by decide) rfl (by omega) (dx dX7_holdAll 118 rfl) ((mh40.e1 (by omega)).trans (by simp [vset, vF])) ?_
                                                refine r_iconst (v := nI 1) C (dx dX7_holdAll 119 rfl) rfl ?_
                                                refine rn_iadd (a := a39v) (b := 1) C (dx dX7_holdAll 120 rfl) ?_
                                                refine r_istore_n (ls' := [(0, vr 7 k), (1, vi (nI κ)), (2, vi (nI b)), (3, vi (nI (a39v + 1))), (4, vi (nI q2))]) C (dx dX7_holdAll 121 rfl) (by decide) [1, 2, 3, 0, 4] rfl ?_
                                                refine rn_iinc (a := q2) (k := 1) (ls' := [(0, vr 7 k), (1, vi (nI κ)), (2, vi (nI b)), (3, vi (nI (a39v + 1))), (4, vi (nI (q2 + 1)))]) C (dx dX7_holdAll 122 rfl) rfl rfl (by decide) [1, 2, 3, 4, 0] rfl ?_
                                                refine r_goto (tgt := 159) C (dx dX7_holdAll 123 rfl) (by decide) ?_
                                                exact ihq2 (a39v + 1) (by omega) h40 (vset u9q2 1 q2 (nI a39v)) mh40 (⟨by omega, by omega, by omega⟩) ph40 kh40
                                              ·
                                                have c41 : x39 = -1 := c41
                                                refine r_iload_n C (dx dX7_holdAll 113 rfl) rfl ?_
                                                refine r_goto (tgt := 216) C (dx dX7_holdAll 114 rfl) (by decide) ?_
                                                refine r_istore_n (ls' := [(0, vr 7 k), (1, vi (nI κ)), (2, vi (nI b)), (3, vi (nI x3)), (4, vi (nI q2))]) C (dx dX7_holdAll 121 rfl) (by decide) [1, 2, 3, 0, 4] rfl ?_
                                                refine rn_iinc (a := q2) (k := 1) (ls' := [(0, vr 7 k), (1, vi (nI κ)), (2, vi (nI b)), (3, vi (nI x3)), (4, vi (nI (q2 + 1)))]) C (dx dX7_holdAll 122 rfl) rfl rfl (by decide) [1, 2, 3, 4, 0] rfl ?_
                                                refine r_goto (tgt := 159) C (dx dX7_holdAll 123 rfl) (by decide) ?_
                                                exact ihq2 x3 (by omega) h40 (vset u9q2 1 q2 x39) mh40 (⟨by omega, by omega, by omega⟩) ph40 kh40)))
                          · first
                            | (omega; done)
                            | (
                                have c31 : q < vP u9q := c31
                                refine r_aload_n C (dx dX7_holdAll 56 rfl) rfl ?_
                                refine g_X7_40 C (dx dX7_holdAll 57 rfl) ?_
                                refine r_iload C (dx dX7_holdAll 58 rfl) rfl ?_
                                refine r_iload_n C (dx dX7_holdAll 59 rfl) rfl ?_
                                refine r_iconst (v := nI 4) C (dx dX7_holdAll 60 rfl) rfl ?_
                                refine rn_ne (a := κ) (b := 4) (tgt := 118) C (by omega) (by omega) (dx dX7_holdAll 61 rfl) (by decide) (fun c42 => ?_) (fun c42 => ?_)
                                · first
                                  | (omega; done)
                                  | (
                                      have c42 : ¬ κ = 4 := c42
                                      refine r_aload_n C (dx dX7_holdAll 65 rfl) rfl ?_
                                      refine r_iload_n C (dx dX7_holdAll 66 rfl) rfl ?_
                                      refine r_iconst (v := -1) C (dx dX7_holdAll 67 rfl) rfl ?_
                                      refine r_cvW (as := [vi (nI x3), vi (-1)]) (st := [vi (nI q), vr 20 (k + 18)]) C X I_X7_nextWithRoom l_X7_289 (c_X7_nextWithRoom mh9q (a := x3) (by omega) _) (by decide) (Nat.le_of_ble_eq_true rfl) (pfx_eq kh9q) rfl rfl (Nat.le_of_ble_eq_true rfl) rfl (dx dX7_holdAll 68 rfl) ?_
                                      rintro _ ⟨x43, hx43, rfl⟩
                                      refine r_iast (j := q) C rfl rfl (by decide) rfl (by omega) (dx dX7_holdAll 69 rfl) ?_
                                      have mh44 : MilAt (sI h9q (k + 18) q x43) k (vset u9q 0 q x43) := mh9q.s0
                                      have ph44 : Kp k h (sI h9q (k + 18) q x43) := ph9q.tr (Kp.c (by omega) (by omega))
                                      have kh44 : xK (sI h9q (k + 18) q x43) = xK h := kh9q
                                      generalize sI h9q (k + 18) q x43 = h44 at mh44 ph44 kh44 ⊢
                                      have ah44 : vP (vset u9q 0 q x43) = vP u9q := rfl
                                      have bh44 : vM (vset u9q 0 q x43) = vM u9q := rfl
                                      have ch44 : vN (vset u9q 0 q x43) = vN u9q := rfl
                                      refine r_aload_n C (dx dX7_holdAll 70 rfl) rfl ?_
                                      refine g_X7_40 C (dx dX7_holdAll 71 rfl) ?_
                                      refine r_iload C (dx dX7_holdAll 72 rfl) rfl ?_
                                      refine r_iald (j := q) (x := x43) C rfl rfl (by decide) rfl (by omega) (dx dX7_holdAll 73 rfl) ((mh44.e0 (by omega)).trans (by simp [vset, vF])) ?_
                                      refine r_iconst (v := -1) C (dx dX7_holdAll 74 rfl) rfl ?_
                                      refine r_icmp_ne (tgt := 140) C (dx dX7_holdAll 75 rfl) (by decide) (fun c45 => ?_) (fun c45 => ?_)
                                      ·
                                        have c45 : ¬ x43 = -1 := c45
                                        obtain ⟨a43v, ha43v, rfl⟩ := hx43.resolve_left c45
                                        refine r_aload_n C (dx dX7_holdAll 78 rfl) rfl ?_
                                        refine g_X7_40 C (dx dX7_holdAll 79 rfl) ?_
                                        refine r_iload C (dx dX7_holdAll 80 rfl) rfl ?_
                                        refine r_iald (j := q) (x := nI a43v) C rfl rfl (by decide) rfl (by omega) (dx dX7_holdAll 81 rfl) ((mh44.e0 (by omega)).trans (by simp [vset, vF])) ?_
                                        refine r_iconst (v := nI 1) C (dx dX7_holdAll 82 rfl) rfl ?_
                                        refine rn_iadd (a := a43v) (b := 1) C (dx dX7_holdAll 83 rfl) ?_
                                        refine r_istore_n (ls' := [(0, vr 7 k), (1, vi (nI κ)), (2, vi (nI b)), (3, vi (nI (a43v + 1))), (4, vi (nI q))]) C (dx dX7_holdAll 84 rfl) (by decide) [1, 2, 3, 0, 4] rfl ?_
                                        refine rn_iinc (a := q) (k := 1) (ls' := [(0, vr 7 k), (1, vi (nI κ)), (2, vi (nI b)), (3, vi (nI (a43v + 1))), (4, vi (nI (q + 1)))]) C (dx dX7_holdAll 85 rfl) rfl rfl (by decide) [1, 2, 3, 4, 0] rfl ?_
                                        refine r_goto (tgt := 91) C (dx dX7_holdAll 86 rfl) (by decide) ?_
                                        exact ihq (a43v + 1) (by omega) h44 (vset u9q 0 q (nI a43v)) mh44 (⟨by omega, by omega, by omega⟩) ph44 kh44
                                      ·
                                        have c45 : x43 = -1 := c45
                                        refine r_iload_n C (dx dX7_holdAll 76 rfl) rfl ?_
                                        refine r_goto (tgt := 149) C (dx dX7_holdAll 77 rfl) (by decide) ?_
                                        refine r_istore_n (ls' := [(0, vr 7 k), (1, vi (nI κ)), (2, vi (nI b)), (3, vi (nI x3)), (4, vi (nI q))]) C (dx dX7_holdAll 84 rfl) (by decide) [1, 2, 3, 0, 4] rfl ?_
                                        refine rn_iinc (a := q) (k := 1) (ls' := [(0, vr 7 k), (1, vi (nI κ)), (2, vi (nI b)), (3, vi (nI x3)), (4, vi (nI (q + 1)))]) C (dx dX7_holdAll 85 rfl) rfl rfl (by decide) [1, 2, 3, 4, 0] rfl ?_
                                        refine r_goto (tgt := 91) C (dx dX7_holdAll 86 rfl) (by decide) ?_
                                        exact ihq x3 (by omega) h44 (vset u9q 0 q x43) mh44 (⟨by omega, by omega, by omega⟩) ph44 kh44)
                                · first
                                  | (omega; done)
                                  | (
                                      have c42 : κ = 4 := c42
                                      refine r_aload_n C (dx dX7_holdAll 62 rfl) rfl ?_
                                      refine r_cvW (as := []) (st := [vi (nI q), vr 20 (k + 18)]) C X I_X7_surest l_X7_286 (c_X7_surest mh9q) (by decide) (Nat.le_of_ble_eq_true rfl) (pfx_eq kh9q) rfl rfl (Nat.le_of_ble_eq_true rfl) rfl (dx dX7_holdAll 63 rfl) ?_
                                      rintro _ ⟨x46, hx46, rfl⟩
                                      refine r_goto (tgt := 124) C (dx dX7_holdAll 64 rfl) (by decide) ?_
                                      refine r_iast (j := q) C rfl rfl (by decide) rfl (by omega) (dx dX7_holdAll 69 rfl) ?_
                                      have mh47 : MilAt (sI h9q (k + 18) q x46) k (vset u9q 0 q x46) := mh9q.s0
                                      have ph47 : Kp k h (sI h9q (k + 18) q x46) := ph9q.tr (Kp.c (by omega) (by omega))
                                      have kh47 : xK (sI h9q (k + 18) q x46) = xK h := kh9q
                                      generalize sI h9q (k + 18) q x46 = h47 at mh47 ph47 kh47 ⊢
                                      have ah47 : vP (vset u9q 0 q x46) = vP u9q := rfl
                                      have bh47 : vM (vset u9q 0 q x46) = vM u9q := rfl
                                      have ch47 : vN (vset u9q 0 q x46) = vN u9q := rfl
                                      refine r_aload_n C (dx dX7_holdAll 70 rfl) rfl ?_
                                      refine g_X7_40 C (dx dX7_holdAll 71 rfl) ?_
                                      refine r_iload C (dx dX7_holdAll 72 rfl) rfl ?_
                                      refine r_iald (j := q) (x := x46) C rfl rfl (by decide) rfl (by omega) (dx dX7_holdAll 73 rfl) ((mh47.e0 (by omega)).trans (by simp [vset, vF])) ?_
                                      refine r_iconst (v := -1) C (dx dX7_holdAll 74 rfl) rfl ?_
                                      refine r_icmp_ne (tgt := 140) C (dx dX7_holdAll 75 rfl) (by decide) (fun c48 => ?_) (fun c48 => ?_)
                                      ·
                                        have c48 : ¬ x46 = -1 := c48
                                        obtain ⟨a46v, ha46v, rfl⟩ := hx46.resolve_left c48
                                        refine r_aload_n C (dx dX7_holdAll 78 rfl) rfl ?_
                                        refine g_X7_40 C (dx dX7_holdAll 79 rfl) ?_
                                        refine r_iload C (dx dX7_holdAll 80 rfl) rfl ?_
                                        refine r_iald (j := q) (x := nI a46v) C rfl rfl (by decide) rfl (by omega) (dx dX7_holdAll 81 rfl) ((mh47.e0 (by omega)).trans (by simp [vset, vF])) ?_
                                        refine r_iconst (v := nI 1) C (dx dX7_holdAll 82 rfl) rfl ?_
                                        refine rn_iadd (a := a46v) (b := 1) C (dx dX7_holdAll 83 rfl) ?_
                                        refine r_istore_n (ls' := [(0, vr 7 k), (1, vi (nI κ)), (2, vi (nI b)), (3, vi (nI (a46v + 1))), (4, vi (nI q))]) C (dx dX7_holdAll 84 rfl) (by decide) [1, 2, 3, 0, 4] rfl ?_
                                        refine rn_iinc (a := q) (k := 1) (ls' := [(0, vr 7 k), (1, vi (nI κ)), (2, vi (nI b)), (3, vi (nI (a46v + 1))), (4, vi (nI (q + 1)))]) C (dx dX7_holdAll 85 rfl) rfl rfl (by decide) [1, 2, 3, 4, 0] rfl ?_
                                        refine r_goto (tgt := 91) C (dx dX7_holdAll 86 rfl) (by decide) ?_
                                        exact ihq (a46v + 1) (by omega) h47 (vset u9q 0 q (nI a46v)) mh47 (⟨by omega, by omega, by omega⟩) ph47 kh47
                                      ·
                                        have c48 : x46 = -1 := c48
                                        refine r_iload_n C (dx dX7_holdAll 76 rfl) rfl ?_
                                        refine r_goto (tgt := 149) C (dx dX7_holdAll 77 rfl) (by decide) ?_
                                        refine r_istore_n (ls' := [(0, vr 7 k), (1, vi (nI κ)), (2, vi (nI b)), (3, vi (nI x3)), (4, vi (nI q))]) C (dx dX7_holdAll 84 rfl) (by decide) [1, 2, 3, 0, 4] rfl ?_
                                        refine rn_iinc (a := q) (k := 1) (ls' := [(0, vr 7 k), (1, vi (nI κ)), (2, vi (nI b)), (3, vi (nI x3)), (4, vi (nI (q + 1)))]) C (dx dX7_holdAll 85 rfl) rfl rfl (by decide) [1, 2, 3, 4, 0] rfl ?_
                                        refine r_goto (tgt := 91) C (dx dX7_holdAll 86 rfl) (by decide) ?_
                                        exact ihq x3 (by omega) h47 (vset u9q 0 q x46) mh47 (⟨by omega, by omega, by omega⟩) ph47 kh47))
                      ·
                        have c11 : nI (vN u9p) = 0 := c11
                        refine r_iconst (v := nI 0) C (dx dX7_holdAll 43 rfl) rfl ?_
                        refine r_goto (tgt := 87) C (dx dX7_holdAll 44 rfl) (by decide) ?_
                        refine r_istore_n (ls' := [(0, vr 7 k), (1, vi (nI κ)), (2, vi (nI b)), (3, vi (nI 0))]) C (dx dX7_holdAll 49 rfl) (by decide) [1, 2, 3, 0] rfl ?_
                        refine r_iconst (v := nI 0) C (dx dX7_holdAll 50 rfl) rfl ?_
                        refine r_istore (ls' := [(0, vr 7 k), (1, vi (nI κ)), (2, vi (nI b)), (3, vi (nI 0)), (4, vi (nI 0))]) C (dx dX7_holdAll 51 rfl) (by decide) [1, 2, 3, 4, 0] rfl ?_
                        refine loopU (Φ := fun q => ∀ (x3 : Nat), x3 < 200 → ∀ (h9q : Hp) (u9q : Vg), MilAt h9q k u9q → Sz v u9q → Kp k h h9q → xK h9q = xK h → Rr G 91 [(0, vr 7 k), (1, vi (nI κ)), (2, vi (nI b)), (3, vi (nI x3)), (4, vi (nI q))] [] h9q) (N := vP v) ?_ ?_ 0 (by omega) 0 (by omega) h9p u9p mh9p (⟨by omega, by omega, by omega⟩) ph9p kh9p
                        ·
                          intro  x3 hx3 h9q u9q mh9q zh9q ph9q kh9q
                          obtain ⟨ah9q, bh9q, ch9q⟩ := zh9q
                          refine r_iload C (dx dX7_holdAll 52 rfl) rfl ?_
                          refine r_aload_n C (dx dX7_holdAll 53 rfl) rfl ?_
                          refine g_X7_64 (x := nI (vP u9q)) C (dx dX7_holdAll 54 rfl) mh9q.eP ?_
                          refine rn_ge (a := vP v) (b := vP u9q) (tgt := 156) C (by omega) (by omega) (dx dX7_holdAll 55 rfl) (by decide) (fun c49 => ?_) (fun c49 => ?_)
                          · first
                            | (omega; done)
                            | (
                                have c49 : vP u9q ≤ vP v := c49
                                refine r_iconst (v := nI 0) C (dx dX7_holdAll 87 rfl) rfl ?_
                                refine r_istore (ls' := [(0, vr 7 k), (1, vi (nI κ)), (2, vi (nI b)), (3, vi (nI x3)), (4, vi (nI 0))]) C (dx dX7_holdAll 88 rfl) (by decide) [1, 2, 3, 4, 0] rfl ?_
                                refine loopU (Φ := fun q2 => ∀ (x3 : Nat), x3 < 200 → ∀ (h9q2 : Hp) (u9q2 : Vg), MilAt h9q2 k u9q2 → Sz v u9q2 → Kp k h h9q2 → xK h9q2 = xK h → Rr G 159 [(0, vr 7 k), (1, vi (nI κ)), (2, vi (nI b)), (3, vi (nI x3)), (4, vi (nI q2))] [] h9q2) (N := vP v) ?_ ?_ 0 (by omega) x3 (by omega) h9q u9q mh9q (⟨by omega, by omega, by omega⟩) ph9q kh9q
                                ·
                                  intro  x3 hx3 h9q2 u9q2 mh9q2 zh9q2 ph9q2 kh9q2
                                  obtain ⟨ah9q2, bh9q2, ch9q2⟩ := zh9q2
                                  refine r_iload C (dx dX7_holdAll 89 rfl) rfl ?_
                                  refine r_aload_n C (dx dX7_holdAll 90 rfl) rfl ?_
                                  refine g_X7_64 (x := nI (vP u9q2)) C (dx dX7_holdAll 91 rfl) mh9q2.eP ?_
                                  refine rn_ge (a := vP v) (b := vP u9q2) (tgt := 223) C (by omega) (by omega) (dx dX7_holdAll 92 rfl) (by decide) (fun c50 => ?_) (fun c50 => ?_)
                                  · first
                                    | (omega; done)
                                    | (
                                        have c50 : vP u9q2 ≤ vP v := c50
                                        exact F.2.2.1 _ _ _ rfl (dx dX7_holdAll 124 rfl) kh9q2 ⟨rfl, ⟨_, mh9q2, ⟨by omega, by omega, by omega⟩⟩, ph9q2⟩)
                                  · first
                                    | (omega; done)
                                    | (
                                        have c50 : vP v < vP u9q2 := c50
                                        refine r_iload_n C (dx dX7_holdAll 93 rfl) rfl ?_
                                        refine r_iconst (v := nI 3) C (dx dX7_holdAll 94 rfl) rfl ?_
                                        refine rn_ne (a := κ) (b := 3) (tgt := 223) C (by omega) (by omega) (dx dX7_holdAll 95 rfl) (by decide) (fun c51 => ?_) (fun c51 => ?_)
                                        · first
                                          | (omega; done)
                                          | (
                                              have c51 : ¬ κ = 3 := c51
                                              exact F.2.2.1 _ _ _ rfl (dx dX7_holdAll 124 rfl) kh9q2 ⟨rfl, ⟨_, mh9q2, ⟨by omega, by omega, by omega⟩⟩, ph9q2⟩)
                                        · first
                                          | (omega; done))
                                ·
                                  intro q2 hq2 ihq2 x3 hx3 h9q2 u9q2 mh9q2 zh9q2 ph9q2 kh9q2
                                  obtain ⟨ah9q2, bh9q2, ch9q2⟩ := zh9q2
                                  refine r_iload C (dx dX7_holdAll 89 rfl) rfl ?_
                                  refine r_aload_n C (dx dX7_holdAll 90 rfl) rfl ?_
                                  refine g_X7_64 (x := nI (vP u9q2)) C (dx dX7_holdAll 91 rfl) mh9q2.eP ?_
                                  refine rn_ge (a := q2) (b := vP u9q2) (tgt := 223) C (by omega) (by omega) (dx dX7_holdAll 92 rfl) (by decide) (fun c55 => ?_) (fun c55 => ?_)
                                  · first
                                    | (omega; done)
                                    | (
                                        have c55 : vP u9q2 ≤ q2 := c55
                                        exact F.2.2.1 _ _ _ rfl (dx dX7_holdAll 124 rfl) kh9q2 ⟨rfl, ⟨_, mh9q2, ⟨by omega, by omega, by omega⟩⟩, ph9q2⟩)
                                  · first
                                    | (omega; done)
                                    | (
                                        have c55 : q2 < vP u9q2 := c55
                                        refine r_iload_n C (dx dX7_holdAll 93 rfl) rfl ?_
                                        refine r_iconst (v := nI 3) C (dx dX7_holdAll 94 rfl) rfl ?_
                                        refine rn_ne (a := κ) (b := 3) (tgt := 223) C (by omega) (by omega) (dx dX7_holdAll 95 rfl) (by decide) (fun c56 => ?_) (fun c56 => ?_)
                                        · first
                                          | (omega; done)
                                          | (
                                              have c56 : ¬ κ = 3 := c56
                                              exact F.2.2.1 _ _ _ rfl (dx dX7_holdAll 124 rfl) kh9q2 ⟨rfl, ⟨_, mh9q2, ⟨by omega, by omega, by omega⟩⟩, ph9q2⟩)
                                        · first
                                          | (omega; done)
                                          | (
                                              have c56 : κ = 3 := c56
                                              refine r_aload_n C (dx dX7_holdAll 96 rfl) rfl ?_
                                              refine g_X7_43 C (dx dX7_holdAll 97 rfl) ?_
                                              refine r_iload C (dx dX7_holdAll 98 rfl) rfl ?_
                                              refine r_aload_n C (dx dX7_holdAll 99 rfl) rfl ?_
                                              refine r_iload_n C (dx dX7_holdAll 100 rfl) rfl ?_
                                              refine r_aload_n C (dx dX7_holdAll 101 rfl) rfl ?_
                                              refine g_X7_40 C (dx dX7_holdAll 102 rfl) ?_
                                              refine r_iload C (dx dX7_holdAll 103 rfl) rfl ?_
                                              refine r_iald (j := q2) (x := vF u9q2 0 q2) C rfl rfl (by decide) rfl (by omega) (dx dX7_holdAll 104 rfl) (mh9q2.e0 (by omega)) ?_
                                              refine r_cvW (as := [vi (nI x3), vi (vF u9q2 0 q2)]) (st := [vi (nI q2), vr 20 (k + 19)]) C X I_X7_nextWithRoom l_X7_289 (c_X7_nextWithRoom mh9q2 (a := x3) (by omega) _) (by decide) (Nat.le_of_ble_eq_true rfl) (pfx_eq kh9q2) rfl rfl (Nat.le_of_ble_eq_true rfl) rfl (dx dX7_holdAll 105 rfl) ?_
                                              rintro _ ⟨x57, hx57, rfl⟩
                                              refine r_iast (j := q2) C rfl rfl (by decide) rfl (by omega) (dx dX7_holdAll 106 rfl) ?_
                                              have mh58 : MilAt (sI h9q2 (k + 19) q2 x57) k (vset u9q2 1 q2 x57) := mh9q2.s1
                                              have ph58 : Kp k h (sI h9q2 (k + 19) q2 x57) := ph9q2.tr (Kp.c (by omega) (by omega))
                                              have kh58 : xK (sI h9q2 (k + 19) q2 x57) = xK h := kh9q2
                                              generalize sI h9q2 (k + 19) q2 x57 = h58 at mh58 ph58 kh58 ⊢
                                              have ah58 : vP (vset u9q2 1 q2 x57) = vP u9q2 := rfl
                                              have bh58 : vM (vset u9q2 1 q2 x57) = vM u9q2 := rfl
                                              have ch58 : vN (vset u9q2 1 q2 x57) = vN u9q2 := rfl
                                              refine r_aload_n C (dx dX7_holdAll 107 rfl) rfl ?_
                                              refine g_X7_43 C (dx dX7_holdAll 108 rfl) ?_
                                              refine r_iload C (dx dX7_holdAll 109 rfl) rfl ?_
                                              refine r_iald (j := q2) (x := x57) C rfl rfl (by decide) rfl (by omega) (dx dX7_holdAll 110 rfl) ((mh58.e1 (by omega)).trans (by simp [vset, vF])) ?_
                                              refine r_iconst (v := -1) C (dx dX7_holdAll 111 rfl) rfl ?_
                                              refine r_icmp_ne (tgt := 207) C (dx dX7_holdAll 112 rfl) (by decide) (fun c59 => ?_) (fun c59 => ?_)
                                              ·
                                                have c59 : ¬ x57 = -1 := c59
                                                obtain ⟨a57v, ha57v, rfl⟩ := hx57.resolve_left c59
                                                refine r_aload_n C (dx dX7_holdAll 115 rfl) rfl ?_
                                                refine g_X7_43 C (dx dX7_holdAll 116 rfl) ?_
                                                refine r_iload C (dx dX7_holdAll 117 rfl) rfl ?_
                                                refine r_iald (j := q2) (x := nI a57v) C rfl rfl (by decide) rfl (by omega) (dx dX7_holdAll 118 rfl) ((mh58.e1 (by omega)).trans (by simp [vset, vF])) ?_
                                                refine r_iconst (v := nI 1) C (dx dX7_holdAll 119 rfl) rfl ?_
                                                refine rn_iadd (a := a57v) (b := 1) C (dx dX7_holdAll 120 rfl) ?_
                                                refine r_istore_n (ls' := [(0, vr 7 k), (1, vi (nI κ)), (2, vi (nI b)), (3, vi (nI (a57v + 1))), (4, vi (nI q2))]) C (dx dX7_holdAll 121 rfl) (by decide) [1, 2, 3, 0, 4] rfl ?_
                                                refine rn_iinc (a := q2) (k := 1) (ls' := [(0, vr 7 k), (1, vi (nI κ)), (2, vi (nI b)), (3, vi (nI (a57v + 1))), (4, vi (nI (q2 + 1)))]) C (dx dX7_holdAll 122 rfl) rfl rfl (by decide) [1, 2, 3, 4, 0] rfl ?_
                                                refine r_goto (tgt := 159) C (dx dX7_holdAll 123 rfl) (by decide) ?_
                                                exact ihq2 (a57v + 1) (by omega) h58 (vset u9q2 1 q2 (nI a57v)) mh58 (⟨by omega, by omega, by omega⟩) ph58 kh58
                                              ·
                                                have c59 : x57 = -1 := c59
                                                refine r_iload_n C (dx dX7_holdAll 113 rfl) rfl ?_
                                                refine r_goto (tgt := 216) C (dx dX7_holdAll 114 rfl) (by decide) ?_
                                                refine r_istore_n (ls' := [(0, vr 7 k), (1, vi (nI κ)), (2, vi (nI b)), (3, vi (nI x3)), (4, vi (nI q2))]) C (dx dX7_holdAll 121 rfl) (by decide) [1, 2, 3, 0, 4] rfl ?_
                                                refine rn_iinc (a := q2) (k := 1) (ls' := [(0, vr 7 k), (1, vi (nI κ)), (2, vi (nI b)), (3, vi (nI x3)), (4, vi (nI (q2 + 1)))]) C (dx dX7_holdAll 122 rfl) rfl rfl (by decide) [1, 2, 3, 4, 0] rfl ?_
                                                refine r_goto (tgt := 159) C (dx dX7_holdAll 123 rfl) (by decide) ?_
                                                exact ihq2 x3 (by omega) h58 (vset u9q2 1 q2 x57) mh58 (⟨by omega, by omega, by omega⟩) ph58 kh58)))
                          · first
                            | (omega; done)
                            | (
                                have c49 : vP v < vP u9q := c49
                                refine r_aload_n C (dx dX7_holdAll 56 rfl) rfl ?_
                                refine g_X7_40 C (dx dX7_holdAll 57 rfl) ?_
                                refine r_iload C (dx dX7_holdAll 58 rfl) rfl ?_
                                refine r_iload_n C (dx dX7_holdAll 59 rfl) rfl ?_
                                refine r_iconst (v := nI 4) C (dx dX7_holdAll 60 rfl) rfl ?_
                                refine rn_ne (a := κ) (b := 4) (tgt := 118) C (by omega) (by omega) (dx dX7_holdAll 61 rfl) (by decide) (fun c60 => ?_) (fun c60 => ?_)
                                · first
                                  | (omega; done)
                                · first
                                  | (omega; done))
                        ·
                          intro q hq ihq x3 hx3 h9q u9q mh9q zh9q ph9q kh9q
                          obtain ⟨ah9q, bh9q, ch9q⟩ := zh9q
                          refine r_iload C (dx dX7_holdAll 52 rfl) rfl ?_
                          refine r_aload_n C (dx dX7_holdAll 53 rfl) rfl ?_
                          refine g_X7_64 (x := nI (vP u9q)) C (dx dX7_holdAll 54 rfl) mh9q.eP ?_
                          refine rn_ge (a := q) (b := vP u9q) (tgt := 156) C (by omega) (by omega) (dx dX7_holdAll 55 rfl) (by decide) (fun c67 => ?_) (fun c67 => ?_)
                          · first
                            | (omega; done)
                            | (
                                have c67 : vP u9q ≤ q := c67
                                refine r_iconst (v := nI 0) C (dx dX7_holdAll 87 rfl) rfl ?_
                                refine r_istore (ls' := [(0, vr 7 k), (1, vi (nI κ)), (2, vi (nI b)), (3, vi (nI x3)), (4, vi (nI 0))]) C (dx dX7_holdAll 88 rfl) (by decide) [1, 2, 3, 4, 0] rfl ?_
                                refine loopU (Φ := fun q2 => ∀ (x3 : Nat), x3 < 200 → ∀ (h9q2 : Hp) (u9q2 : Vg), MilAt h9q2 k u9q2 → Sz v u9q2 → Kp k h h9q2 → xK h9q2 = xK h → Rr G 159 [(0, vr 7 k), (1, vi (nI κ)), (2, vi (nI b)), (3, vi (nI x3)), (4, vi (nI q2))] [] h9q2) (N := vP v) ?_ ?_ 0 (by omega) x3 (by omega) h9q u9q mh9q (⟨by omega, by omega, by omega⟩) ph9q kh9q
                                ·
                                  intro  x3 hx3 h9q2 u9q2 mh9q2 zh9q2 ph9q2 kh9q2
                                  obtain ⟨ah9q2, bh9q2, ch9q2⟩ := zh9q2
                                  refine r_iload C (dx dX7_holdAll 89 rfl) rfl ?_
                                  refine r_aload_n C (dx dX7_holdAll 90 rfl) rfl ?_
                                  refine g_X7_64 (x := nI (vP u9q2)) C (dx dX7_holdAll 91 rfl) mh9q2.eP ?_
                                  refine rn_ge (a := vP v) (b := vP u9q2) (tgt := 223) C (by omega) (by omega) (dx dX7_holdAll 92 rfl) (by decide) (fun c68 => ?_) (fun c68 => ?_)
                                  · first
                                    | (omega; done)
                                    | (
                                        have c68 : vP u9q2 ≤ vP v := c68
                                        exact F.2.2.1 _ _ _ rfl (dx dX7_holdAll 124 rfl) kh9q2 ⟨rfl, ⟨_, mh9q2, ⟨by omega, by omega, by omega⟩⟩, ph9q2⟩)
                                  · first
                                    | (omega; done)
                                    | (
                                        have c68 : vP v < vP u9q2 := c68
                                        refine r_iload_n C (dx dX7_holdAll 93 rfl) rfl ?_
                                        refine r_iconst (v := nI 3) C (dx dX7_holdAll 94 rfl) rfl ?_
                                        refine rn_ne (a := κ) (b := 3) (tgt := 223) C (by omega) (by omega) (dx dX7_holdAll 95 rfl) (by decide) (fun c69 => ?_) (fun c69 => ?_)
                                        · first
                                          | (omega; done)
                                          | (
                                              have c69 : ¬ κ = 3 := c69
                                              exact F.2.2.1 _ _ _ rfl (dx dX7_holdAll 124 rfl) kh9q2 ⟨rfl, ⟨_, mh9q2, ⟨by omega, by omega, by omega⟩⟩, ph9q2⟩)
                                        · first
                                          | (omega; done))
                                ·
                                  intro q2 hq2 ihq2 x3 hx3 h9q2 u9q2 mh9q2 zh9q2 ph9q2 kh9q2
                                  obtain ⟨ah9q2, bh9q2, ch9q2⟩ := zh9q2
                                  refine r_iload C (dx dX7_holdAll 89 rfl) rfl ?_
                                  refine r_aload_n C (dx dX7_holdAll 90 rfl) rfl ?_
                                  refine g_X7_64 (x := nI (vP u9q2)) C (dx dX7_holdAll 91 rfl) mh9q2.eP ?_
                                  refine rn_ge (a := q2) (b := vP u9q2) (tgt := 223) C (by omega) (by omega) (dx dX7_holdAll 92 rfl) (by decide) (fun c73 => ?_) (fun c73 => ?_)
                                  · first
                                    | (omega; done)
                                    | (
                                        have c73 : vP u9q2 ≤ q2 := c73
                                        exact F.2.2.1 _ _ _ rfl (dx dX7_holdAll 124 rfl) kh9q2 ⟨rfl, ⟨_, mh9q2, ⟨by omega, by omega, by omega⟩⟩, ph9q2⟩)
                                  · first
                                    | (omega; done)
                                    | (
                                        have c73 : q2 < vP u9q2 := c73
                                        refine r_iload_n C (dx dX7_holdAll 93 rfl) rfl ?_
                                        refine r_iconst (v := nI 3) C (dx dX7_holdAll 94 rfl) rfl ?_
                                        refine rn_ne (a := κ) (b := 3) (tgt := 223) C (by omega) (by omega) (dx dX7_holdAll 95 rfl) (by decide) (fun c74 => ?_) (fun c74 => ?_)
                                        · first
                                          | (omega; done)
                                          | (
                                              have c74 : ¬ κ = 3 := c74
                                              exact F.2.2.1 _ _ _ rfl (dx dX7_holdAll 124 rfl) kh9q2 ⟨rfl, ⟨_, mh9q2, ⟨by omega, by omega, by omega⟩⟩, ph9q2⟩)
                                        · first
                                          | (omega; done)
                                          | (
                                              have c74 : κ = 3 := c74
                                              refine r_aload_n C (dx dX7_holdAll 96 rfl) rfl ?_
                                              refine g_X7_43 C (dx dX7_holdAll 97 rfl) ?_
                                              refine r_iload C (dx dX7_holdAll 98 rfl) rfl ?_
                                              refine r_aload_n C (dx dX7_holdAll 99 rfl) rfl ?_
                                              refine r_iload_n C (dx dX7_holdAll 100 rfl) rfl ?_
                                              refine r_aload_n C (dx dX7_holdAll 101 rfl) rfl ?_
                                              refine g_X7_40 C (dx dX7_holdAll 102 rfl) ?_
                                              refine r_iload C (dx dX7_holdAll 103 rfl) rfl ?_
                                              refine r_iald (j := q2) (x := vF u9q2 0 q2) C rfl rfl (by decide) rfl (by omega) (dx dX7_holdAll 104 rfl) (mh9q2.e0 (by omega)) ?_
                                              refine r_cvW (as := [vi (nI x3), vi (vF u9q2 0 q2)]) (st := [vi (nI q2), vr 20 (k + 19)]) C X I_X7_nextWithRoom l_X7_289 (c_X7_nextWithRoom mh9q2 (a := x3) (by omega) _) (by decide) (Nat.le_of_ble_eq_true rfl) (pfx_eq kh9q2) rfl rfl (Nat.le_of_ble_eq_true rfl) rfl (dx dX7_holdAll 105 rfl) ?_
                                              rintro _ ⟨x75, hx75, rfl⟩
                                              refine r_iast (j := q2) C rfl rfl (by decide) rfl (by omega) (dx dX7_holdAll 106 rfl) ?_
                                              have mh76 : MilAt (sI h9q2 (k + 19) q2 x75) k (vset u9q2 1 q2 x75) := mh9q2.s1
                                              have ph76 : Kp k h (sI h9q2 (k + 19) q2 x75) := ph9q2.tr (Kp.c (by omega) (by omega))
                                              have kh76 : xK (sI h9q2 (k + 19) q2 x75) = xK h := kh9q2
                                              generalize sI h9q2 (k + 19) q2 x75 = h76 at mh76 ph76 kh76 ⊢
                                              have ah76 : vP (vset u9q2 1 q2 x75) = vP u9q2 := rfl
                                              have bh76 : vM (vset u9q2 1 q2 x75) = vM u9q2 := rfl
                                              have ch76 : vN (vset u9q2 1 q2 x75) = vN u9q2 := rfl
                                              refine r_aload_n C (dx dX7_holdAll 107 rfl) rfl ?_
                                              refine g_X7_43 C (dx dX7_holdAll 108 rfl) ?_
                                              refine r_iload C (dx dX7_holdAll 109 rfl) rfl ?_
                                              refine r_iald (j := q2) (x := x75) C rfl rfl (by decide) rfl (by omega) (dx dX7_holdAll 110 rfl) ((mh76.e1 (by omega)).trans (by simp [vset, vF])) ?_
                                              refine r_iconst (v := -1) C (dx dX7_holdAll 111 rfl) rfl ?_
                                              refine r_icmp_ne (tgt := 207) C (dx dX7_holdAll 112 rfl) (by decide) (fun c77 => ?_) (fun c77 => ?_)
                                              ·
                                                have c77 : ¬ x75 = -1 := c77
                                                obtain ⟨a75v, ha75v, rfl⟩ := hx75.resolve_left c77
                                                refine r_aload_n C (dx dX7_holdAll 115 rfl) rfl ?_
                                                refine g_X7_43 C (dx dX7_holdAll 116 rfl) ?_
                                                refine r_iload C (dx dX7_holdAll 117 rfl) rfl ?_
                                                refine r_iald (j := q2) (x := nI a75v) C rfl rfl (by decide) rfl (by omega) (dx dX7_holdAll 118 rfl) ((mh76.e1 (by omega)).trans (by simp [vset, vF])) ?_
                                                refine r_iconst (v := nI 1) C (dx dX7_holdAll 119 rfl) rfl ?_
                                                refine rn_iadd (a := a75v) (b := 1) C (dx dX7_holdAll 120 rfl) ?_
                                                refine r_istore_n (ls' := [(0, vr 7 k), (1, vi (nI κ)), (2, vi (nI b)), (3, vi (nI (a75v + 1))), (4, vi (nI q2))]) C (dx dX7_holdAll 121 rfl) (by decide) [1, 2, 3, 0, 4] rfl ?_
                                                refine rn_iinc (a := q2) (k := 1) (ls' := [(0, vr 7 k), (1, vi (nI κ)), (2, vi (nI b)), (3, vi (nI (a75v + 1))), (4, vi (nI (q2 + 1)))]) C (dx dX7_holdAll 122 rfl) rfl rfl (by decide) [1, 2, 3, 4, 0] rfl ?_
                                                refine r_goto (tgt := 159) C (dx dX7_holdAll 123 rfl) (by decide) ?_
                                                exact ihq2 (a75v + 1) (by omega) h76 (vset u9q2 1 q2 (nI a75v)) mh76 (⟨by omega, by omega, by omega⟩) ph76 kh76
                                              ·
                                                have c77 : x75 = -1 := c77
                                                refine r_iload_n C (dx dX7_holdAll 113 rfl) rfl ?_
                                                refine r_goto (tgt := 216) C (dx dX7_holdAll 114 rfl) (by decide) ?_
                                                refine r_istore_n (ls' := [(0, vr 7 k), (1, vi (nI κ)), (2, vi (nI b)), (3, vi (nI x3)), (4, vi (nI q2))]) C (dx dX7_holdAll 121 rfl) (by decide) [1, 2, 3, 0, 4] rfl ?_
                                                refine rn_iinc (a := q2) (k := 1) (ls' := [(0, vr 7 k), (1, vi (nI κ)), (2, vi (nI b)), (3, vi (nI x3)), (4, vi (nI (q2 + 1)))]) C (dx dX7_holdAll 122 rfl) rfl rfl (by decide) [1, 2, 3, 4, 0] rfl ?_
                                                refine r_goto (tgt := 159) C (dx dX7_holdAll 123 rfl) (by decide) ?_
                                                exact ihq2 x3 (by omega) h76 (vset u9q2 1 q2 x75) mh76 (⟨by omega, by omega, by omega⟩) ph76 kh76)))
                          · first
                            | (omega; done)
                            | (
                                have c67 : q < vP u9q := c67
                                refine r_aload_n C (dx dX7_holdAll 56 rfl) rfl ?_
                                refine g_X7_40 C (dx dX7_holdAll 57 rfl) ?_
                                refine r_iload C (dx dX7_holdAll 58 rfl) rfl ?_
                                refine r_iload_n C (dx dX7_holdAll 59 rfl) rfl ?_
                                refine r_iconst (v := nI 4) C (dx dX7_holdAll 60 rfl) rfl ?_
                                refine rn_ne (a := κ) (b := 4) (tgt := 118) C (by omega) (by omega) (dx dX7_holdAll 61 rfl) (by decide) (fun c78 => ?_) (fun c78 => ?_)
                                · first
                                  | (omega; done)
                                  | (
                                      have c78 : ¬ κ = 4 := c78
                                      refine r_aload_n C (dx dX7_holdAll 65 rfl) rfl ?_
                                      refine r_iload_n C (dx dX7_holdAll 66 rfl) rfl ?_
                                      refine r_iconst (v := -1) C (dx dX7_holdAll 67 rfl) rfl ?_
                                      refine r_cvW (as := [vi (nI x3), vi (-1)]) (st := [vi (nI q), vr 20 (k + 18)]) C X I_X7_nextWithRoom l_X7_289 (c_X7_nextWithRoom mh9q (a := x3) (by omega) _) (by decide) (Nat.le_of_ble_eq_true rfl) (pfx_eq kh9q) rfl rfl (Nat.le_of_ble_eq_true rfl) rfl (dx dX7_holdAll 68 rfl) ?_
                                      rintro _ ⟨x79, hx79, rfl⟩
                                      refine r_iast (j := q) C rfl rfl (by decide) rfl (by omega) (dx dX7_holdAll 69 rfl) ?_
                                      have mh80 : MilAt (sI h9q (k + 18) q x79) k (vset u9q 0 q x79) := mh9q.s0
                                      have ph80 : Kp k h (sI h9q (k + 18) q x79) := ph9q.tr (Kp.c (by omega) (by omega))
                                      have kh80 : xK (sI h9q (k + 18) q x79) = xK h := kh9q
                                      generalize sI h9q (k + 18) q x79 = h80 at mh80 ph80 kh80 ⊢
                                      have ah80 : vP (vset u9q 0 q x79) = vP u9q := rfl
                                      have bh80 : vM (vset u9q 0 q x79) = vM u9q := rfl
                                      have ch80 : vN (vset u9q 0 q x79) = vN u9q := rfl
                                      refine r_aload_n C (dx dX7_holdAll 70 rfl) rfl ?_
                                      refine g_X7_40 C (dx dX7_holdAll 71 rfl) ?_
                                      refine r_iload C (dx dX7_holdAll 72 rfl) rfl ?_
                                      refine r_iald (j := q) (x := x79) C rfl rfl (by decide) rfl (by omega) (dx dX7_holdAll 73 rfl) ((mh80.e0 (by omega)).trans (by simp [vset, vF])) ?_
                                      refine r_iconst (v := -1) C (dx dX7_holdAll 74 rfl) rfl ?_
                                      refine r_icmp_ne (tgt := 140) C (dx dX7_holdAll 75 rfl) (by decide) (fun c81 => ?_) (fun c81 => ?_)
                                      ·
                                        have c81 : ¬ x79 = -1 := c81
                                        obtain ⟨a79v, ha79v, rfl⟩ := hx79.resolve_left c81
                                        refine r_aload_n C (dx dX7_holdAll 78 rfl) rfl ?_
                                        refine g_X7_40 C (dx dX7_holdAll 79 rfl) ?_
                                        refine r_iload C (dx dX7_holdAll 80 rfl) rfl ?_
                                        refine r_iald (j := q) (x := nI a79v) C rfl rfl (by decide) rfl (by omega) (dx dX7_holdAll 81 rfl) ((mh80.e0 (by omega)).trans (by simp [vset, vF])) ?_
                                        refine r_iconst (v := nI 1) C (dx dX7_holdAll 82 rfl) rfl ?_
                                        refine rn_iadd (a := a79v) (b := 1) C (dx dX7_holdAll 83 rfl) ?_
                                        refine r_istore_n (ls' := [(0, vr 7 k), (1, vi (nI κ)), (2, vi (nI b)), (3, vi (nI (a79v + 1))), (4, vi (nI q))]) C (dx dX7_holdAll 84 rfl) (by decide) [1, 2, 3, 0, 4] rfl ?_
                                        refine rn_iinc (a := q) (k := 1) (ls' := [(0, vr 7 k), (1, vi (nI κ)), (2, vi (nI b)), (3, vi (nI (a79v + 1))), (4, vi (nI (q + 1)))]) C (dx dX7_holdAll 85 rfl) rfl rfl (by decide) [1, 2, 3, 4, 0] rfl ?_
                                        refine r_goto (tgt := 91) C (dx dX7_holdAll 86 rfl) (by decide) ?_
                                        exact ihq (a79v + 1) (by omega) h80 (vset u9q 0 q (nI a79v)) mh80 (⟨by omega, by omega, by omega⟩) ph80 kh80
                                      ·
                                        have c81 : x79 = -1 := c81
                                        refine r_iload_n C (dx dX7_holdAll 76 rfl) rfl ?_
                                        refine r_goto (tgt := 149) C (dx dX7_holdAll 77 rfl) (by decide) ?_
                                        refine r_istore_n (ls' := [(0, vr 7 k), (1, vi (nI κ)), (2, vi (nI b)), (3, vi (nI x3)), (4, vi (nI q))]) C (dx dX7_holdAll 84 rfl) (by decide) [1, 2, 3, 0, 4] rfl ?_
                                        refine rn_iinc (a := q) (k := 1) (ls' := [(0, vr 7 k), (1, vi (nI κ)), (2, vi (nI b)), (3, vi (nI x3)), (4, vi (nI (q + 1)))]) C (dx dX7_holdAll 85 rfl) rfl rfl (by decide) [1, 2, 3, 4, 0] rfl ?_
                                        refine r_goto (tgt := 91) C (dx dX7_holdAll 86 rfl) (by decide) ?_
                                        exact ihq x3 (by omega) h80 (vset u9q 0 q x79) mh80 (⟨by omega, by omega, by omega⟩) ph80 kh80)
                                · first
                                  | (omega; done)
                                  | (
                                      have c78 : κ = 4 := c78
                                      refine r_aload_n C (dx dX7_holdAll 62 rfl) rfl ?_
                                      refine r_cvW (as := []) (st := [vi (nI q), vr 20 (k + 18)]) C X I_X7_surest l_X7_286 (c_X7_surest mh9q) (by decide) (Nat.le_of_ble_eq_true rfl) (pfx_eq kh9q) rfl rfl (Nat.le_of_ble_eq_true rfl) rfl (dx dX7_holdAll 63 rfl) ?_
                                      rintro _ ⟨x82, hx82, rfl⟩
                                      refine r_goto (tgt := 124) C (dx dX7_holdAll 64 rfl) (by decide) ?_
                                      refine r_iast (j := q) C rfl rfl (by decide) rfl (by omega) (dx dX7_holdAll 69 rfl) ?_
                                      have mh83 : MilAt (sI h9q (k + 18) q x82) k (vset u9q 0 q x82) := mh9q.s0
                                      have ph83 : Kp k h (sI h9q (k + 18) q x82) := ph9q.tr (Kp.c (by omega) (by omega))
                                      have kh83 : xK (sI h9q (k + 18) q x82) = xK h := kh9q
                                      generalize sI h9q (k + 18) q x82 = h83 at mh83 ph83 kh83 ⊢
                                      have ah83 : vP (vset u9q 0 q x82) = vP u9q := rfl
                                      have bh83 : vM (vset u9q 0 q x82) = vM u9q := rfl
                                      have ch83 : vN (vset u9q 0 q x82) = vN u9q := rfl
                                      refine r_aload_n C (dx dX7_holdAll 70 rfl) rfl ?_
                                      refine g_X7_40 C (dx dX7_holdAll 71 rfl) ?_
                                      refine r_iload C (dx dX7_holdAll 72 rfl) rfl ?_
                                      refine r_iald (j := q) (x := x82) C rfl rfl (by decide) rfl (by omega) (dx dX7_holdAll 73 rfl) ((mh83.e0 (by omega)).trans (by simp [vset, vF])) ?_
                                      refine r_iconst (v := -1) C (dx dX7_holdAll 74 rfl) rfl ?_
                                      refine r_icmp_ne (tgt := 140) C (dx dX7_holdAll 75 rfl) (by decide) (fun c84 => ?_) (fun c84 => ?_)
                                      ·
                                        have c84 : ¬ x82 = -1 := c84
                                        obtain ⟨a82v, ha82v, rfl⟩ := hx82.resolve_left c84
                                        refine r_aload_n C (dx dX7_holdAll 78 rfl) rfl ?_
                                        refine g_X7_40 C (dx dX7_holdAll 79 rfl) ?_
                                        refine r_iload C (dx dX7_holdAll 80 rfl) rfl ?_
                                        refine r_iald (j := q) (x := nI a82v) C rfl rfl (by decide) rfl (by omega) (dx dX7_holdAll 81 rfl) ((mh83.e0 (by omega)).trans (by simp [vset, vF])) ?_
                                        refine r_iconst (v := nI 1) C (dx dX7_holdAll 82 rfl) rfl ?_
                                        refine rn_iadd (a := a82v) (b := 1) C (dx dX7_holdAll 83 rfl) ?_
                                        refine r_istore_n (ls' := [(0, vr 7 k), (1, vi (nI κ)), (2, vi (nI b)), (3, vi (nI (a82v + 1))), (4, vi (nI q))]) C (dx dX7_holdAll 84 rfl) (by decide) [1, 2, 3, 0, 4] rfl ?_
                                        refine rn_iinc (a := q) (k := 1) (ls' := [(0, vr 7 k), (1, vi (nI κ)), (2, vi (nI b)), (3, vi (nI (a82v + 1))), (4, vi (nI (q + 1)))]) C (dx dX7_holdAll 85 rfl) rfl rfl (by decide) [1, 2, 3, 4, 0] rfl ?_
                                        refine r_goto (tgt := 91) C (dx dX7_holdAll 86 rfl) (by decide) ?_
                                        exact ihq (a82v + 1) (by omega) h83 (vset u9q 0 q (nI a82v)) mh83 (⟨by omega, by omega, by omega⟩) ph83 kh83
                                      ·
                                        have c84 : x82 = -1 := c84
                                        refine r_iload_n C (dx dX7_holdAll 76 rfl) rfl ?_
                                        refine r_goto (tgt := 149) C (dx dX7_holdAll 77 rfl) (by decide) ?_
                                        refine r_istore_n (ls' := [(0, vr 7 k), (1, vi (nI κ)), (2, vi (nI b)), (3, vi (nI x3)), (4, vi (nI q))]) C (dx dX7_holdAll 84 rfl) (by decide) [1, 2, 3, 0, 4] rfl ?_
                                        refine rn_iinc (a := q) (k := 1) (ls' := [(0, vr 7 k), (1, vi (nI κ)), (2, vi (nI b)), (3, vi (nI x3)), (4, vi (nI (q + 1)))]) C (dx dX7_holdAll 85 rfl) rfl rfl (by decide) [1, 2, 3, 4, 0] rfl ?_
                                        refine r_goto (tgt := 91) C (dx dX7_holdAll 86 rfl) (by decide) ?_
                                        exact ihq x3 (by omega) h83 (vset u9q 0 q x82) mh83 (⟨by omega, by omega, by omega⟩) ph83 kh83)))
                · first
                  | (omega; done)
                  | (
                      have c10 : κ = 5 := c10
                      refine r_aload_n C (dx dX7_holdAll 24 rfl) rfl ?_
                      refine r_iload_n C (dx dX7_holdAll 25 rfl) rfl ?_
                      refine r_iconst (v := nI 5) C (dx dX7_holdAll 26 rfl) rfl ?_
                      refine rn_ne (a := κ) (b := 5) (tgt := 62) C (by omega) (by omega) (dx dX7_holdAll 27 rfl) (by decide) (fun c85 => ?_) (fun c85 => ?_)
                      ·
                        have c85 : ¬ κ = 5 := c85
                        exact absurd c10 c85
                      · first
                        | (omega; done)
                        | (
                            have c85 : κ = 5 := c85
                            refine r_iload_n C (dx dX7_holdAll 28 rfl) rfl ?_
                            refine r_if_le (tgt := 62) C (dx dX7_holdAll 29 rfl) (by decide) (fun c86 => ?_) (fun c86 => ?_)
                            ·
                              have c86 : nI b ≤ 0 := c86
                              refine r_aload_n C (dx dX7_holdAll 36 rfl) rfl ?_
                              refine g_X7_74 (x := nI (vN u9p)) C (dx dX7_holdAll 37 rfl) mh9p.eN ?_
                              refine r_cv (as := [vi (nI (vN u9p))]) (st := []) C X I_X7_holdWhole l_X7_282 (c_X7_holdWhole mh9p (am := vN u9p) (by omega)) (by decide) (Nat.le_of_ble_eq_true rfl) List.prefix_rfl (pfx_eq kh9p) rfl rfl (Nat.le_of_ble_eq_true rfl) rfl (dx dX7_holdAll 38 rfl) ?_
                              rintro _ h87 ⟨rfl, ⟨wh87, m9h87, s9h87⟩, qh87⟩ kkh87
                              obtain ⟨vh87, mh87, zh87⟩ : ∃ v9, MilAt h87 k v9 ∧ Sz u9p v9 := ⟨_, m9h87, s9h87⟩
                              have ph87 : Kp k h h87 := ph9p.tr (qh87)
                              have kh87 : xK h87 = xK h := (kkh87).trans kh9p
                              obtain ⟨ah87, bh87, ch87⟩ := zh87
                              exact F.2.2.1 _ _ _ rfl (dx dX7_holdAll 39 rfl) kh87 ⟨rfl, ⟨_, mh87, ⟨by omega, by omega, by omega⟩⟩, ph87⟩
                            ·
                              have c86 : ¬ nI b ≤ 0 := c86
                              refine r_iload_n C (dx dX7_holdAll 30 rfl) rfl ?_
                              refine r_aload_n C (dx dX7_holdAll 31 rfl) rfl ?_
                              refine g_X7_74 (x := nI (vN u9p)) C (dx dX7_holdAll 32 rfl) mh9p.eN ?_
                              refine rn_ge (a := b) (b := vN u9p) (tgt := 62) C (by omega) (by omega) (dx dX7_holdAll 33 rfl) (by decide) (fun c88 => ?_) (fun c88 => ?_)
                              · first
                                | (omega; done)
                                | (
                                    have c88 : vN u9p ≤ b := c88
                                    refine r_aload_n C (dx dX7_holdAll 36 rfl) rfl ?_
                                    refine g_X7_74 (x := nI (vN u9p)) C (dx dX7_holdAll 37 rfl) mh9p.eN ?_
                                    refine r_cv (as := [vi (nI (vN u9p))]) (st := []) C X I_X7_holdWhole l_X7_282 (c_X7_holdWhole mh9p (am := vN u9p) (by omega)) (by decide) (Nat.le_of_ble_eq_true rfl) List.prefix_rfl (pfx_eq kh9p) rfl rfl (Nat.le_of_ble_eq_true rfl) rfl (dx dX7_holdAll 38 rfl) ?_
                                    rintro _ h89 ⟨rfl, ⟨wh89, m9h89, s9h89⟩, qh89⟩ kkh89
                                    obtain ⟨vh89, mh89, zh89⟩ : ∃ v9, MilAt h89 k v9 ∧ Sz u9p v9 := ⟨_, m9h89, s9h89⟩
                                    have ph89 : Kp k h h89 := ph9p.tr (qh89)
                                    have kh89 : xK h89 = xK h := (kkh89).trans kh9p
                                    obtain ⟨ah89, bh89, ch89⟩ := zh89
                                    exact F.2.2.1 _ _ _ rfl (dx dX7_holdAll 39 rfl) kh89 ⟨rfl, ⟨_, mh89, ⟨by omega, by omega, by omega⟩⟩, ph89⟩)
                              · first
                                | (omega; done)
                                | (
                                    have c88 : b < vN u9p := c88
                                    refine r_iload_n C (dx dX7_holdAll 34 rfl) rfl ?_
                                    refine r_goto (tgt := 66) C (dx dX7_holdAll 35 rfl) (by decide) ?_
                                    refine r_cv (as := [vi (nI b)]) (st := []) C X I_X7_holdWhole l_X7_282 (c_X7_holdWhole mh9p (am := b) (by omega)) (by decide) (Nat.le_of_ble_eq_true rfl) List.prefix_rfl (pfx_eq kh9p) rfl rfl (Nat.le_of_ble_eq_true rfl) rfl (dx dX7_holdAll 38 rfl) ?_
                                    rintro _ h90 ⟨rfl, ⟨wh90, m9h90, s9h90⟩, qh90⟩ kkh90
                                    obtain ⟨vh90, mh90, zh90⟩ : ∃ v9, MilAt h90 k v9 ∧ Sz u9p v9 := ⟨_, m9h90, s9h90⟩
                                    have ph90 : Kp k h h90 := ph9p.tr (qh90)
                                    have kh90 : xK h90 = xK h := (kkh90).trans kh9p
                                    obtain ⟨ah90, bh90, ch90⟩ := zh90
                                    exact F.2.2.1 _ _ _ rfl (dx dX7_holdAll 39 rfl) kh90 ⟨rfl, ⟨_, mh90, ⟨by omega, by omega, by omega⟩⟩, ph90⟩)))))
    · first
      | (omega; done)
  ·
    intro p hp ihp h9p u9p mh9p zh9p ph9p kh9p
    obtain ⟨ah9p, bh9p, ch9p⟩ := zh9p
    refine r_iload_n C (dx dX7_holdAll 2 rfl) rfl ?_
    refine r_aload_n C (dx dX7_holdAll 3 rfl) rfl ?_
    refine g_X7_64 (x := nI (vP u9p)) C (dx dX7_holdAll 4 rfl) mh9p.eP ?_
    refine rn_ge (a := p) (b := vP u9p) (tgt := 30) C (by omega) (by omega) (dx dX7_holdAll 5 rfl) (by decide) (fun c93 => ?_) (fun c93 => ?_)
    · first
      | (omega; done)
      | (
          have c93 : vP u9p ≤ p := c93
          refine r_iload_n C (dx dX7_holdAll 18 rfl) rfl ?_
          refine r_iconst (v := nI 1) C (dx dX7_holdAll 19 rfl) rfl ?_
          refine rn_eq (a := κ) (b := 1) (tgt := 40) C (by omega) (by omega) (dx dX7_holdAll 20 rfl) (by decide) (fun c94 => ?_) (fun c94 => ?_)
          · first
            | (omega; done)
            | (
                have c94 : κ = 1 := c94
                refine r_aload_n C (dx dX7_holdAll 24 rfl) rfl ?_
                refine r_iload_n C (dx dX7_holdAll 25 rfl) rfl ?_
                refine r_iconst (v := nI 5) C (dx dX7_holdAll 26 rfl) rfl ?_
                refine rn_ne (a := κ) (b := 5) (tgt := 62) C (by omega) (by omega) (dx dX7_holdAll 27 rfl) (by decide) (fun c95 => ?_) (fun c95 => ?_)
                · first
                  | (omega; done)
                  | (
                      have c95 : ¬ κ = 5 := c95
                      refine r_aload_n C (dx dX7_holdAll 36 rfl) rfl ?_
                      refine g_X7_74 (x := nI (vN u9p)) C (dx dX7_holdAll 37 rfl) mh9p.eN ?_
                      refine r_cv (as := [vi (nI (vN u9p))]) (st := []) C X I_X7_holdWhole l_X7_282 (c_X7_holdWhole mh9p (am := vN u9p) (by omega)) (by decide) (Nat.le_of_ble_eq_true rfl) List.prefix_rfl (pfx_eq kh9p) rfl rfl (Nat.le_of_ble_eq_true rfl) rfl (dx dX7_holdAll 38 rfl) ?_
                      rintro _ h96 ⟨rfl, ⟨wh96, m9h96, s9h96⟩, qh96⟩ kkh96
                      obtain ⟨vh96, mh96, zh96⟩ : ∃ v9, MilAt h96 k v9 ∧ Sz u9p v9 := ⟨_, m9h96, s9h96⟩
                      have ph96 : Kp k h h96 := ph9p.tr (qh96)
                      have kh96 : xK h96 = xK h := (kkh96).trans kh9p
                      obtain ⟨ah96, bh96, ch96⟩ := zh96
                      exact F.2.2.1 _ _ _ rfl (dx dX7_holdAll 39 rfl) kh96 ⟨rfl, ⟨_, mh96, ⟨by omega, by omega, by omega⟩⟩, ph96⟩)
                · first
                  | (omega; done)
                  | (
                      have c95 : κ = 5 := c95
                      refine r_iload_n C (dx dX7_holdAll 28 rfl) rfl ?_
                      refine r_if_le (tgt := 62) C (dx dX7_holdAll 29 rfl) (by decide) (fun c97 => ?_) (fun c97 => ?_)
                      ·
                        have c97 : nI b ≤ 0 := c97
                        refine r_aload_n C (dx dX7_holdAll 36 rfl) rfl ?_
                        refine g_X7_74 (x := nI (vN u9p)) C (dx dX7_holdAll 37 rfl) mh9p.eN ?_
                        refine r_cv (as := [vi (nI (vN u9p))]) (st := []) C X I_X7_holdWhole l_X7_282 (c_X7_holdWhole mh9p (am := vN u9p) (by omega)) (by decide) (Nat.le_of_ble_eq_true rfl) List.prefix_rfl (pfx_eq kh9p) rfl rfl (Nat.le_of_ble_eq_true rfl) rfl (dx dX7_holdAll 38 rfl) ?_
                        rintro _ h98 ⟨rfl, ⟨wh98, m9h98, s9h98⟩, qh98⟩ kkh98
                        obtain ⟨vh98, mh98, zh98⟩ : ∃ v9, MilAt h98 k v9 ∧ Sz u9p v9 := ⟨_, m9h98, s9h98⟩
                        have ph98 : Kp k h h98 := ph9p.tr (qh98)
                        have kh98 : xK h98 = xK h := (kkh98).trans kh9p
                        obtain ⟨ah98, bh98, ch98⟩ := zh98
                        exact F.2.2.1 _ _ _ rfl (dx dX7_holdAll 39 rfl) kh98 ⟨rfl, ⟨_, mh98, ⟨by omega, by omega, by omega⟩⟩, ph98⟩
                      ·
                        have c97 : ¬ nI b ≤ 0 := c97
                        refine r_iload_n C (dx dX7_holdAll 30 rfl) rfl ?_
                        refine r_aload_n C (dx dX7_holdAll 31 rfl) rfl ?_
                        refine g_X7_74 (x := nI (vN u9p)) C (dx dX7_holdAll 32 rfl) mh9p.eN ?_
                        refine rn_ge (a := b) (b := vN u9p) (tgt := 62) C (by omega) (by omega) (dx dX7_holdAll 33 rfl) (by decide) (fun c99 => ?_) (fun c99 => ?_)
                        · first
                          | (omega; done)
                          | (
                              have c99 : vN u9p ≤ b := c99
                              refine r_aload_n C (dx dX7_holdAll 36 rfl) rfl ?_
                              refine g_X7_74 (x := nI (vN u9p)) C (dx dX7_holdAll 37 rfl) mh9p.eN ?_
                              refine r_cv (as := [vi (nI (vN u9p))]) (st := []) C X I_X7_holdWhole l_X7_282 (c_X7_holdWhole mh9p (am := vN u9p) (by omega)) (by decide) (Nat.le_of_ble_eq_true rfl) List.prefix_rfl (pfx_eq kh9p) rfl rfl (Nat.le_of_ble_eq_true rfl) rfl (dx dX7_holdAll 38 rfl) ?_
                              rintro _ h100 ⟨rfl, ⟨wh100, m9h100, s9h100⟩, qh100⟩ kkh100
                              obtain ⟨vh100, mh100, zh100⟩ : ∃ v9, MilAt h100 k v9 ∧ Sz u9p v9 := ⟨_, m9h100, s9h100⟩
                              have ph100 : Kp k h h100 := ph9p.tr (qh100)
                              have kh100 : xK h100 = xK h := (kkh100).trans kh9p
                              obtain ⟨ah100, bh100, ch100⟩ := zh100
                              exact F.2.2.1 _ _ _ rfl (dx dX7_holdAll 39 rfl) kh100 ⟨rfl, ⟨_, mh100, ⟨by omega, by omega, by omega⟩⟩, ph100⟩)
                        · first
                          | (omega; done)
                          | (
                              have c99 : b < vN u9p := c99
                              refine r_iload_n C (dx dX7_holdAll 34 rfl) rfl ?_
                              refine r_goto (tgt := 66) C (dx dX7_holdAll 35 rfl) (by decide) ?_
                              refine r_cv (as := [vi (nI b)]) (st := []) C X I_X7_holdWhole l_X7_282 (c_X7_holdWhole mh9p (am := b) (by omega)) (by decide) (Nat.le_of_ble_eq_true rfl) List.prefix_rfl (pfx_eq kh9p) rfl rfl (Nat.le_of_ble_eq_true rfl) rfl (dx dX7_holdAll 38 rfl) ?_
                              rintro _ h101 ⟨rfl, ⟨wh101, m9h101, s9h101⟩, qh101⟩ kkh101
                              obtain ⟨vh101, mh101, zh101⟩ : ∃ v9, MilAt h101 k v9 ∧ Sz u9p v9 := ⟨_, m9h101, s9h101⟩
                              have ph101 : Kp k h h101 := ph9p.tr (qh101)
                              have kh101 : xK h101 = xK h := (kkh101).trans kh9p
                              obtain ⟨ah101, bh101, ch101⟩ := zh101
                              exact F.2.2.1 _ _ _ rfl (dx dX7_holdAll 39 rfl) kh101 ⟨rfl, ⟨_, mh101, ⟨by omega, by omega, by omega⟩⟩, ph101⟩)))
          · first
            | (omega; done)
            | (
                have c94 : ¬ κ = 1 := c94
                refine r_iload_n C (dx dX7_holdAll 21 rfl) rfl ?_
                refine r_iconst (v := nI 5) C (dx dX7_holdAll 22 rfl) rfl ?_
                refine rn_ne (a := κ) (b := 5) (tgt := 70) C (by omega) (by omega) (dx dX7_holdAll 23 rfl) (by decide) (fun c102 => ?_) (fun c102 => ?_)
                · first
                  | (omega; done)
                  | (
                      have c102 : ¬ κ = 5 := c102
                      refine r_aload_n C (dx dX7_holdAll 40 rfl) rfl ?_
                      refine g_X7_74 (x := nI (vN u9p)) C (dx dX7_holdAll 41 rfl) mh9p.eN ?_
                      refine r_if_ne (tgt := 81) C (dx dX7_holdAll 42 rfl) (by decide) (fun c103 => ?_) (fun c103 => ?_)
                      ·
                        have c103 : ¬ nI (vN u9p) = 0 := c103
                        have nc103 := nz_pos c103
                        refine r_iload_n C (dx dX7_holdAll 45 rfl) rfl ?_
                        refine r_aload_n C (dx dX7_holdAll 46 rfl) rfl ?_
                        refine g_X7_74 (x := nI (vN u9p)) C (dx dX7_holdAll 47 rfl) mh9p.eN ?_
                        refine r_irem C (dx dX7_holdAll 48 rfl) (fun z => by have := congrArg Int32.toInt z; rw [nI_toInt (by omega)] at this; have e0 : (0 : Int32).toInt = 0 := (by decide); omega) ?_
                        rw [pmod (by omega) (by omega) (by omega)]
                        have hmod : (b) % (vN u9p) < vN u9p := Nat.mod_lt _ (by omega)
                        generalize (b) % (vN u9p) = r104 at hmod ⊢
                        refine r_istore_n (ls' := [(0, vr 7 k), (1, vi (nI κ)), (2, vi (nI b)), (3, vi (nI r104))]) C (dx dX7_holdAll 49 rfl) (by decide) [1, 2, 3, 0] rfl ?_
                        refine r_iconst (v := nI 0) C (dx dX7_holdAll 50 rfl) rfl ?_
                        refine r_istore (ls' := [(0, vr 7 k), (1, vi (nI κ)), (2, vi (nI b)), (3, vi (nI r104)), (4, vi (nI 0))]) C (dx dX7_holdAll 51 rfl) (by decide) [1, 2, 3, 4, 0] rfl ?_
                        refine loopU (Φ := fun q => ∀ (x3 : Nat), x3 < 200 → ∀ (h9q : Hp) (u9q : Vg), MilAt h9q k u9q → Sz v u9q → Kp k h h9q → xK h9q = xK h → Rr G 91 [(0, vr 7 k), (1, vi (nI κ)), (2, vi (nI b)), (3, vi (nI x3)), (4, vi (nI q))] [] h9q) (N := vP v) ?_ ?_ 0 (by omega) r104 (by omega) h9p u9p mh9p (⟨by omega, by omega, by omega⟩) ph9p kh9p
                        ·
                          intro  x3 hx3 h9q u9q mh9q zh9q ph9q kh9q
                          obtain ⟨ah9q, bh9q, ch9q⟩ := zh9q
                          refine r_iload C (dx dX7_holdAll 52 rfl) rfl ?_
                          refine r_aload_n C (dx dX7_holdAll 53 rfl) rfl ?_
                          refine g_X7_64 (x := nI (vP u9q)) C (dx dX7_holdAll 54 rfl) mh9q.eP ?_
                          refine rn_ge (a := vP v) (b := vP u9q) (tgt := 156) C (by omega) (by omega) (dx dX7_holdAll 55 rfl) (by decide) (fun c105 => ?_) (fun c105 => ?_)
                          · first
                            | (omega; done)
                            | (
                                have c105 : vP u9q ≤ vP v := c105
                                refine r_iconst (v := nI 0) C (dx dX7_holdAll 87 rfl) rfl ?_
                                refine r_istore (ls' := [(0, vr 7 k), (1, vi (nI κ)), (2, vi (nI b)), (3, vi (nI x3)), (4, vi (nI 0))]) C (dx dX7_holdAll 88 rfl) (by decide) [1, 2, 3, 4, 0] rfl ?_
                                refine loopU (Φ := fun q2 => ∀ (x3 : Nat), x3 < 200 → ∀ (h9q2 : Hp) (u9q2 : Vg), MilAt h9q2 k u9q2 → Sz v u9q2 → Kp k h h9q2 → xK h9q2 = xK h → Rr G 159 [(0, vr 7 k), (1, vi (nI κ)), (2, vi (nI b)), (3, vi (nI x3)), (4, vi (nI q2))] [] h9q2) (N := vP v) ?_ ?_ 0 (by omega) x3 (by omega) h9q u9q mh9q (⟨by omega, by omega, by omega⟩) ph9q kh9q
                                ·
                                  intro  x3 hx3 h9q2 u9q2 mh9q2 zh9q2 ph9q2 kh9q2
                                  obtain ⟨ah9q2, bh9q2, ch9q2⟩ := zh9q2
                                  refine r_iload C (dx dX7_holdAll 89 rfl) rfl ?_
                                  refine r_aload_n C (dx dX7_holdAll 90 rfl) rfl ?_
                                  refine g_X7_64 (x := nI (vP u9q2)) C (dx dX7_holdAll 91 rfl) mh9q2.eP ?_
                                  refine rn_ge (a := vP v) (b := vP u9q2) (tgt := 223) C (by omega) (by omega) (dx dX7_holdAll 92 rfl) (by decide) (fun c106 => ?_) (fun c106 => ?_)
                                  · first
                                    | (omega; done)
                                    | (
                                        have c106 : vP u9q2 ≤ vP v := c106
                                        exact F.2.2.1 _ _ _ rfl (dx dX7_holdAll 124 rfl) kh9q2 ⟨rfl, ⟨_, mh9q2, ⟨by omega, by omega, by omega⟩⟩, ph9q2⟩)
                                  · first
                                    | (omega; done)
                                    | (
                                        have c106 : vP v < vP u9q2 := c106
                                        refine r_iload_n C (dx dX7_holdAll 93 rfl) rfl ?_
                                        refine r_iconst (v := nI 3) C (dx dX7_holdAll 94 rfl) rfl ?_
                                        refine rn_ne (a := κ) (b := 3) (tgt := 223) C (by omega) (by omega) (dx dX7_holdAll 95 rfl) (by decide) (fun c107 => ?_) (fun c107 => ?_)
                                        · first
                                          | (omega; done)
                                          | (
                                              have c107 : ¬ κ = 3 := c107
                                              exact F.2.2.1 _ _ _ rfl (dx dX7_holdAll 124 rfl) kh9q2 ⟨rfl, ⟨_, mh9q2, ⟨by omega, by omega, by omega⟩⟩, ph9q2⟩)
                                        · first
                                          | (omega; done))
                                ·
                                  intro q2 hq2 ihq2 x3 hx3 h9q2 u9q2 mh9q2 zh9q2 ph9q2 kh9q2
                                  obtain ⟨ah9q2, bh9q2, ch9q2⟩ := zh9q2
                                  refine r_iload C (dx dX7_holdAll 89 rfl) rfl ?_
                                  refine r_aload_n C (dx dX7_holdAll 90 rfl) rfl ?_
                                  refine g_X7_64 (x := nI (vP u9q2)) C (dx dX7_holdAll 91 rfl) mh9q2.eP ?_
                                  refine rn_ge (a := q2) (b := vP u9q2) (tgt := 223) C (by omega) (by omega) (dx dX7_holdAll 92 rfl) (by decide) (fun c111 => ?_) (fun c111 => ?_)
                                  · first
                                    | (omega; done)
                                    | (
                                        have c111 : vP u9q2 ≤ q2 := c111
                                        exact F.2.2.1 _ _ _ rfl (dx dX7_holdAll 124 rfl) kh9q2 ⟨rfl, ⟨_, mh9q2, ⟨by omega, by omega, by omega⟩⟩, ph9q2⟩)
                                  · first
                                    | (omega; done)
                                    | (
                                        have c111 : q2 < vP u9q2 := c111
                                        refine r_iload_n C (dx dX7_holdAll 93 rfl) rfl ?_
                                        refine r_iconst (v := nI 3) C (dx dX7_holdAll 94 rfl) rfl ?_
                                        refine rn_ne (a := κ) (b := 3) (tgt := 223) C (by omega) (by omega) (dx dX7_holdAll 95 rfl) (by decide) (fun c112 => ?_) (fun c112 => ?_)
                                        · first
                                          | (omega; done)
                                          | (
                                              have c112 : ¬ κ = 3 := c112
                                              exact F.2.2.1 _ _ _ rfl (dx dX7_holdAll 124 rfl) kh9q2 ⟨rfl, ⟨_, mh9q2, ⟨by omega, by omega, by omega⟩⟩, ph9q2⟩)
                                        · first
                                          | (omega; done)
                                          | (
                                              have c112 : κ = 3 := c112
                                              refine r_aload_n C (dx dX7_holdAll 96 rfl) rfl ?_
                                              refine g_X7_43 C (dx dX7_holdAll 97 rfl) ?_
                                              refine r_iload C (dx dX7_holdAll 98 rfl) rfl ?_
                                              refine r_aload_n C (dx dX7_holdAll 99 rfl) rfl ?_
                                              refine r_iload_n C (dx dX7_holdAll 100 rfl) rfl ?_
                                              refine r_aload_n C (dx dX7_holdAll 101 rfl) rfl ?_
                                              refine g_X7_40 C (dx dX7_holdAll 102 rfl) ?_
                                              refine r_iload C (dx dX7_holdAll 103 rfl) rfl ?_
                                              refine r_iald (j := q2) (x := vF u9q2 0 q2) C rfl rfl (by decide) rfl (by omega) (dx dX7_holdAll 104 rfl) (mh9q2.e0 (by omega)) ?_
                                              refine r_cvW (as := [vi (nI x3), vi (vF u9q2 0 q2)]) (st := [vi (nI q2), vr 20 (k + 19)]) C X I_X7_nextWithRoom l_X7_289 (c_X7_nextWithRoom mh9q2 (a := x3) (by omega) _) (by decide) (Nat.le_of_ble_eq_true rfl) (pfx_eq kh9q2) rfl rfl (Nat.le_of_ble_eq_true rfl) rfl (dx dX7_holdAll 105 rfl) ?_
                                              rintro _ ⟨x113, hx113, rfl⟩
                                              refine r_iast (j := q2) C rfl rfl (by decide) rfl (by omega) (dx dX7_holdAll 106 rfl) ?_
                                              have mh114 : MilAt (sI h9q2 (k + 19) q2 x113) k (vset u9q2 1 q2 x113) := mh9q2.s1
                                              have ph114 : Kp k h (sI h9q2 (k + 19) q2 x113) := ph9q2.tr (Kp.c (by omega) (by omega))
                                              have kh114 : xK (sI h9q2 (k + 19) q2 x113) = xK h := kh9q2
                                              generalize sI h9q2 (k + 19) q2 x113 = h114 at mh114 ph114 kh114 ⊢
                                              have ah114 : vP (vset u9q2 1 q2 x113) = vP u9q2 := rfl
                                              have bh114 : vM (vset u9q2 1 q2 x113) = vM u9q2 := rfl
                                              have ch114 : vN (vset u9q2 1 q2 x113) = vN u9q2 := rfl
                                              refine r_aload_n C (dx dX7_holdAll 107 rfl) rfl ?_
                                              refine g_X7_43 C (dx dX7_holdAll 108 rfl) ?_
                                              refine r_iload C (dx dX7_holdAll 109 rfl) rfl ?_
                                              refine r_iald (j := q2) (x := x113) C rfl rfl (by decide) rfl (by omega) (dx dX7_holdAll 110 rfl) ((mh114.e1 (by omega)).trans (by simp [vset, vF])) ?_
                                              refine r_iconst (v := -1) C (dx dX7_holdAll 111 rfl) rfl ?_
                                              refine r_icmp_ne (tgt := 207) C (dx dX7_holdAll 112 rfl) (by decide) (fun c115 => ?_) (fun c115 => ?_)
                                              ·
                                                have c115 : ¬ x113 = -1 := c115
                                                obtain ⟨a113v, ha113v, rfl⟩ := hx113.resolve_left c115
                                                refine r_aload_n C (dx dX7_holdAll 115 rfl) rfl ?_
                                                refine g_X7_43 C (dx dX7_holdAll 116 rfl) ?_
                                                refine r_iload C (dx dX7_holdAll 117 rfl) rfl ?_
                                                refine r_iald (j := q2) (x := nI a113v) C rfl rfl (by decide) rfl (by omega) (dx dX7_holdAll 118 rfl) ((mh114.e1 (by omega)).trans (by simp [vset, vF])) ?_
                                                refine r_iconst (v := nI 1) C (dx dX7_holdAll 119 rfl) rfl ?_
                                                refine rn_iadd (a := a113v) (b := 1) C (dx dX7_holdAll 120 rfl) ?_
                                                refine r_istore_n (ls' := [(0, vr 7 k), (1, vi (nI κ)), (2, vi (nI b)), (3, vi (nI (a113v + 1))), (4, vi (nI q2))]) C (dx dX7_holdAll 121 rfl) (by decide) [1, 2, 3, 0, 4] rfl ?_
                                                refine rn_iinc (a := q2) (k := 1) (ls' := [(0, vr 7 k), (1, vi (nI κ)), (2, vi (nI b)), (3, vi (nI (a113v + 1))), (4, vi (nI (q2 + 1)))]) C (dx dX7_holdAll 122 rfl) rfl rfl (by decide) [1, 2, 3, 4, 0] rfl ?_
                                                refine r_goto (tgt := 159) C (dx dX7_holdAll 123 rfl) (by decide) ?_
                                                exact ihq2 (a113v + 1) (by omega) h114 (vset u9q2 1 q2 (nI a113v)) mh114 (⟨by omega, by omega, by omega⟩) ph114 kh114
                                              ·
                                                have c115 : x113 = -1 := c115
                                                refine r_iload_n C (dx dX7_holdAll 113 rfl) rfl ?_
                                                refine r_goto (tgt := 216) C (dx dX7_holdAll 114 rfl) (by decide) ?_
                                                refine r_istore_n (ls' := [(0, vr 7 k), (1, vi (nI κ)), (2, vi (nI b)), (3, vi (nI x3)), (4, vi (nI q2))]) C (dx dX7_holdAll 121 rfl) (by decide) [1, 2, 3, 0, 4] rfl ?_
                                                refine rn_iinc (a := q2) (k := 1) (ls' := [(0, vr 7 k), (1, vi (nI κ)), (2, vi (nI b)), (3, vi (nI x3)), (4, vi (nI (q2 + 1)))]) C (dx dX7_holdAll 122 rfl) rfl rfl (by decide) [1, 2, 3, 4, 0] rfl ?_
                                                refine r_goto (tgt := 159) C (dx dX7_holdAll 123 rfl) (by decide) ?_
                                                exact ihq2 x3 (by omega) h114 (vset u9q2 1 q2 x113) mh114 (⟨by omega, by omega, by omega⟩) ph114 kh114)))
                          · first
                            | (omega; done)
                            | (
                                have c105 : vP v < vP u9q := c105
                                refine r_aload_n C (dx dX7_holdAll 56 rfl) rfl ?_
                                refine g_X7_40 C (dx dX7_holdAll 57 rfl) ?_
                                refine r_iload C (dx dX7_holdAll 58 rfl) rfl ?_
                                refine r_iload_n C (dx dX7_holdAll 59 rfl) rfl ?_
                                refine r_iconst (v := nI 4) C (dx dX7_holdAll 60 rfl) rfl ?_
                                refine rn_ne (a := κ) (b := 4) (tgt := 118) C (by omega) (by omega) (dx dX7_holdAll 61 rfl) (by decide) (fun c116 => ?_) (fun c116 => ?_)
                                · first
                                  | (omega; done)
                                · first
                                  | (omega; done))
                        ·
                          intro q hq ihq x3 hx3 h9q u9q mh9q zh9q ph9q kh9q
                          obtain ⟨ah9q, bh9q, ch9q⟩ := zh9q
                          refine r_iload C (dx dX7_holdAll 52 rfl) rfl ?_
                          refine r_aload_n C (dx dX7_holdAll 53 rfl) rfl ?_
                          refine g_X7_64 (x := nI (vP u9q)) C (dx dX7_holdAll 54 rfl) mh9q.eP ?_
                          refine rn_ge (a := q) (b := vP u9q) (tgt := 156) C (by omega) (by omega) (dx dX7_holdAll 55 rfl) (by decide) (fun c123 => ?_) (fun c123 => ?_)
                          · first
                            | (omega; done)
                            | (
                                have c123 : vP u9q ≤ q := c123
                                refine r_iconst (v := nI 0) C (dx dX7_holdAll 87 rfl) rfl ?_
                                refine r_istore (ls' := [(0, vr 7 k), (1, vi (nI κ)), (2, vi (nI b)), (3, vi (nI x3)), (4, vi (nI 0))]) C (dx dX7_holdAll 88 rfl) (by decide) [1, 2, 3, 4, 0] rfl ?_
                                refine loopU (Φ := fun q2 => ∀ (x3 : Nat), x3 < 200 → ∀ (h9q2 : Hp) (u9q2 : Vg), MilAt h9q2 k u9q2 → Sz v u9q2 → Kp k h h9q2 → xK h9q2 = xK h → Rr G 159 [(0, vr 7 k), (1, vi (nI κ)), (2, vi (nI b)), (3, vi (nI x3)), (4, vi (nI q2))] [] h9q2) (N := vP v) ?_ ?_ 0 (by omega) x3 (by omega) h9q u9q mh9q (⟨by omega, by omega, by omega⟩) ph9q kh9q
                                ·
                                  intro  x3 hx3 h9q2 u9q2 mh9q2 zh9q2 ph9q2 kh9q2
                                  obtain ⟨ah9q2, bh9q2, ch9q2⟩ := zh9q2
                                  refine r_iload C (dx dX7_holdAll 89 rfl) rfl ?_
                                  refine r_aload_n C (dx dX7_holdAll 90 rfl) rfl ?_
                                  refine g_X7_64 (x := nI (vP u9q2)) C (dx dX7_holdAll 91 rfl) mh9q2.eP ?_
                                  refine rn_ge (a := vP v) (b := vP u9q2) (tgt := 223) C (by omega) (by omega) (dx dX7_holdAll 92 rfl) (by decide) (fun c124 => ?_) (fun c124 => ?_)
                                  · first
                                    | (omega; done)
                                    | (
                                        have c124 : vP u9q2 ≤ vP v := c124
                                        exact F.2.2.1 _ _ _ rfl (dx dX7_holdAll 124 rfl) kh9q2 ⟨rfl, ⟨_, mh9q2, ⟨by omega, by omega, by omega⟩⟩, ph9q2⟩)
                                  · first
                                    | (omega; done)
                                    | (
                                        have c124 : vP v < vP u9q2 := c124
                                        refine r_iload_n C (dx dX7_holdAll 93 rfl) rfl ?_
                                        refine r_iconst (v := nI 3) C (dx dX7_holdAll 94 rfl) rfl ?_
                                        refine rn_ne (a := κ) (b := 3) (tgt := 223) C (by omega) (by omega) (dx dX7_holdAll 95 rfl) (by decide) (fun c125 => ?_) (fun c125 => ?_)
                                        · first
                                          | (omega; done)
                                          | (
                                              have c125 : ¬ κ = 3 := c125
                                              exact F.2.2.1 _ _ _ rfl (dx dX7_holdAll 124 rfl) kh9q2 ⟨rfl, ⟨_, mh9q2, ⟨by omega, by omega, by omega⟩⟩, ph9q2⟩)
                                        · first
                                          | (omega; done))
                                ·
                                  intro q2 hq2 ihq2 x3 hx3 h9q2 u9q2 mh9q2 zh9q2 ph9q2 kh9q2
                                  obtain ⟨ah9q2, bh9q2, ch9q2⟩ := zh9q2
                                  refine r_iload C (dx dX7_holdAll 89 rfl) rfl ?_
                                  refine r_aload_n C (dx dX7_holdAll 90 rfl) rfl ?_
                                  refine g_X7_64 (x := nI (vP u9q2)) C (dx dX7_holdAll 91 rfl) mh9q2.eP ?_
                                  refine rn_ge (a := q2) (b := vP u9q2) (tgt := 223) C (by omega) (by omega) (dx dX7_holdAll 92 rfl) (by decide) (fun c129 => ?_) (fun c129 => ?_)
                                  · first
                                    | (omega; done)
                                    | (
                                        have c129 : vP u9q2 ≤ q2 := c129
                                        exact F.2.2.1 _ _ _ rfl (dx dX7_holdAll 124 rfl) kh9q2 ⟨rfl, ⟨_, mh9q2, ⟨by omega, by omega, by omega⟩⟩, ph9q2⟩)
                                  · first
                                    | (omega; done)
                                    | (
                                        have c129 : q2 < vP u9q2 := c129
                                        refine r_iload_n C (dx dX7_holdAll 93 rfl) rfl ?_
                                        refine r_iconst (v := nI 3) C (dx dX7_holdAll 94 rfl) rfl ?_
                                        refine rn_ne (a := κ) (b := 3) (tgt := 223) C (by omega) (by omega) (dx dX7_holdAll 95 rfl) (by decide) (fun c130 => ?_) (fun c130 => ?_)
                                        · first
                                          | (omega; done)
                                          | (
                                              have c130 : ¬ κ = 3 := c130
                                              exact F.2.2.1 _ _ _ rfl (dx dX7_holdAll 124 rfl) kh9q2 ⟨rfl, ⟨_, mh9q2, ⟨by omega, by omega, by omega⟩⟩, ph9q2⟩)
                                        · first
                                          | (omega; done)
                                          | (
                                              have c130 : κ = 3 := c130
                                              refine r_aload_n C (dx dX7_holdAll 96 rfl) rfl ?_
                                              refine g_X7_43 C (dx dX7_holdAll 97 rfl) ?_
                                              refine r_iload C (dx dX7_holdAll 98 rfl) rfl ?_
                                              refine r_aload_n C (dx dX7_holdAll 99 rfl) rfl ?_
                                              refine r_iload_n C (dx dX7_holdAll 100 rfl) rfl ?_
                                              refine r_aload_n C (dx dX7_holdAll 101 rfl) rfl ?_
                                              refine g_X7_40 C (dx dX7_holdAll 102 rfl) ?_
                                              refine r_iload C (dx dX7_holdAll 103 rfl) rfl ?_
                                              refine r_iald (j := q2) (x := vF u9q2 0 q2) C rfl rfl (by decide) rfl (by omega) (dx dX7_holdAll 104 rfl) (mh9q2.e0 (by omega)) ?_
                                              refine r_cvW (as := [vi (nI x3), vi (vF u9q2 0 q2)]) (st := [vi (nI q2), vr 20 (k + 19)]) C X I_X7_nextWithRoom l_X7_289 (c_X7_nextWithRoom mh9q2 (a := x3) (by omega) _) (by decide) (Nat.le_of_ble_eq_true rfl) (pfx_eq kh9q2) rfl rfl (Nat.le_of_ble_eq_true rfl) rfl (dx dX7_holdAll 105 rfl) ?_
                                              rintro _ ⟨x131, hx131, rfl⟩
                                              refine r_iast (j := q2) C rfl rfl (by decide) rfl (by omega) (dx dX7_holdAll 106 rfl) ?_
                                              have mh132 : MilAt (sI h9q2 (k + 19) q2 x131) k (vset u9q2 1 q2 x131) := mh9q2.s1
                                              have ph132 : Kp k h (sI h9q2 (k + 19) q2 x131) := ph9q2.tr (Kp.c (by omega) (by omega))
                                              have kh132 : xK (sI h9q2 (k + 19) q2 x131) = xK h := kh9q2
                                              generalize sI h9q2 (k + 19) q2 x131 = h132 at mh132 ph132 kh132 ⊢
                                              have ah132 : vP (vset u9q2 1 q2 x131) = vP u9q2 := rfl
                                              have bh132 : vM (vset u9q2 1 q2 x131) = vM u9q2 := rfl
                                              have ch132 : vN (vset u9q2 1 q2 x131) = vN u9q2 := rfl
                                              refine r_aload_n C (dx dX7_holdAll 107 rfl) rfl ?_
                                              refine g_X7_43 C (dx dX7_holdAll 108 rfl) ?_
                                              refine r_iload C (dx dX7_holdAll 109 rfl) rfl ?_
                                              refine r_iald (j := q2) (x := x131) C rfl rfl (by decide) rfl (by omega) (dx dX7_holdAll 110 rfl) ((mh132.e1 (by omega)).trans (by simp [vset, vF])) ?_
                                              refine r_iconst (v := -1) C (dx dX7_holdAll 111 rfl) rfl ?_
                                              refine r_icmp_ne (tgt := 207) C (dx dX7_holdAll 112 rfl) (by decide) (fun c133 => ?_) (fun c133 => ?_)
                                              ·
                                                have c133 : ¬ x131 = -1 := c133
                                                obtain ⟨a131v, ha131v, rfl⟩ := hx131.resolve_left c133
                                                refine r_aload_n C (dx dX7_holdAll 115 rfl) rfl ?_
                                                refine g_X7_43 C (dx dX7_holdAll 116 rfl) ?_
                                                refine r_iload C (dx dX7_holdAll 117 rfl) rfl ?_
                                                refine r_iald (j := q2) (x := nI a131v) C rfl rfl (by decide) rfl (by omega) (dx dX7_holdAll 118 rfl) ((mh132.e1 (by omega)).trans (by simp [vset, vF])) ?_
                                                refine r_iconst (v := nI 1) C (dx dX7_holdAll 119 rfl) rfl ?_
                                                refine rn_iadd (a := a131v) (b := 1) C (dx dX7_holdAll 120 rfl) ?_
                                                refine r_istore_n (ls' := [(0, vr 7 k), (1, vi (nI κ)), (2, vi (nI b)), (3, vi (nI (a131v + 1))), (4, vi (nI q2))]) C (dx dX7_holdAll 121 rfl) (by decide) [1, 2, 3, 0, 4] rfl ?_
                                                refine rn_iinc (a := q2) (k := 1) (ls' := [(0, vr 7 k), (1, vi (nI κ)), (2, vi (nI b)), (3, vi (nI (a131v + 1))), (4, vi (nI (q2 + 1)))]) C (dx dX7_holdAll 122 rfl) rfl rfl (by decide) [1, 2, 3, 4, 0] rfl ?_
                                                refine r_goto (tgt := 159) C (dx dX7_holdAll 123 rfl) (by decide) ?_
                                                exact ihq2 (a131v + 1) (by omega) h132 (vset u9q2 1 q2 (nI a131v)) mh132 (⟨by omega, by omega, by omega⟩) ph132 kh132
                                              ·
                                                have c133 : x131 = -1 := c133
                                                refine r_iload_n C (dx dX7_holdAll 113 rfl) rfl ?_
                                                refine r_goto (tgt := 216) C (dx dX7_holdAll 114 rfl) (by decide) ?_
                                                refine r_istore_n (ls' := [(0, vr 7 k), (1, vi (nI κ)), (2, vi (nI b)), (3, vi (nI x3)), (4, vi (nI q2))]) C (dx dX7_holdAll 121 rfl) (by decide) [1, 2, 3, 0, 4] rfl ?_
                                                refine rn_iinc (a := q2) (k := 1) (ls' := [(0, vr 7 k), (1, vi (nI κ)), (2, vi (nI b)), (3, vi (nI x3)), (4, vi (nI (q2 + 1)))]) C (dx dX7_holdAll 122 rfl) rfl rfl (by decide) [1, 2, 3, 4, 0] rfl ?_
                                                refine r_goto (tgt := 159) C (dx dX7_holdAll 123 rfl) (by decide) ?_
                                                exact ihq2 x3 (by omega) h132 (vset u9q2 1 q2 x131) mh132 (⟨by omega, by omega, by omega⟩) ph132 kh132)))
                          · first
                            | (omega; done)
                            | (
                                have c123 : q < vP u9q := c123
                                refine r_aload_n C (dx dX7_holdAll 56 rfl) rfl ?_
                                refine g_X7_40 C (dx dX7_holdAll 57 rfl) ?_
                                refine r_iload C (dx dX7_holdAll 58 rfl) rfl ?_
                                refine r_iload_n C (dx dX7_holdAll 59 rfl) rfl ?_
                                refine r_iconst (v := nI 4) C (dx dX7_holdAll 60 rfl) rfl ?_
                                refine rn_ne (a := κ) (b := 4) (tgt := 118) C (by omega) (by omega) (dx dX7_holdAll 61 rfl) (by decide) (fun c134 => ?_) (fun c134 => ?_)
                                · first
                                  | (omega; done)
                                  | (
                                      have c134 : ¬ κ = 4 := c134
                                      refine r_aload_n C (dx dX7_holdAll 65 rfl) rfl ?_
                                      refine r_iload_n C (dx dX7_holdAll 66 rfl) rfl ?_
                                      refine r_iconst (v := -1) C (dx dX7_holdAll 67 rfl) rfl ?_
                                      refine r_cvW (as := [vi (nI x3), vi (-1)]) (st := [vi (nI q), vr 20 (k + 18)]) C X I_X7_nextWithRoom l_X7_289 (c_X7_nextWithRoom mh9q (a := x3) (by omega) _) (by decide) (Nat.le_of_ble_eq_true rfl) (pfx_eq kh9q) rfl rfl (Nat.le_of_ble_eq_true rfl) rfl (dx dX7_holdAll 68 rfl) ?_
                                      rintro _ ⟨x135, hx135, rfl⟩
                                      refine r_iast (j := q) C rfl rfl (by decide) rfl (by omega) (dx dX7_holdAll 69 rfl) ?_
                                      have mh136 : MilAt (sI h9q (k + 18) q x135) k (vset u9q 0 q x135) := mh9q.s0
                                      have ph136 : Kp k h (sI h9q (k + 18) q x135) := ph9q.tr (Kp.c (by omega) (by omega))
                                      have kh136 : xK (sI h9q (k + 18) q x135) = xK h := kh9q
                                      generalize sI h9q (k + 18) q x135 = h136 at mh136 ph136 kh136 ⊢
                                      have ah136 : vP (vset u9q 0 q x135) = vP u9q := rfl
                                      have bh136 : vM (vset u9q 0 q x135) = vM u9q := rfl
                                      have ch136 : vN (vset u9q 0 q x135) = vN u9q := rfl
                                      refine r_aload_n C (dx dX7_holdAll 70 rfl) rfl ?_
                                      refine g_X7_40 C (dx dX7_holdAll 71 rfl) ?_
                                      refine r_iload C (dx dX7_holdAll 72 rfl) rfl ?_
                                      refine r_iald (j := q) (x := x135) C rfl rfl (by decide) rfl (by omega) (dx dX7_holdAll 73 rfl) ((mh136.e0 (by omega)).trans (by simp [vset, vF])) ?_
                                      refine r_iconst (v := -1) C (dx dX7_holdAll 74 rfl) rfl ?_
                                      refine r_icmp_ne (tgt := 140) C (dx dX7_holdAll 75 rfl) (by decide) (fun c137 => ?_) (fun c137 => ?_)
                                      ·
                                        have c137 : ¬ x135 = -1 := c137
                                        obtain ⟨a135v, ha135v, rfl⟩ := hx135.resolve_left c137
                                        refine r_aload_n C (dx dX7_holdAll 78 rfl) rfl ?_
                                        refine g_X7_40 C (dx dX7_holdAll 79 rfl) ?_
                                        refine r_iload C (dx dX7_holdAll 80 rfl) rfl ?_
                                        refine r_iald (j := q) (x := nI a135v) C rfl rfl (by decide) rfl (by omega) (dx dX7_holdAll 81 rfl) ((mh136.e0 (by omega)).trans (by simp [vset, vF])) ?_
                                        refine r_iconst (v := nI 1) C (dx dX7_holdAll 82 rfl) rfl ?_
                                        refine rn_iadd (a := a135v) (b := 1) C (dx dX7_holdAll 83 rfl) ?_
                                        refine r_istore_n (ls' := [(0, vr 7 k), (1, vi (nI κ)), (2, vi (nI b)), (3, vi (nI (a135v + 1))), (4, vi (nI q))]) C (dx dX7_holdAll 84 rfl) (by decide) [1, 2, 3, 0, 4] rfl ?_
                                        refine rn_iinc (a := q) (k := 1) (ls' := [(0, vr 7 k), (1, vi (nI κ)), (2, vi (nI b)), (3, vi (nI (a135v + 1))), (4, vi (nI (q + 1)))]) C (dx dX7_holdAll 85 rfl) rfl rfl (by decide) [1, 2, 3, 4, 0] rfl ?_
                                        refine r_goto (tgt := 91) C (dx dX7_holdAll 86 rfl) (by decide) ?_
                                        exact ihq (a135v + 1) (by omega) h136 (vset u9q 0 q (nI a135v)) mh136 (⟨by omega, by omega, by omega⟩) ph136 kh136
                                      ·
                                        have c137 : x135 = -1 := c137
                                        refine r_iload_n C (dx dX7_holdAll 76 rfl) rfl ?_
                                        refine r_goto (tgt := 149) C (dx dX7_holdAll 77 rfl) (by decide) ?_
                                        refine r_istore_n (ls' := [(0, vr 7 k), (1, vi (nI κ)), (2, vi (nI b)), (3, vi (nI x3)), (4, vi (nI q))]) C (dx dX7_holdAll 84 rfl) (by decide) [1, 2, 3, 0, 4] rfl ?_
                                        refine rn_iinc (a := q) (k := 1) (ls' := [(0, vr 7 k), (1, vi (nI κ)), (2, vi (nI b)), (3, vi (nI x3)), (4, vi (nI (q + 1)))]) C (dx dX7_holdAll 85 rfl) rfl rfl (by decide) [1, 2, 3, 4, 0] rfl ?_
                                        refine r_goto (tgt := 91) C (dx dX7_holdAll 86 rfl) (by decide) ?_
                                        exact ihq x3 (by omega) h136 (vset u9q 0 q x135) mh136 (⟨by omega, by omega, by omega⟩) ph136 kh136)
                                · first
                                  | (omega; done)
                                  | (
                                      have c134 : κ = 4 := c134
                                      refine r_aload_n C (dx dX7_holdAll 62 rfl) rfl ?_
                                      refine r_cvW (as := []) (st := [vi (nI q), vr 20 (k + 18)]) C X I_X7_surest l_X7_286 (c_X7_surest mh9q) (by decide) (Nat.le_of_ble_eq_true rfl) (pfx_eq kh9q) rfl rfl (Nat.le_of_ble_eq_true rfl) rfl (dx dX7_holdAll 63 rfl) ?_
                                      rintro _ ⟨x138, hx138, rfl⟩
                                      refine r_goto (tgt := 124) C (dx dX7_holdAll 64 rfl) (by decide) ?_
                                      refine r_iast (j := q) C rfl rfl (by decide) rfl (by omega) (dx dX7_holdAll 69 rfl) ?_
                                      have mh139 : MilAt (sI h9q (k + 18) q x138) k (vset u9q 0 q x138) := mh9q.s0
                                      have ph139 : Kp k h (sI h9q (k + 18) q x138) := ph9q.tr (Kp.c (by omega) (by omega))
                                      have kh139 : xK (sI h9q (k + 18) q x138) = xK h := kh9q
                                      generalize sI h9q (k + 18) q x138 = h139 at mh139 ph139 kh139 ⊢
                                      have ah139 : vP (vset u9q 0 q x138) = vP u9q := rfl
                                      have bh139 : vM (vset u9q 0 q x138) = vM u9q := rfl
                                      have ch139 : vN (vset u9q 0 q x138) = vN u9q := rfl
                                      refine r_aload_n C (dx dX7_holdAll 70 rfl) rfl ?_
                                      refine g_X7_40 C (dx dX7_holdAll 71 rfl) ?_
                                      refine r_iload C (dx dX7_holdAll 72 rfl) rfl ?_
                                      refine r_iald (j := q) (x := x138) C rfl rfl (by decide) rfl (by omega) (dx dX7_holdAll 73 rfl) ((mh139.e0 (by omega)).trans (by simp [vset, vF])) ?_
                                      refine r_iconst (v := -1) C (dx dX7_holdAll 74 rfl) rfl ?_
                                      refine r_icmp_ne (tgt := 140) C (dx dX7_holdAll 75 rfl) (by decide) (fun c140 => ?_) (fun c140 => ?_)
                                      ·
                                        have c140 : ¬ x138 = -1 := c140
                                        obtain ⟨a138v, ha138v, rfl⟩ := hx138.resolve_left c140
                                        refine r_aload_n C (dx dX7_holdAll 78 rfl) rfl ?_
                                        refine g_X7_40 C (dx dX7_holdAll 79 rfl) ?_
                                        refine r_iload C (dx dX7_holdAll 80 rfl) rfl ?_
                                        refine r_iald (j := q) (x := nI a138v) C rfl rfl (by decide) rfl (by omega) (dx dX7_holdAll 81 rfl) ((mh139.e0 (by omega)).trans (by simp [vset, vF])) ?_
                                        refine r_iconst (v := nI 1) C (dx dX7_holdAll 82 rfl) rfl ?_
                                        refine rn_iadd (a := a138v) (b := 1) C (dx dX7_holdAll 83 rfl) ?_
                                        refine r_istore_n (ls' := [(0, vr 7 k), (1, vi (nI κ)), (2, vi (nI b)), (3, vi (nI (a138v + 1))), (4, vi (nI q))]) C (dx dX7_holdAll 84 rfl) (by decide) [1, 2, 3, 0, 4] rfl ?_
                                        refine rn_iinc (a := q) (k := 1) (ls' := [(0, vr 7 k), (1, vi (nI κ)), (2, vi (nI b)), (3, vi (nI (a138v + 1))), (4, vi (nI (q + 1)))]) C (dx dX7_holdAll 85 rfl) rfl rfl (by decide) [1, 2, 3, 4, 0] rfl ?_
                                        refine r_goto (tgt := 91) C (dx dX7_holdAll 86 rfl) (by decide) ?_
                                        exact ihq (a138v + 1) (by omega) h139 (vset u9q 0 q (nI a138v)) mh139 (⟨by omega, by omega, by omega⟩) ph139 kh139
                                      ·
                                        have c140 : x138 = -1 := c140
                                        refine r_iload_n C (dx dX7_holdAll 76 rfl) rfl ?_
                                        refine r_goto (tgt := 149) C (dx dX7_holdAll 77 rfl) (by decide) ?_
                                        refine r_istore_n (ls' := [(0, vr 7 k), (1, vi (nI κ)), (2, vi (nI b)), (3, vi (nI x3)), (4, vi (nI q))]) C (dx dX7_holdAll 84 rfl) (by decide) [1, 2, 3, 0, 4] rfl ?_
                                        refine rn_iinc (a := q) (k := 1) (ls' := [(0, vr 7 k), (1, vi (nI κ)), (2, vi (nI b)), (3, vi (nI x3)), (4, vi (nI (q + 1)))]) C (dx dX7_holdAll 85 rfl) rfl rfl (by decide) [1, 2, 3, 4, 0] rfl ?_
                                        refine r_goto (tgt := 91) C (dx dX7_holdAll 86 rfl) (by decide) ?_
                                        exact ihq x3 (by omega) h139 (vset u9q 0 q x138) mh139 (⟨by omega, by omega, by omega⟩) ph139 kh139))
                      ·
                        have c103 : nI (vN u9p) = 0 := c103
                        refine r_iconst (v := nI 0) C (dx dX7_holdAll 43 rfl) rfl ?_
                        refine r_goto (tgt := 87) C (dx dX7_holdAll 44 rfl) (by decide) ?_
                        refine r_istore_n (ls' := [(0, vr 7 k), (1, vi (nI κ)), (2, vi (nI b)), (3, vi (nI 0))]) C (dx dX7_holdAll 49 rfl) (by decide) [1, 2, 3, 0] rfl ?_
                        refine r_iconst (v := nI 0) C (dx dX7_holdAll 50 rfl) rfl ?_
                        refine r_istore (ls' := [(0, vr 7 k), (1, vi (nI κ)), (2, vi (nI b)), (3, vi (nI 0)), (4, vi (nI 0))]) C (dx dX7_holdAll 51 rfl) (by decide) [1, 2, 3, 4, 0] rfl ?_
                        refine loopU (Φ := fun q => ∀ (x3 : Nat), x3 < 200 → ∀ (h9q : Hp) (u9q : Vg), MilAt h9q k u9q → Sz v u9q → Kp k h h9q → xK h9q = xK h → Rr G 91 [(0, vr 7 k), (1, vi (nI κ)), (2, vi (nI b)), (3, vi (nI x3)), (4, vi (nI q))] [] h9q) (N := vP v) ?_ ?_ 0 (by omega) 0 (by omega) h9p u9p mh9p (⟨by omega, by omega, by omega⟩) ph9p kh9p
                        ·
                          intro  x3 hx3 h9q u9q mh9q zh9q ph9q kh9q
                          obtain ⟨ah9q, bh9q, ch9q⟩ := zh9q
                          refine r_iload C (dx dX7_holdAll 52 rfl) rfl ?_
                          refine r_aload_n C (dx dX7_holdAll 53 rfl) rfl ?_
                          refine g_X7_64 (x := nI (vP u9q)) C (dx dX7_holdAll 54 rfl) mh9q.eP ?_
                          refine rn_ge (a := vP v) (b := vP u9q) (tgt := 156) C (by omega) (by omega) (dx dX7_holdAll 55 rfl) (by decide) (fun c141 => ?_) (fun c141 => ?_)
                          · first
                            | (omega; done)
                            | (
                                have c141 : vP u9q ≤ vP v := c141
                                refine r_iconst (v := nI 0) C (dx dX7_holdAll 87 rfl) rfl ?_
                                refine r_istore (ls' := [(0, vr 7 k), (1, vi (nI κ)), (2, vi (nI b)), (3, vi (nI x3)), (4, vi (nI 0))]) C (dx dX7_holdAll 88 rfl) (by decide) [1, 2, 3, 4, 0] rfl ?_
                                refine loopU (Φ := fun q2 => ∀ (x3 : Nat), x3 < 200 → ∀ (h9q2 : Hp) (u9q2 : Vg), MilAt h9q2 k u9q2 → Sz v u9q2 → Kp k h h9q2 → xK h9q2 = xK h → Rr G 159 [(0, vr 7 k), (1, vi (nI κ)), (2, vi (nI b)), (3, vi (nI x3)), (4, vi (nI q2))] [] h9q2) (N := vP v) ?_ ?_ 0 (by omega) x3 (by omega) h9q u9q mh9q (⟨by omega, by omega, by omega⟩) ph9q kh9q
                                ·
                                  intro  x3 hx3 h9q2 u9q2 mh9q2 zh9q2 ph9q2 kh9q2
                                  obtain ⟨ah9q2, bh9q2, ch9q2⟩ := zh9q2
                                  refine r_iload C (dx dX7_holdAll 89 rfl) rfl ?_
                                  refine r_aload_n C (dx dX7_holdAll 90 rfl) rfl ?_
                                  refine g_X7_64 (x := nI (vP u9q2)) C (dx dX7_holdAll 91 rfl) mh9q2.eP ?_
                                  refine rn_ge (a := vP v) (b := vP u9q2) (tgt := 223) C (by omega) (by omega) (dx dX7_holdAll 92 rfl) (by decide) (fun c142 => ?_) (fun c142 => ?_)
                                  · first
                                    | (omega; done)
                                    | (
                                        have c142 : vP u9q2 ≤ vP v := c142
                                        exact F.2.2.1 _ _ _ rfl (dx dX7_holdAll 124 rfl) kh9q2 ⟨rfl, ⟨_, mh9q2, ⟨by omega, by omega, by omega⟩⟩, ph9q2⟩)
                                  · first
                                    | (omega; done)
                                    | (
                                        have c142 : vP v < vP u9q2 := c142
                                        refine r_iload_n C (dx dX7_holdAll 93 rfl) rfl ?_
                                        refine r_iconst (v := nI 3) C (dx dX7_holdAll 94 rfl) rfl ?_
                                        refine rn_ne (a := κ) (b := 3) (tgt := 223) C (by omega) (by omega) (dx dX7_holdAll 95 rfl) (by decide) (fun c143 => ?_) (fun c143 => ?_)
                                        · first
                                          | (omega; done)
                                          | (
                                              have c143 : ¬ κ = 3 := c143
                                              exact F.2.2.1 _ _ _ rfl (dx dX7_holdAll 124 rfl) kh9q2 ⟨rfl, ⟨_, mh9q2, ⟨by omega, by omega, by omega⟩⟩, ph9q2⟩)
                                        · first
                                          | (omega; done))
                                ·
                                  intro q2 hq2 ihq2 x3 hx3 h9q2 u9q2 mh9q2 zh9q2 ph9q2 kh9q2
                                  obtain ⟨ah9q2, bh9q2, ch9q2⟩ := zh9q2
                                  refine r_iload C (dx dX7_holdAll 89 rfl) rfl ?_
                                  refine r_aload_n C (dx dX7_holdAll 90 rfl) rfl ?_
                                  refine g_X7_64 (x := nI (vP u9q2)) C (dx dX7_holdAll 91 rfl) mh9q2.eP ?_
                                  refine rn_ge (a := q2) (b := vP u9q2) (tgt := 223) C (by omega) (by omega) (dx dX7_holdAll 92 rfl) (by decide) (fun c147 => ?_) (fun c147 => ?_)
                                  · first
                                    | (omega; done)
                                    | (
                                        have c147 : vP u9q2 ≤ q2 := c147
                                        exact F.2.2.1 _ _ _ rfl (dx dX7_holdAll 124 rfl) kh9q2 ⟨rfl, ⟨_, mh9q2, ⟨by omega, by omega, by omega⟩⟩, ph9q2⟩)
                                  · first
                                    | (omega; done)
                                    | (
                                        have c147 : q2 < vP u9q2 := c147
                                        refine r_iload_n C (dx dX7_holdAll 93 rfl) rfl ?_
                                        refine r_iconst (v := nI 3) C (dx dX7_holdAll 94 rfl) rfl ?_
                                        refine rn_ne (a := κ) (b := 3) (tgt := 223) C (by omega) (by omega) (dx dX7_holdAll 95 rfl) (by decide) (fun c148 => ?_) (fun c148 => ?_)
                                        · first
                                          | (omega; done)
                                          | (
                                              have c148 : ¬ κ = 3 := c148
                                              exact F.2.2.1 _ _ _ rfl (dx dX7_holdAll 124 rfl) kh9q2 ⟨rfl, ⟨_, mh9q2, ⟨by omega, by omega, by omega⟩⟩, ph9q2⟩)
                                        · first
                                          | (omega; done)
                                          | (
                                              have c148 : κ = 3 := c148
                                              refine r_aload_n C (dx dX7_holdAll 96 rfl) rfl ?_
                                              refine g_X7_43 C (dx dX7_holdAll 97 rfl) ?_
                                              refine r_iload C (dx dX7_holdAll 98 rfl) rfl ?_
                                              refine r_aload_n C (dx dX7_holdAll 99 rfl) rfl ?_
                                              refine r_iload_n C (dx dX7_holdAll 100 rfl) rfl ?_
                                              refine r_aload_n C (dx dX7_holdAll 101 rfl) rfl ?_
                                              refine g_X7_40 C (dx dX7_holdAll 102 rfl) ?_
                                              refine r_iload C (dx dX7_holdAll 103 rfl) rfl ?_
                                              refine r_iald (j := q2) (x := vF u9q2 0 q2) C rfl rfl (by decide) rfl (by omega) (dx dX7_holdAll 104 rfl) (mh9q2.e0 (by omega)) ?_
                                              refine r_cvW (as := [vi (nI x3), vi (vF u9q2 0 q2)]) (st := [vi (nI q2), vr 20 (k + 19)]) C X I_X7_nextWithRoom l_X7_289 (c_X7_nextWithRoom mh9q2 (a := x3) (by omega) _) (by decide) (Nat.le_of_ble_eq_true rfl) (pfx_eq kh9q2) rfl rfl (Nat.le_of_ble_eq_true rfl) rfl (dx dX7_holdAll 105 rfl) ?_
                                              rintro _ ⟨x149, hx149, rfl⟩
                                              refine r_iast (j := q2) C rfl rfl (by decide) rfl (by omega) (dx dX7_holdAll 106 rfl) ?_
                                              have mh150 : MilAt (sI h9q2 (k + 19) q2 x149) k (vset u9q2 1 q2 x149) := mh9q2.s1
                                              have ph150 : Kp k h (sI h9q2 (k + 19) q2 x149) := ph9q2.tr (Kp.c (by omega) (by omega))
                                              have kh150 : xK (sI h9q2 (k + 19) q2 x149) = xK h := kh9q2
                                              generalize sI h9q2 (k + 19) q2 x149 = h150 at mh150 ph150 kh150 ⊢
                                              have ah150 : vP (vset u9q2 1 q2 x149) = vP u9q2 := rfl
                                              have bh150 : vM (vset u9q2 1 q2 x149) = vM u9q2 := rfl
                                              have ch150 : vN (vset u9q2 1 q2 x149) = vN u9q2 := rfl
                                              refine r_aload_n C (dx dX7_holdAll 107 rfl) rfl ?_
                                              refine g_X7_43 C (dx dX7_holdAll 108 rfl) ?_
                                              refine r_iload C (dx dX7_holdAll 109 rfl) rfl ?_
                                              refine r_iald (j := q2) (x := x149) C rfl rfl (by decide) rfl (by omega) (dx dX7_holdAll 110 rfl) ((mh150.e1 (by omega)).trans (by simp [vset, vF])) ?_
                                              refine r_iconst (v := -1) C (dx dX7_holdAll 111 rfl) rfl ?_
                                              refine r_icmp_ne (tgt := 207) C (dx dX7_holdAll 112 rfl) (by decide) (fun c151 => ?_) (fun c151 => ?_)
                                              ·
                                                have c151 : ¬ x149 = -1 := c151
                                                obtain ⟨a149v, ha149v, rfl⟩ := hx149.resolve_left c151
                                                refine r_aload_n C (dx dX7_holdAll 115 rfl) rfl ?_
                                                refine g_X7_43 C (dx dX7_holdAll 116 rfl) ?_
                                                refine r_iload C (dx dX7_holdAll 117 rfl) rfl ?_
                                                refine r_iald (j := q2) (x := nI a149v) C rfl rfl (by decide) rfl (by omega) (dx dX7_holdAll 118 rfl) ((mh150.e1 (by omega)).trans (by simp [vset, vF])) ?_
                                                refine r_iconst (v := nI 1) C (dx dX7_holdAll 119 rfl) rfl ?_
                                                refine rn_iadd (a := a149v) (b := 1) C (dx dX7_holdAll 120 rfl) ?_
                                                refine r_istore_n (ls' := [(0, vr 7 k), (1, vi (nI κ)), (2, vi (nI b)), (3, vi (nI (a149v + 1))), (4, vi (nI q2))]) C (dx dX7_holdAll 121 rfl) (by decide) [1, 2, 3, 0, 4] rfl ?_
                                                refine rn_iinc (a := q2) (k := 1) (ls' := [(0, vr 7 k), (1, vi (nI κ)), (2, vi (nI b)), (3, vi (nI (a149v + 1))), (4, vi (nI (q2 + 1)))]) C (dx dX7_holdAll 122 rfl) rfl rfl (by decide) [1, 2, 3, 4, 0] rfl ?_
                                                refine r_goto (tgt := 159) C (dx dX7_holdAll 123 rfl) (by decide) ?_
                                                exact ihq2 (a149v + 1) (by omega) h150 (vset u9q2 1 q2 (nI a149v)) mh150 (⟨by omega, by omega, by omega⟩) ph150 kh150
                                              ·
                                                have c151 : x149 = -1 := c151
                                                refine r_iload_n C (dx dX7_holdAll 113 rfl) rfl ?_
                                                refine r_goto (tgt := 216) C (dx dX7_holdAll 114 rfl) (by decide) ?_
                                                refine r_istore_n (ls' := [(0, vr 7 k), (1, vi (nI κ)), (2, vi (nI b)), (3, vi (nI x3)), (4, vi (nI q2))]) C (dx dX7_holdAll 121 rfl) (by decide) [1, 2, 3, 0, 4] rfl ?_
                                                refine rn_iinc (a := q2) (k := 1) (ls' := [(0, vr 7 k), (1, vi (nI κ)), (2, vi (nI b)), (3, vi (nI x3)), (4, vi (nI (q2 + 1)))]) C (dx dX7_holdAll 122 rfl) rfl rfl (by decide) [1, 2, 3, 4, 0] rfl ?_
                                                refine r_goto (tgt := 159) C (dx dX7_holdAll 123 rfl) (by decide) ?_
                                                exact ihq2 x3 (by omega) h150 (vset u9q2 1 q2 x149) mh150 (⟨by omega, by omega, by omega⟩) ph150 kh150)))
                          · first
                            | (omega; done)
                            | (
                                have c141 : vP v < vP u9q := c141
                                refine r_aload_n C (dx dX7_holdAll 56 rfl) rfl ?_
                                refine g_X7_40 C (dx dX7_holdAll 57 rfl) ?_
                                refine r_iload C (dx dX7_holdAll 58 rfl) rfl ?_
                                refine r_iload_n C (dx dX7_holdAll 59 rfl) rfl ?_
                                refine r_iconst (v := nI 4) C (dx dX7_holdAll 60 rfl) rfl ?_
                                refine rn_ne (a := κ) (b := 4) (tgt := 118) C (by omega) (by omega) (dx dX7_holdAll 61 rfl) (by decide) (fun c152 => ?_) (fun c152 => ?_)
                                · first
                                  | (omega; done)
                                · first
                                  | (omega; done))
                        ·
                          intro q hq ihq x3 hx3 h9q u9q mh9q zh9q ph9q kh9q
                          obtain ⟨ah9q, bh9q, ch9q⟩ := zh9q
                          refine r_iload C (dx dX7_holdAll 52 rfl) rfl ?_
                          refine r_aload_n C (dx dX7_holdAll 53 rfl) rfl ?_
                          refine g_X7_64 (x := nI (vP u9q)) C (dx dX7_holdAll 54 rfl) mh9q.eP ?_
                          refine rn_ge (a := q) (b := vP u9q) (tgt := 156) C (by omega) (by omega) (dx dX7_holdAll 55 rfl) (by decide) (fun c159 => ?_) (fun c159 => ?_)
                          · first
                            | (omega; done)
                            | (
                                have c159 : vP u9q ≤ q := c159
                                refine r_iconst (v := nI 0) C (dx dX7_holdAll 87 rfl) rfl ?_
                                refine r_istore (ls' := [(0, vr 7 k), (1, vi (nI κ)), (2, vi (nI b)), (3, vi (nI x3)), (4, vi (nI 0))]) C (dx dX7_holdAll 88 rfl) (by decide) [1, 2, 3, 4, 0] rfl ?_
                                refine loopU (Φ := fun q2 => ∀ (x3 : Nat), x3 < 200 → ∀ (h9q2 : Hp) (u9q2 : Vg), MilAt h9q2 k u9q2 → Sz v u9q2 → Kp k h h9q2 → xK h9q2 = xK h → Rr G 159 [(0, vr 7 k), (1, vi (nI κ)), (2, vi (nI b)), (3, vi (nI x3)), (4, vi (nI q2))] [] h9q2) (N := vP v) ?_ ?_ 0 (by omega) x3 (by omega) h9q u9q mh9q (⟨by omega, by omega, by omega⟩) ph9q kh9q
                                ·
                                  intro  x3 hx3 h9q2 u9q2 mh9q2 zh9q2 ph9q2 kh9q2
                                  obtain ⟨ah9q2, bh9q2, ch9q2⟩ := zh9q2
                                  refine r_iload C (dx dX7_holdAll 89 rfl) rfl ?_
                                  refine r_aload_n C (dx dX7_holdAll 90 rfl) rfl ?_
                                  refine g_X7_64 (x := nI (vP u9q2)) C (dx dX7_holdAll 91 rfl) mh9q2.eP ?_
                                  refine rn_ge (a := vP v) (b := vP u9q2) (tgt := 223) C (by omega) (by omega) (dx dX7_holdAll 92 rfl) (by decide) (fun c160 => ?_) (fun c160 => ?_)
                                  · first
                                    | (omega; done)
                                    | (
                                        have c160 : vP u9q2 ≤ vP v := c160
                                        exact F.2.2.1 _ _ _ rfl (dx dX7_holdAll 124 rfl) kh9q2 ⟨rfl, ⟨_, mh9q2, ⟨by omega, by omega, by omega⟩⟩, ph9q2⟩)
                                  · first
                                    | (omega; done)
                                    | (
                                        have c160 : vP v < vP u9q2 := c160
                                        refine r_iload_n C (dx dX7_holdAll 93 rfl) rfl ?_
                                        refine r_iconst (v := nI 3) C (dx dX7_holdAll 94 rfl) rfl ?_
                                        refine rn_ne (a := κ) (b := 3) (tgt := 223) C (by omega) (by omega) (dx dX7_holdAll 95 rfl) (by decide) (fun c161 => ?_) (fun c161 => ?_)
                                        · first
                                          | (omega; done)
                                          | (
                                              have c161 : ¬ κ = 3 := c161
                                              exact F.2.2.1 _ _ _ rfl (dx dX7_holdAll 124 rfl) kh9q2 ⟨rfl, ⟨_, mh9q2, ⟨by omega, by omega, by omega⟩⟩, ph9q2⟩)
                                        · first
                                          | (omega; done))
                                ·
                                  intro q2 hq2 ihq2 x3 hx3 h9q2 u9q2 mh9q2 zh9q2 ph9q2 kh9q2
                                  obtain ⟨ah9q2, bh9q2, ch9q2⟩ := zh9q2
                                  refine r_iload C (dx dX7_holdAll 89 rfl) rfl ?_
                                  refine r_aload_n C (dx dX7_holdAll 90 rfl) rfl ?_
                                  refine g_X7_64 (x := nI (vP u9q2)) C (dx dX7_holdAll 91 rfl) mh9q2.eP ?_
                                  refine rn_ge (a := q2) (b := vP u9q2) (tgt := 223) C (by omega) (by omega) (dx dX7_holdAll 92 rfl) (by decide) (fun c165 => ?_) (fun c165 => ?_)
                                  · first
                                    | (omega; done)
                                    | (
                                        have c165 : vP u9q2 ≤ q2 := c165
                                        exact F.2.2.1 _ _ _ rfl (dx dX7_holdAll 124 rfl) kh9q2 ⟨rfl, ⟨_, mh9q2, ⟨by omega, by omega, by omega⟩⟩, ph9q2⟩)
                                  · first
                                    | (omega; done)
                                    | (
                                        have c165 : q2 < vP u9q2 := c165
                                        refine r_iload_n C (dx dX7_holdAll 93 rfl) rfl ?_
                                        refine r_iconst (v := nI 3) C (dx dX7_holdAll 94 rfl) rfl ?_
                                        refine rn_ne (a := κ) (b := 3) (tgt := 223) C (by omega) (by omega) (dx dX7_holdAll 95 rfl) (by decide) (fun c166 => ?_) (fun c166 => ?_)
                                        · first
                                          | (omega; done)
                                          | (
                                              have c166 : ¬ κ = 3 := c166
                                              exact F.2.2.1 _ _ _ rfl (dx dX7_holdAll 124 rfl) kh9q2 ⟨rfl, ⟨_, mh9q2, ⟨by omega, by omega, by omega⟩⟩, ph9q2⟩)
                                        · first
                                          | (omega; done)
                                          | (
                                              have c166 : κ = 3 := c166
                                              refine r_aload_n C (dx dX7_holdAll 96 rfl) rfl ?_
                                              refine g_X7_43 C (dx dX7_holdAll 97 rfl) ?_
                                              refine r_iload C (dx dX7_holdAll 98 rfl) rfl ?_
                                              refine r_aload_n C (dx dX7_holdAll 99 rfl) rfl ?_
                                              refine r_iload_n C (dx dX7_holdAll 100 rfl) rfl ?_
                                              refine r_aload_n C (dx dX7_holdAll 101 rfl) rfl ?_
                                              refine g_X7_40 C (dx dX7_holdAll 102 rfl) ?_
                                              refine r_iload C (dx dX7_holdAll 103 rfl) rfl ?_
                                              refine r_iald (j := q2) (x := vF u9q2 0 q2) C rfl rfl (by decide) rfl (by omega) (dx dX7_holdAll 104 rfl) (mh9q2.e0 (by omega)) ?_
                                              refine r_cvW (as := [vi (nI x3), vi (vF u9q2 0 q2)]) (st := [vi (nI q2), vr 20 (k + 19)]) C X I_X7_nextWithRoom l_X7_289 (c_X7_nextWithRoom mh9q2 (a := x3) (by omega) _) (by decide) (Nat.le_of_ble_eq_true rfl) (pfx_eq kh9q2) rfl rfl (Nat.le_of_ble_eq_true rfl) rfl (dx dX7_holdAll 105 rfl) ?_
                                              rintro _ ⟨x167, hx167, rfl⟩
                                              refine r_iast (j := q2) C rfl rfl (by decide) rfl (by omega) (dx dX7_holdAll 106 rfl) ?_
                                              have mh168 : MilAt (sI h9q2 (k + 19) q2 x167) k (vset u9q2 1 q2 x167) := mh9q2.s1
                                              have ph168 : Kp k h (sI h9q2 (k + 19) q2 x167) := ph9q2.tr (Kp.c (by omega) (by omega))
                                              have kh168 : xK (sI h9q2 (k + 19) q2 x167) = xK h := kh9q2
                                              generalize sI h9q2 (k + 19) q2 x167 = h168 at mh168 ph168 kh168 ⊢
                                              have ah168 : vP (vset u9q2 1 q2 x167) = vP u9q2 := rfl
                                              have bh168 : vM (vset u9q2 1 q2 x167) = vM u9q2 := rfl
                                              have ch168 : vN (vset u9q2 1 q2 x167) = vN u9q2 := rfl
                                              refine r_aload_n C (dx dX7_holdAll 107 rfl) rfl ?_
                                              refine g_X7_43 C (dx dX7_holdAll 108 rfl) ?_
                                              refine r_iload C (dx dX7_holdAll 109 rfl) rfl ?_
                                              refine r_iald (j := q2) (x := x167) C rfl rfl (by decide) rfl (by omega) (dx dX7_holdAll 110 rfl) ((mh168.e1 (by omega)).trans (by simp [vset, vF])) ?_
                                              refine r_iconst (v := -1) C (dx dX7_holdAll 111 rfl) rfl ?_
                                              refine r_icmp_ne (tgt := 207) C (dx dX7_holdAll 112 rfl) (by decide) (fun c169 => ?_) (fun c169 => ?_)
                                              ·
                                                have c169 : ¬ x167 = -1 := c169
                                                obtain ⟨a167v, ha167v, rfl⟩ := hx167.resolve_left c169
                                                refine r_aload_n C (dx dX7_holdAll 115 rfl) rfl ?_
                                                refine g_X7_43 C (dx dX7_holdAll 116 rfl) ?_
                                                refine r_iload C (dx dX7_holdAll 117 rfl) rfl ?_
                                                refine r_iald (j := q2) (x := nI a167v) C rfl rfl (by decide) rfl (by omega) (dx dX7_holdAll 118 rfl) ((mh168.e1 (by omega)).trans (by simp [vset, vF])) ?_
                                                refine r_iconst (v := nI 1) C (dx dX7_holdAll 119 rfl) rfl ?_
                                                refine rn_iadd (a := a167v) (b := 1) C (dx dX7_holdAll 120 rfl) ?_
                                                refine r_istore_n (ls' := [(0, vr 7 k), (1, vi (nI κ)), (2, vi (nI b)), (3, vi (nI (a167v + 1))), (4, vi (nI q2))]) C (dx dX7_holdAll 121 rfl) (by decide) [1, 2, 3, 0, 4] rfl ?_
                                                refine rn_iinc (a := q2) (k := 1) (ls' := [(0, vr 7 k), (1, vi (nI κ)), (2, vi (nI b)), (3, vi (nI (a167v + 1))), (4, vi (nI (q2 + 1)))]) C (dx dX7_holdAll 122 rfl) rfl rfl (by decide) [1, 2, 3, 4, 0] rfl ?_
                                                refine r_goto (tgt := 159) C (dx dX7_holdAll 123 rfl) (by decide) ?_
                                                exact ihq2 (a167v + 1) (by omega) h168 (vset u9q2 1 q2 (nI a167v)) mh168 (⟨by omega, by omega, by omega⟩) ph168 kh168
                                              ·
                                                have c169 : x167 = -1 := c169
                                                refine r_iload_n C (dx dX7_holdAll 113 rfl) rfl ?_
                                                refine r_goto (tgt := 216) C (dx dX7_holdAll 114 rfl) (by decide) ?_
                                                refine r_istore_n (ls' := [(0, vr 7 k), (1, vi (nI κ)), (2, vi (nI b)), (3, vi (nI x3)), (4, vi (nI q2))]) C (dx dX7_holdAll 121 rfl) (by decide) [1, 2, 3, 0, 4] rfl ?_
                                                refine rn_iinc (a := q2) (k := 1) (ls' := [(0, vr 7 k), (1, vi (nI κ)), (2, vi (nI b)), (3, vi (nI x3)), (4, vi (nI (q2 + 1)))]) C (dx dX7_holdAll 122 rfl) rfl rfl (by decide) [1, 2, 3, 4, 0] rfl ?_
                                                refine r_goto (tgt := 159) C (dx dX7_holdAll 123 rfl) (by decide) ?_
                                                exact ihq2 x3 (by omega) h168 (vset u9q2 1 q2 x167) mh168 (⟨by omega, by omega, by omega⟩) ph168 kh168)))
                          · first
                            | (omega; done)
                            | (
                                have c159 : q < vP u9q := c159
                                refine r_aload_n C (dx dX7_holdAll 56 rfl) rfl ?_
                                refine g_X7_40 C (dx dX7_holdAll 57 rfl) ?_
                                refine r_iload C (dx dX7_holdAll 58 rfl) rfl ?_
                                refine r_iload_n C (dx dX7_holdAll 59 rfl) rfl ?_
                                refine r_iconst (v := nI 4) C (dx dX7_holdAll 60 rfl) rfl ?_
                                refine rn_ne (a := κ) (b := 4) (tgt := 118) C (by omega) (by omega) (dx dX7_holdAll 61 rfl) (by decide) (fun c170 => ?_) (fun c170 => ?_)
                                · first
                                  | (omega; done)
                                  | (
                                      have c170 : ¬ κ = 4 := c170
                                      refine r_aload_n C (dx dX7_holdAll 65 rfl) rfl ?_
                                      refine r_iload_n C (dx dX7_holdAll 66 rfl) rfl ?_
                                      refine r_iconst (v := -1) C (dx dX7_holdAll 67 rfl) rfl ?_
                                      refine r_cvW (as := [vi (nI x3), vi (-1)]) (st := [vi (nI q), vr 20 (k + 18)]) C X I_X7_nextWithRoom l_X7_289 (c_X7_nextWithRoom mh9q (a := x3) (by omega) _) (by decide) (Nat.le_of_ble_eq_true rfl) (pfx_eq kh9q) rfl rfl (Nat.le_of_ble_eq_true rfl) rfl (dx dX7_holdAll 68 rfl) ?_
                                      rintro _ ⟨x171, hx171, rfl⟩
                                      refine r_iast (j := q) C rfl rfl (by decide) rfl (by omega) (dx dX7_holdAll 69 rfl) ?_
                                      have mh172 : MilAt (sI h9q (k + 18) q x171) k (vset u9q 0 q x171) := mh9q.s0
                                      have ph172 : Kp k h (sI h9q (k + 18) q x171) := ph9q.tr (Kp.c (by omega) (by omega))
                                      have kh172 : xK (sI h9q (k + 18) q x171) = xK h := kh9q
                                      generalize sI h9q (k + 18) q x171 = h172 at mh172 ph172 kh172 ⊢
                                      have ah172 : vP (vset u9q 0 q x171) = vP u9q := rfl
                                      have bh172 : vM (vset u9q 0 q x171) = vM u9q := rfl
                                      have ch172 : vN (vset u9q 0 q x171) = vN u9q := rfl
                                      refine r_aload_n C (dx dX7_holdAll 70 rfl) rfl ?_
                                      refine g_X7_40 C (dx dX7_holdAll 71 rfl) ?_
                                      refine r_iload C (dx dX7_holdAll 72 rfl) rfl ?_
                                      refine r_iald (j := q) (x := x171) C rfl rfl (by decide) rfl (by omega) (dx dX7_holdAll 73 rfl) ((mh172.e0 (by omega)).trans (by simp [vset, vF])) ?_
                                      refine r_iconst (v := -1) C (dx dX7_holdAll 74 rfl) rfl ?_
                                      refine r_icmp_ne (tgt := 140) C (dx dX7_holdAll 75 rfl) (by decide) (fun c173 => ?_) (fun c173 => ?_)
                                      ·
                                        have c173 : ¬ x171 = -1 := c173
                                        obtain ⟨a171v, ha171v, rfl⟩ := hx171.resolve_left c173
                                        refine r_aload_n C (dx dX7_holdAll 78 rfl) rfl ?_
                                        refine g_X7_40 C (dx dX7_holdAll 79 rfl) ?_
                                        refine r_iload C (dx dX7_holdAll 80 rfl) rfl ?_
                                        refine r_iald (j := q) (x := nI a171v) C rfl rfl (by decide) rfl (by omega) (dx dX7_holdAll 81 rfl) ((mh172.e0 (by omega)).trans (by simp [vset, vF])) ?_
                                        refine r_iconst (v := nI 1) C (dx dX7_holdAll 82 rfl) rfl ?_
                                        refine rn_iadd (a := a171v) (b := 1) C (dx dX7_holdAll 83 rfl) ?_
                                        refine r_istore_n (ls' := [(0, vr 7 k), (1, vi (nI κ)), (2, vi (nI b)), (3, vi (nI (a171v + 1))), (4, vi (nI q))]) C (dx dX7_holdAll 84 rfl) (by decide) [1, 2, 3, 0, 4] rfl ?_
                                        refine rn_iinc (a := q) (k := 1) (ls' := [(0, vr 7 k), (1, vi (nI κ)), (2, vi (nI b)), (3, vi (nI (a171v + 1))), (4, vi (nI (q + 1)))]) C (dx dX7_holdAll 85 rfl) rfl rfl (by decide) [1, 2, 3, 4, 0] rfl ?_
                                        refine r_goto (tgt := 91) C (dx dX7_holdAll 86 rfl) (by decide) ?_
                                        exact ihq (a171v + 1) (by omega) h172 (vset u9q 0 q (nI a171v)) mh172 (⟨by omega, by omega, by omega⟩) ph172 kh172
                                      ·
                                        have c173 : x171 = -1 := c173
                                        refine r_iload_n C (dx dX7_holdAll 76 rfl) rfl ?_
                                        refine r_goto (tgt := 149) C (dx dX7_holdAll 77 rfl) (by decide) ?_
                                        refine r_istore_n (ls' := [(0, vr 7 k), (1, vi (nI κ)), (2, vi (nI b)), (3, vi (nI x3)), (4, vi (nI q))]) C (dx dX7_holdAll 84 rfl) (by decide) [1, 2, 3, 0, 4] rfl ?_
                                        refine rn_iinc (a := q) (k := 1) (ls' := [(0, vr 7 k), (1, vi (nI κ)), (2, vi (nI b)), (3, vi (nI x3)), (4, vi (nI (q + 1)))]) C (dx dX7_holdAll 85 rfl) rfl rfl (by decide) [1, 2, 3, 4, 0] rfl ?_
                                        refine r_goto (tgt := 91) C (dx dX7_holdAll 86 rfl) (by decide) ?_
                                        exact ihq x3 (by omega) h172 (vset u9q 0 q x171) mh172 (⟨by omega, by omega, by omega⟩) ph172 kh172)
                                · first
                                  | (omega; done)
                                  | (
                                      have c170 : κ = 4 := c170
                                      refine r_aload_n C (dx dX7_holdAll 62 rfl) rfl ?_
                                      refine r_cvW (as := []) (st := [vi (nI q), vr 20 (k + 18)]) C X I_X7_surest l_X7_286 (c_X7_surest mh9q) (by decide) (Nat.le_of_ble_eq_true rfl) (pfx_eq kh9q) rfl rfl (Nat.le_of_ble_eq_true rfl) rfl (dx dX7_holdAll 63 rfl) ?_
                                      rintro _ ⟨x174, hx174, rfl⟩
                                      refine r_goto (tgt := 124) C (dx dX7_holdAll 64 rfl) (by decide) ?_
                                      refine r_iast (j := q) C rfl rfl (by decide) rfl (by omega) (dx dX7_holdAll 69 rfl) ?_
                                      have mh175 : MilAt (sI h9q (k + 18) q x174) k (vset u9q 0 q x174) := mh9q.s0
                                      have ph175 : Kp k h (sI h9q (k + 18) q x174) := ph9q.tr (Kp.c (by omega) (by omega))
                                      have kh175 : xK (sI h9q (k + 18) q x174) = xK h := kh9q
                                      generalize sI h9q (k + 18) q x174 = h175 at mh175 ph175 kh175 ⊢
                                      have ah175 : vP (vset u9q 0 q x174) = vP u9q := rfl
                                      have bh175 : vM (vset u9q 0 q x174) = vM u9q := rfl
                                      have ch175 : vN (vset u9q 0 q x174) = vN u9q := rfl
                                      refine r_aload_n C (dx dX7_holdAll 70 rfl) rfl ?_
                                      refine g_X7_40 C (dx dX7_holdAll 71 rfl) ?_
                                      refine r_iload C (dx dX7_holdAll 72 rfl) rfl ?_
                                      refine r_iald (j := q) (x := x174) C rfl rfl (by decide) rfl (by omega) (dx dX7_holdAll 73 rfl) ((mh175.e0 (by omega)).trans (by simp [vset, vF])) ?_
                                      refine r_iconst (v := -1) C (dx dX7_holdAll 74 rfl) rfl ?_
                                      refine r_icmp_ne (tgt := 140) C (dx dX7_holdAll 75 rfl) (by decide) (fun c176 => ?_) (fun c176 => ?_)
                                      ·
                                        have c176 : ¬ x174 = -1 := c176
                                        obtain ⟨a174v, ha174v, rfl⟩ := hx174.resolve_left c176
                                        refine r_aload_n C (dx dX7_holdAll 78 rfl) rfl ?_
                                        refine g_X7_40 C (dx dX7_holdAll 79 rfl) ?_
                                        refine r_iload C (dx dX7_holdAll 80 rfl) rfl ?_
                                        refine r_iald (j := q) (x := nI a174v) C rfl rfl (by decide) rfl (by omega) (dx dX7_holdAll 81 rfl) ((mh175.e0 (by omega)).trans (by simp [vset, vF])) ?_
                                        refine r_iconst (v := nI 1) C (dx dX7_holdAll 82 rfl) rfl ?_
                                        refine rn_iadd (a := a174v) (b := 1) C (dx dX7_holdAll 83 rfl) ?_
                                        refine r_istore_n (ls' := [(0, vr 7 k), (1, vi (nI κ)), (2, vi (nI b)), (3, vi (nI (a174v + 1))), (4, vi (nI q))]) C (dx dX7_holdAll 84 rfl) (by decide) [1, 2, 3, 0, 4] rfl ?_
                                        refine rn_iinc (a := q) (k := 1) (ls' := [(0, vr 7 k), (1, vi (nI κ)), (2, vi (nI b)), (3, vi (nI (a174v + 1))), (4, vi (nI (q + 1)))]) C (dx dX7_holdAll 85 rfl) rfl rfl (by decide) [1, 2, 3, 4, 0] rfl ?_
                                        refine r_goto (tgt := 91) C (dx dX7_holdAll 86 rfl) (by decide) ?_
                                        exact ihq (a174v + 1) (by omega) h175 (vset u9q 0 q (nI a174v)) mh175 (⟨by omega, by omega, by omega⟩) ph175 kh175
                                      ·
                                        have c176 : x174 = -1 := c176
                                        refine r_iload_n C (dx dX7_holdAll 76 rfl) rfl ?_
                                        refine r_goto (tgt := 149) C (dx dX7_holdAll 77 rfl) (by decide) ?_
                                        refine r_istore_n (ls' := [(0, vr 7 k), (1, vi (nI κ)), (2, vi (nI b)), (3, vi (nI x3)), (4, vi (nI q))]) C (dx dX7_holdAll 84 rfl) (by decide) [1, 2, 3, 0, 4] rfl ?_
                                        refine rn_iinc (a := q) (k := 1) (ls' := [(0, vr 7 k), (1, vi (nI κ)), (2, vi (nI b)), (3, vi (nI x3)), (4, vi (nI (q + 1)))]) C (dx dX7_holdAll 85 rfl) rfl rfl (by decide) [1, 2, 3, 4, 0] rfl ?_
                                        refine r_goto (tgt := 91) C (dx dX7_holdAll 86 rfl) (by decide) ?_
                                        exact ihq x3 (by omega) h175 (vset u9q 0 q x174) mh175 (⟨by omega, by omega, by omega⟩) ph175 kh175)))
                · first
                  | (omega; done)
                  | (
                      have c102 : κ = 5 := c102
                      refine r_aload_n C (dx dX7_holdAll 24 rfl) rfl ?_
                      refine r_iload_n C (dx dX7_holdAll 25 rfl) rfl ?_
                      refine r_iconst (v := nI 5) C (dx dX7_holdAll 26 rfl) rfl ?_
                      refine rn_ne (a := κ) (b := 5) (tgt := 62) C (by omega) (by omega) (dx dX7_holdAll 27 rfl) (by decide) (fun c177 => ?_) (fun c177 => ?_)
                      ·
                        have c177 : ¬ κ = 5 := c177
                        exact absurd c102 c177
                      · first
                        | (omega; done)
                        | (
                            have c177 : κ = 5 := c177
                            refine r_iload_n C (dx dX7_holdAll 28 rfl) rfl ?_
                            refine r_if_le (tgt := 62) C (dx dX7_holdAll 29 rfl) (by decide) (fun c178 => ?_) (fun c178 => ?_)
                            ·
                              have c178 : nI b ≤ 0 := c178
                              refine r_aload_n C (dx dX7_holdAll 36 rfl) rfl ?_
                              refine g_X7_74 (x := nI (vN u9p)) C (dx dX7_holdAll 37 rfl) mh9p.eN ?_
                              refine r_cv (as := [vi (nI (vN u9p))]) (st := []) C X I_X7_holdWhole l_X7_282 (c_X7_holdWhole mh9p (am := vN u9p) (by omega)) (by decide) (Nat.le_of_ble_eq_true rfl) List.prefix_rfl (pfx_eq kh9p) rfl rfl (Nat.le_of_ble_eq_true rfl) rfl (dx dX7_holdAll 38 rfl) ?_
                              rintro _ h179 ⟨rfl, ⟨wh179, m9h179, s9h179⟩, qh179⟩ kkh179
                              obtain ⟨vh179, mh179, zh179⟩ : ∃ v9, MilAt h179 k v9 ∧ Sz u9p v9 := ⟨_, m9h179, s9h179⟩
                              have ph179 : Kp k h h179 := ph9p.tr (qh179)
                              have kh179 : xK h179 = xK h := (kkh179).trans kh9p
                              obtain ⟨ah179, bh179, ch179⟩ := zh179
                              exact F.2.2.1 _ _ _ rfl (dx dX7_holdAll 39 rfl) kh179 ⟨rfl, ⟨_, mh179, ⟨by omega, by omega, by omega⟩⟩, ph179⟩
                            ·
                              have c178 : ¬ nI b ≤ 0 := c178
                              refine r_iload_n C (dx dX7_holdAll 30 rfl) rfl ?_
                              refine r_aload_n C (dx dX7_holdAll 31 rfl) rfl ?_
                              refine g_X7_74 (x := nI (vN u9p)) C (dx dX7_holdAll 32 rfl) mh9p.eN ?_
                              refine rn_ge (a := b) (b := vN u9p) (tgt := 62) C (by omega) (by omega) (dx dX7_holdAll 33 rfl) (by decide) (fun c180 => ?_) (fun c180 => ?_)
                              · first
                                | (omega; done)
                                | (
                                    have c180 : vN u9p ≤ b := c180
                                    refine r_aload_n C (dx dX7_holdAll 36 rfl) rfl ?_
                                    refine g_X7_74 (x := nI (vN u9p)) C (dx dX7_holdAll 37 rfl) mh9p.eN ?_
                                    refine r_cv (as := [vi (nI (vN u9p))]) (st := []) C X I_X7_holdWhole l_X7_282 (c_X7_holdWhole mh9p (am := vN u9p) (by omega)) (by decide) (Nat.le_of_ble_eq_true rfl) List.prefix_rfl (pfx_eq kh9p) rfl rfl (Nat.le_of_ble_eq_true rfl) rfl (dx dX7_holdAll 38 rfl) ?_
                                    rintro _ h181 ⟨rfl, ⟨wh181, m9h181, s9h181⟩, qh181⟩ kkh181
                                    obtain ⟨vh181, mh181, zh181⟩ : ∃ v9, MilAt h181 k v9 ∧ Sz u9p v9 := ⟨_, m9h181, s9h181⟩
                                    have ph181 : Kp k h h181 := ph9p.tr (qh181)
                                    have kh181 : xK h181 = xK h := (kkh181).trans kh9p
                                    obtain ⟨ah181, bh181, ch181⟩ := zh181
                                    exact F.2.2.1 _ _ _ rfl (dx dX7_holdAll 39 rfl) kh181 ⟨rfl, ⟨_, mh181, ⟨by omega, by omega, by omega⟩⟩, ph181⟩)
                              · first
                                | (omega; done)
                                | (
                                    have c180 : b < vN u9p := c180
                                    refine r_iload_n C (dx dX7_holdAll 34 rfl) rfl ?_
                                    refine r_goto (tgt := 66) C (dx dX7_holdAll 35 rfl) (by decide) ?_
                                    refine r_cv (as := [vi (nI b)]) (st := []) C X I_X7_holdWhole l_X7_282 (c_X7_holdWhole mh9p (am := b) (by omega)) (by decide) (Nat.le_of_ble_eq_true rfl) List.prefix_rfl (pfx_eq kh9p) rfl rfl (Nat.le_of_ble_eq_true rfl) rfl (dx dX7_holdAll 38 rfl) ?_
                                    rintro _ h182 ⟨rfl, ⟨wh182, m9h182, s9h182⟩, qh182⟩ kkh182
                                    obtain ⟨vh182, mh182, zh182⟩ : ∃ v9, MilAt h182 k v9 ∧ Sz u9p v9 := ⟨_, m9h182, s9h182⟩
                                    have ph182 : Kp k h h182 := ph9p.tr (qh182)
                                    have kh182 : xK h182 = xK h := (kkh182).trans kh9p
                                    obtain ⟨ah182, bh182, ch182⟩ := zh182
                                    exact F.2.2.1 _ _ _ rfl (dx dX7_holdAll 39 rfl) kh182 ⟨rfl, ⟨_, mh182, ⟨by omega, by omega, by omega⟩⟩, ph182⟩)))))
    · first
      | (omega; done)
      | (
          have c93 : p < vP u9p := c93
          refine r_aload_n C (dx dX7_holdAll 6 rfl) rfl ?_
          refine g_X7_40 C (dx dX7_holdAll 7 rfl) ?_
          refine r_iload_n C (dx dX7_holdAll 8 rfl) rfl ?_
          refine r_iconst (v := -1) C (dx dX7_holdAll 9 rfl) rfl ?_
          refine r_iast (j := p) C rfl rfl (by decide) rfl (by omega) (dx dX7_holdAll 10 rfl) ?_
          have mh183 : MilAt (sI h9p (k + 18) p (-1)) k (vset u9p 0 p (-1)) := mh9p.s0
          have ph183 : Kp k h (sI h9p (k + 18) p (-1)) := ph9p.tr (Kp.c (by omega) (by omega))
          have kh183 : xK (sI h9p (k + 18) p (-1)) = xK h := kh9p
          generalize sI h9p (k + 18) p (-1) = h183 at mh183 ph183 kh183 ⊢
          have ah183 : vP (vset u9p 0 p (-1)) = vP u9p := rfl
          have bh183 : vM (vset u9p 0 p (-1)) = vM u9p := rfl
          have ch183 : vN (vset u9p 0 p (-1)) = vN u9p := rfl
          refine r_aload_n C (dx dX7_holdAll 11 rfl) rfl ?_
          refine g_X7_43 C (dx dX7_holdAll 12 rfl) ?_
          refine r_iload_n C (dx dX7_holdAll 13 rfl) rfl ?_
          refine r_iconst (v := -1) C (dx dX7_holdAll 14 rfl) rfl ?_
          refine r_iast (j := p) C rfl rfl (by decide) rfl (by omega) (dx dX7_holdAll 15 rfl) ?_
          have mh184 : MilAt (sI h183 (k + 19) p (-1)) k (vset (vset u9p 0 p (-1)) 1 p (-1)) := mh183.s1
          have ph184 : Kp k h (sI h183 (k + 19) p (-1)) := ph183.tr (Kp.c (by omega) (by omega))
          have kh184 : xK (sI h183 (k + 19) p (-1)) = xK h := kh183
          generalize sI h183 (k + 19) p (-1) = h184 at mh184 ph184 kh184 ⊢
          have ah184 : vP (vset (vset u9p 0 p (-1)) 1 p (-1)) = vP u9p := rfl
          have bh184 : vM (vset (vset u9p 0 p (-1)) 1 p (-1)) = vM u9p := rfl
          have ch184 : vN (vset (vset u9p 0 p (-1)) 1 p (-1)) = vN u9p := rfl
          refine rn_iinc (a := p) (k := 1) (ls' := [(0, vr 7 k), (1, vi (nI κ)), (2, vi (nI b)), (3, vi (nI (p + 1)))]) C (dx dX7_holdAll 16 rfl) rfl rfl (by decide) [1, 2, 3, 0] rfl ?_
          refine r_goto (tgt := 2) C (dx dX7_holdAll 17 rfl) (by decide) ?_
          exact ihp h184 (vset (vset u9p 0 p (-1)) 1 p (-1)) mh184 (⟨by omega, by omega, by omega⟩) ph184 kh184)
end
section
/-! PART 28: the reference: shelves -/
/-- the shelves in the reference's cells, as the class has them -/
def MsR (h : Hp) (k : Nat) (g : Sg) (s : Nat) : Prop := ∃ t n, t < 5 ∧ n ≤ 40 ∧ xI h (k + 1) s = nI 1 ∧ xI h (k + 2) s = nI t ∧ xI h (k + 3) s = nI n ∧ gT g s = nI t ∧ gZ g s = nI n ∧ ∀ i, i < 40 → xL h (k + 5 + s) i = gE g s i
def MsH (h : Hp) (k : Nat) (g : Sg) (s : Nat) : Prop := ∃ κ b, 1 ≤ κ ∧ κ ≤ 5 ∧ b < 100 ∧ xI h (k + 1) s = nI 2 ∧ xI h (k + 14) s = nI κ ∧ xI h (k + 15) s = nI b ∧ gT g s = nI (10 + κ) ∧ gY g s = nI b
def Ms1 (h : Hp) (k : Nat) (g : Sg) (s : Nat) : Prop := (xI h (k + 1) s = nI 0 ∧ gT g s = -1) ∨ MsR h k g s ∨ MsH h k g s
def MshAt (h : Hp) (k : Nat) (g : Sg) : Prop := ∀ s, s < 8 → Ms1 h k g s
def Ks (k : Nat) (h h' : Hp) : Prop := xI h' k 8 = xI h k 8 ∧ xN h' k = xN h k ∧ Fr k (k + 32) h h'
theorem Ks.rf {k : Nat} {h : Hp} : Ks k h h := ⟨rfl, rfl, Fr.rf⟩
theorem Ks.tr {k : Nat} {h h1 h2 : Hp} (a : Ks k h h1) (b : Ks k h1 h2) : Ks k h h2 := ⟨b.1.trans a.1, b.2.1.trans a.2.1, a.2.2.tr b.2.2⟩
theorem Kp.ks {k : Nat} {h h1 : Hp} (a : Kp k h h1) : Ks k h h1 := ⟨a.1, a.2.1, a.2.2.to (fun b q => by unfold VC at q; omega)⟩
theorem Ks.fr {k lo hi : Nat} {h h1 : Hp} (f : Fr lo hi h h1) (h1' : k < lo) (h2 : hi ≤ k + 32) : Ks k h h1 :=
  ⟨by rw [(f k (by omega)).1], (f k (by omega)).2.2, f.mono (by omega) (by omega)⟩
section MS
variable {h h1 : Hp} {k s : Nat} {g g' : Sg} {P : Nat → Prop}
theorem Ms1.ag (a : Ms1 h k g s) (hs : s < 8) (f : Fs P h h1) (q : un P (k + 1) (k + 16)) (e : gT g' s = gT g s ∧ gZ g' s = gZ g s ∧ gY g' s = gY g s ∧ gE g' s = gE g s) : Ms1 h1 k g' s := by
  obtain ⟨e1, e2, e3, e4⟩ := e
  have f1 : ∀ b, k + 1 ≤ b → b < k + 16 → xI h1 b = xI h b ∧ xL h1 b = xL h b := fun b p1 p2 => ⟨(f b (q b p1 p2)).1, (f b (q b p1 p2)).2.1⟩
  rcases a with ⟨a1, a2⟩ | ⟨t, n, a1, a2, a3, a4, a5, a6, a7, a8⟩ | ⟨κ, b, a1, a2, a3, a4, a5, a6, a7, a8⟩
  · exact Or.inl ⟨by rw [(f1 _ (by omega) (by omega)).1]; exact a1, e1.trans a2⟩
  · exact Or.inr (Or.inl ⟨t, n, a1, a2, by rw [(f1 _ (by omega) (by omega)).1]; exact a3, by rw [(f1 _ (by omega) (by omega)).1]; exact a4, by rw [(f1 _ (by omega) (by omega)).1]; exact a5, e1.trans a6, e2.trans a7, fun i hi => by rw [(f1 _ (by omega) (by omega)).2, e4]; exact a8 i hi⟩)
  · exact Or.inr (Or.inr ⟨κ, b, a1, a2, a3, by rw [(f1 _ (by omega) (by omega)).1]; exact a4, by rw [(f1 _ (by omega) (by omega)).1]; exact a5, by rw [(f1 _ (by omega) (by omega)).1]; exact a6, e1.trans a7, e3.trans a8⟩)
theorem MshAt.ag (a : MshAt h k g) (f : Fs P h h1) (q : un P (k + 1) (k + 16)) : MshAt h1 k g := fun s hs => (a s hs).ag hs f q ⟨rfl, rfl, rfl, rfl⟩
theorem MshAt.kp (a : MshAt h k g) (f : Kp k h h1) : MshAt h1 k g := a.ag f.2.2 (fun b _ _ q => by unfold VC at q; omega)
theorem MshAt.fr {lo hi : Nat} (a : MshAt h k g) (f : Fr lo hi h h1) (q : k + 16 ≤ lo ∨ hi ≤ k + 1) : MshAt h1 k g := a.ag f.fs (fun b _ _ q => by omega)
/-- one shelf changed: the others' cells stay -/
theorem MshAt.one (a : MshAt h k g) (hs : s < 8) (n : Ms1 h1 k g' s) (c : ∀ s', s' ≠ s → gT g' s' = gT g s' ∧ gZ g' s' = gZ g s' ∧ gY g' s' = gY g s' ∧ gE g' s' = gE g s')
    (f : ∀ s', s' ≠ s → s' < 8 → xI h1 (k + 1) s' = xI h (k + 1) s' ∧ xI h1 (k + 2) s' = xI h (k + 2) s' ∧ xI h1 (k + 3) s' = xI h (k + 3) s' ∧ xI h1 (k + 14) s' = xI h (k + 14) s' ∧ xI h1 (k + 15) s' = xI h (k + 15) s' ∧ xL h1 (k + 5 + s') = xL h (k + 5 + s')) : MshAt h1 k g' := fun s' hs' => by
  by_cases q : s' = s
  · subst q; exact n
  · obtain ⟨e1, e2, e3, e4⟩ := c s' q
    obtain ⟨f1, f2, f3, f4, f5, f6⟩ := f s' q hs'
    rcases a s' hs' with ⟨a1, a2⟩ | ⟨t, n, a1, a2, a3, a4, a5, a6, a7, a8⟩ | ⟨κ, b, a1, a2, a3, a4, a5, a6, a7, a8⟩
    · exact Or.inl ⟨f1.trans a1, e1.trans a2⟩
    · exact Or.inr (Or.inl ⟨t, n, a1, a2, f1.trans a3, f2.trans a4, f3.trans a5, e1.trans a6, e2.trans a7, fun i hi => by rw [f6, e4]; exact a8 i hi⟩)
    · exact Or.inr (Or.inr ⟨κ, b, a1, a2, a3, f1.trans a4, f4.trans a5, f5.trans a6, e1.trans a7, e3.trans a8⟩)
theorem sf_ne {f : Nat → Int32} {i j : Nat} {x : Int32} (h : j ≠ i) : sf f i x j = f j := if_neg h
theorem sf_at {f : Nat → Int32} {i : Nat} {x : Int32} : sf f i x i = x := if_pos rfl
theorem rowE_ne {E : Nat → Nat → Int64} {i j : Nat} {f : Nat → Int64} (h : j ≠ i) : rowE E i f j = E j := by funext x; exact if_neg h
theorem rowE_at {E : Nat → Nat → Int64} {i : Nat} {f : Nat → Int64} : rowE E i f i = f := by funext x; exact if_pos rfl
theorem msh_row {t n : Nat} (a : MshAt h k g) (hs : s < 8) (ht : t < 5) (hn : n ≤ 40) (f : Fr (k + 5 + s) (k + 5 + s + 1) (sI (sI (sI h (k + 1) s (nI 1)) (k + 2) s (nI t)) (k + 3) s (nI n)) h1) (z : ∀ i, i < 40 → xL h1 (k + 5 + s) i = 0) : MshAt h1 k (pRow g s (nI t) n) := by
  have e1 : ∀ j, xI h1 (k + 1) j = if j = s then nI 1 else xI h (k + 1) j := fun j => by rw [f.I (by omega), sI_ne (by omega), sI_ne (by omega), sI_at]
  have e2 : ∀ j, xI h1 (k + 2) j = if j = s then nI t else xI h (k + 2) j := fun j => by rw [f.I (by omega), sI_ne (by omega), sI_at]; rw [sI_ne (by omega)]
  have e3 : ∀ j, xI h1 (k + 3) j = if j = s then nI n else xI h (k + 3) j := fun j => by rw [f.I (by omega), sI_at]; rw [sI_ne (by omega), sI_ne (by omega)]
  refine a.one hs (Or.inr (Or.inl ⟨t, n, ht, hn, (e1 s).trans (if_pos rfl), (e2 s).trans (if_pos rfl), (e3 s).trans (if_pos rfl), sf_at, sf_at, fun i hi => by rw [z i hi]; show (0 : Int64) = rowE (gE g) s (fun _ => 0) s i; rw [rowE_at]⟩)) (fun s' q => ⟨sf_ne q, sf_ne q, rfl, rowE_ne q⟩) (fun s' q hs' => ⟨(e1 s').trans (if_neg q), (e2 s').trans (if_neg q), (e3 s').trans (if_neg q), ?_, ?_, ?_⟩)
  · rw [f.I (by omega), sI_ne (by omega), sI_ne (by omega), sI_ne (by omega)]
  · rw [f.I (by omega), sI_ne (by omega), sI_ne (by omega), sI_ne (by omega)]
  · rw [(f _ (by omega)).2.1]; rfl
theorem msh_hold {κ b : Nat} (a : MshAt h k g) (hs : s < 8) (h1' : 1 ≤ κ ∧ κ ≤ 5) (hb : b < 100) : MshAt (sI (sI (sI h (k + 1) s (nI 2)) (k + 14) s (nI κ)) (k + 15) s (nI b)) k (pHold g s κ b) := by
  refine a.one hs (Or.inr (Or.inr ⟨κ, b, h1'.1, h1'.2, hb, ?_, ?_, ?_, sf_at, sf_at⟩)) (fun s' q => ⟨sf_ne q, sf_ne q, sf_ne q, rfl⟩) (fun s' q hs' => ⟨?_, ?_, ?_, ?_, ?_, rfl⟩)
  · rw [sI_ne (by omega), sI_ne (by omega), sI_at, if_pos rfl]
  · rw [sI_ne (by omega), sI_at, if_pos rfl]
  · rw [sI_at, if_pos rfl]
  · rw [sI_ne (by omega), sI_ne (by omega), sI_at, if_neg q]
  · rw [sI_ne (by omega), sI_ne (by omega), sI_ne (by omega)]
  · rw [sI_ne (by omega), sI_ne (by omega), sI_ne (by omega)]
  · rw [sI_ne (by omega), sI_at, if_neg q, sI_ne (by omega)]
  · rw [sI_at, if_neg q, sI_ne (by omega), sI_ne (by omega)]
/-- a row's elements changed -/
theorem msh_els {F : Nat → Int64} (a : MshAt h k g) (hs : s < 8) (r : MsR h k g s) (f : Fr (k + 5 + s) (k + 5 + s + 1) h h1) (z : ∀ i, i < 40 → xL h1 (k + 5 + s) i = F i) : MshAt h1 k (gT g, gZ g, gY g, rowE (gE g) s F) := by
  obtain ⟨t, n, a1, a2, a3, a4, a5, a6, a7, a8⟩ := r
  exact a.one hs (Or.inr (Or.inl ⟨t, n, a1, a2, (f.I (by omega) _).trans a3, (f.I (by omega) _).trans a4, (f.I (by omega) _).trans a5, a6, a7, fun i hi => (z i hi).trans (congrFun rowE_at i).symm⟩)) (fun s' q => ⟨rfl, rfl, rfl, rowE_ne q⟩)
    (fun s' q hs' => ⟨f.I (by omega) _, f.I (by omega) _, f.I (by omega) _, f.I (by omega) _, f.I (by omega) _, (f _ (by omega)).2.1⟩)
theorem sh_bare {σ : Nat} (hσ : σ < 8) (e : gT g σ = -1) : bareB g (nI σ) = true ∧ holdB g (nI σ) = false ∧ rowB g (nI σ) = false ∧ szV g (nI σ) = nI 0 ∧ tOn g (nI σ) = -1 ∧ rfV g (nI σ) = -4 ∧ hfV g (nI σ) = -4 := by
  have t : tOn g (nI σ) = -1 := by unfold tOn; rw [if_pos (inN (by omega) hσ), clN (by omega), e]
  have b : bareB g (nI σ) = true := by unfold bareB; rw [t]; rfl
  have h : holdB g (nI σ) = false := by unfold holdB; rw [t]; decide
  have r : rowB g (nI σ) = false := by unfold rowB; rw [b, h]; rfl
  exact ⟨b, h, r, by unfold szV; rw [r]; rfl, t, by unfold rfV; rw [h, b]; rfl, by unfold hfV; rw [r, b]; rfl⟩
theorem sh_row {σ t n : Nat} (hσ : σ < 8) (ht : t < 5) (e : gT g σ = nI t) (ez : gZ g σ = nI n) : bareB g (nI σ) = false ∧ holdB g (nI σ) = false ∧ rowB g (nI σ) = true ∧ szV g (nI σ) = nI n ∧ tOn g (nI σ) = nI t ∧ rfV g (nI σ) = nI 0 ∧ hfV g (nI σ) = -3 := by
  have tt : tOn g (nI σ) = nI t := by unfold tOn; rw [if_pos (inN (by omega) hσ), clN (by omega), e]
  have b : bareB g (nI σ) = false := by unfold bareB; rw [tt]; exact decide_eq_false (nI_nm1 (by omega))
  have h : holdB g (nI σ) = false := by unfold holdB; rw [tt]; exact decide_eq_false (fun z => z ((nI_ltI (by omega) (by omega)).mpr (by omega)))
  have r : rowB g (nI σ) = true := by unfold rowB; rw [b, h]; rfl
  exact ⟨b, h, r, by unfold szV; rw [if_pos r, clN (by omega), ez], tt, by unfold rfV; rw [h, b]; rfl, by unfold hfV; rw [r]; rfl⟩
theorem sh_hold {σ κ b : Nat} (hσ : σ < 8) (hκ : κ ≤ 5) (e : gT g σ = nI (10 + κ)) (ey : gY g σ = nI b) : bareB g (nI σ) = false ∧ holdB g (nI σ) = true ∧ rowB g (nI σ) = false ∧ szV g (nI σ) = nI 0 ∧ tOn g (nI σ) = nI (10 + κ) ∧ rfV g (nI σ) = -3 ∧ hfV g (nI σ) = nI 0 ∧ byV g (nI σ) = nI b := by
  have tt : tOn g (nI σ) = nI (10 + κ) := by unfold tOn; rw [if_pos (inN (by omega) hσ), clN (by omega), e]
  have bb : bareB g (nI σ) = false := by unfold bareB; rw [tt]; exact decide_eq_false (nI_nm1 (by omega))
  have h : holdB g (nI σ) = true := by unfold holdB; rw [tt]; exact decide_eq_true (fun z => by have := (nI_ltI (by omega) (by omega)).mp z; omega)
  have r : rowB g (nI σ) = false := by unfold rowB; rw [bb, h]; rfl
  exact ⟨bb, h, r, by unfold szV; rw [r]; rfl, tt, by unfold rfV; rw [h]; rfl, by unfold hfV; rw [r, bb]; rfl, by unfold byV; rw [if_pos h, clN (by omega), ey]⟩
end MS
def nrA (g : Sg) (s : Int32) : Int32 := if inR s 8 = true then rfV g s else -2
def nhA (g : Sg) (s : Int32) : Int32 := if inR s 8 = true then hfV g s else -2
theorem nr_ok {h : Hp} {k : Nat} {g : Sg} {s : Int32} (a : MshAt h k g) (c : nrA g s = 0) : ∃ σ, σ < 8 ∧ s = nI σ ∧ MsR h k g σ := by
  unfold nrA at c
  split at c
  · next q =>
    obtain ⟨σ, hσ, rfl⟩ := inR_ex (by omega) q
    refine ⟨σ, hσ, rfl, ?_⟩
    rcases a σ hσ with ⟨a1, a2⟩ | r | ⟨κ, b, a1, a2, a3, a4, a5, a6, a7, a8⟩
    · rw [(sh_bare hσ a2).2.2.2.2.2.1] at c; exact absurd c (by decide)
    · exact r
    · rw [(sh_hold hσ a2 a7 a8).2.2.2.2.2.1] at c; exact absurd c (by decide)
  · exact absurd c (by decide)
theorem nh_ok {h : Hp} {k : Nat} {g : Sg} {s : Int32} (a : MshAt h k g) (c : nhA g s = 0) : ∃ σ, σ < 8 ∧ s = nI σ ∧ MsH h k g σ := by
  unfold nhA at c
  split at c
  · next q =>
    obtain ⟨σ, hσ, rfl⟩ := inR_ex (by omega) q
    refine ⟨σ, hσ, rfl, ?_⟩
    rcases a σ hσ with ⟨a1, a2⟩ | ⟨t, n, a1, a2, a3, a4, a5, a6, a7, a8⟩ | r
    · rw [(sh_bare hσ a2).2.2.2.2.2.2] at c; exact absurd c (by decide)
    · rw [(sh_row hσ a1 a6 a7).2.2.2.2.2.2] at c; exact absurd c (by decide)
    · exact r
  · exact absurd c (by decide)
theorem inR_iff {x : Int32} {n : Nat} (hn : n < 2 ^ 31) : inR x n = true ↔ (¬ x < 0 ∧ x < nI n) := by
  constructor
  · intro q
    obtain ⟨j, hj, rfl⟩ := inR_ex hn q
    exact ⟨nI_pos (by omega), (nI_ltI (by omega) hn).mpr hj⟩
  · rintro ⟨a, b⟩
    exact inR_ok hn a (Int32.not_le.mpr b)
theorem setB_row {g : Sg} {σ n : Nat} {i : Int32} (hσ : σ < 8) (e : rfV g (nI σ) = nI 0) (ez : szV g (nI σ) = nI n) (hn : n ≤ 40) : setB g (nI σ) i = inR i n := by
  rw [Bool.eq_iff_iff, inR_iff (by omega)]
  unfold setB
  rw [inN (by omega) hσ, e, ez]
  simp [show nI 0 = (0 : Int32) from rfl]
theorem set_row {g : Sg} {σ n : Nat} {i : Int32} {x : Int64} (hσ : σ < 8) (e : rfV g (nI σ) = nI 0) (ez : szV g (nI σ) = nI n) (hn : n ≤ 40) : setA g (nI σ) i = (if inR i n = true then nI 1 else -2) ∧ setG g (nI σ) i x = (if inR i n = true then pEl g σ i x else g) := by
  unfold setA setG
  rw [setB_row hσ e ez hn, inN (by omega) hσ, e, clN (by omega)]
  exact ⟨rfl, rfl⟩
theorem set_no {g : Sg} {s i : Int32} {x : Int64} (c : ¬ nrA g s = 0) : setA g s i = nrA g s ∧ setG g s i x = g := by
  unfold nrA at c ⊢
  unfold setA setG setB
  by_cases h : inR s 8 = true
  · rw [if_pos h] at c ⊢
    rw [if_pos h, if_neg c]
    exact ⟨rfl, by rw [h, show decide (rfV g s = 0) = false from decide_eq_false c]; rfl⟩
  · rw [if_neg h, if_neg h]
    exact ⟨rfl, by rw [Bool.eq_false_iff.mpr h]; rfl⟩
theorem pEl_row {g : Sg} {σ i n : Nat} {x : Int64} (ez : szV g (nI σ) = nI n) (hi : i < n) (hn : n ≤ 40) : pEl g σ (nI i) x = rowPut g σ i (lowB (gT g σ) x) := by
  unfold pEl
  rw [ez, if_neg (fun z => z.elim (fun q => nI_pos (by omega) q) (fun q => by have := (nI_leI (by omega) (by omega)).mp q; omega)), clN (by omega)]
theorem el_0 {g : Sg} {s i : Int32} (e : szV g s = nI 0) : elV g s i = 0 := by
  unfold elV
  rw [e]
  by_cases h : i < 0
  · rw [if_pos (Or.inl h)]
  · rw [if_pos (Or.inr (show nI 0 ≤ i from Int32.not_lt.mp h))]
theorem sz_out {g : Sg} {s : Int32} (h : inR s 8 = false) : szV g s = nI 0 := by
  unfold szV
  rw [if_neg (fun z => by rw [row_in z] at h; cases h)]
theorem el_row {g : Sg} {σ n : Nat} {i : Int32} (hσ : σ < 8) (ez : szV g (nI σ) = nI n) (hn : n ≤ 40) : elV g (nI σ) i = if inR i n = true then gE g σ i.toNatClampNeg else 0 := by
  unfold elV
  rw [ez, clN (by omega)]
  by_cases h : inR i n = true
  · obtain ⟨a, b⟩ := (inR_iff (by omega)).mp h
    rw [if_pos h, if_neg (fun z => z.elim a (fun q => Int32.not_lt.mpr q b))]
  · rw [if_neg h, if_pos (by
      by_cases a : i < 0
      · exact Or.inl a
      · exact Or.inr (Int32.not_lt.mp (fun b => h ((inR_iff (by omega)).mpr ⟨a, b⟩))))]
theorem hld_b {k : Int32} : decide (¬ k < nI 1 ∧ ¬ nI 5 < k) = btwB k 1 5 := by
  unfold btwB; rw [← Bool.decide_and]
theorem hldB_eq {s k a : Int32} : hldB s k a = (inR s 8 && (btwB k 1 5 && inR a 100)) := by unfold hldB; rw [hld_b]
theorem msh_set {h : Hp} {k σ i t : Nat} {g : Sg} {x : Int64} (a : MshAt h k g) (hσ : σ < 8) (r : MsR h k g σ) (e : gT g σ = nI t) : MshAt (sL h (k + 5 + σ) i (lowB (nI t) x)) k (rowPut g σ i (lowB (gT g σ) x)) := by
  refine msh_els a hσ r (Fr.sL (by omega) (by omega)) (fun j hj => ?_)
  obtain ⟨t', n, a1, a2, a3, a4, a5, a6, a7, a8⟩ := r
  rw [sL_at, a8 j hj, e]
set_option maxHeartbeats 4000000 in
theorem c_X7_fit {l : Launch} {h : Hp} (x : Int32) (v : Int64) : Mp l yX7_fit cX7_fit 3 (some .long) 1 [vi x, vl v] h (vl (lowB x v)) := by
  refine Ms.of (by decide) (Nat.le_of_ble_eq_true rfl) (fun G C X F => ?_)
  have C : Cx G cX7_fit 3 RX7 := C
  show Rr G 0 [(0, vi x), (1, vl v)] [] h
  refine r_iload_n C (dx dX7_fit 0 rfl) rfl ?_
  rcases sw4 x with e9 | e9 | e9 | e9 | ⟨e9, e8⟩
  ·
    subst e9
    refine r_tabIn (off := 31) (tgt := 32) C (dx dX7_fit 1 rfl) (by decide) (by decide) (by decide) (by decide) ?_
    refine r_lload_n C (dx dX7_fit 2 rfl) rfl ?_
    refine r_l2i C (dx dX7_fit 3 rfl) ?_
    refine r_i2b C (dx dX7_fit 4 rfl) ?_
    refine r_i2l C (dx dX7_fit 5 rfl) ?_
    exact F.2.1 _ _ _ _ rfl (dx dX7_fit 6 rfl) rfl ⟨congrArg (fun x => some (vl x)) (show v.toInt32.toInt8.toInt32.toInt64 = lowB (nI 0) v by rfl), rfl⟩
  ·
    subst e9
    refine r_tabIn (off := 36) (tgt := 37) C (dx dX7_fit 1 rfl) (by decide) (by decide) (by decide) (by decide) ?_
    refine r_lload_n C (dx dX7_fit 7 rfl) rfl ?_
    refine r_l2i C (dx dX7_fit 8 rfl) ?_
    refine r_i2s C (dx dX7_fit 9 rfl) ?_
    refine r_i2l C (dx dX7_fit 10 rfl) ?_
    exact F.2.1 _ _ _ _ rfl (dx dX7_fit 11 rfl) rfl ⟨congrArg (fun x => some (vl x)) (show v.toInt32.toInt16.toInt32.toInt64 = lowB (nI 1) v by rfl), rfl⟩
  ·
    subst e9
    refine r_tabIn (off := 41) (tgt := 42) C (dx dX7_fit 1 rfl) (by decide) (by decide) (by decide) (by decide) ?_
    refine r_lload_n C (dx dX7_fit 12 rfl) rfl ?_
    refine r_l2i C (dx dX7_fit 13 rfl) ?_
    refine r_i2l C (dx dX7_fit 14 rfl) ?_
    exact F.2.1 _ _ _ _ rfl (dx dX7_fit 15 rfl) rfl ⟨congrArg (fun x => some (vl x)) (show v.toInt32.toInt64 = lowB (nI 2) v by rfl), rfl⟩
  ·
    subst e9
    refine r_tabIn (off := 45) (tgt := 46) C (dx dX7_fit 1 rfl) (by decide) (by decide) (by decide) (by decide) ?_
    refine r_lload_n C (dx dX7_fit 16 rfl) rfl ?_
    exact F.2.1 _ _ _ _ rfl (dx dX7_fit 17 rfl) rfl ⟨congrArg (fun x => some (vl x)) (show v = lowB (nI 3) v by rfl), rfl⟩
  ·
    refine r_tabOut (tgt := 48) C (dx dX7_fit 1 rfl) e9 (by decide) ?_
    refine r_lload_n C (dx dX7_fit 18 rfl) rfl ?_
    refine r_lconst (v := 0) C (dx dX7_fit 19 rfl) rfl ?_
    refine r_lcmp C (dx dX7_fit 20 rfl) ?_
    refine r_if_eq (tgt := 58) C (dx dX7_fit 21 rfl) (by decide) (fun c1 => ?_) (fun c1 => ?_)
    ·
      have c1 : v = 0 := (lg_cmp_eq _ _).mp c1
      refine r_lconst (v := 0) C (dx dX7_fit 24 rfl) rfl ?_
      exact F.2.1 _ _ _ _ rfl (dx dX7_fit 25 rfl) rfl ⟨congrArg (fun x => some (vl x)) (show 0 = lowB x v by rw [e8]; simp [c1]), rfl⟩
    ·
      have c1 : ¬ (v = 0) := fun q => c1 ((lg_cmp_eq _ _).mpr q)
      refine r_lconst (v := 1) C (dx dX7_fit 22 rfl) rfl ?_
      refine r_goto (tgt := 59) C (dx dX7_fit 23 rfl) (by decide) ?_
      exact F.2.1 _ _ _ _ rfl (dx dX7_fit 25 rfl) rfl ⟨congrArg (fun x => some (vl x)) (show 1 = lowB x v by rw [e8]; simp [c1]), rfl⟩
set_option maxHeartbeats 4000000 in
theorem c_X7_isUnder {l : Launch} {h : Hp} (x y : Int32) : Mp l yX7_isUnder cX7_isUnder 2 (some .boolean) 1 [vi x, vi y] h (vi (b2i (undV x y))) := by
  refine Ms.of (by decide) (Nat.le_of_ble_eq_true rfl) (fun G C X F => ?_)
  have C : Cx G cX7_isUnder 2 RX7 := C
  show Rr G 0 [(0, vi x), (1, vi y)] [] h
  refine r_iload_n C (dx dX7_isUnder 0 rfl) rfl ?_
  refine r_if_eq (tgt := 34) C (dx dX7_isUnder 1 rfl) (by decide) (fun c1 => ?_) (fun c1 => ?_)
  ·
    have c1 : y = 0 := c1
    refine r_iconst (v := nI 1) C (dx dX7_isUnder 20 rfl) rfl ?_
    refine r_goto (tgt := 39) C (dx dX7_isUnder 21 rfl) (by decide) ?_
    exact F.1 _ _ _ _ _ rfl rfl (dx dX7_isUnder 23 rfl) rfl ⟨congrArg (fun x => some (vi x)) (show nI 1 = b2i _ by rw [show (undV x y) = true by (simp_all [undV] <;> exact absurd ‹nI 2 = nI 1› (by decide))]; rfl), rfl⟩
  ·
    have c1 : ¬ y = 0 := c1
    refine r_iload_n C (dx dX7_isUnder 2 rfl) rfl ?_
    refine r_iload_n C (dx dX7_isUnder 3 rfl) rfl ?_
    refine r_icmp_eq (tgt := 34) C (dx dX7_isUnder 4 rfl) (by decide) (fun c2 => ?_) (fun c2 => ?_)
    ·
      have c2 : x = y := c2
      refine r_iconst (v := nI 1) C (dx dX7_isUnder 20 rfl) rfl ?_
      refine r_goto (tgt := 39) C (dx dX7_isUnder 21 rfl) (by decide) ?_
      exact F.1 _ _ _ _ _ rfl rfl (dx dX7_isUnder 23 rfl) rfl ⟨congrArg (fun x => some (vi x)) (show nI 1 = b2i _ by rw [show (undV x y) = true by (simp_all [undV] <;> exact absurd ‹nI 2 = nI 1› (by decide))]; rfl), rfl⟩
    ·
      have c2 : ¬ x = y := c2
      refine r_iload_n C (dx dX7_isUnder 5 rfl) rfl ?_
      refine r_iconst (v := nI 1) C (dx dX7_isUnder 6 rfl) rfl ?_
      refine r_icmp_ne (tgt := 19) C (dx dX7_isUnder 7 rfl) (by decide) (fun c3 => ?_) (fun c3 => ?_)
      ·
        have c3 : ¬ y = nI 1 := c3
        refine r_iload_n C (dx dX7_isUnder 11 rfl) rfl ?_
        refine r_iconst (v := nI 2) C (dx dX7_isUnder 12 rfl) rfl ?_
        refine r_icmp_ne (tgt := 38) C (dx dX7_isUnder 13 rfl) (by decide) (fun c4 => ?_) (fun c4 => ?_)
        ·
          have c4 : ¬ y = nI 2 := c4
          refine r_iconst (v := nI 0) C (dx dX7_isUnder 22 rfl) rfl ?_
          exact F.1 _ _ _ _ _ rfl rfl (dx dX7_isUnder 23 rfl) rfl ⟨congrArg (fun x => some (vi x)) (show nI 0 = b2i _ by rw [show (undV x y) = false by (simp_all [undV] <;> exact absurd ‹nI 2 = nI 1› (by decide))]; rfl), rfl⟩
        ·
          have c4 : y = nI 2 := c4
          refine r_iload_n C (dx dX7_isUnder 14 rfl) rfl ?_
          refine r_iconst (v := nI 3) C (dx dX7_isUnder 15 rfl) rfl ?_
          refine r_icmp_eq (tgt := 34) C (dx dX7_isUnder 16 rfl) (by decide) (fun c5 => ?_) (fun c5 => ?_)
          ·
            have c5 : x = nI 3 := c5
            refine r_iconst (v := nI 1) C (dx dX7_isUnder 20 rfl) rfl ?_
            refine r_goto (tgt := 39) C (dx dX7_isUnder 21 rfl) (by decide) ?_
            exact F.1 _ _ _ _ _ rfl rfl (dx dX7_isUnder 23 rfl) rfl ⟨congrArg (fun x => some (vi x)) (show nI 1 = b2i _ by rw [show (undV x y) = true by (simp_all [undV] <;> exact absurd ‹nI 2 = nI 1› (by decide))]; rfl), rfl⟩
          ·
            have c5 : ¬ x = nI 3 := c5
            refine r_iload_n C (dx dX7_isUnder 17 rfl) rfl ?_
            refine r_iconst (v := nI 4) C (dx dX7_isUnder 18 rfl) rfl ?_
            refine r_icmp_ne (tgt := 38) C (dx dX7_isUnder 19 rfl) (by decide) (fun c6 => ?_) (fun c6 => ?_)
            ·
              have c6 : ¬ x = nI 4 := c6
              refine r_iconst (v := nI 0) C (dx dX7_isUnder 22 rfl) rfl ?_
              exact F.1 _ _ _ _ _ rfl rfl (dx dX7_isUnder 23 rfl) rfl ⟨congrArg (fun x => some (vi x)) (show nI 0 = b2i _ by rw [show (undV x y) = false by (simp_all [undV] <;> exact absurd ‹nI 2 = nI 1› (by decide))]; rfl), rfl⟩
            ·
              have c6 : x = nI 4 := c6
              refine r_iconst (v := nI 1) C (dx dX7_isUnder 20 rfl) rfl ?_
              refine r_goto (tgt := 39) C (dx dX7_isUnder 21 rfl) (by decide) ?_
              exact F.1 _ _ _ _ _ rfl rfl (dx dX7_isUnder 23 rfl) rfl ⟨congrArg (fun x => some (vi x)) (show nI 1 = b2i _ by rw [show (undV x y) = true by (simp_all [undV] <;> exact absurd ‹nI 2 = nI 1› (by decide))]; rfl), rfl⟩
      ·
        have c3 : y = nI 1 := c3
        refine r_iload_n C (dx dX7_isUnder 8 rfl) rfl ?_
        refine r_iconst (v := nI 5) C (dx dX7_isUnder 9 rfl) rfl ?_
        refine r_icmp_eq (tgt := 34) C (dx dX7_isUnder 10 rfl) (by decide) (fun c7 => ?_) (fun c7 => ?_)
        ·
          have c7 : x = nI 5 := c7
          refine r_iconst (v := nI 1) C (dx dX7_isUnder 20 rfl) rfl ?_
          refine r_goto (tgt := 39) C (dx dX7_isUnder 21 rfl) (by decide) ?_
          exact F.1 _ _ _ _ _ rfl rfl (dx dX7_isUnder 23 rfl) rfl ⟨congrArg (fun x => some (vi x)) (show nI 1 = b2i _ by rw [show (undV x y) = true by (simp_all [undV] <;> exact absurd ‹nI 2 = nI 1› (by decide))]; rfl), rfl⟩
        ·
          have c7 : ¬ x = nI 5 := c7
          refine r_iload_n C (dx dX7_isUnder 11 rfl) rfl ?_
          refine r_iconst (v := nI 2) C (dx dX7_isUnder 12 rfl) rfl ?_
          refine r_icmp_ne (tgt := 38) C (dx dX7_isUnder 13 rfl) (by decide) (fun c8 => ?_) (fun c8 => ?_)
          ·
            have c8 : ¬ y = nI 2 := c8
            refine r_iconst (v := nI 0) C (dx dX7_isUnder 22 rfl) rfl ?_
            exact F.1 _ _ _ _ _ rfl rfl (dx dX7_isUnder 23 rfl) rfl ⟨congrArg (fun x => some (vi x)) (show nI 0 = b2i _ by rw [show (undV x y) = false by (simp_all [undV] <;> exact absurd ‹nI 2 = nI 1› (by decide))]; rfl), rfl⟩
          ·
            have c8 : y = nI 2 := c8
            refine r_iload_n C (dx dX7_isUnder 14 rfl) rfl ?_
            refine r_iconst (v := nI 3) C (dx dX7_isUnder 15 rfl) rfl ?_
            refine r_icmp_eq (tgt := 34) C (dx dX7_isUnder 16 rfl) (by decide) (fun c9 => ?_) (fun c9 => ?_)
            ·
              have c9 : x = nI 3 := c9
              refine r_iconst (v := nI 1) C (dx dX7_isUnder 20 rfl) rfl ?_
              refine r_goto (tgt := 39) C (dx dX7_isUnder 21 rfl) (by decide) ?_
              exact F.1 _ _ _ _ _ rfl rfl (dx dX7_isUnder 23 rfl) rfl ⟨congrArg (fun x => some (vi x)) (show nI 1 = b2i _ by rw [show (undV x y) = true by (simp_all [undV] <;> exact absurd ‹nI 2 = nI 1› (by decide))]; rfl), rfl⟩
            ·
              have c9 : ¬ x = nI 3 := c9
              refine r_iload_n C (dx dX7_isUnder 17 rfl) rfl ?_
              refine r_iconst (v := nI 4) C (dx dX7_isUnder 18 rfl) rfl ?_
              refine r_icmp_ne (tgt := 38) C (dx dX7_isUnder 19 rfl) (by decide) (fun c10 => ?_) (fun c10 => ?_)
              ·
                have c10 : ¬ x = nI 4 := c10
                refine r_iconst (v := nI 0) C (dx dX7_isUnder 22 rfl) rfl ?_
                exact F.1 _ _ _ _ _ rfl rfl (dx dX7_isUnder 23 rfl) rfl ⟨congrArg (fun x => some (vi x)) (show nI 0 = b2i _ by rw [show (undV x y) = false by (simp_all [undV] <;> exact absurd ‹nI 2 = nI 1› (by decide))]; rfl), rfl⟩
              ·
                have c10 : x = nI 4 := c10
                refine r_iconst (v := nI 1) C (dx dX7_isUnder 20 rfl) rfl ?_
                refine r_goto (tgt := 39) C (dx dX7_isUnder 21 rfl) (by decide) ?_
                exact F.1 _ _ _ _ _ rfl rfl (dx dX7_isUnder 23 rfl) rfl ⟨congrArg (fun x => some (vi x)) (show nI 1 = b2i _ by rw [show (undV x y) = true by (simp_all [undV] <;> exact absurd ‹nI 2 = nI 1› (by decide))]; rfl), rfl⟩
end
section
/-! PART 29: the reference: rows copied, told days, the tape fed -/
theorem MshAt.mv {h h1 : Hp} {k : Nat} {g : Sg} (a : MshAt h k g) (f : Fr (k + 13) (k + 14) h h1) : MshAt h1 k g := fun s hs => by
  rcases a s hs with ⟨a1, a2⟩ | ⟨t, n, a1, a2, a3, a4, a5, a6, a7, a8⟩ | ⟨κ, b, a1, a2, a3, a4, a5, a6, a7, a8⟩
  · exact Or.inl ⟨(f.I (by omega) _).trans a1, a2⟩
  · exact Or.inr (Or.inl ⟨t, n, a1, a2, (f.I (by omega) _).trans a3, (f.I (by omega) _).trans a4, (f.I (by omega) _).trans a5, a6, a7, fun i hi => (f.L (by omega) i).trans (a8 i hi)⟩)
  · exact Or.inr (Or.inr ⟨κ, b, a1, a2, a3, (f.I (by omega) _).trans a4, (f.I (by omega) _).trans a5, (f.I (by omega) _).trans a6, a7, a8⟩)
theorem MsR.fr {h h1 : Hp} {k s : Nat} {g : Sg} (a : MsR h k g s) (hs : s < 8) (f : Fr (k + 13) (k + 14) h h1) : MsR h1 k g s := by
  obtain ⟨t, n, a1, a2, a3, a4, a5, a6, a7, a8⟩ := a
  exact ⟨t, n, a1, a2, (f.I (by omega) _).trans a3, (f.I (by omega) _).trans a4, (f.I (by omega) _).trans a5, a6, a7, fun i hi => (f.L (by omega) i).trans (a8 i hi)⟩
theorem cp_row {g : Sg} {p q : Int32} {z1 z2 i j n : Nat} (e1 : szV g p = nI z1) (e2 : szV g q = nI z2) (h1 : z1 ≤ 40) (h2 : z2 ≤ 40) (hi : i < 2 ^ 31) (hj : j < 2 ^ 31) (hn : n < 2 ^ 31) : cpOk g p q (nI i) (nI j) (nI n) = decide (i + n ≤ z1 ∧ j + n ≤ z2) := by
  have key : ∀ a z : Nat, a < 2 ^ 31 → z ≤ 40 → (nI a ≤ nI z - nI n ↔ a + n ≤ z) := fun a z ha hz => by
    rw [Int32.le_iff_toInt_le, nI_toInt ha]
    have e2 : (nI z - nI n).toInt = (z : Int) - n := by
      rw [Int32.toInt_sub, nI_toInt (by omega), nI_toInt hn]
      exact Int.bmod_eq_of_le (by omega) (by omega)
    rw [e2]; omega
  unfold cpOk
  rw [e1, e2, decide_eq_true (nI_pos hn), decide_eq_true (nI_pos hi), decide_eq_true (nI_pos hj), decide_eq_decide.mpr (key i z1 hi h1), decide_eq_decide.mpr (key j z2 hj h2), Bool.true_and, Bool.true_and, Bool.true_and, ← Bool.decide_and]
theorem cp2_step {E F G9 : Nat → Int64} {ξ ι p : Nat} (q : ∀ i, i < 40 → E i = if ξ ≤ i ∧ i < ξ + p then F (ι + (i - ξ)) else G9 i) : ∀ i, i < 40 → (if i = ξ + p then F (ι + p) else E i) = if ξ ≤ i ∧ i < ξ + (p + 1) then F (ι + (i - ξ)) else G9 i := fun i hi => by
  by_cases e : i = ξ + p
  · subst e
    rw [if_pos rfl, if_pos ⟨by omega, by omega⟩, show ξ + p - ξ = p by omega]
  · rw [if_neg e, q i hi]
    by_cases c : ξ ≤ i ∧ i < ξ + p
    · rw [if_pos c, if_pos ⟨c.1, by omega⟩]
    · rw [if_neg c, if_neg (by omega)]
theorem tf_no {g : Sg} {s n : Int32} (h1 : inR s 8 = true) (h2 : inR n 21 = true) (c : ¬ nrA g s = 0) : tfV g s n = nrA g s := by
  unfold nrA at c ⊢
  unfold tfV
  rw [if_pos h1] at c ⊢
  rw [if_pos ⟨h1, h2⟩, if_neg c]
theorem tf_row {g : Sg} {σ n z : Nat} (hσ : σ < 8) (hn : n < 21) (e : rfV g (nI σ) = nI 0) (ez : szV g (nI σ) = nI z) (hz : z ≤ 40) : tfV g (nI σ) (nI n) = if n ≤ z then nI 0 else -2 := by
  unfold tfV
  rw [if_pos ⟨inN (by omega) hσ, inN (by omega) hn⟩, e, ez, if_pos (show nI 0 = 0 from rfl)]
  by_cases h : n ≤ z
  · rw [if_pos h, if_pos ((nI_leI (by omega) (by omega)).mpr h)]
  · rw [if_neg h, if_neg (fun q => h ((nI_leI (by omega) (by omega)).mp q))]
theorem tf_ok2 {g : Sg} {s n : Int32} (h : tfV g s n = 0) : ∃ σ, σ < 8 ∧ ∃ ν, ν < 21 ∧ s = nI σ ∧ n = nI ν := by
  unfold tfV at h
  split at h
  · next c =>
    obtain ⟨σ, hσ, rfl⟩ := inR_ex (by omega) c.1
    obtain ⟨ν, hν, rfl⟩ := inR_ex (by omega) c.2
    exact ⟨σ, hσ, ν, hν, rfl, rfl⟩
  · exact absurd h (by decide)
theorem tf_in {g : Sg} {s n : Int32} (h : ¬ (inR s 8 = true ∧ inR n 21 = true)) : tfV g s n = -2 := by unfold tfV; rw [if_neg h]
/-- what feeding changes -/
def TC (k b : Nat) : Prop := b = k ∨ b = k + 16 ∨ b = k + 17
theorem TC.lo {k b : Nat} (q : TC k b) : k ≤ b ∧ b < k + 32 := by unfold TC at q; omega
set_option maxHeartbeats 4000000 in
theorem c_X7_comeOn {l : Launch} {h : Hp} {k : Nat} {v : Vg} (hm : MilAt h k v) {σ i : Nat} (hσ : σ < 8) (hi : i < 40) : Ms l yX7_comeOn cX7_comeOn 3 (some .int) 4 [vr 7 k, vi (nI σ), vi (nI i)] h (xK h) (fun r h' => PI r ∧ h' = h) := by
  refine Ms.of (by decide) (Nat.le_of_ble_eq_true rfl) (fun G C X F => ?_)
  have C : Cx G cX7_comeOn 3 RX7 := C
  show Rr G 0 [(0, vr 7 k), (1, vi (nI σ)), (2, vi (nI i))] [] h
  have bP := hm.bP
  have bM := hm.bM
  have bN := hm.bN
  refine r_aload_n C (dx dX7_comeOn 0 rfl) rfl ?_
  refine g_X7_21 C (dx dX7_comeOn 1 rfl) ?_
  refine r_iload_n C (dx dX7_comeOn 2 rfl) rfl ?_
  refine r_aald5 (j := σ) C rfl rfl (by decide) rfl (by omega) (dx dX7_comeOn 3 rfl) ?_
  refine r_iload_n C (dx dX7_comeOn 4 rfl) rfl ?_
  refine r_lald (j := i) (x := xL h (k + 5 + σ) i) C rfl rfl (by decide) rfl (by omega) (dx dX7_comeOn 5 rfl) rfl ?_
  refine r_l2i C (dx dX7_comeOn 6 rfl) ?_
  refine r_aload_n C (dx dX7_comeOn 7 rfl) rfl ?_
  refine r_cvP (as := []) (st := [vi ((xL h (k + 5 + σ) i).toInt32)]) (v := vi (full (vN v))) C X I_X7_all l_X7_253 (c_X7_all hm) (by decide) (Nat.le_of_ble_eq_true rfl) List.prefix_rfl rfl rfl (Nat.le_of_ble_eq_true rfl) rfl (dx dX7_comeOn 8 rfl) ?_
  refine r_iand C (dx dX7_comeOn 9 rfl) ?_
  refine r_aload_n C (dx dX7_comeOn 10 rfl) rfl ?_
  refine r_cvW (as := []) (st := [vi (((xL h (k + 5 + σ) i).toInt32) &&& (full (vN v)))]) C X I_X7_crossOnes l_X7_322 (c_X7_crossOnes hm) (by decide) (Nat.le_of_ble_eq_true rfl) List.prefix_rfl rfl rfl (Nat.le_of_ble_eq_true rfl) rfl (dx dX7_comeOn 11 rfl) ?_
  rintro _ ⟨x1, rfl⟩
  refine r_iconst (v := -1) C (dx dX7_comeOn 12 rfl) rfl ?_
  refine r_ixor C (dx dX7_comeOn 13 rfl) ?_
  refine r_iand C (dx dX7_comeOn 14 rfl) ?_
  exact F.1 _ _ _ _ .int rfl rfl (dx dX7_comeOn 15 rfl) rfl ⟨⟨_, rfl⟩, rfl⟩
end
