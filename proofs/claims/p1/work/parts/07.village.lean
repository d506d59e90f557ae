/-! PART 07: the class of villages: what only reads -/
set_option maxHeartbeats 4000000 in
theorem c_X5_isPart {l : Launch} {h : Hp} {k : Nat} {v : Vg} (hv : VilAt h k v) (x : Int32) : Mp l yX5_isPart cX5_isPart 2 (some .boolean) 1 [vr 5 k, vi x] h (vi (b2i (inR x (vP v)))) := by
  refine Ms.of (by decide) (Nat.le_of_ble_eq_true rfl) (fun G C X F => ?_)
  have C : Cx G cX5_isPart 2 RX5 := C
  show Rr G 0 [(0, vr 5 k), (1, vi x)] [] h
  have bP := hv.bP
  have bM := hv.bM
  have bN := hv.bN
  refine r_iload_n C (dx dX5_isPart 0 rfl) rfl ?_
  refine r_if_lt (tgt := 16) C (dx dX5_isPart 1 rfl) (by decide) (fun c1 => ?_) (fun c1 => ?_)
  ·
    have c1 : x < 0 := c1
    refine r_iconst (v := nI 0) C (dx dX5_isPart 8 rfl) rfl ?_
    exact F.1 _ _ _ _ _ rfl rfl (dx dX5_isPart 9 rfl) rfl ⟨congrArg (fun x => some (vi x)) (show nI 0 = b2i _ by rw [show (inR x (vP v)) = false by first | exact inR_neg (by assumption) | exact inR_big (by omega) (by assumption) | exact inR_ok (by omega) (by assumption) (by assumption)]; rfl), rfl⟩
  ·
    have c1 : ¬ x < 0 := c1
    refine r_iload_n C (dx dX5_isPart 2 rfl) rfl ?_
    refine r_aload_n C (dx dX5_isPart 3 rfl) rfl ?_
    refine g_X5_9 (x := nI (vP v)) C (dx dX5_isPart 4 rfl) hv.eP ?_
    refine r_icmp_ge (tgt := 16) C (dx dX5_isPart 5 rfl) (by decide) (fun c2 => ?_) (fun c2 => ?_)
    ·
      have c2 : nI (vP v) ≤ x := c2
      refine r_iconst (v := nI 0) C (dx dX5_isPart 8 rfl) rfl ?_
      exact F.1 _ _ _ _ _ rfl rfl (dx dX5_isPart 9 rfl) rfl ⟨congrArg (fun x => some (vi x)) (show nI 0 = b2i _ by rw [show (inR x (vP v)) = false by first | exact inR_neg (by assumption) | exact inR_big (by omega) (by assumption) | exact inR_ok (by omega) (by assumption) (by assumption)]; rfl), rfl⟩
    ·
      have c2 : ¬ nI (vP v) ≤ x := c2
      refine r_iconst (v := nI 1) C (dx dX5_isPart 6 rfl) rfl ?_
      refine r_goto (tgt := 17) C (dx dX5_isPart 7 rfl) (by decide) ?_
      exact F.1 _ _ _ _ _ rfl rfl (dx dX5_isPart 9 rfl) rfl ⟨congrArg (fun x => some (vi x)) (show nI 1 = b2i _ by rw [show (inR x (vP v)) = true by first | exact inR_neg (by assumption) | exact inR_big (by omega) (by assumption) | exact inR_ok (by omega) (by assumption) (by assumption)]; rfl), rfl⟩
set_option maxHeartbeats 4000000 in
theorem c_X5_isMachine {l : Launch} {h : Hp} {k : Nat} {v : Vg} (hv : VilAt h k v) (x : Int32) : Mp l yX5_isMachine cX5_isMachine 2 (some .boolean) 1 [vr 5 k, vi x] h (vi (b2i (inR x (vM v)))) := by
  refine Ms.of (by decide) (Nat.le_of_ble_eq_true rfl) (fun G C X F => ?_)
  have C : Cx G cX5_isMachine 2 RX5 := C
  show Rr G 0 [(0, vr 5 k), (1, vi x)] [] h
  have bP := hv.bP
  have bM := hv.bM
  have bN := hv.bN
  refine r_iload_n C (dx dX5_isMachine 0 rfl) rfl ?_
  refine r_if_lt (tgt := 16) C (dx dX5_isMachine 1 rfl) (by decide) (fun c1 => ?_) (fun c1 => ?_)
  ·
    have c1 : x < 0 := c1
    refine r_iconst (v := nI 0) C (dx dX5_isMachine 8 rfl) rfl ?_
    exact F.1 _ _ _ _ _ rfl rfl (dx dX5_isMachine 9 rfl) rfl ⟨congrArg (fun x => some (vi x)) (show nI 0 = b2i _ by rw [show (inR x (vM v)) = false by first | exact inR_neg (by assumption) | exact inR_big (by omega) (by assumption) | exact inR_ok (by omega) (by assumption) (by assumption)]; rfl), rfl⟩
  ·
    have c1 : ¬ x < 0 := c1
    refine r_iload_n C (dx dX5_isMachine 2 rfl) rfl ?_
    refine r_aload_n C (dx dX5_isMachine 3 rfl) rfl ?_
    refine g_X5_22 (x := nI (vM v)) C (dx dX5_isMachine 4 rfl) hv.eM ?_
    refine r_icmp_ge (tgt := 16) C (dx dX5_isMachine 5 rfl) (by decide) (fun c2 => ?_) (fun c2 => ?_)
    ·
      have c2 : nI (vM v) ≤ x := c2
      refine r_iconst (v := nI 0) C (dx dX5_isMachine 8 rfl) rfl ?_
      exact F.1 _ _ _ _ _ rfl rfl (dx dX5_isMachine 9 rfl) rfl ⟨congrArg (fun x => some (vi x)) (show nI 0 = b2i _ by rw [show (inR x (vM v)) = false by first | exact inR_neg (by assumption) | exact inR_big (by omega) (by assumption) | exact inR_ok (by omega) (by assumption) (by assumption)]; rfl), rfl⟩
    ·
      have c2 : ¬ nI (vM v) ≤ x := c2
      refine r_iconst (v := nI 1) C (dx dX5_isMachine 6 rfl) rfl ?_
      refine r_goto (tgt := 17) C (dx dX5_isMachine 7 rfl) (by decide) ?_
      exact F.1 _ _ _ _ _ rfl rfl (dx dX5_isMachine 9 rfl) rfl ⟨congrArg (fun x => some (vi x)) (show nI 1 = b2i _ by rw [show (inR x (vM v)) = true by first | exact inR_neg (by assumption) | exact inR_big (by omega) (by assumption) | exact inR_ok (by omega) (by assumption) (by assumption)]; rfl), rfl⟩
set_option maxHeartbeats 4000000 in
theorem c_X5_isOne {l : Launch} {h : Hp} {k : Nat} {v : Vg} (hv : VilAt h k v) (x : Int32) : Mp l yX5_isOne cX5_isOne 2 (some .boolean) 1 [vr 5 k, vi x] h (vi (b2i (inR x (vN v)))) := by
  refine Ms.of (by decide) (Nat.le_of_ble_eq_true rfl) (fun G C X F => ?_)
  have C : Cx G cX5_isOne 2 RX5 := C
  show Rr G 0 [(0, vr 5 k), (1, vi x)] [] h
  have bP := hv.bP
  have bM := hv.bM
  have bN := hv.bN
  refine r_iload_n C (dx dX5_isOne 0 rfl) rfl ?_
  refine r_if_lt (tgt := 16) C (dx dX5_isOne 1 rfl) (by decide) (fun c1 => ?_) (fun c1 => ?_)
  ·
    have c1 : x < 0 := c1
    refine r_iconst (v := nI 0) C (dx dX5_isOne 8 rfl) rfl ?_
    exact F.1 _ _ _ _ _ rfl rfl (dx dX5_isOne 9 rfl) rfl ⟨congrArg (fun x => some (vi x)) (show nI 0 = b2i _ by rw [show (inR x (vN v)) = false by first | exact inR_neg (by assumption) | exact inR_big (by omega) (by assumption) | exact inR_ok (by omega) (by assumption) (by assumption)]; rfl), rfl⟩
  ·
    have c1 : ¬ x < 0 := c1
    refine r_iload_n C (dx dX5_isOne 2 rfl) rfl ?_
    refine r_aload_n C (dx dX5_isOne 3 rfl) rfl ?_
    refine g_X5_31 (x := nI (vN v)) C (dx dX5_isOne 4 rfl) hv.eN ?_
    refine r_icmp_ge (tgt := 16) C (dx dX5_isOne 5 rfl) (by decide) (fun c2 => ?_) (fun c2 => ?_)
    ·
      have c2 : nI (vN v) ≤ x := c2
      refine r_iconst (v := nI 0) C (dx dX5_isOne 8 rfl) rfl ?_
      exact F.1 _ _ _ _ _ rfl rfl (dx dX5_isOne 9 rfl) rfl ⟨congrArg (fun x => some (vi x)) (show nI 0 = b2i _ by rw [show (inR x (vN v)) = false by first | exact inR_neg (by assumption) | exact inR_big (by omega) (by assumption) | exact inR_ok (by omega) (by assumption) (by assumption)]; rfl), rfl⟩
    ·
      have c2 : ¬ nI (vN v) ≤ x := c2
      refine r_iconst (v := nI 1) C (dx dX5_isOne 6 rfl) rfl ?_
      refine r_goto (tgt := 17) C (dx dX5_isOne 7 rfl) (by decide) ?_
      exact F.1 _ _ _ _ _ rfl rfl (dx dX5_isOne 9 rfl) rfl ⟨congrArg (fun x => some (vi x)) (show nI 1 = b2i _ by rw [show (inR x (vN v)) = true by first | exact inR_neg (by assumption) | exact inR_big (by omega) (by assumption) | exact inR_ok (by omega) (by assumption) (by assumption)]; rfl), rfl⟩
set_option maxHeartbeats 4000000 in
theorem c_X5_allParts {l : Launch} {h : Hp} {k : Nat} {v : Vg} (hv : VilAt h k v)  : Mp l yX5_allParts cX5_allParts 1 (some .int) 1 [vr 5 k] h (vi (full (vP v))) := by
  refine Ms.of (by decide) (Nat.le_of_ble_eq_true rfl) (fun G C X F => ?_)
  have C : Cx G cX5_allParts 1 RX5 := C
  show Rr G 0 [(0, vr 5 k)] [] h
  have bP := hv.bP
  have bM := hv.bM
  have bN := hv.bN
  refine r_iconst (v := nI 1) C (dx dX5_allParts 0 rfl) rfl ?_
  refine r_aload_n C (dx dX5_allParts 1 rfl) rfl ?_
  refine g_X5_9 (x := nI (vP v)) C (dx dX5_allParts 2 rfl) hv.eP ?_
  refine r_ishl C (dx dX5_allParts 3 rfl) ?_
  refine r_iconst (v := nI 1) C (dx dX5_allParts 4 rfl) rfl ?_
  refine r_isub C (dx dX5_allParts 5 rfl) ?_
  exact F.1 _ _ _ _ _ rfl rfl (dx dX5_allParts 6 rfl) rfl ⟨congrArg (fun x => some (vi x)) (show ((nI 1) <<< ((nI (vP v)) &&& 31)) - (nI 1) = full (vP v) by exact full_sh (by omega)), rfl⟩
set_option maxHeartbeats 4000000 in
theorem c_X5_allMachines {l : Launch} {h : Hp} {k : Nat} {v : Vg} (hv : VilAt h k v)  : Mp l yX5_allMachines cX5_allMachines 1 (some .int) 1 [vr 5 k] h (vi (full (vM v))) := by
  refine Ms.of (by decide) (Nat.le_of_ble_eq_true rfl) (fun G C X F => ?_)
  have C : Cx G cX5_allMachines 1 RX5 := C
  show Rr G 0 [(0, vr 5 k)] [] h
  have bP := hv.bP
  have bM := hv.bM
  have bN := hv.bN
  refine r_iconst (v := nI 1) C (dx dX5_allMachines 0 rfl) rfl ?_
  refine r_aload_n C (dx dX5_allMachines 1 rfl) rfl ?_
  refine g_X5_22 (x := nI (vM v)) C (dx dX5_allMachines 2 rfl) hv.eM ?_
  refine r_ishl C (dx dX5_allMachines 3 rfl) ?_
  refine r_iconst (v := nI 1) C (dx dX5_allMachines 4 rfl) rfl ?_
  refine r_isub C (dx dX5_allMachines 5 rfl) ?_
  exact F.1 _ _ _ _ _ rfl rfl (dx dX5_allMachines 6 rfl) rfl ⟨congrArg (fun x => some (vi x)) (show ((nI 1) <<< ((nI (vM v)) &&& 31)) - (nI 1) = full (vM v) by exact full_sh (by omega)), rfl⟩
set_option maxHeartbeats 4000000 in
theorem c_X5_allPeople {l : Launch} {h : Hp} {k : Nat} {v : Vg} (hv : VilAt h k v)  : Mp l yX5_allPeople cX5_allPeople 1 (some .int) 1 [vr 5 k] h (vi (full (vN v))) := by
  refine Ms.of (by decide) (Nat.le_of_ble_eq_true rfl) (fun G C X F => ?_)
  have C : Cx G cX5_allPeople 1 RX5 := C
  show Rr G 0 [(0, vr 5 k)] [] h
  have bP := hv.bP
  have bM := hv.bM
  have bN := hv.bN
  refine r_iconst (v := nI 1) C (dx dX5_allPeople 0 rfl) rfl ?_
  refine r_aload_n C (dx dX5_allPeople 1 rfl) rfl ?_
  refine g_X5_31 (x := nI (vN v)) C (dx dX5_allPeople 2 rfl) hv.eN ?_
  refine r_ishl C (dx dX5_allPeople 3 rfl) ?_
  refine r_iconst (v := nI 1) C (dx dX5_allPeople 4 rfl) rfl ?_
  refine r_isub C (dx dX5_allPeople 5 rfl) ?_
  exact F.1 _ _ _ _ _ rfl rfl (dx dX5_allPeople 6 rfl) rfl ⟨congrArg (fun x => some (vi x)) (show ((nI 1) <<< ((nI (vN v)) &&& 31)) - (nI 1) = full (vN v) by exact full_sh (by omega)), rfl⟩
set_option maxHeartbeats 4000000 in
theorem c_X5_isSetOfParts {l : Launch} {h : Hp} {k : Nat} {v : Vg} (hv : VilAt h k v) (x : Int32) : Mp l yX5_isSetOfParts cX5_isSetOfParts 2 (some .boolean) 2 [vr 5 k, vi x] h (vi (b2i (inR x (2 ^ vP v)))) := by
  refine Ms.of (by decide) (Nat.le_of_ble_eq_true rfl) (fun G C X F => ?_)
  have C : Cx G cX5_isSetOfParts 2 RX5 := C
  show Rr G 0 [(0, vr 5 k), (1, vi x)] [] h
  have bP := hv.bP
  have bM := hv.bM
  have bN := hv.bN
  refine r_iload_n C (dx dX5_isSetOfParts 0 rfl) rfl ?_
  refine r_aload_n C (dx dX5_isSetOfParts 1 rfl) rfl ?_
  refine r_cvP (as := []) (st := [vi x]) (v := vi (full (vP v))) C X I_X5_allParts l_X5_60 (c_X5_allParts hv) (by decide) (Nat.le_of_ble_eq_true rfl) List.prefix_rfl rfl rfl (Nat.le_of_ble_eq_true rfl) rfl (dx dX5_isSetOfParts 2 rfl) ?_
  refine r_iconst (v := -1) C (dx dX5_isSetOfParts 3 rfl) rfl ?_
  refine r_ixor C (dx dX5_isSetOfParts 4 rfl) ?_
  refine r_iand C (dx dX5_isSetOfParts 5 rfl) ?_
  refine r_if_ne (tgt := 15) C (dx dX5_isSetOfParts 6 rfl) (by decide) (fun c1 => ?_) (fun c1 => ?_)
  ·
    have c1 : ¬ x &&& ((full (vP v)) ^^^ (-1)) = 0 := c1
    refine r_iconst (v := nI 0) C (dx dX5_isSetOfParts 9 rfl) rfl ?_
    exact F.1 _ _ _ _ _ rfl rfl (dx dX5_isSetOfParts 10 rfl) rfl ⟨congrArg (fun x => some (vi x)) (show nI 0 = b2i _ by rw [show (inR x (2 ^ vP v)) = false by (first | exact (sub_full (by omega)).mp (by assumption) | exact Bool.eq_false_iff.mpr (fun q => absurd ((sub_full (by omega)).mpr q) (by assumption)))]; rfl), rfl⟩
  ·
    have c1 : x &&& ((full (vP v)) ^^^ (-1)) = 0 := c1
    refine r_iconst (v := nI 1) C (dx dX5_isSetOfParts 7 rfl) rfl ?_
    refine r_goto (tgt := 16) C (dx dX5_isSetOfParts 8 rfl) (by decide) ?_
    exact F.1 _ _ _ _ _ rfl rfl (dx dX5_isSetOfParts 10 rfl) rfl ⟨congrArg (fun x => some (vi x)) (show nI 1 = b2i _ by rw [show (inR x (2 ^ vP v)) = true by (first | exact (sub_full (by omega)).mp (by assumption) | exact Bool.eq_false_iff.mpr (fun q => absurd ((sub_full (by omega)).mpr q) (by assumption)))]; rfl), rfl⟩
set_option maxHeartbeats 4000000 in
theorem c_X5_isSetOfPeople {l : Launch} {h : Hp} {k : Nat} {v : Vg} (hv : VilAt h k v) (x : Int32) : Mp l yX5_isSetOfPeople cX5_isSetOfPeople 2 (some .boolean) 2 [vr 5 k, vi x] h (vi (b2i (inR x (2 ^ vN v)))) := by
  refine Ms.of (by decide) (Nat.le_of_ble_eq_true rfl) (fun G C X F => ?_)
  have C : Cx G cX5_isSetOfPeople 2 RX5 := C
  show Rr G 0 [(0, vr 5 k), (1, vi x)] [] h
  have bP := hv.bP
  have bM := hv.bM
  have bN := hv.bN
  refine r_iload_n C (dx dX5_isSetOfPeople 0 rfl) rfl ?_
  refine r_aload_n C (dx dX5_isSetOfPeople 1 rfl) rfl ?_
  refine r_cvP (as := []) (st := [vi x]) (v := vi (full (vN v))) C X I_X5_allPeople l_X5_64 (c_X5_allPeople hv) (by decide) (Nat.le_of_ble_eq_true rfl) List.prefix_rfl rfl rfl (Nat.le_of_ble_eq_true rfl) rfl (dx dX5_isSetOfPeople 2 rfl) ?_
  refine r_iconst (v := -1) C (dx dX5_isSetOfPeople 3 rfl) rfl ?_
  refine r_ixor C (dx dX5_isSetOfPeople 4 rfl) ?_
  refine r_iand C (dx dX5_isSetOfPeople 5 rfl) ?_
  refine r_if_ne (tgt := 15) C (dx dX5_isSetOfPeople 6 rfl) (by decide) (fun c1 => ?_) (fun c1 => ?_)
  ·
    have c1 : ¬ x &&& ((full (vN v)) ^^^ (-1)) = 0 := c1
    refine r_iconst (v := nI 0) C (dx dX5_isSetOfPeople 9 rfl) rfl ?_
    exact F.1 _ _ _ _ _ rfl rfl (dx dX5_isSetOfPeople 10 rfl) rfl ⟨congrArg (fun x => some (vi x)) (show nI 0 = b2i _ by rw [show (inR x (2 ^ vN v)) = false by (first | exact (sub_full (by omega)).mp (by assumption) | exact Bool.eq_false_iff.mpr (fun q => absurd ((sub_full (by omega)).mpr q) (by assumption)))]; rfl), rfl⟩
  ·
    have c1 : x &&& ((full (vN v)) ^^^ (-1)) = 0 := c1
    refine r_iconst (v := nI 1) C (dx dX5_isSetOfPeople 7 rfl) rfl ?_
    refine r_goto (tgt := 16) C (dx dX5_isSetOfPeople 8 rfl) (by decide) ?_
    exact F.1 _ _ _ _ _ rfl rfl (dx dX5_isSetOfPeople 10 rfl) rfl ⟨congrArg (fun x => some (vi x)) (show nI 1 = b2i _ by rw [show (inR x (2 ^ vN v)) = true by (first | exact (sub_full (by omega)).mp (by assumption) | exact Bool.eq_false_iff.mpr (fun q => absurd ((sub_full (by omega)).mpr q) (by assumption)))]; rfl), rfl⟩
set_option maxHeartbeats 4000000 in
theorem c_X5_isIn {l : Launch} {h : Hp} (s o : Int32) : Mp l yX5_isIn cX5_isIn 2 (some .boolean) 1 [vi s, vi o] h (vi (b2i (inB s o))) := by
  refine Ms.of (by decide) (Nat.le_of_ble_eq_true rfl) (fun G C X F => ?_)
  have C : Cx G cX5_isIn 2 RX5 := C
  show Rr G 0 [(0, vi s), (1, vi o)] [] h
  refine r_iload_n C (dx dX5_isIn 0 rfl) rfl ?_
  refine r_iconst (v := -1) C (dx dX5_isIn 1 rfl) rfl ?_
  refine r_icmp_eq (tgt := 17) C (dx dX5_isIn 2 rfl) (by decide) (fun c1 => ?_) (fun c1 => ?_)
  ·
    have c1 : o = -1 := c1
    refine r_iconst (v := nI 0) C (dx dX5_isIn 11 rfl) rfl ?_
    exact F.1 _ _ _ _ _ rfl rfl (dx dX5_isIn 12 rfl) rfl ⟨congrArg (fun x => some (vi x)) (show nI 0 = b2i _ by rw [show (inB s o) = false by simp_all [inB]]; rfl), rfl⟩
  ·
    have c1 : ¬ o = -1 := c1
    refine r_iload_n C (dx dX5_isIn 3 rfl) rfl ?_
    refine r_iconst (v := nI 1) C (dx dX5_isIn 4 rfl) rfl ?_
    refine r_iload_n C (dx dX5_isIn 5 rfl) rfl ?_
    refine r_ishl C (dx dX5_isIn 6 rfl) ?_
    refine r_iand C (dx dX5_isIn 7 rfl) ?_
    refine r_if_eq (tgt := 17) C (dx dX5_isIn 8 rfl) (by decide) (fun c2 => ?_) (fun c2 => ?_)
    ·
      have c2 : s &&& ((nI 1) <<< (o &&& 31)) = 0 := c2
      refine r_iconst (v := nI 0) C (dx dX5_isIn 11 rfl) rfl ?_
      exact F.1 _ _ _ _ _ rfl rfl (dx dX5_isIn 12 rfl) rfl ⟨congrArg (fun x => some (vi x)) (show nI 0 = b2i _ by rw [show (inB s o) = false by simp_all [inB]]; rfl), rfl⟩
    ·
      have c2 : ¬ s &&& ((nI 1) <<< (o &&& 31)) = 0 := c2
      refine r_iconst (v := nI 1) C (dx dX5_isIn 9 rfl) rfl ?_
      refine r_goto (tgt := 18) C (dx dX5_isIn 10 rfl) (by decide) ?_
      exact F.1 _ _ _ _ _ rfl rfl (dx dX5_isIn 12 rfl) rfl ⟨congrArg (fun x => some (vi x)) (show nI 1 = b2i _ by rw [show (inB s o) = true by simp_all [inB]]; rfl), rfl⟩
set_option maxHeartbeats 4000000 in
theorem c_X5_isPair {l : Launch} {h : Hp} {k : Nat} {v : Vg} (hv : VilAt h k v) (x y : Int32) : Mp l yX5_isPair cX5_isPair 3 (some .boolean) 2 [vr 5 k, vi x, vi y] h (vi (b2i (pairV v x y))) := by
  refine Ms.of (by decide) (Nat.le_of_ble_eq_true rfl) (fun G C X F => ?_)
  have C : Cx G cX5_isPair 3 RX5 := C
  show Rr G 0 [(0, vr 5 k), (1, vi x), (2, vi y)] [] h
  have bP := hv.bP
  have bM := hv.bM
  have bN := hv.bN
  refine r_aload_n C (dx dX5_isPair 0 rfl) rfl ?_
  refine r_iload_n C (dx dX5_isPair 1 rfl) rfl ?_
  refine r_cvP (as := [vi x]) (st := []) (v := vi (b2i (inR x (vM v)))) C X I_X5_isMachine l_X5_56 (c_X5_isMachine hv _) (by decide) (Nat.le_of_ble_eq_true rfl) List.prefix_rfl rfl rfl (Nat.le_of_ble_eq_true rfl) rfl (dx dX5_isPair 2 rfl) ?_
  refine rb_eq (b := inR x (vM v)) (tgt := 25) C (dx dX5_isPair 3 rfl) (by decide) (fun c1 => ?_) (fun c1 => ?_)
  ·
    have c1 : (inR x (vM v)) = false := c1
    refine r_iconst (v := nI 0) C (dx dX5_isPair 13 rfl) rfl ?_
    exact F.1 _ _ _ _ _ rfl rfl (dx dX5_isPair 14 rfl) rfl ⟨congrArg (fun x => some (vi x)) (show nI 0 = b2i _ by rw [show (pairV v x y) = false by simp_all [pairV]]; rfl), rfl⟩
  ·
    have c1 : (inR x (vM v)) = true := c1
    refine r_aload_n C (dx dX5_isPair 4 rfl) rfl ?_
    refine r_iload_n C (dx dX5_isPair 5 rfl) rfl ?_
    refine r_cvP (as := [vi y]) (st := []) (v := vi (b2i (inR y (vM v)))) C X I_X5_isMachine l_X5_56 (c_X5_isMachine hv _) (by decide) (Nat.le_of_ble_eq_true rfl) List.prefix_rfl rfl rfl (Nat.le_of_ble_eq_true rfl) rfl (dx dX5_isPair 6 rfl) ?_
    refine rb_eq (b := inR y (vM v)) (tgt := 25) C (dx dX5_isPair 7 rfl) (by decide) (fun c2 => ?_) (fun c2 => ?_)
    ·
      have c2 : (inR y (vM v)) = false := c2
      refine r_iconst (v := nI 0) C (dx dX5_isPair 13 rfl) rfl ?_
      exact F.1 _ _ _ _ _ rfl rfl (dx dX5_isPair 14 rfl) rfl ⟨congrArg (fun x => some (vi x)) (show nI 0 = b2i _ by rw [show (pairV v x y) = false by simp_all [pairV]]; rfl), rfl⟩
    ·
      have c2 : (inR y (vM v)) = true := c2
      refine r_iload_n C (dx dX5_isPair 8 rfl) rfl ?_
      refine r_iload_n C (dx dX5_isPair 9 rfl) rfl ?_
      refine r_icmp_eq (tgt := 25) C (dx dX5_isPair 10 rfl) (by decide) (fun c3 => ?_) (fun c3 => ?_)
      ·
        have c3 : x = y := c3
        refine r_iconst (v := nI 0) C (dx dX5_isPair 13 rfl) rfl ?_
        exact F.1 _ _ _ _ _ rfl rfl (dx dX5_isPair 14 rfl) rfl ⟨congrArg (fun x => some (vi x)) (show nI 0 = b2i _ by rw [show (pairV v x y) = false by simp_all [pairV]]; rfl), rfl⟩
      ·
        have c3 : ¬ x = y := c3
        refine r_iconst (v := nI 1) C (dx dX5_isPair 11 rfl) rfl ?_
        refine r_goto (tgt := 26) C (dx dX5_isPair 12 rfl) (by decide) ?_
        exact F.1 _ _ _ _ _ rfl rfl (dx dX5_isPair 14 rfl) rfl ⟨congrArg (fun x => some (vi x)) (show nI 1 = b2i _ by rw [show (pairV v x y) = true by simp_all [pairV]]; rfl), rfl⟩
set_option maxHeartbeats 4000000 in
theorem c_X5_crossPeople {l : Launch} {h : Hp} {k : Nat} {v : Vg} (hv : VilAt h k v)  : Mp l yX5_crossPeople cX5_crossPeople 3 (some .int) 1 [vr 5 k] h (vi (crs v)) := by
  refine Ms.of (by decide) (Nat.le_of_ble_eq_true rfl) (fun G C X F => ?_)
  have C : Cx G cX5_crossPeople 3 RX5 := C
  show Rr G 0 [(0, vr 5 k)] [] h
  have bP := hv.bP
  have bM := hv.bM
  have bN := hv.bN
  refine r_iconst (v := nI 0) C (dx dX5_crossPeople 0 rfl) rfl ?_
  refine r_istore_n (ls' := [(0, vr 5 k), (1, vi (nI 0))]) C (dx dX5_crossPeople 1 rfl) (by decide) [1, 0] rfl ?_
  refine r_iconst (v := nI 0) C (dx dX5_crossPeople 2 rfl) rfl ?_
  refine r_istore_n (ls' := [(0, vr 5 k), (1, vi (nI 0)), (2, vi (nI 0))]) C (dx dX5_crossPeople 3 rfl) (by decide) [1, 2, 0] rfl ?_
  refine loopU (Φ := fun p => Rr G 4 [(0, vr 5 k), (1, vi (bset (fun o => decide (¬ vF v 6 o = 0)) p)), (2, vi (nI p))] [] h) (N := vN v) ?_ ?_ 0 (Nat.zero_le _)
  ·
    refine r_iload_n C (dx dX5_crossPeople 4 rfl) rfl ?_
    refine r_aload_n C (dx dX5_crossPeople 5 rfl) rfl ?_
    refine g_X5_31 (x := nI (vN v)) C (dx dX5_crossPeople 6 rfl) hv.eN ?_
    refine rn_ge (a := vN v) (b := vN v) (tgt := 33) C (by omega) (by omega) (dx dX5_crossPeople 7 rfl) (by decide) (fun c1 => ?_) (fun c1 => ?_)
    · first
      | (omega; done)
      | (
          have c1 : vN v ≤ vN v := c1
          refine r_iload_n C (dx dX5_crossPeople 21 rfl) rfl ?_
          exact F.1 _ _ _ _ _ rfl rfl (dx dX5_crossPeople 22 rfl) rfl ⟨congrArg (fun x => some (vi x)) (show bset (fun o => decide (¬ vF v 6 o = 0)) (vN v) = crs v by rfl), rfl⟩)
    · first
      | (omega; done)
      | (
          have c1 : vN v < vN v := c1
          refine r_aload_n C (dx dX5_crossPeople 8 rfl) rfl ?_
          refine g_X5_40 C (dx dX5_crossPeople 9 rfl) ?_
          refine r_iload_n C (dx dX5_crossPeople 10 rfl) rfl ?_
          refine r_zald (j := vN v) (x := vF v 6 (vN v)) C rfl rfl (by decide) rfl (by omega) (dx dX5_crossPeople 11 rfl) (hv.e6 (by omega)) ?_
          refine r_if_eq (tgt := 27) C (dx dX5_crossPeople 12 rfl) (by decide) (fun c2 => ?_) (fun c2 => ?_)
          ·
            have c2 : vF v 6 (vN v) = 0 := c2
            refine rn_iinc (a := vN v) (k := 1) (ls' := [(0, vr 5 k), (1, vi (bset (fun o => decide (¬ vF v 6 o = 0)) (vN v))), (2, vi (nI (vN v + 1)))]) C (dx dX5_crossPeople 19 rfl) rfl rfl (by decide) [1, 2, 0] rfl ?_
            refine r_goto (tgt := 4) C (dx dX5_crossPeople 20 rfl) (by decide) ?_
            have e9 : bset (fun o => decide (¬ vF v 6 o = 0)) (vN v) = bset (fun o => decide (¬ vF v 6 o = 0)) (vN v + 1) := by simp [bset, c1, c2]
            rw [e9]
            exact ih
          ·
            have c2 : ¬ vF v 6 (vN v) = 0 := c2
            refine r_iload_n C (dx dX5_crossPeople 13 rfl) rfl ?_
            refine r_iconst (v := nI 1) C (dx dX5_crossPeople 14 rfl) rfl ?_
            refine r_iload_n C (dx dX5_crossPeople 15 rfl) rfl ?_
            refine r_ishl C (dx dX5_crossPeople 16 rfl) ?_
            refine r_ior C (dx dX5_crossPeople 17 rfl) ?_
            refine r_istore_n (ls' := [(0, vr 5 k), (1, vi ((bset (fun o => decide (¬ vF v 6 o = 0)) (vN v)) ||| ((nI 1) <<< ((nI (vN v)) &&& 31)))), (2, vi (nI (vN v)))]) C (dx dX5_crossPeople 18 rfl) (by decide) [1, 0, 2] rfl ?_
            refine rn_iinc (a := vN v) (k := 1) (ls' := [(0, vr 5 k), (1, vi ((bset (fun o => decide (¬ vF v 6 o = 0)) (vN v)) ||| ((nI 1) <<< ((nI (vN v)) &&& 31)))), (2, vi (nI (vN v + 1)))]) C (dx dX5_crossPeople 19 rfl) rfl rfl (by decide) [1, 2, 0] rfl ?_
            refine r_goto (tgt := 4) C (dx dX5_crossPeople 20 rfl) (by decide) ?_
            have e9 : (bset (fun o => decide (¬ vF v 6 o = 0)) (vN v)) ||| ((nI 1) <<< ((nI (vN v)) &&& 31)) = bset (fun o => decide (¬ vF v 6 o = 0)) (vN v + 1) := by simp [bset, c1, c2]
            rw [e9]
            exact ih)
  ·
    intro p hp ih
    refine r_iload_n C (dx dX5_crossPeople 4 rfl) rfl ?_
    refine r_aload_n C (dx dX5_crossPeople 5 rfl) rfl ?_
    refine g_X5_31 (x := nI (vN v)) C (dx dX5_crossPeople 6 rfl) hv.eN ?_
    refine rn_ge (a := p) (b := vN v) (tgt := 33) C (by omega) (by omega) (dx dX5_crossPeople 7 rfl) (by decide) (fun c3 => ?_) (fun c3 => ?_)
    · first
      | (omega; done)
      | (
          have c3 : vN v ≤ p := c3
          refine r_iload_n C (dx dX5_crossPeople 21 rfl) rfl ?_
          exact F.1 _ _ _ _ _ rfl rfl (dx dX5_crossPeople 22 rfl) rfl ⟨congrArg (fun x => some (vi x)) (show bset (fun o => decide (¬ vF v 6 o = 0)) p = crs v by rfl), rfl⟩)
    · first
      | (omega; done)
      | (
          have c3 : p < vN v := c3
          refine r_aload_n C (dx dX5_crossPeople 8 rfl) rfl ?_
          refine g_X5_40 C (dx dX5_crossPeople 9 rfl) ?_
          refine r_iload_n C (dx dX5_crossPeople 10 rfl) rfl ?_
          refine r_zald (j := p) (x := vF v 6 p) C rfl rfl (by decide) rfl (by omega) (dx dX5_crossPeople 11 rfl) (hv.e6 (by omega)) ?_
          refine r_if_eq (tgt := 27) C (dx dX5_crossPeople 12 rfl) (by decide) (fun c4 => ?_) (fun c4 => ?_)
          ·
            have c4 : vF v 6 p = 0 := c4
            refine rn_iinc (a := p) (k := 1) (ls' := [(0, vr 5 k), (1, vi (bset (fun o => decide (¬ vF v 6 o = 0)) p)), (2, vi (nI (p + 1)))]) C (dx dX5_crossPeople 19 rfl) rfl rfl (by decide) [1, 2, 0] rfl ?_
            refine r_goto (tgt := 4) C (dx dX5_crossPeople 20 rfl) (by decide) ?_
            have e9 : bset (fun o => decide (¬ vF v 6 o = 0)) p = bset (fun o => decide (¬ vF v 6 o = 0)) (p + 1) := by simp [bset, c3, c4]
            rw [e9]
            exact ih
          ·
            have c4 : ¬ vF v 6 p = 0 := c4
            refine r_iload_n C (dx dX5_crossPeople 13 rfl) rfl ?_
            refine r_iconst (v := nI 1) C (dx dX5_crossPeople 14 rfl) rfl ?_
            refine r_iload_n C (dx dX5_crossPeople 15 rfl) rfl ?_
            refine r_ishl C (dx dX5_crossPeople 16 rfl) ?_
            refine r_ior C (dx dX5_crossPeople 17 rfl) ?_
            refine r_istore_n (ls' := [(0, vr 5 k), (1, vi ((bset (fun o => decide (¬ vF v 6 o = 0)) p) ||| ((nI 1) <<< ((nI p) &&& 31)))), (2, vi (nI p))]) C (dx dX5_crossPeople 18 rfl) (by decide) [1, 0, 2] rfl ?_
            refine rn_iinc (a := p) (k := 1) (ls' := [(0, vr 5 k), (1, vi ((bset (fun o => decide (¬ vF v 6 o = 0)) p) ||| ((nI 1) <<< ((nI p) &&& 31)))), (2, vi (nI (p + 1)))]) C (dx dX5_crossPeople 19 rfl) rfl rfl (by decide) [1, 2, 0] rfl ?_
            refine r_goto (tgt := 4) C (dx dX5_crossPeople 20 rfl) (by decide) ?_
            have e9 : (bset (fun o => decide (¬ vF v 6 o = 0)) p) ||| ((nI 1) <<< ((nI p) &&& 31)) = bset (fun o => decide (¬ vF v 6 o = 0)) (p + 1) := by simp [bset, c3, c4]
            rw [e9]
            exact ih)
set_option maxHeartbeats 4000000 in
theorem c_X5_piecesOf {l : Launch} {h : Hp} {k : Nat} {v : Vg} (hv : VilAt h k v) (o : Int32) : Mp l yX5_piecesOf cX5_piecesOf 4 (some .int) 1 [vr 5 k, vi o] h (vi (nI (pcs v o (vP v)))) := by
  refine Ms.of (by decide) (Nat.le_of_ble_eq_true rfl) (fun G C X F => ?_)
  have C : Cx G cX5_piecesOf 4 RX5 := C
  show Rr G 0 [(0, vr 5 k), (1, vi o)] [] h
  have bP := hv.bP
  have bM := hv.bM
  have bN := hv.bN
  refine r_iconst (v := nI 0) C (dx dX5_piecesOf 0 rfl) rfl ?_
  refine r_istore_n (ls' := [(0, vr 5 k), (1, vi o), (2, vi (nI 0))]) C (dx dX5_piecesOf 1 rfl) (by decide) [1, 2, 0] rfl ?_
  refine r_iconst (v := nI 0) C (dx dX5_piecesOf 2 rfl) rfl ?_
  refine r_istore_n (ls' := [(0, vr 5 k), (1, vi o), (2, vi (nI 0)), (3, vi (nI 0))]) C (dx dX5_piecesOf 3 rfl) (by decide) [1, 2, 3, 0] rfl ?_
  refine loopU (Φ := fun p => Rr G 4 [(0, vr 5 k), (1, vi o), (2, vi (nI (pcs v o p))), (3, vi (nI p))] [] h) (N := vP v) ?_ ?_ 0 (Nat.zero_le _)
  ·
    refine r_iload_n C (dx dX5_piecesOf 4 rfl) rfl ?_
    refine r_aload_n C (dx dX5_piecesOf 5 rfl) rfl ?_
    refine g_X5_9 (x := nI (vP v)) C (dx dX5_piecesOf 6 rfl) hv.eP ?_
    refine rn_ge (a := vP v) (b := vP v) (tgt := 44) C (by omega) (by omega) (dx dX5_piecesOf 7 rfl) (by decide) (fun c1 => ?_) (fun c1 => ?_)
    · first
      | (omega; done)
      | (
          have c1 : vP v ≤ vP v := c1
          refine r_iload_n C (dx dX5_piecesOf 24 rfl) rfl ?_
          exact F.1 _ _ _ _ _ rfl rfl (dx dX5_piecesOf 25 rfl) rfl ⟨congrArg (fun x => some (vi x)) rfl, rfl⟩)
    · first
      | (omega; done)
      | (
          have c1 : vP v < vP v := c1
          refine r_aload_n C (dx dX5_piecesOf 8 rfl) rfl ?_
          refine g_X5_15 C (dx dX5_piecesOf 9 rfl) ?_
          refine r_iload_n C (dx dX5_piecesOf 10 rfl) rfl ?_
          refine r_iald (j := vP v) (x := vF v 0 (vP v)) C rfl rfl (by decide) rfl (by omega) (dx dX5_piecesOf 11 rfl) (hv.e0 (by omega)) ?_
          refine r_iload_n C (dx dX5_piecesOf 12 rfl) rfl ?_
          refine r_icmp_ne (tgt := 25) C (dx dX5_piecesOf 13 rfl) (by decide) (fun c2 => ?_) (fun c2 => ?_)
          ·
            have c2 : ¬ vF v 0 (vP v) = o := c2
            refine r_aload_n C (dx dX5_piecesOf 15 rfl) rfl ?_
            refine g_X5_19 C (dx dX5_piecesOf 16 rfl) ?_
            refine r_iload_n C (dx dX5_piecesOf 17 rfl) rfl ?_
            refine r_iald (j := vP v) (x := vF v 1 (vP v)) C rfl rfl (by decide) rfl (by omega) (dx dX5_piecesOf 18 rfl) (hv.e1 (by omega)) ?_
            refine r_iload_n C (dx dX5_piecesOf 19 rfl) rfl ?_
            refine r_icmp_ne (tgt := 38) C (dx dX5_piecesOf 20 rfl) (by decide) (fun c3 => ?_) (fun c3 => ?_)
            ·
              have c3 : ¬ vF v 1 (vP v) = o := c3
              refine rn_iinc (a := vP v) (k := 1) (ls' := [(0, vr 5 k), (1, vi o), (2, vi (nI (pcs v o (vP v)))), (3, vi (nI (vP v + 1)))]) C (dx dX5_piecesOf 22 rfl) rfl rfl (by decide) [1, 2, 3, 0] rfl ?_
              refine r_goto (tgt := 4) C (dx dX5_piecesOf 23 rfl) (by decide) ?_
              have e9 : nI (pcs v o (vP v)) = nI (pcs v o (vP v + 1)) := by simp [pcs, c1, c2, c3]
              rw [e9]
              exact ih
            ·
              have c3 : vF v 1 (vP v) = o := c3
              refine rn_iinc (a := pcs v o (vP v)) (k := 1) (ls' := [(0, vr 5 k), (1, vi o), (2, vi (nI (pcs v o (vP v) + 1))), (3, vi (nI (vP v)))]) C (dx dX5_piecesOf 21 rfl) rfl rfl (by decide) [1, 2, 0, 3] rfl ?_
              refine rn_iinc (a := vP v) (k := 1) (ls' := [(0, vr 5 k), (1, vi o), (2, vi (nI (pcs v o (vP v) + 1))), (3, vi (nI (vP v + 1)))]) C (dx dX5_piecesOf 22 rfl) rfl rfl (by decide) [1, 2, 3, 0] rfl ?_
              refine r_goto (tgt := 4) C (dx dX5_piecesOf 23 rfl) (by decide) ?_
              have e9 : nI (pcs v o (vP v) + 1) = nI (pcs v o (vP v + 1)) := by simp [pcs, c1, c2, c3]
              rw [e9]
              exact ih
          ·
            have c2 : vF v 0 (vP v) = o := c2
            refine rn_iinc (a := pcs v o (vP v)) (k := 1) (ls' := [(0, vr 5 k), (1, vi o), (2, vi (nI (pcs v o (vP v) + 1))), (3, vi (nI (vP v)))]) C (dx dX5_piecesOf 14 rfl) rfl rfl (by decide) [1, 2, 0, 3] rfl ?_
            refine r_aload_n C (dx dX5_piecesOf 15 rfl) rfl ?_
            refine g_X5_19 C (dx dX5_piecesOf 16 rfl) ?_
            refine r_iload_n C (dx dX5_piecesOf 17 rfl) rfl ?_
            refine r_iald (j := vP v) (x := vF v 1 (vP v)) C rfl rfl (by decide) rfl (by omega) (dx dX5_piecesOf 18 rfl) (hv.e1 (by omega)) ?_
            refine r_iload_n C (dx dX5_piecesOf 19 rfl) rfl ?_
            refine r_icmp_ne (tgt := 38) C (dx dX5_piecesOf 20 rfl) (by decide) (fun c4 => ?_) (fun c4 => ?_)
            ·
              have c4 : ¬ vF v 1 (vP v) = o := c4
              refine rn_iinc (a := vP v) (k := 1) (ls' := [(0, vr 5 k), (1, vi o), (2, vi (nI (pcs v o (vP v) + 1))), (3, vi (nI (vP v + 1)))]) C (dx dX5_piecesOf 22 rfl) rfl rfl (by decide) [1, 2, 3, 0] rfl ?_
              refine r_goto (tgt := 4) C (dx dX5_piecesOf 23 rfl) (by decide) ?_
              have e9 : nI (pcs v o (vP v) + 1) = nI (pcs v o (vP v + 1)) := by simp [pcs, c1, c2, c4]
              rw [e9]
              exact ih
            ·
              have c4 : vF v 1 (vP v) = o := c4
              refine rn_iinc (a := pcs v o (vP v) + 1) (k := 1) (ls' := [(0, vr 5 k), (1, vi o), (2, vi (nI (pcs v o (vP v) + 1 + 1))), (3, vi (nI (vP v)))]) C (dx dX5_piecesOf 21 rfl) rfl rfl (by decide) [1, 2, 0, 3] rfl ?_
              refine rn_iinc (a := vP v) (k := 1) (ls' := [(0, vr 5 k), (1, vi o), (2, vi (nI (pcs v o (vP v) + 1 + 1))), (3, vi (nI (vP v + 1)))]) C (dx dX5_piecesOf 22 rfl) rfl rfl (by decide) [1, 2, 3, 0] rfl ?_
              refine r_goto (tgt := 4) C (dx dX5_piecesOf 23 rfl) (by decide) ?_
              have e9 : nI (pcs v o (vP v) + 1 + 1) = nI (pcs v o (vP v + 1)) := by simp [pcs, c1, c2, c4]
              rw [e9]
              exact ih)
  ·
    intro p hp ih
    refine r_iload_n C (dx dX5_piecesOf 4 rfl) rfl ?_
    refine r_aload_n C (dx dX5_piecesOf 5 rfl) rfl ?_
    refine g_X5_9 (x := nI (vP v)) C (dx dX5_piecesOf 6 rfl) hv.eP ?_
    refine rn_ge (a := p) (b := vP v) (tgt := 44) C (by omega) (by omega) (dx dX5_piecesOf 7 rfl) (by decide) (fun c5 => ?_) (fun c5 => ?_)
    · first
      | (omega; done)
      | (
          have c5 : vP v ≤ p := c5
          refine r_iload_n C (dx dX5_piecesOf 24 rfl) rfl ?_
          exact F.1 _ _ _ _ _ rfl rfl (dx dX5_piecesOf 25 rfl) rfl ⟨congrArg (fun x => some (vi x)) (show nI (pcs v o p) = nI (pcs v o (vP v)) by rfl), rfl⟩)
    · first
      | (omega; done)
      | (
          have c5 : p < vP v := c5
          refine r_aload_n C (dx dX5_piecesOf 8 rfl) rfl ?_
          refine g_X5_15 C (dx dX5_piecesOf 9 rfl) ?_
          refine r_iload_n C (dx dX5_piecesOf 10 rfl) rfl ?_
          refine r_iald (j := p) (x := vF v 0 p) C rfl rfl (by decide) rfl (by omega) (dx dX5_piecesOf 11 rfl) (hv.e0 (by omega)) ?_
          refine r_iload_n C (dx dX5_piecesOf 12 rfl) rfl ?_
          refine r_icmp_ne (tgt := 25) C (dx dX5_piecesOf 13 rfl) (by decide) (fun c6 => ?_) (fun c6 => ?_)
          ·
            have c6 : ¬ vF v 0 p = o := c6
            refine r_aload_n C (dx dX5_piecesOf 15 rfl) rfl ?_
            refine g_X5_19 C (dx dX5_piecesOf 16 rfl) ?_
            refine r_iload_n C (dx dX5_piecesOf 17 rfl) rfl ?_
            refine r_iald (j := p) (x := vF v 1 p) C rfl rfl (by decide) rfl (by omega) (dx dX5_piecesOf 18 rfl) (hv.e1 (by omega)) ?_
            refine r_iload_n C (dx dX5_piecesOf 19 rfl) rfl ?_
            refine r_icmp_ne (tgt := 38) C (dx dX5_piecesOf 20 rfl) (by decide) (fun c7 => ?_) (fun c7 => ?_)
            ·
              have c7 : ¬ vF v 1 p = o := c7
              refine rn_iinc (a := p) (k := 1) (ls' := [(0, vr 5 k), (1, vi o), (2, vi (nI (pcs v o p))), (3, vi (nI (p + 1)))]) C (dx dX5_piecesOf 22 rfl) rfl rfl (by decide) [1, 2, 3, 0] rfl ?_
              refine r_goto (tgt := 4) C (dx dX5_piecesOf 23 rfl) (by decide) ?_
              have e9 : nI (pcs v o p) = nI (pcs v o (p + 1)) := by simp [pcs, c5, c6, c7]
              rw [e9]
              exact ih
            ·
              have c7 : vF v 1 p = o := c7
              refine rn_iinc (a := pcs v o p) (k := 1) (ls' := [(0, vr 5 k), (1, vi o), (2, vi (nI (pcs v o p + 1))), (3, vi (nI p))]) C (dx dX5_piecesOf 21 rfl) rfl rfl (by decide) [1, 2, 0, 3] rfl ?_
              refine rn_iinc (a := p) (k := 1) (ls' := [(0, vr 5 k), (1, vi o), (2, vi (nI (pcs v o p + 1))), (3, vi (nI (p + 1)))]) C (dx dX5_piecesOf 22 rfl) rfl rfl (by decide) [1, 2, 3, 0] rfl ?_
              refine r_goto (tgt := 4) C (dx dX5_piecesOf 23 rfl) (by decide) ?_
              have e9 : nI (pcs v o p + 1) = nI (pcs v o (p + 1)) := by simp [pcs, c5, c6, c7]
              rw [e9]
              exact ih
          ·
            have c6 : vF v 0 p = o := c6
            refine rn_iinc (a := pcs v o p) (k := 1) (ls' := [(0, vr 5 k), (1, vi o), (2, vi (nI (pcs v o p + 1))), (3, vi (nI p))]) C (dx dX5_piecesOf 14 rfl) rfl rfl (by decide) [1, 2, 0, 3] rfl ?_
            refine r_aload_n C (dx dX5_piecesOf 15 rfl) rfl ?_
            refine g_X5_19 C (dx dX5_piecesOf 16 rfl) ?_
            refine r_iload_n C (dx dX5_piecesOf 17 rfl) rfl ?_
            refine r_iald (j := p) (x := vF v 1 p) C rfl rfl (by decide) rfl (by omega) (dx dX5_piecesOf 18 rfl) (hv.e1 (by omega)) ?_
            refine r_iload_n C (dx dX5_piecesOf 19 rfl) rfl ?_
            refine r_icmp_ne (tgt := 38) C (dx dX5_piecesOf 20 rfl) (by decide) (fun c8 => ?_) (fun c8 => ?_)
            ·
              have c8 : ¬ vF v 1 p = o := c8
              refine rn_iinc (a := p) (k := 1) (ls' := [(0, vr 5 k), (1, vi o), (2, vi (nI (pcs v o p + 1))), (3, vi (nI (p + 1)))]) C (dx dX5_piecesOf 22 rfl) rfl rfl (by decide) [1, 2, 3, 0] rfl ?_
              refine r_goto (tgt := 4) C (dx dX5_piecesOf 23 rfl) (by decide) ?_
              have e9 : nI (pcs v o p + 1) = nI (pcs v o (p + 1)) := by simp [pcs, c5, c6, c8]
              rw [e9]
              exact ih
            ·
              have c8 : vF v 1 p = o := c8
              refine rn_iinc (a := pcs v o p + 1) (k := 1) (ls' := [(0, vr 5 k), (1, vi o), (2, vi (nI (pcs v o p + 1 + 1))), (3, vi (nI p))]) C (dx dX5_piecesOf 21 rfl) rfl rfl (by decide) [1, 2, 0, 3] rfl ?_
              refine rn_iinc (a := p) (k := 1) (ls' := [(0, vr 5 k), (1, vi o), (2, vi (nI (pcs v o p + 1 + 1))), (3, vi (nI (p + 1)))]) C (dx dX5_piecesOf 22 rfl) rfl rfl (by decide) [1, 2, 3, 0] rfl ?_
              refine r_goto (tgt := 4) C (dx dX5_piecesOf 23 rfl) (by decide) ?_
              have e9 : nI (pcs v o p + 1 + 1) = nI (pcs v o (p + 1)) := by simp [pcs, c5, c6, c8]
              rw [e9]
              exact ih)
set_option maxHeartbeats 4000000 in
theorem c_X5_holderCount {l : Launch} {h : Hp} {k : Nat} {v : Vg} (hv : VilAt h k v)  : Mp l yX5_holderCount cX5_holderCount 3 (some .int) 1 [vr 5 k] h (vi (nI (cnt (fun p => decide (¬ vF v 0 p = -1)) (vP v)))) := by
  refine Ms.of (by decide) (Nat.le_of_ble_eq_true rfl) (fun G C X F => ?_)
  have C : Cx G cX5_holderCount 3 RX5 := C
  show Rr G 0 [(0, vr 5 k)] [] h
  have bP := hv.bP
  have bM := hv.bM
  have bN := hv.bN
  refine r_iconst (v := nI 0) C (dx dX5_holderCount 0 rfl) rfl ?_
  refine r_istore_n (ls' := [(0, vr 5 k), (1, vi (nI 0))]) C (dx dX5_holderCount 1 rfl) (by decide) [1, 0] rfl ?_
  refine r_iconst (v := nI 0) C (dx dX5_holderCount 2 rfl) rfl ?_
  refine r_istore_n (ls' := [(0, vr 5 k), (1, vi (nI 0)), (2, vi (nI 0))]) C (dx dX5_holderCount 3 rfl) (by decide) [1, 2, 0] rfl ?_
  refine loopU (Φ := fun p => Rr G 4 [(0, vr 5 k), (1, vi (nI (cnt (fun p => decide (¬ vF v 0 p = -1)) p))), (2, vi (nI p))] [] h) (N := vP v) ?_ ?_ 0 (Nat.zero_le _)
  ·
    refine r_iload_n C (dx dX5_holderCount 4 rfl) rfl ?_
    refine r_aload_n C (dx dX5_holderCount 5 rfl) rfl ?_
    refine g_X5_9 (x := nI (vP v)) C (dx dX5_holderCount 6 rfl) hv.eP ?_
    refine rn_ge (a := vP v) (b := vP v) (tgt := 31) C (by omega) (by omega) (dx dX5_holderCount 7 rfl) (by decide) (fun c1 => ?_) (fun c1 => ?_)
    · first
      | (omega; done)
      | (
          have c1 : vP v ≤ vP v := c1
          refine r_iload_n C (dx dX5_holderCount 17 rfl) rfl ?_
          exact F.1 _ _ _ _ _ rfl rfl (dx dX5_holderCount 18 rfl) rfl ⟨congrArg (fun x => some (vi x)) rfl, rfl⟩)
    · first
      | (omega; done)
      | (
          have c1 : vP v < vP v := c1
          refine r_aload_n C (dx dX5_holderCount 8 rfl) rfl ?_
          refine g_X5_15 C (dx dX5_holderCount 9 rfl) ?_
          refine r_iload_n C (dx dX5_holderCount 10 rfl) rfl ?_
          refine r_iald (j := vP v) (x := vF v 0 (vP v)) C rfl rfl (by decide) rfl (by omega) (dx dX5_holderCount 11 rfl) (hv.e0 (by omega)) ?_
          refine r_iconst (v := -1) C (dx dX5_holderCount 12 rfl) rfl ?_
          refine r_icmp_eq (tgt := 25) C (dx dX5_holderCount 13 rfl) (by decide) (fun c2 => ?_) (fun c2 => ?_)
          ·
            have c2 : vF v 0 (vP v) = -1 := c2
            refine rn_iinc (a := vP v) (k := 1) (ls' := [(0, vr 5 k), (1, vi (nI (cnt (fun p => decide (¬ vF v 0 p = -1)) (vP v)))), (2, vi (nI (vP v + 1)))]) C (dx dX5_holderCount 15 rfl) rfl rfl (by decide) [1, 2, 0] rfl ?_
            refine r_goto (tgt := 4) C (dx dX5_holderCount 16 rfl) (by decide) ?_
            have e9 : nI (cnt (fun p => decide (¬ vF v 0 p = -1)) (vP v)) = nI (cnt (fun p => decide (¬ vF v 0 p = -1)) (vP v + 1)) := by simp [cnt, c1, c2]
            rw [e9]
            exact ih
          ·
            have c2 : ¬ vF v 0 (vP v) = -1 := c2
            refine rn_iinc (a := cnt (fun p => decide (¬ vF v 0 p = -1)) (vP v)) (k := 1) (ls' := [(0, vr 5 k), (1, vi (nI (cnt (fun p => decide (¬ vF v 0 p = -1)) (vP v) + 1))), (2, vi (nI (vP v)))]) C (dx dX5_holderCount 14 rfl) rfl rfl (by decide) [1, 0, 2] rfl ?_
            refine rn_iinc (a := vP v) (k := 1) (ls' := [(0, vr 5 k), (1, vi (nI (cnt (fun p => decide (¬ vF v 0 p = -1)) (vP v) + 1))), (2, vi (nI (vP v + 1)))]) C (dx dX5_holderCount 15 rfl) rfl rfl (by decide) [1, 2, 0] rfl ?_
            refine r_goto (tgt := 4) C (dx dX5_holderCount 16 rfl) (by decide) ?_
            have e9 : nI (cnt (fun p => decide (¬ vF v 0 p = -1)) (vP v) + 1) = nI (cnt (fun p => decide (¬ vF v 0 p = -1)) (vP v + 1)) := by simp [cnt, c1, c2]
            rw [e9]
            exact ih)
  ·
    intro p hp ih
    refine r_iload_n C (dx dX5_holderCount 4 rfl) rfl ?_
    refine r_aload_n C (dx dX5_holderCount 5 rfl) rfl ?_
    refine g_X5_9 (x := nI (vP v)) C (dx dX5_holderCount 6 rfl) hv.eP ?_
    refine rn_ge (a := p) (b := vP v) (tgt := 31) C (by omega) (by omega) (dx dX5_holderCount 7 rfl) (by decide) (fun c3 => ?_) (fun c3 => ?_)
    · first
      | (omega; done)
      | (
          have c3 : vP v ≤ p := c3
          refine r_iload_n C (dx dX5_holderCount 17 rfl) rfl ?_
          exact F.1 _ _ _ _ _ rfl rfl (dx dX5_holderCount 18 rfl) rfl ⟨congrArg (fun x => some (vi x)) (show nI (cnt (fun p => decide (¬ vF v 0 p = -1)) p) = nI (cnt (fun p => decide (¬ vF v 0 p = -1)) (vP v)) by rfl), rfl⟩)
    · first
      | (omega; done)
      | (
          have c3 : p < vP v := c3
          refine r_aload_n C (dx dX5_holderCount 8 rfl) rfl ?_
          refine g_X5_15 C (dx dX5_holderCount 9 rfl) ?_
          refine r_iload_n C (dx dX5_holderCount 10 rfl) rfl ?_
          refine r_iald (j := p) (x := vF v 0 p) C rfl rfl (by decide) rfl (by omega) (dx dX5_holderCount 11 rfl) (hv.e0 (by omega)) ?_
          refine r_iconst (v := -1) C (dx dX5_holderCount 12 rfl) rfl ?_
          refine r_icmp_eq (tgt := 25) C (dx dX5_holderCount 13 rfl) (by decide) (fun c4 => ?_) (fun c4 => ?_)
          ·
            have c4 : vF v 0 p = -1 := c4
            refine rn_iinc (a := p) (k := 1) (ls' := [(0, vr 5 k), (1, vi (nI (cnt (fun p => decide (¬ vF v 0 p = -1)) p))), (2, vi (nI (p + 1)))]) C (dx dX5_holderCount 15 rfl) rfl rfl (by decide) [1, 2, 0] rfl ?_
            refine r_goto (tgt := 4) C (dx dX5_holderCount 16 rfl) (by decide) ?_
            have e9 : nI (cnt (fun p => decide (¬ vF v 0 p = -1)) p) = nI (cnt (fun p => decide (¬ vF v 0 p = -1)) (p + 1)) := by simp [cnt, c3, c4]
            rw [e9]
            exact ih
          ·
            have c4 : ¬ vF v 0 p = -1 := c4
            refine rn_iinc (a := cnt (fun p => decide (¬ vF v 0 p = -1)) p) (k := 1) (ls' := [(0, vr 5 k), (1, vi (nI (cnt (fun p => decide (¬ vF v 0 p = -1)) p + 1))), (2, vi (nI p))]) C (dx dX5_holderCount 14 rfl) rfl rfl (by decide) [1, 0, 2] rfl ?_
            refine rn_iinc (a := p) (k := 1) (ls' := [(0, vr 5 k), (1, vi (nI (cnt (fun p => decide (¬ vF v 0 p = -1)) p + 1))), (2, vi (nI (p + 1)))]) C (dx dX5_holderCount 15 rfl) rfl rfl (by decide) [1, 2, 0] rfl ?_
            refine r_goto (tgt := 4) C (dx dX5_holderCount 16 rfl) (by decide) ?_
            have e9 : nI (cnt (fun p => decide (¬ vF v 0 p = -1)) p + 1) = nI (cnt (fun p => decide (¬ vF v 0 p = -1)) (p + 1)) := by simp [cnt, c3, c4]
            rw [e9]
            exact ih)
set_option maxHeartbeats 4000000 in
theorem c_X5_secondCount {l : Launch} {h : Hp} {k : Nat} {v : Vg} (hv : VilAt h k v)  : Mp l yX5_secondCount cX5_secondCount 3 (some .int) 1 [vr 5 k] h (vi (nI (cnt (fun p => decide (¬ vF v 1 p = -1)) (vP v)))) := by
  refine Ms.of (by decide) (Nat.le_of_ble_eq_true rfl) (fun G C X F => ?_)
  have C : Cx G cX5_secondCount 3 RX5 := C
  show Rr G 0 [(0, vr 5 k)] [] h
  have bP := hv.bP
  have bM := hv.bM
  have bN := hv.bN
  refine r_iconst (v := nI 0) C (dx dX5_secondCount 0 rfl) rfl ?_
  refine r_istore_n (ls' := [(0, vr 5 k), (1, vi (nI 0))]) C (dx dX5_secondCount 1 rfl) (by decide) [1, 0] rfl ?_
  refine r_iconst (v := nI 0) C (dx dX5_secondCount 2 rfl) rfl ?_
  refine r_istore_n (ls' := [(0, vr 5 k), (1, vi (nI 0)), (2, vi (nI 0))]) C (dx dX5_secondCount 3 rfl) (by decide) [1, 2, 0] rfl ?_
  refine loopU (Φ := fun p => Rr G 4 [(0, vr 5 k), (1, vi (nI (cnt (fun p => decide (¬ vF v 1 p = -1)) p))), (2, vi (nI p))] [] h) (N := vP v) ?_ ?_ 0 (Nat.zero_le _)
  ·
    refine r_iload_n C (dx dX5_secondCount 4 rfl) rfl ?_
    refine r_aload_n C (dx dX5_secondCount 5 rfl) rfl ?_
    refine g_X5_9 (x := nI (vP v)) C (dx dX5_secondCount 6 rfl) hv.eP ?_
    refine rn_ge (a := vP v) (b := vP v) (tgt := 31) C (by omega) (by omega) (dx dX5_secondCount 7 rfl) (by decide) (fun c1 => ?_) (fun c1 => ?_)
    · first
      | (omega; done)
      | (
          have c1 : vP v ≤ vP v := c1
          refine r_iload_n C (dx dX5_secondCount 17 rfl) rfl ?_
          exact F.1 _ _ _ _ _ rfl rfl (dx dX5_secondCount 18 rfl) rfl ⟨congrArg (fun x => some (vi x)) rfl, rfl⟩)
    · first
      | (omega; done)
      | (
          have c1 : vP v < vP v := c1
          refine r_aload_n C (dx dX5_secondCount 8 rfl) rfl ?_
          refine g_X5_19 C (dx dX5_secondCount 9 rfl) ?_
          refine r_iload_n C (dx dX5_secondCount 10 rfl) rfl ?_
          refine r_iald (j := vP v) (x := vF v 1 (vP v)) C rfl rfl (by decide) rfl (by omega) (dx dX5_secondCount 11 rfl) (hv.e1 (by omega)) ?_
          refine r_iconst (v := -1) C (dx dX5_secondCount 12 rfl) rfl ?_
          refine r_icmp_eq (tgt := 25) C (dx dX5_secondCount 13 rfl) (by decide) (fun c2 => ?_) (fun c2 => ?_)
          ·
            have c2 : vF v 1 (vP v) = -1 := c2
            refine rn_iinc (a := vP v) (k := 1) (ls' := [(0, vr 5 k), (1, vi (nI (cnt (fun p => decide (¬ vF v 1 p = -1)) (vP v)))), (2, vi (nI (vP v + 1)))]) C (dx dX5_secondCount 15 rfl) rfl rfl (by decide) [1, 2, 0] rfl ?_
            refine r_goto (tgt := 4) C (dx dX5_secondCount 16 rfl) (by decide) ?_
            have e9 : nI (cnt (fun p => decide (¬ vF v 1 p = -1)) (vP v)) = nI (cnt (fun p => decide (¬ vF v 1 p = -1)) (vP v + 1)) := by simp [cnt, c1, c2]
            rw [e9]
            exact ih
          ·
            have c2 : ¬ vF v 1 (vP v) = -1 := c2
            refine rn_iinc (a := cnt (fun p => decide (¬ vF v 1 p = -1)) (vP v)) (k := 1) (ls' := [(0, vr 5 k), (1, vi (nI (cnt (fun p => decide (¬ vF v 1 p = -1)) (vP v) + 1))), (2, vi (nI (vP v)))]) C (dx dX5_secondCount 14 rfl) rfl rfl (by decide) [1, 0, 2] rfl ?_
            refine rn_iinc (a := vP v) (k := 1) (ls' := [(0, vr 5 k), (1, vi (nI (cnt (fun p => decide (¬ vF v 1 p = -1)) (vP v) + 1))), (2, vi (nI (vP v + 1)))]) C (dx dX5_secondCount 15 rfl) rfl rfl (by decide) [1, 2, 0] rfl ?_
            refine r_goto (tgt := 4) C (dx dX5_secondCount 16 rfl) (by decide) ?_
            have e9 : nI (cnt (fun p => decide (¬ vF v 1 p = -1)) (vP v) + 1) = nI (cnt (fun p => decide (¬ vF v 1 p = -1)) (vP v + 1)) := by simp [cnt, c1, c2]
            rw [e9]
            exact ih)
  ·
    intro p hp ih
    refine r_iload_n C (dx dX5_secondCount 4 rfl) rfl ?_
    refine r_aload_n C (dx dX5_secondCount 5 rfl) rfl ?_
    refine g_X5_9 (x := nI (vP v)) C (dx dX5_secondCount 6 rfl) hv.eP ?_
    refine rn_ge (a := p) (b := vP v) (tgt := 31) C (by omega) (by omega) (dx dX5_secondCount 7 rfl) (by decide) (fun c3 => ?_) (fun c3 => ?_)
    · first
      | (omega; done)
      | (
          have c3 : vP v ≤ p := c3
          refine r_iload_n C (dx dX5_secondCount 17 rfl) rfl ?_
          exact F.1 _ _ _ _ _ rfl rfl (dx dX5_secondCount 18 rfl) rfl ⟨congrArg (fun x => some (vi x)) (show nI (cnt (fun p => decide (¬ vF v 1 p = -1)) p) = nI (cnt (fun p => decide (¬ vF v 1 p = -1)) (vP v)) by rfl), rfl⟩)
    · first
      | (omega; done)
      | (
          have c3 : p < vP v := c3
          refine r_aload_n C (dx dX5_secondCount 8 rfl) rfl ?_
          refine g_X5_19 C (dx dX5_secondCount 9 rfl) ?_
          refine r_iload_n C (dx dX5_secondCount 10 rfl) rfl ?_
          refine r_iald (j := p) (x := vF v 1 p) C rfl rfl (by decide) rfl (by omega) (dx dX5_secondCount 11 rfl) (hv.e1 (by omega)) ?_
          refine r_iconst (v := -1) C (dx dX5_secondCount 12 rfl) rfl ?_
          refine r_icmp_eq (tgt := 25) C (dx dX5_secondCount 13 rfl) (by decide) (fun c4 => ?_) (fun c4 => ?_)
          ·
            have c4 : vF v 1 p = -1 := c4
            refine rn_iinc (a := p) (k := 1) (ls' := [(0, vr 5 k), (1, vi (nI (cnt (fun p => decide (¬ vF v 1 p = -1)) p))), (2, vi (nI (p + 1)))]) C (dx dX5_secondCount 15 rfl) rfl rfl (by decide) [1, 2, 0] rfl ?_
            refine r_goto (tgt := 4) C (dx dX5_secondCount 16 rfl) (by decide) ?_
            have e9 : nI (cnt (fun p => decide (¬ vF v 1 p = -1)) p) = nI (cnt (fun p => decide (¬ vF v 1 p = -1)) (p + 1)) := by simp [cnt, c3, c4]
            rw [e9]
            exact ih
          ·
            have c4 : ¬ vF v 1 p = -1 := c4
            refine rn_iinc (a := cnt (fun p => decide (¬ vF v 1 p = -1)) p) (k := 1) (ls' := [(0, vr 5 k), (1, vi (nI (cnt (fun p => decide (¬ vF v 1 p = -1)) p + 1))), (2, vi (nI p))]) C (dx dX5_secondCount 14 rfl) rfl rfl (by decide) [1, 0, 2] rfl ?_
            refine rn_iinc (a := p) (k := 1) (ls' := [(0, vr 5 k), (1, vi (nI (cnt (fun p => decide (¬ vF v 1 p = -1)) p + 1))), (2, vi (nI (p + 1)))]) C (dx dX5_secondCount 15 rfl) rfl rfl (by decide) [1, 2, 0] rfl ?_
            refine r_goto (tgt := 4) C (dx dX5_secondCount 16 rfl) (by decide) ?_
            have e9 : nI (cnt (fun p => decide (¬ vF v 1 p = -1)) p + 1) = nI (cnt (fun p => decide (¬ vF v 1 p = -1)) (p + 1)) := by simp [cnt, c3, c4]
            rw [e9]
            exact ih)
set_option maxHeartbeats 4000000 in
theorem c_X5_partsOfOne {l : Launch} {h : Hp} {k : Nat} {v : Vg} (hv : VilAt h k v) (o : Int32) : Mp l yX5_partsOfOne cX5_partsOfOne 4 (some .int) 1 [vr 5 k, vi o] h (vi (ownP v o)) := by
  refine Ms.of (by decide) (Nat.le_of_ble_eq_true rfl) (fun G C X F => ?_)
  have C : Cx G cX5_partsOfOne 4 RX5 := C
  show Rr G 0 [(0, vr 5 k), (1, vi o)] [] h
  have bP := hv.bP
  have bM := hv.bM
  have bN := hv.bN
  refine r_iconst (v := nI 0) C (dx dX5_partsOfOne 0 rfl) rfl ?_
  refine r_istore_n (ls' := [(0, vr 5 k), (1, vi o), (2, vi (nI 0))]) C (dx dX5_partsOfOne 1 rfl) (by decide) [1, 2, 0] rfl ?_
  refine r_iconst (v := nI 0) C (dx dX5_partsOfOne 2 rfl) rfl ?_
  refine r_istore_n (ls' := [(0, vr 5 k), (1, vi o), (2, vi (nI 0)), (3, vi (nI 0))]) C (dx dX5_partsOfOne 3 rfl) (by decide) [1, 2, 3, 0] rfl ?_
  refine loopU (Φ := fun p => Rr G 4 [(0, vr 5 k), (1, vi o), (2, vi (bset (fun p => decide (vF v 0 p = o) || decide (vF v 1 p = o)) p)), (3, vi (nI p))] [] h) (N := vP v) ?_ ?_ 0 (Nat.zero_le _)
  ·
    refine r_iload_n C (dx dX5_partsOfOne 4 rfl) rfl ?_
    refine r_aload_n C (dx dX5_partsOfOne 5 rfl) rfl ?_
    refine g_X5_9 (x := nI (vP v)) C (dx dX5_partsOfOne 6 rfl) hv.eP ?_
    refine rn_ge (a := vP v) (b := vP v) (tgt := 44) C (by omega) (by omega) (dx dX5_partsOfOne 7 rfl) (by decide) (fun c1 => ?_) (fun c1 => ?_)
    · first
      | (omega; done)
      | (
          have c1 : vP v ≤ vP v := c1
          refine r_iload_n C (dx dX5_partsOfOne 28 rfl) rfl ?_
          exact F.1 _ _ _ _ _ rfl rfl (dx dX5_partsOfOne 29 rfl) rfl ⟨congrArg (fun x => some (vi x)) (show bset (fun p => decide (vF v 0 p = o) || decide (vF v 1 p = o)) (vP v) = ownP v o by rfl), rfl⟩)
    · first
      | (omega; done)
      | (
          have c1 : vP v < vP v := c1
          refine r_aload_n C (dx dX5_partsOfOne 8 rfl) rfl ?_
          refine g_X5_15 C (dx dX5_partsOfOne 9 rfl) ?_
          refine r_iload_n C (dx dX5_partsOfOne 10 rfl) rfl ?_
          refine r_iald (j := vP v) (x := vF v 0 (vP v)) C rfl rfl (by decide) rfl (by omega) (dx dX5_partsOfOne 11 rfl) (hv.e0 (by omega)) ?_
          refine r_iload_n C (dx dX5_partsOfOne 12 rfl) rfl ?_
          refine r_icmp_eq (tgt := 32) C (dx dX5_partsOfOne 13 rfl) (by decide) (fun c2 => ?_) (fun c2 => ?_)
          ·
            have c2 : vF v 0 (vP v) = o := c2
            refine r_iload_n C (dx dX5_partsOfOne 20 rfl) rfl ?_
            refine r_iconst (v := nI 1) C (dx dX5_partsOfOne 21 rfl) rfl ?_
            refine r_iload_n C (dx dX5_partsOfOne 22 rfl) rfl ?_
            refine r_ishl C (dx dX5_partsOfOne 23 rfl) ?_
            refine r_ior C (dx dX5_partsOfOne 24 rfl) ?_
            refine r_istore_n (ls' := [(0, vr 5 k), (1, vi o), (2, vi ((bset (fun p => decide (vF v 0 p = o) || decide (vF v 1 p = o)) (vP v)) ||| ((nI 1) <<< ((nI (vP v)) &&& 31)))), (3, vi (nI (vP v)))]) C (dx dX5_partsOfOne 25 rfl) (by decide) [1, 2, 0, 3] rfl ?_
            refine rn_iinc (a := vP v) (k := 1) (ls' := [(0, vr 5 k), (1, vi o), (2, vi ((bset (fun p => decide (vF v 0 p = o) || decide (vF v 1 p = o)) (vP v)) ||| ((nI 1) <<< ((nI (vP v)) &&& 31)))), (3, vi (nI (vP v + 1)))]) C (dx dX5_partsOfOne 26 rfl) rfl rfl (by decide) [1, 2, 3, 0] rfl ?_
            refine r_goto (tgt := 4) C (dx dX5_partsOfOne 27 rfl) (by decide) ?_
            have e9 : (bset (fun p => decide (vF v 0 p = o) || decide (vF v 1 p = o)) (vP v)) ||| ((nI 1) <<< ((nI (vP v)) &&& 31)) = bset (fun p => decide (vF v 0 p = o) || decide (vF v 1 p = o)) (vP v + 1) := by simp [bset, c1, c2]
            rw [e9]
            exact ih
          ·
            have c2 : ¬ vF v 0 (vP v) = o := c2
            refine r_aload_n C (dx dX5_partsOfOne 14 rfl) rfl ?_
            refine g_X5_19 C (dx dX5_partsOfOne 15 rfl) ?_
            refine r_iload_n C (dx dX5_partsOfOne 16 rfl) rfl ?_
            refine r_iald (j := vP v) (x := vF v 1 (vP v)) C rfl rfl (by decide) rfl (by omega) (dx dX5_partsOfOne 17 rfl) (hv.e1 (by omega)) ?_
            refine r_iload_n C (dx dX5_partsOfOne 18 rfl) rfl ?_
            refine r_icmp_ne (tgt := 38) C (dx dX5_partsOfOne 19 rfl) (by decide) (fun c3 => ?_) (fun c3 => ?_)
            ·
              have c3 : ¬ vF v 1 (vP v) = o := c3
              refine rn_iinc (a := vP v) (k := 1) (ls' := [(0, vr 5 k), (1, vi o), (2, vi (bset (fun p => decide (vF v 0 p = o) || decide (vF v 1 p = o)) (vP v))), (3, vi (nI (vP v + 1)))]) C (dx dX5_partsOfOne 26 rfl) rfl rfl (by decide) [1, 2, 3, 0] rfl ?_
              refine r_goto (tgt := 4) C (dx dX5_partsOfOne 27 rfl) (by decide) ?_
              have e9 : bset (fun p => decide (vF v 0 p = o) || decide (vF v 1 p = o)) (vP v) = bset (fun p => decide (vF v 0 p = o) || decide (vF v 1 p = o)) (vP v + 1) := by simp [bset, c1, c2, c3]
              rw [e9]
              exact ih
            ·
              have c3 : vF v 1 (vP v) = o := c3
              refine r_iload_n C (dx dX5_partsOfOne 20 rfl) rfl ?_
              refine r_iconst (v := nI 1) C (dx dX5_partsOfOne 21 rfl) rfl ?_
              refine r_iload_n C (dx dX5_partsOfOne 22 rfl) rfl ?_
              refine r_ishl C (dx dX5_partsOfOne 23 rfl) ?_
              refine r_ior C (dx dX5_partsOfOne 24 rfl) ?_
              refine r_istore_n (ls' := [(0, vr 5 k), (1, vi o), (2, vi ((bset (fun p => decide (vF v 0 p = o) || decide (vF v 1 p = o)) (vP v)) ||| ((nI 1) <<< ((nI (vP v)) &&& 31)))), (3, vi (nI (vP v)))]) C (dx dX5_partsOfOne 25 rfl) (by decide) [1, 2, 0, 3] rfl ?_
              refine rn_iinc (a := vP v) (k := 1) (ls' := [(0, vr 5 k), (1, vi o), (2, vi ((bset (fun p => decide (vF v 0 p = o) || decide (vF v 1 p = o)) (vP v)) ||| ((nI 1) <<< ((nI (vP v)) &&& 31)))), (3, vi (nI (vP v + 1)))]) C (dx dX5_partsOfOne 26 rfl) rfl rfl (by decide) [1, 2, 3, 0] rfl ?_
              refine r_goto (tgt := 4) C (dx dX5_partsOfOne 27 rfl) (by decide) ?_
              have e9 : (bset (fun p => decide (vF v 0 p = o) || decide (vF v 1 p = o)) (vP v)) ||| ((nI 1) <<< ((nI (vP v)) &&& 31)) = bset (fun p => decide (vF v 0 p = o) || decide (vF v 1 p = o)) (vP v + 1) := by simp [bset, c1, c2, c3]
              rw [e9]
              exact ih)
  ·
    intro p hp ih
    refine r_iload_n C (dx dX5_partsOfOne 4 rfl) rfl ?_
    refine r_aload_n C (dx dX5_partsOfOne 5 rfl) rfl ?_
    refine g_X5_9 (x := nI (vP v)) C (dx dX5_partsOfOne 6 rfl) hv.eP ?_
    refine rn_ge (a := p) (b := vP v) (tgt := 44) C (by omega) (by omega) (dx dX5_partsOfOne 7 rfl) (by decide) (fun c4 => ?_) (fun c4 => ?_)
    · first
      | (omega; done)
      | (
          have c4 : vP v ≤ p := c4
          refine r_iload_n C (dx dX5_partsOfOne 28 rfl) rfl ?_
          exact F.1 _ _ _ _ _ rfl rfl (dx dX5_partsOfOne 29 rfl) rfl ⟨congrArg (fun x => some (vi x)) (show bset (fun p => decide (vF v 0 p = o) || decide (vF v 1 p = o)) p = ownP v o by rfl), rfl⟩)
    · first
      | (omega; done)
      | (
          have c4 : p < vP v := c4
          refine r_aload_n C (dx dX5_partsOfOne 8 rfl) rfl ?_
          refine g_X5_15 C (dx dX5_partsOfOne 9 rfl) ?_
          refine r_iload_n C (dx dX5_partsOfOne 10 rfl) rfl ?_
          refine r_iald (j := p) (x := vF v 0 p) C rfl rfl (by decide) rfl (by omega) (dx dX5_partsOfOne 11 rfl) (hv.e0 (by omega)) ?_
          refine r_iload_n C (dx dX5_partsOfOne 12 rfl) rfl ?_
          refine r_icmp_eq (tgt := 32) C (dx dX5_partsOfOne 13 rfl) (by decide) (fun c5 => ?_) (fun c5 => ?_)
          ·
            have c5 : vF v 0 p = o := c5
            refine r_iload_n C (dx dX5_partsOfOne 20 rfl) rfl ?_
            refine r_iconst (v := nI 1) C (dx dX5_partsOfOne 21 rfl) rfl ?_
            refine r_iload_n C (dx dX5_partsOfOne 22 rfl) rfl ?_
            refine r_ishl C (dx dX5_partsOfOne 23 rfl) ?_
            refine r_ior C (dx dX5_partsOfOne 24 rfl) ?_
            refine r_istore_n (ls' := [(0, vr 5 k), (1, vi o), (2, vi ((bset (fun p => decide (vF v 0 p = o) || decide (vF v 1 p = o)) p) ||| ((nI 1) <<< ((nI p) &&& 31)))), (3, vi (nI p))]) C (dx dX5_partsOfOne 25 rfl) (by decide) [1, 2, 0, 3] rfl ?_
            refine rn_iinc (a := p) (k := 1) (ls' := [(0, vr 5 k), (1, vi o), (2, vi ((bset (fun p => decide (vF v 0 p = o) || decide (vF v 1 p = o)) p) ||| ((nI 1) <<< ((nI p) &&& 31)))), (3, vi (nI (p + 1)))]) C (dx dX5_partsOfOne 26 rfl) rfl rfl (by decide) [1, 2, 3, 0] rfl ?_
            refine r_goto (tgt := 4) C (dx dX5_partsOfOne 27 rfl) (by decide) ?_
            have e9 : (bset (fun p => decide (vF v 0 p = o) || decide (vF v 1 p = o)) p) ||| ((nI 1) <<< ((nI p) &&& 31)) = bset (fun p => decide (vF v 0 p = o) || decide (vF v 1 p = o)) (p + 1) := by simp [bset, c4, c5]
            rw [e9]
            exact ih
          ·
            have c5 : ¬ vF v 0 p = o := c5
            refine r_aload_n C (dx dX5_partsOfOne 14 rfl) rfl ?_
            refine g_X5_19 C (dx dX5_partsOfOne 15 rfl) ?_
            refine r_iload_n C (dx dX5_partsOfOne 16 rfl) rfl ?_
            refine r_iald (j := p) (x := vF v 1 p) C rfl rfl (by decide) rfl (by omega) (dx dX5_partsOfOne 17 rfl) (hv.e1 (by omega)) ?_
            refine r_iload_n C (dx dX5_partsOfOne 18 rfl) rfl ?_
            refine r_icmp_ne (tgt := 38) C (dx dX5_partsOfOne 19 rfl) (by decide) (fun c6 => ?_) (fun c6 => ?_)
            ·
              have c6 : ¬ vF v 1 p = o := c6
              refine rn_iinc (a := p) (k := 1) (ls' := [(0, vr 5 k), (1, vi o), (2, vi (bset (fun p => decide (vF v 0 p = o) || decide (vF v 1 p = o)) p)), (3, vi (nI (p + 1)))]) C (dx dX5_partsOfOne 26 rfl) rfl rfl (by decide) [1, 2, 3, 0] rfl ?_
              refine r_goto (tgt := 4) C (dx dX5_partsOfOne 27 rfl) (by decide) ?_
              have e9 : bset (fun p => decide (vF v 0 p = o) || decide (vF v 1 p = o)) p = bset (fun p => decide (vF v 0 p = o) || decide (vF v 1 p = o)) (p + 1) := by simp [bset, c4, c5, c6]
              rw [e9]
              exact ih
            ·
              have c6 : vF v 1 p = o := c6
              refine r_iload_n C (dx dX5_partsOfOne 20 rfl) rfl ?_
              refine r_iconst (v := nI 1) C (dx dX5_partsOfOne 21 rfl) rfl ?_
              refine r_iload_n C (dx dX5_partsOfOne 22 rfl) rfl ?_
              refine r_ishl C (dx dX5_partsOfOne 23 rfl) ?_
              refine r_ior C (dx dX5_partsOfOne 24 rfl) ?_
              refine r_istore_n (ls' := [(0, vr 5 k), (1, vi o), (2, vi ((bset (fun p => decide (vF v 0 p = o) || decide (vF v 1 p = o)) p) ||| ((nI 1) <<< ((nI p) &&& 31)))), (3, vi (nI p))]) C (dx dX5_partsOfOne 25 rfl) (by decide) [1, 2, 0, 3] rfl ?_
              refine rn_iinc (a := p) (k := 1) (ls' := [(0, vr 5 k), (1, vi o), (2, vi ((bset (fun p => decide (vF v 0 p = o) || decide (vF v 1 p = o)) p) ||| ((nI 1) <<< ((nI p) &&& 31)))), (3, vi (nI (p + 1)))]) C (dx dX5_partsOfOne 26 rfl) rfl rfl (by decide) [1, 2, 3, 0] rfl ?_
              refine r_goto (tgt := 4) C (dx dX5_partsOfOne 27 rfl) (by decide) ?_
              have e9 : (bset (fun p => decide (vF v 0 p = o) || decide (vF v 1 p = o)) p) ||| ((nI 1) <<< ((nI p) &&& 31)) = bset (fun p => decide (vF v 0 p = o) || decide (vF v 1 p = o)) (p + 1) := by simp [bset, c4, c5, c6]
              rw [e9]
              exact ih)
set_option maxHeartbeats 4000000 in
theorem c_X5_partsWith {l : Launch} {h : Hp} {k : Nat} {v : Vg} (hv : VilAt h k v) (s : Int32) : Mp l yX5_partsWith cX5_partsWith 4 (some .int) 2 [vr 5 k, vi s] h (vi (hasP v s)) := by
  refine Ms.of (by decide) (Nat.le_of_ble_eq_true rfl) (fun G C X F => ?_)
  have C : Cx G cX5_partsWith 4 RX5 := C
  show Rr G 0 [(0, vr 5 k), (1, vi s)] [] h
  have bP := hv.bP
  have bM := hv.bM
  have bN := hv.bN
  refine r_iconst (v := nI 0) C (dx dX5_partsWith 0 rfl) rfl ?_
  refine r_istore_n (ls' := [(0, vr 5 k), (1, vi s), (2, vi (nI 0))]) C (dx dX5_partsWith 1 rfl) (by decide) [1, 2, 0] rfl ?_
  refine r_iconst (v := nI 0) C (dx dX5_partsWith 2 rfl) rfl ?_
  refine r_istore_n (ls' := [(0, vr 5 k), (1, vi s), (2, vi (nI 0)), (3, vi (nI 0))]) C (dx dX5_partsWith 3 rfl) (by decide) [1, 2, 3, 0] rfl ?_
  refine loopU (Φ := fun p => Rr G 4 [(0, vr 5 k), (1, vi s), (2, vi (bset (fun p => inB s (vF v 0 p) || inB s (vF v 1 p)) p)), (3, vi (nI p))] [] h) (N := vP v) ?_ ?_ 0 (Nat.zero_le _)
  ·
    refine r_iload_n C (dx dX5_partsWith 4 rfl) rfl ?_
    refine r_aload_n C (dx dX5_partsWith 5 rfl) rfl ?_
    refine g_X5_9 (x := nI (vP v)) C (dx dX5_partsWith 6 rfl) hv.eP ?_
    refine rn_ge (a := vP v) (b := vP v) (tgt := 50) C (by omega) (by omega) (dx dX5_partsWith 7 rfl) (by decide) (fun c1 => ?_) (fun c1 => ?_)
    · first
      | (omega; done)
      | (
          have c1 : vP v ≤ vP v := c1
          refine r_iload_n C (dx dX5_partsWith 30 rfl) rfl ?_
          exact F.1 _ _ _ _ _ rfl rfl (dx dX5_partsWith 31 rfl) rfl ⟨congrArg (fun x => some (vi x)) (show bset (fun p => inB s (vF v 0 p) || inB s (vF v 1 p)) (vP v) = hasP v s by rfl), rfl⟩)
    · first
      | (omega; done)
      | (
          have c1 : vP v < vP v := c1
          refine r_iload_n C (dx dX5_partsWith 8 rfl) rfl ?_
          refine r_aload_n C (dx dX5_partsWith 9 rfl) rfl ?_
          refine g_X5_15 C (dx dX5_partsWith 10 rfl) ?_
          refine r_iload_n C (dx dX5_partsWith 11 rfl) rfl ?_
          refine r_iald (j := vP v) (x := vF v 0 (vP v)) C rfl rfl (by decide) rfl (by omega) (dx dX5_partsWith 12 rfl) (hv.e0 (by omega)) ?_
          refine r_csP (as := [vi s, vi (vF v 0 (vP v))]) (st := []) (v := vi (b2i (inB s (vF v 0 (vP v))))) C X I_X5_isIn l_X5_74 (c_X5_isIn _ _) (by decide) (Nat.le_of_ble_eq_true rfl) List.prefix_rfl (Nat.le_of_ble_eq_true rfl) rfl (dx dX5_partsWith 13 rfl) ?_
          refine rb_ne (b := inB s (vF v 0 (vP v))) (tgt := 38) C (dx dX5_partsWith 14 rfl) (by decide) (fun c2 => ?_) (fun c2 => ?_)
          ·
            have c2 : (inB s (vF v 0 (vP v))) = true := c2
            refine r_iload_n C (dx dX5_partsWith 22 rfl) rfl ?_
            refine r_iconst (v := nI 1) C (dx dX5_partsWith 23 rfl) rfl ?_
            refine r_iload_n C (dx dX5_partsWith 24 rfl) rfl ?_
            refine r_ishl C (dx dX5_partsWith 25 rfl) ?_
            refine r_ior C (dx dX5_partsWith 26 rfl) ?_
            refine r_istore_n (ls' := [(0, vr 5 k), (1, vi s), (2, vi ((bset (fun p => inB s (vF v 0 p) || inB s (vF v 1 p)) (vP v)) ||| ((nI 1) <<< ((nI (vP v)) &&& 31)))), (3, vi (nI (vP v)))]) C (dx dX5_partsWith 27 rfl) (by decide) [1, 2, 0, 3] rfl ?_
            refine rn_iinc (a := vP v) (k := 1) (ls' := [(0, vr 5 k), (1, vi s), (2, vi ((bset (fun p => inB s (vF v 0 p) || inB s (vF v 1 p)) (vP v)) ||| ((nI 1) <<< ((nI (vP v)) &&& 31)))), (3, vi (nI (vP v + 1)))]) C (dx dX5_partsWith 28 rfl) rfl rfl (by decide) [1, 2, 3, 0] rfl ?_
            refine r_goto (tgt := 4) C (dx dX5_partsWith 29 rfl) (by decide) ?_
            have e9 : (bset (fun p => inB s (vF v 0 p) || inB s (vF v 1 p)) (vP v)) ||| ((nI 1) <<< ((nI (vP v)) &&& 31)) = bset (fun p => inB s (vF v 0 p) || inB s (vF v 1 p)) (vP v + 1) := by simp [bset, c1, c2]
            rw [e9]
            exact ih
          ·
            have c2 : (inB s (vF v 0 (vP v))) = false := c2
            refine r_iload_n C (dx dX5_partsWith 15 rfl) rfl ?_
            refine r_aload_n C (dx dX5_partsWith 16 rfl) rfl ?_
            refine g_X5_19 C (dx dX5_partsWith 17 rfl) ?_
            refine r_iload_n C (dx dX5_partsWith 18 rfl) rfl ?_
            refine r_iald (j := vP v) (x := vF v 1 (vP v)) C rfl rfl (by decide) rfl (by omega) (dx dX5_partsWith 19 rfl) (hv.e1 (by omega)) ?_
            refine r_csP (as := [vi s, vi (vF v 1 (vP v))]) (st := []) (v := vi (b2i (inB s (vF v 1 (vP v))))) C X I_X5_isIn l_X5_74 (c_X5_isIn _ _) (by decide) (Nat.le_of_ble_eq_true rfl) List.prefix_rfl (Nat.le_of_ble_eq_true rfl) rfl (dx dX5_partsWith 20 rfl) ?_
            refine rb_eq (b := inB s (vF v 1 (vP v))) (tgt := 44) C (dx dX5_partsWith 21 rfl) (by decide) (fun c3 => ?_) (fun c3 => ?_)
            ·
              have c3 : (inB s (vF v 1 (vP v))) = false := c3
              refine rn_iinc (a := vP v) (k := 1) (ls' := [(0, vr 5 k), (1, vi s), (2, vi (bset (fun p => inB s (vF v 0 p) || inB s (vF v 1 p)) (vP v))), (3, vi (nI (vP v + 1)))]) C (dx dX5_partsWith 28 rfl) rfl rfl (by decide) [1, 2, 3, 0] rfl ?_
              refine r_goto (tgt := 4) C (dx dX5_partsWith 29 rfl) (by decide) ?_
              have e9 : bset (fun p => inB s (vF v 0 p) || inB s (vF v 1 p)) (vP v) = bset (fun p => inB s (vF v 0 p) || inB s (vF v 1 p)) (vP v + 1) := by simp [bset, c1, c2, c3]
              rw [e9]
              exact ih
            ·
              have c3 : (inB s (vF v 1 (vP v))) = true := c3
              refine r_iload_n C (dx dX5_partsWith 22 rfl) rfl ?_
              refine r_iconst (v := nI 1) C (dx dX5_partsWith 23 rfl) rfl ?_
              refine r_iload_n C (dx dX5_partsWith 24 rfl) rfl ?_
              refine r_ishl C (dx dX5_partsWith 25 rfl) ?_
              refine r_ior C (dx dX5_partsWith 26 rfl) ?_
              refine r_istore_n (ls' := [(0, vr 5 k), (1, vi s), (2, vi ((bset (fun p => inB s (vF v 0 p) || inB s (vF v 1 p)) (vP v)) ||| ((nI 1) <<< ((nI (vP v)) &&& 31)))), (3, vi (nI (vP v)))]) C (dx dX5_partsWith 27 rfl) (by decide) [1, 2, 0, 3] rfl ?_
              refine rn_iinc (a := vP v) (k := 1) (ls' := [(0, vr 5 k), (1, vi s), (2, vi ((bset (fun p => inB s (vF v 0 p) || inB s (vF v 1 p)) (vP v)) ||| ((nI 1) <<< ((nI (vP v)) &&& 31)))), (3, vi (nI (vP v + 1)))]) C (dx dX5_partsWith 28 rfl) rfl rfl (by decide) [1, 2, 3, 0] rfl ?_
              refine r_goto (tgt := 4) C (dx dX5_partsWith 29 rfl) (by decide) ?_
              have e9 : (bset (fun p => inB s (vF v 0 p) || inB s (vF v 1 p)) (vP v)) ||| ((nI 1) <<< ((nI (vP v)) &&& 31)) = bset (fun p => inB s (vF v 0 p) || inB s (vF v 1 p)) (vP v + 1) := by simp [bset, c1, c2, c3]
              rw [e9]
              exact ih)
  ·
    intro p hp ih
    refine r_iload_n C (dx dX5_partsWith 4 rfl) rfl ?_
    refine r_aload_n C (dx dX5_partsWith 5 rfl) rfl ?_
    refine g_X5_9 (x := nI (vP v)) C (dx dX5_partsWith 6 rfl) hv.eP ?_
    refine rn_ge (a := p) (b := vP v) (tgt := 50) C (by omega) (by omega) (dx dX5_partsWith 7 rfl) (by decide) (fun c4 => ?_) (fun c4 => ?_)
    · first
      | (omega; done)
      | (
          have c4 : vP v ≤ p := c4
          refine r_iload_n C (dx dX5_partsWith 30 rfl) rfl ?_
          exact F.1 _ _ _ _ _ rfl rfl (dx dX5_partsWith 31 rfl) rfl ⟨congrArg (fun x => some (vi x)) (show bset (fun p => inB s (vF v 0 p) || inB s (vF v 1 p)) p = hasP v s by rfl), rfl⟩)
    · first
      | (omega; done)
      | (
          have c4 : p < vP v := c4
          refine r_iload_n C (dx dX5_partsWith 8 rfl) rfl ?_
          refine r_aload_n C (dx dX5_partsWith 9 rfl) rfl ?_
          refine g_X5_15 C (dx dX5_partsWith 10 rfl) ?_
          refine r_iload_n C (dx dX5_partsWith 11 rfl) rfl ?_
          refine r_iald (j := p) (x := vF v 0 p) C rfl rfl (by decide) rfl (by omega) (dx dX5_partsWith 12 rfl) (hv.e0 (by omega)) ?_
          refine r_csP (as := [vi s, vi (vF v 0 p)]) (st := []) (v := vi (b2i (inB s (vF v 0 p)))) C X I_X5_isIn l_X5_74 (c_X5_isIn _ _) (by decide) (Nat.le_of_ble_eq_true rfl) List.prefix_rfl (Nat.le_of_ble_eq_true rfl) rfl (dx dX5_partsWith 13 rfl) ?_
          refine rb_ne (b := inB s (vF v 0 p)) (tgt := 38) C (dx dX5_partsWith 14 rfl) (by decide) (fun c5 => ?_) (fun c5 => ?_)
          ·
            have c5 : (inB s (vF v 0 p)) = true := c5
            refine r_iload_n C (dx dX5_partsWith 22 rfl) rfl ?_
            refine r_iconst (v := nI 1) C (dx dX5_partsWith 23 rfl) rfl ?_
            refine r_iload_n C (dx dX5_partsWith 24 rfl) rfl ?_
            refine r_ishl C (dx dX5_partsWith 25 rfl) ?_
            refine r_ior C (dx dX5_partsWith 26 rfl) ?_
            refine r_istore_n (ls' := [(0, vr 5 k), (1, vi s), (2, vi ((bset (fun p => inB s (vF v 0 p) || inB s (vF v 1 p)) p) ||| ((nI 1) <<< ((nI p) &&& 31)))), (3, vi (nI p))]) C (dx dX5_partsWith 27 rfl) (by decide) [1, 2, 0, 3] rfl ?_
            refine rn_iinc (a := p) (k := 1) (ls' := [(0, vr 5 k), (1, vi s), (2, vi ((bset (fun p => inB s (vF v 0 p) || inB s (vF v 1 p)) p) ||| ((nI 1) <<< ((nI p) &&& 31)))), (3, vi (nI (p + 1)))]) C (dx dX5_partsWith 28 rfl) rfl rfl (by decide) [1, 2, 3, 0] rfl ?_
            refine r_goto (tgt := 4) C (dx dX5_partsWith 29 rfl) (by decide) ?_
            have e9 : (bset (fun p => inB s (vF v 0 p) || inB s (vF v 1 p)) p) ||| ((nI 1) <<< ((nI p) &&& 31)) = bset (fun p => inB s (vF v 0 p) || inB s (vF v 1 p)) (p + 1) := by simp [bset, c4, c5]
            rw [e9]
            exact ih
          ·
            have c5 : (inB s (vF v 0 p)) = false := c5
            refine r_iload_n C (dx dX5_partsWith 15 rfl) rfl ?_
            refine r_aload_n C (dx dX5_partsWith 16 rfl) rfl ?_
            refine g_X5_19 C (dx dX5_partsWith 17 rfl) ?_
            refine r_iload_n C (dx dX5_partsWith 18 rfl) rfl ?_
            refine r_iald (j := p) (x := vF v 1 p) C rfl rfl (by decide) rfl (by omega) (dx dX5_partsWith 19 rfl) (hv.e1 (by omega)) ?_
            refine r_csP (as := [vi s, vi (vF v 1 p)]) (st := []) (v := vi (b2i (inB s (vF v 1 p)))) C X I_X5_isIn l_X5_74 (c_X5_isIn _ _) (by decide) (Nat.le_of_ble_eq_true rfl) List.prefix_rfl (Nat.le_of_ble_eq_true rfl) rfl (dx dX5_partsWith 20 rfl) ?_
            refine rb_eq (b := inB s (vF v 1 p)) (tgt := 44) C (dx dX5_partsWith 21 rfl) (by decide) (fun c6 => ?_) (fun c6 => ?_)
            ·
              have c6 : (inB s (vF v 1 p)) = false := c6
              refine rn_iinc (a := p) (k := 1) (ls' := [(0, vr 5 k), (1, vi s), (2, vi (bset (fun p => inB s (vF v 0 p) || inB s (vF v 1 p)) p)), (3, vi (nI (p + 1)))]) C (dx dX5_partsWith 28 rfl) rfl rfl (by decide) [1, 2, 3, 0] rfl ?_
              refine r_goto (tgt := 4) C (dx dX5_partsWith 29 rfl) (by decide) ?_
              have e9 : bset (fun p => inB s (vF v 0 p) || inB s (vF v 1 p)) p = bset (fun p => inB s (vF v 0 p) || inB s (vF v 1 p)) (p + 1) := by simp [bset, c4, c5, c6]
              rw [e9]
              exact ih
            ·
              have c6 : (inB s (vF v 1 p)) = true := c6
              refine r_iload_n C (dx dX5_partsWith 22 rfl) rfl ?_
              refine r_iconst (v := nI 1) C (dx dX5_partsWith 23 rfl) rfl ?_
              refine r_iload_n C (dx dX5_partsWith 24 rfl) rfl ?_
              refine r_ishl C (dx dX5_partsWith 25 rfl) ?_
              refine r_ior C (dx dX5_partsWith 26 rfl) ?_
              refine r_istore_n (ls' := [(0, vr 5 k), (1, vi s), (2, vi ((bset (fun p => inB s (vF v 0 p) || inB s (vF v 1 p)) p) ||| ((nI 1) <<< ((nI p) &&& 31)))), (3, vi (nI p))]) C (dx dX5_partsWith 27 rfl) (by decide) [1, 2, 0, 3] rfl ?_
              refine rn_iinc (a := p) (k := 1) (ls' := [(0, vr 5 k), (1, vi s), (2, vi ((bset (fun p => inB s (vF v 0 p) || inB s (vF v 1 p)) p) ||| ((nI 1) <<< ((nI p) &&& 31)))), (3, vi (nI (p + 1)))]) C (dx dX5_partsWith 28 rfl) rfl rfl (by decide) [1, 2, 3, 0] rfl ?_
              refine r_goto (tgt := 4) C (dx dX5_partsWith 29 rfl) (by decide) ?_
              have e9 : (bset (fun p => inB s (vF v 0 p) || inB s (vF v 1 p)) p) ||| ((nI 1) <<< ((nI p) &&& 31)) = bset (fun p => inB s (vF v 0 p) || inB s (vF v 1 p)) (p + 1) := by simp [bset, c4, c5, c6]
              rw [e9]
              exact ih)
set_option maxHeartbeats 4000000 in
theorem c_X5_doublesWith {l : Launch} {h : Hp} {k : Nat} {v : Vg} (hv : VilAt h k v) (s : Int32) : Mp l yX5_doublesWith cX5_doublesWith 4 (some .int) 2 [vr 5 k, vi s] h (vi (dblP v s)) := by
  refine Ms.of (by decide) (Nat.le_of_ble_eq_true rfl) (fun G C X F => ?_)
  have C : Cx G cX5_doublesWith 4 RX5 := C
  show Rr G 0 [(0, vr 5 k), (1, vi s)] [] h
  have bP := hv.bP
  have bM := hv.bM
  have bN := hv.bN
  refine r_iconst (v := nI 0) C (dx dX5_doublesWith 0 rfl) rfl ?_
  refine r_istore_n (ls' := [(0, vr 5 k), (1, vi s), (2, vi (nI 0))]) C (dx dX5_doublesWith 1 rfl) (by decide) [1, 2, 0] rfl ?_
  refine r_iconst (v := nI 0) C (dx dX5_doublesWith 2 rfl) rfl ?_
  refine r_istore_n (ls' := [(0, vr 5 k), (1, vi s), (2, vi (nI 0)), (3, vi (nI 0))]) C (dx dX5_doublesWith 3 rfl) (by decide) [1, 2, 3, 0] rfl ?_
  refine loopU (Φ := fun p => Rr G 4 [(0, vr 5 k), (1, vi s), (2, vi (bset (fun p => inB s (vF v 0 p) && inB s (vF v 1 p)) p)), (3, vi (nI p))] [] h) (N := vP v) ?_ ?_ 0 (Nat.zero_le _)
  ·
    refine r_iload_n C (dx dX5_doublesWith 4 rfl) rfl ?_
    refine r_aload_n C (dx dX5_doublesWith 5 rfl) rfl ?_
    refine g_X5_9 (x := nI (vP v)) C (dx dX5_doublesWith 6 rfl) hv.eP ?_
    refine rn_ge (a := vP v) (b := vP v) (tgt := 50) C (by omega) (by omega) (dx dX5_doublesWith 7 rfl) (by decide) (fun c1 => ?_) (fun c1 => ?_)
    · first
      | (omega; done)
      | (
          have c1 : vP v ≤ vP v := c1
          refine r_iload_n C (dx dX5_doublesWith 30 rfl) rfl ?_
          exact F.1 _ _ _ _ _ rfl rfl (dx dX5_doublesWith 31 rfl) rfl ⟨congrArg (fun x => some (vi x)) (show bset (fun p => inB s (vF v 0 p) && inB s (vF v 1 p)) (vP v) = dblP v s by rfl), rfl⟩)
    · first
      | (omega; done)
      | (
          have c1 : vP v < vP v := c1
          refine r_iload_n C (dx dX5_doublesWith 8 rfl) rfl ?_
          refine r_aload_n C (dx dX5_doublesWith 9 rfl) rfl ?_
          refine g_X5_15 C (dx dX5_doublesWith 10 rfl) ?_
          refine r_iload_n C (dx dX5_doublesWith 11 rfl) rfl ?_
          refine r_iald (j := vP v) (x := vF v 0 (vP v)) C rfl rfl (by decide) rfl (by omega) (dx dX5_doublesWith 12 rfl) (hv.e0 (by omega)) ?_
          refine r_csP (as := [vi s, vi (vF v 0 (vP v))]) (st := []) (v := vi (b2i (inB s (vF v 0 (vP v))))) C X I_X5_isIn l_X5_74 (c_X5_isIn _ _) (by decide) (Nat.le_of_ble_eq_true rfl) List.prefix_rfl (Nat.le_of_ble_eq_true rfl) rfl (dx dX5_doublesWith 13 rfl) ?_
          refine rb_eq (b := inB s (vF v 0 (vP v))) (tgt := 44) C (dx dX5_doublesWith 14 rfl) (by decide) (fun c2 => ?_) (fun c2 => ?_)
          ·
            have c2 : (inB s (vF v 0 (vP v))) = false := c2
            refine rn_iinc (a := vP v) (k := 1) (ls' := [(0, vr 5 k), (1, vi s), (2, vi (bset (fun p => inB s (vF v 0 p) && inB s (vF v 1 p)) (vP v))), (3, vi (nI (vP v + 1)))]) C (dx dX5_doublesWith 28 rfl) rfl rfl (by decide) [1, 2, 3, 0] rfl ?_
            refine r_goto (tgt := 4) C (dx dX5_doublesWith 29 rfl) (by decide) ?_
            have e9 : bset (fun p => inB s (vF v 0 p) && inB s (vF v 1 p)) (vP v) = bset (fun p => inB s (vF v 0 p) && inB s (vF v 1 p)) (vP v + 1) := by simp [bset, c1, c2]
            rw [e9]
            exact ih
          ·
            have c2 : (inB s (vF v 0 (vP v))) = true := c2
            refine r_iload_n C (dx dX5_doublesWith 15 rfl) rfl ?_
            refine r_aload_n C (dx dX5_doublesWith 16 rfl) rfl ?_
            refine g_X5_19 C (dx dX5_doublesWith 17 rfl) ?_
            refine r_iload_n C (dx dX5_doublesWith 18 rfl) rfl ?_
            refine r_iald (j := vP v) (x := vF v 1 (vP v)) C rfl rfl (by decide) rfl (by omega) (dx dX5_doublesWith 19 rfl) (hv.e1 (by omega)) ?_
            refine r_csP (as := [vi s, vi (vF v 1 (vP v))]) (st := []) (v := vi (b2i (inB s (vF v 1 (vP v))))) C X I_X5_isIn l_X5_74 (c_X5_isIn _ _) (by decide) (Nat.le_of_ble_eq_true rfl) List.prefix_rfl (Nat.le_of_ble_eq_true rfl) rfl (dx dX5_doublesWith 20 rfl) ?_
            refine rb_eq (b := inB s (vF v 1 (vP v))) (tgt := 44) C (dx dX5_doublesWith 21 rfl) (by decide) (fun c3 => ?_) (fun c3 => ?_)
            ·
              have c3 : (inB s (vF v 1 (vP v))) = false := c3
              refine rn_iinc (a := vP v) (k := 1) (ls' := [(0, vr 5 k), (1, vi s), (2, vi (bset (fun p => inB s (vF v 0 p) && inB s (vF v 1 p)) (vP v))), (3, vi (nI (vP v + 1)))]) C (dx dX5_doublesWith 28 rfl) rfl rfl (by decide) [1, 2, 3, 0] rfl ?_
              refine r_goto (tgt := 4) C (dx dX5_doublesWith 29 rfl) (by decide) ?_
              have e9 : bset (fun p => inB s (vF v 0 p) && inB s (vF v 1 p)) (vP v) = bset (fun p => inB s (vF v 0 p) && inB s (vF v 1 p)) (vP v + 1) := by simp [bset, c1, c2, c3]
              rw [e9]
              exact ih
            ·
              have c3 : (inB s (vF v 1 (vP v))) = true := c3
              refine r_iload_n C (dx dX5_doublesWith 22 rfl) rfl ?_
              refine r_iconst (v := nI 1) C (dx dX5_doublesWith 23 rfl) rfl ?_
              refine r_iload_n C (dx dX5_doublesWith 24 rfl) rfl ?_
              refine r_ishl C (dx dX5_doublesWith 25 rfl) ?_
              refine r_ior C (dx dX5_doublesWith 26 rfl) ?_
              refine r_istore_n (ls' := [(0, vr 5 k), (1, vi s), (2, vi ((bset (fun p => inB s (vF v 0 p) && inB s (vF v 1 p)) (vP v)) ||| ((nI 1) <<< ((nI (vP v)) &&& 31)))), (3, vi (nI (vP v)))]) C (dx dX5_doublesWith 27 rfl) (by decide) [1, 2, 0, 3] rfl ?_
              refine rn_iinc (a := vP v) (k := 1) (ls' := [(0, vr 5 k), (1, vi s), (2, vi ((bset (fun p => inB s (vF v 0 p) && inB s (vF v 1 p)) (vP v)) ||| ((nI 1) <<< ((nI (vP v)) &&& 31)))), (3, vi (nI (vP v + 1)))]) C (dx dX5_doublesWith 28 rfl) rfl rfl (by decide) [1, 2, 3, 0] rfl ?_
              refine r_goto (tgt := 4) C (dx dX5_doublesWith 29 rfl) (by decide) ?_
              have e9 : (bset (fun p => inB s (vF v 0 p) && inB s (vF v 1 p)) (vP v)) ||| ((nI 1) <<< ((nI (vP v)) &&& 31)) = bset (fun p => inB s (vF v 0 p) && inB s (vF v 1 p)) (vP v + 1) := by simp [bset, c1, c2, c3]
              rw [e9]
              exact ih)
  ·
    intro p hp ih
    refine r_iload_n C (dx dX5_doublesWith 4 rfl) rfl ?_
    refine r_aload_n C (dx dX5_doublesWith 5 rfl) rfl ?_
    refine g_X5_9 (x := nI (vP v)) C (dx dX5_doublesWith 6 rfl) hv.eP ?_
    refine rn_ge (a := p) (b := vP v) (tgt := 50) C (by omega) (by omega) (dx dX5_doublesWith 7 rfl) (by decide) (fun c4 => ?_) (fun c4 => ?_)
    · first
      | (omega; done)
      | (
          have c4 : vP v ≤ p := c4
          refine r_iload_n C (dx dX5_doublesWith 30 rfl) rfl ?_
          exact F.1 _ _ _ _ _ rfl rfl (dx dX5_doublesWith 31 rfl) rfl ⟨congrArg (fun x => some (vi x)) (show bset (fun p => inB s (vF v 0 p) && inB s (vF v 1 p)) p = dblP v s by rfl), rfl⟩)
    · first
      | (omega; done)
      | (
          have c4 : p < vP v := c4
          refine r_iload_n C (dx dX5_doublesWith 8 rfl) rfl ?_
          refine r_aload_n C (dx dX5_doublesWith 9 rfl) rfl ?_
          refine g_X5_15 C (dx dX5_doublesWith 10 rfl) ?_
          refine r_iload_n C (dx dX5_doublesWith 11 rfl) rfl ?_
          refine r_iald (j := p) (x := vF v 0 p) C rfl rfl (by decide) rfl (by omega) (dx dX5_doublesWith 12 rfl) (hv.e0 (by omega)) ?_
          refine r_csP (as := [vi s, vi (vF v 0 p)]) (st := []) (v := vi (b2i (inB s (vF v 0 p)))) C X I_X5_isIn l_X5_74 (c_X5_isIn _ _) (by decide) (Nat.le_of_ble_eq_true rfl) List.prefix_rfl (Nat.le_of_ble_eq_true rfl) rfl (dx dX5_doublesWith 13 rfl) ?_
          refine rb_eq (b := inB s (vF v 0 p)) (tgt := 44) C (dx dX5_doublesWith 14 rfl) (by decide) (fun c5 => ?_) (fun c5 => ?_)
          ·
            have c5 : (inB s (vF v 0 p)) = false := c5
            refine rn_iinc (a := p) (k := 1) (ls' := [(0, vr 5 k), (1, vi s), (2, vi (bset (fun p => inB s (vF v 0 p) && inB s (vF v 1 p)) p)), (3, vi (nI (p + 1)))]) C (dx dX5_doublesWith 28 rfl) rfl rfl (by decide) [1, 2, 3, 0] rfl ?_
            refine r_goto (tgt := 4) C (dx dX5_doublesWith 29 rfl) (by decide) ?_
            have e9 : bset (fun p => inB s (vF v 0 p) && inB s (vF v 1 p)) p = bset (fun p => inB s (vF v 0 p) && inB s (vF v 1 p)) (p + 1) := by simp [bset, c4, c5]
            rw [e9]
            exact ih
          ·
            have c5 : (inB s (vF v 0 p)) = true := c5
            refine r_iload_n C (dx dX5_doublesWith 15 rfl) rfl ?_
            refine r_aload_n C (dx dX5_doublesWith 16 rfl) rfl ?_
            refine g_X5_19 C (dx dX5_doublesWith 17 rfl) ?_
            refine r_iload_n C (dx dX5_doublesWith 18 rfl) rfl ?_
            refine r_iald (j := p) (x := vF v 1 p) C rfl rfl (by decide) rfl (by omega) (dx dX5_doublesWith 19 rfl) (hv.e1 (by omega)) ?_
            refine r_csP (as := [vi s, vi (vF v 1 p)]) (st := []) (v := vi (b2i (inB s (vF v 1 p)))) C X I_X5_isIn l_X5_74 (c_X5_isIn _ _) (by decide) (Nat.le_of_ble_eq_true rfl) List.prefix_rfl (Nat.le_of_ble_eq_true rfl) rfl (dx dX5_doublesWith 20 rfl) ?_
            refine rb_eq (b := inB s (vF v 1 p)) (tgt := 44) C (dx dX5_doublesWith 21 rfl) (by decide) (fun c6 => ?_) (fun c6 => ?_)
            ·
              have c6 : (inB s (vF v 1 p)) = false := c6
              refine rn_iinc (a := p) (k := 1) (ls' := [(0, vr 5 k), (1, vi s), (2, vi (bset (fun p => inB s (vF v 0 p) && inB s (vF v 1 p)) p)), (3, vi (nI (p + 1)))]) C (dx dX5_doublesWith 28 rfl) rfl rfl (by decide) [1, 2, 3, 0] rfl ?_
              refine r_goto (tgt := 4) C (dx dX5_doublesWith 29 rfl) (by decide) ?_
              have e9 : bset (fun p => inB s (vF v 0 p) && inB s (vF v 1 p)) p = bset (fun p => inB s (vF v 0 p) && inB s (vF v 1 p)) (p + 1) := by simp [bset, c4, c5, c6]
              rw [e9]
              exact ih
            ·
              have c6 : (inB s (vF v 1 p)) = true := c6
              refine r_iload_n C (dx dX5_doublesWith 22 rfl) rfl ?_
              refine r_iconst (v := nI 1) C (dx dX5_doublesWith 23 rfl) rfl ?_
              refine r_iload_n C (dx dX5_doublesWith 24 rfl) rfl ?_
              refine r_ishl C (dx dX5_doublesWith 25 rfl) ?_
              refine r_ior C (dx dX5_doublesWith 26 rfl) ?_
              refine r_istore_n (ls' := [(0, vr 5 k), (1, vi s), (2, vi ((bset (fun p => inB s (vF v 0 p) && inB s (vF v 1 p)) p) ||| ((nI 1) <<< ((nI p) &&& 31)))), (3, vi (nI p))]) C (dx dX5_doublesWith 27 rfl) (by decide) [1, 2, 0, 3] rfl ?_
              refine rn_iinc (a := p) (k := 1) (ls' := [(0, vr 5 k), (1, vi s), (2, vi ((bset (fun p => inB s (vF v 0 p) && inB s (vF v 1 p)) p) ||| ((nI 1) <<< ((nI p) &&& 31)))), (3, vi (nI (p + 1)))]) C (dx dX5_doublesWith 28 rfl) rfl rfl (by decide) [1, 2, 3, 0] rfl ?_
              refine r_goto (tgt := 4) C (dx dX5_doublesWith 29 rfl) (by decide) ?_
              have e9 : (bset (fun p => inB s (vF v 0 p) && inB s (vF v 1 p)) p) ||| ((nI 1) <<< ((nI p) &&& 31)) = bset (fun p => inB s (vF v 0 p) && inB s (vF v 1 p)) (p + 1) := by simp [bset, c4, c5, c6]
              rw [e9]
              exact ih)
set_option maxHeartbeats 4000000 in
theorem c_X5_machinesWith {l : Launch} {h : Hp} {k : Nat} {v : Vg} (hv : VilAt h k v) (ps : Int32) : Mp l yX5_machinesWith cX5_machinesWith 4 (some .int) 1 [vr 5 k, vi ps] h (vi (macW v ps)) := by
  refine Ms.of (by decide) (Nat.le_of_ble_eq_true rfl) (fun G C X F => ?_)
  have C : Cx G cX5_machinesWith 4 RX5 := C
  show Rr G 0 [(0, vr 5 k), (1, vi ps)] [] h
  have bP := hv.bP
  have bM := hv.bM
  have bN := hv.bN
  refine r_iconst (v := nI 0) C (dx dX5_machinesWith 0 rfl) rfl ?_
  refine r_istore_n (ls' := [(0, vr 5 k), (1, vi ps), (2, vi (nI 0))]) C (dx dX5_machinesWith 1 rfl) (by decide) [1, 2, 0] rfl ?_
  refine r_iconst (v := nI 0) C (dx dX5_machinesWith 2 rfl) rfl ?_
  refine r_istore_n (ls' := [(0, vr 5 k), (1, vi ps), (2, vi (nI 0)), (3, vi (nI 0))]) C (dx dX5_machinesWith 3 rfl) (by decide) [1, 2, 3, 0] rfl ?_
  refine loopU (Φ := fun p => Rr G 4 [(0, vr 5 k), (1, vi ps), (2, vi (bset (needW v ps) p)), (3, vi (nI p))] [] h) (N := vM v) ?_ ?_ 0 (Nat.zero_le _)
  ·
    refine r_iload_n C (dx dX5_machinesWith 4 rfl) rfl ?_
    refine r_aload_n C (dx dX5_machinesWith 5 rfl) rfl ?_
    refine g_X5_22 (x := nI (vM v)) C (dx dX5_machinesWith 6 rfl) hv.eM ?_
    refine rn_ge (a := vM v) (b := vM v) (tgt := 37) C (by omega) (by omega) (dx dX5_machinesWith 7 rfl) (by decide) (fun c1 => ?_) (fun c1 => ?_)
    · first
      | (omega; done)
      | (
          have c1 : vM v ≤ vM v := c1
          refine r_iload_n C (dx dX5_machinesWith 25 rfl) rfl ?_
          exact F.1 _ _ _ _ _ rfl rfl (dx dX5_machinesWith 26 rfl) rfl ⟨congrArg (fun x => some (vi x)) (show bset (needW v ps) (vM v) = macW v ps by rfl), rfl⟩)
    · first
      | (omega; done)
      | (
          have c1 : vM v < vM v := c1
          refine r_aload_n C (dx dX5_machinesWith 8 rfl) rfl ?_
          refine g_X5_25 C (dx dX5_machinesWith 9 rfl) ?_
          refine r_iload_n C (dx dX5_machinesWith 10 rfl) rfl ?_
          refine r_iald (j := vM v) (x := vF v 2 (vM v)) C rfl rfl (by decide) rfl (by omega) (dx dX5_machinesWith 11 rfl) (hv.e2 (by omega)) ?_
          refine r_iload_n C (dx dX5_machinesWith 12 rfl) rfl ?_
          refine r_iconst (v := -1) C (dx dX5_machinesWith 13 rfl) rfl ?_
          refine r_ixor C (dx dX5_machinesWith 14 rfl) ?_
          refine r_iand C (dx dX5_machinesWith 15 rfl) ?_
          refine r_if_ne (tgt := 31) C (dx dX5_machinesWith 16 rfl) (by decide) (fun c2 => ?_) (fun c2 => ?_)
          ·
            have c2 : ¬ (vF v 2 (vM v)) &&& (ps ^^^ (-1)) = 0 := c2
            refine rn_iinc (a := vM v) (k := 1) (ls' := [(0, vr 5 k), (1, vi ps), (2, vi (bset (needW v ps) (vM v))), (3, vi (nI (vM v + 1)))]) C (dx dX5_machinesWith 23 rfl) rfl rfl (by decide) [1, 2, 3, 0] rfl ?_
            refine r_goto (tgt := 4) C (dx dX5_machinesWith 24 rfl) (by decide) ?_
            have e9 : bset (needW v ps) (vM v) = bset (needW v ps) (vM v + 1) := by simp_all [bset, needW]
            rw [e9]
            exact ih
          ·
            have c2 : (vF v 2 (vM v)) &&& (ps ^^^ (-1)) = 0 := c2
            refine r_iload_n C (dx dX5_machinesWith 17 rfl) rfl ?_
            refine r_iconst (v := nI 1) C (dx dX5_machinesWith 18 rfl) rfl ?_
            refine r_iload_n C (dx dX5_machinesWith 19 rfl) rfl ?_
            refine r_ishl C (dx dX5_machinesWith 20 rfl) ?_
            refine r_ior C (dx dX5_machinesWith 21 rfl) ?_
            refine r_istore_n (ls' := [(0, vr 5 k), (1, vi ps), (2, vi ((bset (needW v ps) (vM v)) ||| ((nI 1) <<< ((nI (vM v)) &&& 31)))), (3, vi (nI (vM v)))]) C (dx dX5_machinesWith 22 rfl) (by decide) [1, 2, 0, 3] rfl ?_
            refine rn_iinc (a := vM v) (k := 1) (ls' := [(0, vr 5 k), (1, vi ps), (2, vi ((bset (needW v ps) (vM v)) ||| ((nI 1) <<< ((nI (vM v)) &&& 31)))), (3, vi (nI (vM v + 1)))]) C (dx dX5_machinesWith 23 rfl) rfl rfl (by decide) [1, 2, 3, 0] rfl ?_
            refine r_goto (tgt := 4) C (dx dX5_machinesWith 24 rfl) (by decide) ?_
            have e9 : (bset (needW v ps) (vM v)) ||| ((nI 1) <<< ((nI (vM v)) &&& 31)) = bset (needW v ps) (vM v + 1) := by simp_all [bset, needW]
            rw [e9]
            exact ih)
  ·
    intro p hp ih
    refine r_iload_n C (dx dX5_machinesWith 4 rfl) rfl ?_
    refine r_aload_n C (dx dX5_machinesWith 5 rfl) rfl ?_
    refine g_X5_22 (x := nI (vM v)) C (dx dX5_machinesWith 6 rfl) hv.eM ?_
    refine rn_ge (a := p) (b := vM v) (tgt := 37) C (by omega) (by omega) (dx dX5_machinesWith 7 rfl) (by decide) (fun c3 => ?_) (fun c3 => ?_)
    · first
      | (omega; done)
      | (
          have c3 : vM v ≤ p := c3
          refine r_iload_n C (dx dX5_machinesWith 25 rfl) rfl ?_
          exact F.1 _ _ _ _ _ rfl rfl (dx dX5_machinesWith 26 rfl) rfl ⟨congrArg (fun x => some (vi x)) (show bset (needW v ps) p = macW v ps by rfl), rfl⟩)
    · first
      | (omega; done)
      | (
          have c3 : p < vM v := c3
          refine r_aload_n C (dx dX5_machinesWith 8 rfl) rfl ?_
          refine g_X5_25 C (dx dX5_machinesWith 9 rfl) ?_
          refine r_iload_n C (dx dX5_machinesWith 10 rfl) rfl ?_
          refine r_iald (j := p) (x := vF v 2 p) C rfl rfl (by decide) rfl (by omega) (dx dX5_machinesWith 11 rfl) (hv.e2 (by omega)) ?_
          refine r_iload_n C (dx dX5_machinesWith 12 rfl) rfl ?_
          refine r_iconst (v := -1) C (dx dX5_machinesWith 13 rfl) rfl ?_
          refine r_ixor C (dx dX5_machinesWith 14 rfl) ?_
          refine r_iand C (dx dX5_machinesWith 15 rfl) ?_
          refine r_if_ne (tgt := 31) C (dx dX5_machinesWith 16 rfl) (by decide) (fun c4 => ?_) (fun c4 => ?_)
          ·
            have c4 : ¬ (vF v 2 p) &&& (ps ^^^ (-1)) = 0 := c4
            refine rn_iinc (a := p) (k := 1) (ls' := [(0, vr 5 k), (1, vi ps), (2, vi (bset (needW v ps) p)), (3, vi (nI (p + 1)))]) C (dx dX5_machinesWith 23 rfl) rfl rfl (by decide) [1, 2, 3, 0] rfl ?_
            refine r_goto (tgt := 4) C (dx dX5_machinesWith 24 rfl) (by decide) ?_
            have e9 : bset (needW v ps) p = bset (needW v ps) (p + 1) := by simp_all [bset, needW]
            rw [e9]
            exact ih
          ·
            have c4 : (vF v 2 p) &&& (ps ^^^ (-1)) = 0 := c4
            refine r_iload_n C (dx dX5_machinesWith 17 rfl) rfl ?_
            refine r_iconst (v := nI 1) C (dx dX5_machinesWith 18 rfl) rfl ?_
            refine r_iload_n C (dx dX5_machinesWith 19 rfl) rfl ?_
            refine r_ishl C (dx dX5_machinesWith 20 rfl) ?_
            refine r_ior C (dx dX5_machinesWith 21 rfl) ?_
            refine r_istore_n (ls' := [(0, vr 5 k), (1, vi ps), (2, vi ((bset (needW v ps) p) ||| ((nI 1) <<< ((nI p) &&& 31)))), (3, vi (nI p))]) C (dx dX5_machinesWith 22 rfl) (by decide) [1, 2, 0, 3] rfl ?_
            refine rn_iinc (a := p) (k := 1) (ls' := [(0, vr 5 k), (1, vi ps), (2, vi ((bset (needW v ps) p) ||| ((nI 1) <<< ((nI p) &&& 31)))), (3, vi (nI (p + 1)))]) C (dx dX5_machinesWith 23 rfl) rfl rfl (by decide) [1, 2, 3, 0] rfl ?_
            refine r_goto (tgt := 4) C (dx dX5_machinesWith 24 rfl) (by decide) ?_
            have e9 : (bset (needW v ps) p) ||| ((nI 1) <<< ((nI p) &&& 31)) = bset (needW v ps) (p + 1) := by simp_all [bset, needW]
            rw [e9]
            exact ih)
set_option maxHeartbeats 4000000 in
theorem c_X5_machinesTouchedBy {l : Launch} {h : Hp} {k : Nat} {v : Vg} (hv : VilAt h k v) (ps : Int32) : Mp l yX5_machinesTouchedBy cX5_machinesTouchedBy 4 (some .int) 1 [vr 5 k, vi ps] h (vi (nI (touch v ps))) := by
  refine Ms.of (by decide) (Nat.le_of_ble_eq_true rfl) (fun G C X F => ?_)
  have C : Cx G cX5_machinesTouchedBy 4 RX5 := C
  show Rr G 0 [(0, vr 5 k), (1, vi ps)] [] h
  have bP := hv.bP
  have bM := hv.bM
  have bN := hv.bN
  refine r_iconst (v := nI 0) C (dx dX5_machinesTouchedBy 0 rfl) rfl ?_
  refine r_istore_n (ls' := [(0, vr 5 k), (1, vi ps), (2, vi (nI 0))]) C (dx dX5_machinesTouchedBy 1 rfl) (by decide) [1, 2, 0] rfl ?_
  refine r_iconst (v := nI 0) C (dx dX5_machinesTouchedBy 2 rfl) rfl ?_
  refine r_istore_n (ls' := [(0, vr 5 k), (1, vi ps), (2, vi (nI 0)), (3, vi (nI 0))]) C (dx dX5_machinesTouchedBy 3 rfl) (by decide) [1, 2, 3, 0] rfl ?_
  refine loopU (Φ := fun p => Rr G 4 [(0, vr 5 k), (1, vi ps), (2, vi (nI (cnt (fun m => decide (¬ vF v 2 m &&& ps = 0)) p))), (3, vi (nI p))] [] h) (N := vM v) ?_ ?_ 0 (Nat.zero_le _)
  ·
    refine r_iload_n C (dx dX5_machinesTouchedBy 4 rfl) rfl ?_
    refine r_aload_n C (dx dX5_machinesTouchedBy 5 rfl) rfl ?_
    refine g_X5_22 (x := nI (vM v)) C (dx dX5_machinesTouchedBy 6 rfl) hv.eM ?_
    refine rn_ge (a := vM v) (b := vM v) (tgt := 32) C (by omega) (by omega) (dx dX5_machinesTouchedBy 7 rfl) (by decide) (fun c1 => ?_) (fun c1 => ?_)
    · first
      | (omega; done)
      | (
          have c1 : vM v ≤ vM v := c1
          refine r_iload_n C (dx dX5_machinesTouchedBy 18 rfl) rfl ?_
          exact F.1 _ _ _ _ _ rfl rfl (dx dX5_machinesTouchedBy 19 rfl) rfl ⟨congrArg (fun x => some (vi x)) (show nI (cnt (fun m => decide (¬ vF v 2 m &&& ps = 0)) (vM v)) = nI (touch v ps) by rfl), rfl⟩)
    · first
      | (omega; done)
      | (
          have c1 : vM v < vM v := c1
          refine r_aload_n C (dx dX5_machinesTouchedBy 8 rfl) rfl ?_
          refine g_X5_25 C (dx dX5_machinesTouchedBy 9 rfl) ?_
          refine r_iload_n C (dx dX5_machinesTouchedBy 10 rfl) rfl ?_
          refine r_iald (j := vM v) (x := vF v 2 (vM v)) C rfl rfl (by decide) rfl (by omega) (dx dX5_machinesTouchedBy 11 rfl) (hv.e2 (by omega)) ?_
          refine r_iload_n C (dx dX5_machinesTouchedBy 12 rfl) rfl ?_
          refine r_iand C (dx dX5_machinesTouchedBy 13 rfl) ?_
          refine r_if_eq (tgt := 26) C (dx dX5_machinesTouchedBy 14 rfl) (by decide) (fun c2 => ?_) (fun c2 => ?_)
          ·
            have c2 : (vF v 2 (vM v)) &&& ps = 0 := c2
            refine rn_iinc (a := vM v) (k := 1) (ls' := [(0, vr 5 k), (1, vi ps), (2, vi (nI (cnt (fun m => decide (¬ vF v 2 m &&& ps = 0)) (vM v)))), (3, vi (nI (vM v + 1)))]) C (dx dX5_machinesTouchedBy 16 rfl) rfl rfl (by decide) [1, 2, 3, 0] rfl ?_
            refine r_goto (tgt := 4) C (dx dX5_machinesTouchedBy 17 rfl) (by decide) ?_
            have e9 : nI (cnt (fun m => decide (¬ vF v 2 m &&& ps = 0)) (vM v)) = nI (cnt (fun m => decide (¬ vF v 2 m &&& ps = 0)) (vM v + 1)) := by simp [cnt, c1, c2]
            rw [e9]
            exact ih
          ·
            have c2 : ¬ (vF v 2 (vM v)) &&& ps = 0 := c2
            refine rn_iinc (a := cnt (fun m => decide (¬ vF v 2 m &&& ps = 0)) (vM v)) (k := 1) (ls' := [(0, vr 5 k), (1, vi ps), (2, vi (nI (cnt (fun m => decide (¬ vF v 2 m &&& ps = 0)) (vM v) + 1))), (3, vi (nI (vM v)))]) C (dx dX5_machinesTouchedBy 15 rfl) rfl rfl (by decide) [1, 2, 0, 3] rfl ?_
            refine rn_iinc (a := vM v) (k := 1) (ls' := [(0, vr 5 k), (1, vi ps), (2, vi (nI (cnt (fun m => decide (¬ vF v 2 m &&& ps = 0)) (vM v) + 1))), (3, vi (nI (vM v + 1)))]) C (dx dX5_machinesTouchedBy 16 rfl) rfl rfl (by decide) [1, 2, 3, 0] rfl ?_
            refine r_goto (tgt := 4) C (dx dX5_machinesTouchedBy 17 rfl) (by decide) ?_
            have e9 : nI (cnt (fun m => decide (¬ vF v 2 m &&& ps = 0)) (vM v) + 1) = nI (cnt (fun m => decide (¬ vF v 2 m &&& ps = 0)) (vM v + 1)) := by simp [cnt, c1, c2]
            rw [e9]
            exact ih)
  ·
    intro p hp ih
    refine r_iload_n C (dx dX5_machinesTouchedBy 4 rfl) rfl ?_
    refine r_aload_n C (dx dX5_machinesTouchedBy 5 rfl) rfl ?_
    refine g_X5_22 (x := nI (vM v)) C (dx dX5_machinesTouchedBy 6 rfl) hv.eM ?_
    refine rn_ge (a := p) (b := vM v) (tgt := 32) C (by omega) (by omega) (dx dX5_machinesTouchedBy 7 rfl) (by decide) (fun c3 => ?_) (fun c3 => ?_)
    · first
      | (omega; done)
      | (
          have c3 : vM v ≤ p := c3
          refine r_iload_n C (dx dX5_machinesTouchedBy 18 rfl) rfl ?_
          exact F.1 _ _ _ _ _ rfl rfl (dx dX5_machinesTouchedBy 19 rfl) rfl ⟨congrArg (fun x => some (vi x)) (show nI (cnt (fun m => decide (¬ vF v 2 m &&& ps = 0)) p) = nI (touch v ps) by rfl), rfl⟩)
    · first
      | (omega; done)
      | (
          have c3 : p < vM v := c3
          refine r_aload_n C (dx dX5_machinesTouchedBy 8 rfl) rfl ?_
          refine g_X5_25 C (dx dX5_machinesTouchedBy 9 rfl) ?_
          refine r_iload_n C (dx dX5_machinesTouchedBy 10 rfl) rfl ?_
          refine r_iald (j := p) (x := vF v 2 p) C rfl rfl (by decide) rfl (by omega) (dx dX5_machinesTouchedBy 11 rfl) (hv.e2 (by omega)) ?_
          refine r_iload_n C (dx dX5_machinesTouchedBy 12 rfl) rfl ?_
          refine r_iand C (dx dX5_machinesTouchedBy 13 rfl) ?_
          refine r_if_eq (tgt := 26) C (dx dX5_machinesTouchedBy 14 rfl) (by decide) (fun c4 => ?_) (fun c4 => ?_)
          ·
            have c4 : (vF v 2 p) &&& ps = 0 := c4
            refine rn_iinc (a := p) (k := 1) (ls' := [(0, vr 5 k), (1, vi ps), (2, vi (nI (cnt (fun m => decide (¬ vF v 2 m &&& ps = 0)) p))), (3, vi (nI (p + 1)))]) C (dx dX5_machinesTouchedBy 16 rfl) rfl rfl (by decide) [1, 2, 3, 0] rfl ?_
            refine r_goto (tgt := 4) C (dx dX5_machinesTouchedBy 17 rfl) (by decide) ?_
            have e9 : nI (cnt (fun m => decide (¬ vF v 2 m &&& ps = 0)) p) = nI (cnt (fun m => decide (¬ vF v 2 m &&& ps = 0)) (p + 1)) := by simp [cnt, c3, c4]
            rw [e9]
            exact ih
          ·
            have c4 : ¬ (vF v 2 p) &&& ps = 0 := c4
            refine rn_iinc (a := cnt (fun m => decide (¬ vF v 2 m &&& ps = 0)) p) (k := 1) (ls' := [(0, vr 5 k), (1, vi ps), (2, vi (nI (cnt (fun m => decide (¬ vF v 2 m &&& ps = 0)) p + 1))), (3, vi (nI p))]) C (dx dX5_machinesTouchedBy 15 rfl) rfl rfl (by decide) [1, 2, 0, 3] rfl ?_
            refine rn_iinc (a := p) (k := 1) (ls' := [(0, vr 5 k), (1, vi ps), (2, vi (nI (cnt (fun m => decide (¬ vF v 2 m &&& ps = 0)) p + 1))), (3, vi (nI (p + 1)))]) C (dx dX5_machinesTouchedBy 16 rfl) rfl rfl (by decide) [1, 2, 3, 0] rfl ?_
            refine r_goto (tgt := 4) C (dx dX5_machinesTouchedBy 17 rfl) (by decide) ?_
            have e9 : nI (cnt (fun m => decide (¬ vF v 2 m &&& ps = 0)) p + 1) = nI (cnt (fun m => decide (¬ vF v 2 m &&& ps = 0)) (p + 1)) := by simp [cnt, c3, c4]
            rw [e9]
            exact ih)
set_option maxHeartbeats 4000000 in
theorem c_X5_worthWith {l : Launch} {h : Hp} {k : Nat} {v : Vg} (hv : VilAt h k v) (ps : Int32) : Mp l yX5_worthWith cX5_worthWith 4 (some .int) 1 [vr 5 k, vi ps] h (vi (worthS v ps)) := by
  refine Ms.of (by decide) (Nat.le_of_ble_eq_true rfl) (fun G C X F => ?_)
  have C : Cx G cX5_worthWith 4 RX5 := C
  show Rr G 0 [(0, vr 5 k), (1, vi ps)] [] h
  have bP := hv.bP
  have bM := hv.bM
  have bN := hv.bN
  refine r_iconst (v := nI 0) C (dx dX5_worthWith 0 rfl) rfl ?_
  refine r_istore_n (ls' := [(0, vr 5 k), (1, vi ps), (2, vi (nI 0))]) C (dx dX5_worthWith 1 rfl) (by decide) [1, 2, 0] rfl ?_
  refine r_iconst (v := nI 0) C (dx dX5_worthWith 2 rfl) rfl ?_
  refine r_istore_n (ls' := [(0, vr 5 k), (1, vi ps), (2, vi (nI 0)), (3, vi (nI 0))]) C (dx dX5_worthWith 3 rfl) (by decide) [1, 2, 3, 0] rfl ?_
  refine loopU (Φ := fun p => Rr G 4 [(0, vr 5 k), (1, vi ps), (2, vi (sumIf (needW v ps) (fun m => vF v 3 m) p)), (3, vi (nI p))] [] h) (N := vM v) ?_ ?_ 0 (Nat.zero_le _)
  ·
    refine r_iload_n C (dx dX5_worthWith 4 rfl) rfl ?_
    refine r_aload_n C (dx dX5_worthWith 5 rfl) rfl ?_
    refine g_X5_22 (x := nI (vM v)) C (dx dX5_worthWith 6 rfl) hv.eM ?_
    refine rn_ge (a := vM v) (b := vM v) (tgt := 40) C (by omega) (by omega) (dx dX5_worthWith 7 rfl) (by decide) (fun c1 => ?_) (fun c1 => ?_)
    · first
      | (omega; done)
      | (
          have c1 : vM v ≤ vM v := c1
          refine r_iload_n C (dx dX5_worthWith 26 rfl) rfl ?_
          exact F.1 _ _ _ _ _ rfl rfl (dx dX5_worthWith 27 rfl) rfl ⟨congrArg (fun x => some (vi x)) (show sumIf (needW v ps) (fun m => vF v 3 m) (vM v) = worthS v ps by rfl), rfl⟩)
    · first
      | (omega; done)
      | (
          have c1 : vM v < vM v := c1
          refine r_aload_n C (dx dX5_worthWith 8 rfl) rfl ?_
          refine g_X5_25 C (dx dX5_worthWith 9 rfl) ?_
          refine r_iload_n C (dx dX5_worthWith 10 rfl) rfl ?_
          refine r_iald (j := vM v) (x := vF v 2 (vM v)) C rfl rfl (by decide) rfl (by omega) (dx dX5_worthWith 11 rfl) (hv.e2 (by omega)) ?_
          refine r_iload_n C (dx dX5_worthWith 12 rfl) rfl ?_
          refine r_iconst (v := -1) C (dx dX5_worthWith 13 rfl) rfl ?_
          refine r_ixor C (dx dX5_worthWith 14 rfl) ?_
          refine r_iand C (dx dX5_worthWith 15 rfl) ?_
          refine r_if_ne (tgt := 34) C (dx dX5_worthWith 16 rfl) (by decide) (fun c2 => ?_) (fun c2 => ?_)
          ·
            have c2 : ¬ (vF v 2 (vM v)) &&& (ps ^^^ (-1)) = 0 := c2
            refine rn_iinc (a := vM v) (k := 1) (ls' := [(0, vr 5 k), (1, vi ps), (2, vi (sumIf (needW v ps) (fun m => vF v 3 m) (vM v))), (3, vi (nI (vM v + 1)))]) C (dx dX5_worthWith 24 rfl) rfl rfl (by decide) [1, 2, 3, 0] rfl ?_
            refine r_goto (tgt := 4) C (dx dX5_worthWith 25 rfl) (by decide) ?_
            have e9 : sumIf (needW v ps) (fun m => vF v 3 m) (vM v) = sumIf (needW v ps) (fun m => vF v 3 m) (vM v + 1) := by simp_all [sumIf, needW]
            rw [e9]
            exact ih
          ·
            have c2 : (vF v 2 (vM v)) &&& (ps ^^^ (-1)) = 0 := c2
            refine r_iload_n C (dx dX5_worthWith 17 rfl) rfl ?_
            refine r_aload_n C (dx dX5_worthWith 18 rfl) rfl ?_
            refine g_X5_28 C (dx dX5_worthWith 19 rfl) ?_
            refine r_iload_n C (dx dX5_worthWith 20 rfl) rfl ?_
            refine r_iald (j := vM v) (x := vF v 3 (vM v)) C rfl rfl (by decide) rfl (by omega) (dx dX5_worthWith 21 rfl) (hv.e3 (by omega)) ?_
            refine r_iadd C (dx dX5_worthWith 22 rfl) ?_
            refine r_istore_n (ls' := [(0, vr 5 k), (1, vi ps), (2, vi ((sumIf (needW v ps) (fun m => vF v 3 m) (vM v)) + (vF v 3 (vM v)))), (3, vi (nI (vM v)))]) C (dx dX5_worthWith 23 rfl) (by decide) [1, 2, 0, 3] rfl ?_
            refine rn_iinc (a := vM v) (k := 1) (ls' := [(0, vr 5 k), (1, vi ps), (2, vi ((sumIf (needW v ps) (fun m => vF v 3 m) (vM v)) + (vF v 3 (vM v)))), (3, vi (nI (vM v + 1)))]) C (dx dX5_worthWith 24 rfl) rfl rfl (by decide) [1, 2, 3, 0] rfl ?_
            refine r_goto (tgt := 4) C (dx dX5_worthWith 25 rfl) (by decide) ?_
            have e9 : (sumIf (needW v ps) (fun m => vF v 3 m) (vM v)) + (vF v 3 (vM v)) = sumIf (needW v ps) (fun m => vF v 3 m) (vM v + 1) := by simp_all [sumIf, needW]
            rw [e9]
            exact ih)
  ·
    intro p hp ih
    refine r_iload_n C (dx dX5_worthWith 4 rfl) rfl ?_
    refine r_aload_n C (dx dX5_worthWith 5 rfl) rfl ?_
    refine g_X5_22 (x := nI (vM v)) C (dx dX5_worthWith 6 rfl) hv.eM ?_
    refine rn_ge (a := p) (b := vM v) (tgt := 40) C (by omega) (by omega) (dx dX5_worthWith 7 rfl) (by decide) (fun c3 => ?_) (fun c3 => ?_)
    · first
      | (omega; done)
      | (
          have c3 : vM v ≤ p := c3
          refine r_iload_n C (dx dX5_worthWith 26 rfl) rfl ?_
          exact F.1 _ _ _ _ _ rfl rfl (dx dX5_worthWith 27 rfl) rfl ⟨congrArg (fun x => some (vi x)) (show sumIf (needW v ps) (fun m => vF v 3 m) p = worthS v ps by rfl), rfl⟩)
    · first
      | (omega; done)
      | (
          have c3 : p < vM v := c3
          refine r_aload_n C (dx dX5_worthWith 8 rfl) rfl ?_
          refine g_X5_25 C (dx dX5_worthWith 9 rfl) ?_
          refine r_iload_n C (dx dX5_worthWith 10 rfl) rfl ?_
          refine r_iald (j := p) (x := vF v 2 p) C rfl rfl (by decide) rfl (by omega) (dx dX5_worthWith 11 rfl) (hv.e2 (by omega)) ?_
          refine r_iload_n C (dx dX5_worthWith 12 rfl) rfl ?_
          refine r_iconst (v := -1) C (dx dX5_worthWith 13 rfl) rfl ?_
          refine r_ixor C (dx dX5_worthWith 14 rfl) ?_
          refine r_iand C (dx dX5_worthWith 15 rfl) ?_
          refine r_if_ne (tgt := 34) C (dx dX5_worthWith 16 rfl) (by decide) (fun c4 => ?_) (fun c4 => ?_)
          ·
            have c4 : ¬ (vF v 2 p) &&& (ps ^^^ (-1)) = 0 := c4
            refine rn_iinc (a := p) (k := 1) (ls' := [(0, vr 5 k), (1, vi ps), (2, vi (sumIf (needW v ps) (fun m => vF v 3 m) p)), (3, vi (nI (p + 1)))]) C (dx dX5_worthWith 24 rfl) rfl rfl (by decide) [1, 2, 3, 0] rfl ?_
            refine r_goto (tgt := 4) C (dx dX5_worthWith 25 rfl) (by decide) ?_
            have e9 : sumIf (needW v ps) (fun m => vF v 3 m) p = sumIf (needW v ps) (fun m => vF v 3 m) (p + 1) := by simp_all [sumIf, needW]
            rw [e9]
            exact ih
          ·
            have c4 : (vF v 2 p) &&& (ps ^^^ (-1)) = 0 := c4
            refine r_iload_n C (dx dX5_worthWith 17 rfl) rfl ?_
            refine r_aload_n C (dx dX5_worthWith 18 rfl) rfl ?_
            refine g_X5_28 C (dx dX5_worthWith 19 rfl) ?_
            refine r_iload_n C (dx dX5_worthWith 20 rfl) rfl ?_
            refine r_iald (j := p) (x := vF v 3 p) C rfl rfl (by decide) rfl (by omega) (dx dX5_worthWith 21 rfl) (hv.e3 (by omega)) ?_
            refine r_iadd C (dx dX5_worthWith 22 rfl) ?_
            refine r_istore_n (ls' := [(0, vr 5 k), (1, vi ps), (2, vi ((sumIf (needW v ps) (fun m => vF v 3 m) p) + (vF v 3 p))), (3, vi (nI p))]) C (dx dX5_worthWith 23 rfl) (by decide) [1, 2, 0, 3] rfl ?_
            refine rn_iinc (a := p) (k := 1) (ls' := [(0, vr 5 k), (1, vi ps), (2, vi ((sumIf (needW v ps) (fun m => vF v 3 m) p) + (vF v 3 p))), (3, vi (nI (p + 1)))]) C (dx dX5_worthWith 24 rfl) rfl rfl (by decide) [1, 2, 3, 0] rfl ?_
            refine r_goto (tgt := 4) C (dx dX5_worthWith 25 rfl) (by decide) ?_
            have e9 : (sumIf (needW v ps) (fun m => vF v 3 m) p) + (vF v 3 p) = sumIf (needW v ps) (fun m => vF v 3 m) (p + 1) := by simp_all [sumIf, needW]
            rw [e9]
            exact ih)
set_option maxHeartbeats 4000000 in
theorem c_X5_isAnyWorkedWith {l : Launch} {h : Hp} {k : Nat} {v : Vg} (hv : VilAt h k v) (ps : Int32) : Mp l yX5_isAnyWorkedWith cX5_isAnyWorkedWith 2 (some .boolean) 2 [vr 5 k, vi ps] h (vi (b2i (decide (¬ macW v ps = 0)))) := by
  refine Ms.of (by decide) (Nat.le_of_ble_eq_true rfl) (fun G C X F => ?_)
  have C : Cx G cX5_isAnyWorkedWith 2 RX5 := C
  show Rr G 0 [(0, vr 5 k), (1, vi ps)] [] h
  have bP := hv.bP
  have bM := hv.bM
  have bN := hv.bN
  refine r_aload_n C (dx dX5_isAnyWorkedWith 0 rfl) rfl ?_
  refine r_iload_n C (dx dX5_isAnyWorkedWith 1 rfl) rfl ?_
  refine r_cvP (as := [vi ps]) (st := []) (v := vi (macW v ps)) C X I_X5_machinesWith l_X5_78 (c_X5_machinesWith hv _) (by decide) (Nat.le_of_ble_eq_true rfl) List.prefix_rfl rfl rfl (Nat.le_of_ble_eq_true rfl) rfl (dx dX5_isAnyWorkedWith 2 rfl) ?_
  refine r_if_eq (tgt := 12) C (dx dX5_isAnyWorkedWith 3 rfl) (by decide) (fun c1 => ?_) (fun c1 => ?_)
  ·
    have c1 : macW v ps = 0 := c1
    refine r_iconst (v := nI 0) C (dx dX5_isAnyWorkedWith 6 rfl) rfl ?_
    exact F.1 _ _ _ _ _ rfl rfl (dx dX5_isAnyWorkedWith 7 rfl) rfl ⟨congrArg (fun x => some (vi x)) (show nI 0 = b2i _ by rw [show (decide (¬ macW v ps = 0)) = false by simp_all]; rfl), rfl⟩
  ·
    have c1 : ¬ macW v ps = 0 := c1
    refine r_iconst (v := nI 1) C (dx dX5_isAnyWorkedWith 4 rfl) rfl ?_
    refine r_goto (tgt := 13) C (dx dX5_isAnyWorkedWith 5 rfl) (by decide) ?_
    exact F.1 _ _ _ _ _ rfl rfl (dx dX5_isAnyWorkedWith 7 rfl) rfl ⟨congrArg (fun x => some (vi x)) (show nI 1 = b2i _ by rw [show (decide (¬ macW v ps = 0)) = true by simp_all]; rfl), rfl⟩
set_option maxHeartbeats 4000000 in
theorem c_X5_isWorkedWith {l : Launch} {h : Hp} {k : Nat} {v : Vg} (hv : VilAt h k v) (m ps : Int32) : Mp l yX5_isWorkedWith cX5_isWorkedWith 3 (some .boolean) 2 [vr 5 k, vi m, vi ps] h (vi (b2i (wkW v m ps))) := by
  refine Ms.of (by decide) (Nat.le_of_ble_eq_true rfl) (fun G C X F => ?_)
  have C : Cx G cX5_isWorkedWith 3 RX5 := C
  show Rr G 0 [(0, vr 5 k), (1, vi m), (2, vi ps)] [] h
  have bP := hv.bP
  have bM := hv.bM
  have bN := hv.bN
  rcases inR_c m (n := vM v) (by omega) with ⟨o, ho, rfl, eo⟩ | eo
  ·
    have hco : (nI o).toNatClampNeg = o := nI_clamp (by omega)
    refine r_aload_n C (dx dX5_isWorkedWith 0 rfl) rfl ?_
    refine r_iload_n C (dx dX5_isWorkedWith 1 rfl) rfl ?_
    refine r_cvP (as := [vi (nI o)]) (st := []) (v := vi (b2i (inR (nI o) (vM v)))) C X I_X5_isMachine l_X5_56 (c_X5_isMachine hv _) (by decide) (Nat.le_of_ble_eq_true rfl) List.prefix_rfl rfl rfl (Nat.le_of_ble_eq_true rfl) rfl (dx dX5_isWorkedWith 2 rfl) ?_
    refine rb_eq (b := inR (nI o) (vM v)) (tgt := 25) C (dx dX5_isWorkedWith 3 rfl) (by decide) (fun c1 => ?_) (fun c1 => ?_)
    · first
      | ((rw [eo] at c1; cases c1); done)
      | (
          have c1 : (inR (nI o) (vM v)) = false := c1
          refine r_iconst (v := nI 0) C (dx dX5_isWorkedWith 15 rfl) rfl ?_
          exact F.1 _ _ _ _ _ rfl rfl (dx dX5_isWorkedWith 16 rfl) rfl ⟨congrArg (fun x => some (vi x)) (show nI 0 = b2i _ by rw [show (wkW v (nI o) ps) = false by simp_all [wkW, needW]]; rfl), rfl⟩)
    · first
      | ((rw [eo] at c1; cases c1); done)
      | (
          have c1 : (inR (nI o) (vM v)) = true := c1
          refine r_aload_n C (dx dX5_isWorkedWith 4 rfl) rfl ?_
          refine g_X5_25 C (dx dX5_isWorkedWith 5 rfl) ?_
          refine r_iload_n C (dx dX5_isWorkedWith 6 rfl) rfl ?_
          refine r_iald (j := o) (x := vF v 2 o) C rfl rfl (by decide) rfl (by omega) (dx dX5_isWorkedWith 7 rfl) (hv.e2 (by omega)) ?_
          refine r_iload_n C (dx dX5_isWorkedWith 8 rfl) rfl ?_
          refine r_iconst (v := -1) C (dx dX5_isWorkedWith 9 rfl) rfl ?_
          refine r_ixor C (dx dX5_isWorkedWith 10 rfl) ?_
          refine r_iand C (dx dX5_isWorkedWith 11 rfl) ?_
          refine r_if_ne (tgt := 25) C (dx dX5_isWorkedWith 12 rfl) (by decide) (fun c2 => ?_) (fun c2 => ?_)
          · first
            | ((rw [eo] at c2; cases c2); done)
            | (
                have c2 : ¬ (vF v 2 o) &&& (ps ^^^ (-1)) = 0 := c2
                refine r_iconst (v := nI 0) C (dx dX5_isWorkedWith 15 rfl) rfl ?_
                exact F.1 _ _ _ _ _ rfl rfl (dx dX5_isWorkedWith 16 rfl) rfl ⟨congrArg (fun x => some (vi x)) (show nI 0 = b2i _ by rw [show (wkW v (nI o) ps) = false by simp_all [wkW, needW]]; rfl), rfl⟩)
          · first
            | ((rw [eo] at c2; cases c2); done)
            | (
                have c2 : (vF v 2 o) &&& (ps ^^^ (-1)) = 0 := c2
                refine r_iconst (v := nI 1) C (dx dX5_isWorkedWith 13 rfl) rfl ?_
                refine r_goto (tgt := 26) C (dx dX5_isWorkedWith 14 rfl) (by decide) ?_
                exact F.1 _ _ _ _ _ rfl rfl (dx dX5_isWorkedWith 16 rfl) rfl ⟨congrArg (fun x => some (vi x)) (show nI 1 = b2i _ by rw [show (wkW v (nI o) ps) = true by simp_all [wkW, needW]]; rfl), rfl⟩))
  ·
    refine r_aload_n C (dx dX5_isWorkedWith 0 rfl) rfl ?_
    refine r_iload_n C (dx dX5_isWorkedWith 1 rfl) rfl ?_
    refine r_cvP (as := [vi m]) (st := []) (v := vi (b2i (inR m (vM v)))) C X I_X5_isMachine l_X5_56 (c_X5_isMachine hv _) (by decide) (Nat.le_of_ble_eq_true rfl) List.prefix_rfl rfl rfl (Nat.le_of_ble_eq_true rfl) rfl (dx dX5_isWorkedWith 2 rfl) ?_
    refine rb_eq (b := inR m (vM v)) (tgt := 25) C (dx dX5_isWorkedWith 3 rfl) (by decide) (fun c3 => ?_) (fun c3 => ?_)
    · first
      | ((rw [eo] at c3; cases c3); done)
      | (
          have c3 : (inR m (vM v)) = false := c3
          refine r_iconst (v := nI 0) C (dx dX5_isWorkedWith 15 rfl) rfl ?_
          exact F.1 _ _ _ _ _ rfl rfl (dx dX5_isWorkedWith 16 rfl) rfl ⟨congrArg (fun x => some (vi x)) (show nI 0 = b2i _ by rw [show (wkW v m ps) = false by simp [wkW, eo]]; rfl), rfl⟩)
    · first
      | ((rw [eo] at c3; cases c3); done)
set_option maxHeartbeats 4000000 in
theorem c_X5_hasRoom {l : Launch} {h : Hp} {k : Nat} {v : Vg} (hv : VilAt h k v) (x : Int32) : Mp l yX5_hasRoom cX5_hasRoom 2 (some .boolean) 2 [vr 5 k, vi x] h (vi (b2i (hasRm v x))) := by
  refine Ms.of (by decide) (Nat.le_of_ble_eq_true rfl) (fun G C X F => ?_)
  have C : Cx G cX5_hasRoom 2 RX5 := C
  show Rr G 0 [(0, vr 5 k), (1, vi x)] [] h
  have bP := hv.bP
  have bM := hv.bM
  have bN := hv.bN
  rcases inR_c x (n := vN v) (by omega) with ⟨o, ho, rfl, eo⟩ | eo
  ·
    have hco : (nI o).toNatClampNeg = o := nI_clamp (by omega)
    refine r_aload_n C (dx dX5_hasRoom 0 rfl) rfl ?_
    refine r_iload_n C (dx dX5_hasRoom 1 rfl) rfl ?_
    refine r_cvP (as := [vi (nI o)]) (st := []) (v := vi (b2i (inR (nI o) (vN v)))) C X I_X5_isOne l_X5_67 (c_X5_isOne hv _) (by decide) (Nat.le_of_ble_eq_true rfl) List.prefix_rfl rfl rfl (Nat.le_of_ble_eq_true rfl) rfl (dx dX5_hasRoom 2 rfl) ?_
    refine rb_eq (b := inR (nI o) (vN v)) (tgt := 26) C (dx dX5_hasRoom 3 rfl) (by decide) (fun c1 => ?_) (fun c1 => ?_)
    · first
      | ((rw [eo] at c1; cases c1); done)
      | (
          have c1 : (inR (nI o) (vN v)) = false := c1
          refine r_iconst (v := nI 0) C (dx dX5_hasRoom 14 rfl) rfl ?_
          exact F.1 _ _ _ _ _ rfl rfl (dx dX5_hasRoom 15 rfl) rfl ⟨congrArg (fun x => some (vi x)) (show nI 0 = b2i _ by rw [show (hasRm v (nI o)) = false by simp_all [hasRm]]; rfl), rfl⟩)
    · first
      | ((rw [eo] at c1; cases c1); done)
      | (
          have c1 : (inR (nI o) (vN v)) = true := c1
          refine r_aload_n C (dx dX5_hasRoom 4 rfl) rfl ?_
          refine r_iload_n C (dx dX5_hasRoom 5 rfl) rfl ?_
          refine r_cvP (as := [vi (nI o)]) (st := []) (v := vi (nI (pcs v (nI o) (vP v)))) C X I_X5_piecesOf l_X5_70 (c_X5_piecesOf hv _) (by decide) (Nat.le_of_ble_eq_true rfl) List.prefix_rfl rfl rfl (Nat.le_of_ble_eq_true rfl) rfl (dx dX5_hasRoom 6 rfl) ?_
          refine r_aload_n C (dx dX5_hasRoom 7 rfl) rfl ?_
          refine g_X5_34 C (dx dX5_hasRoom 8 rfl) ?_
          refine r_iload_n C (dx dX5_hasRoom 9 rfl) rfl ?_
          refine r_iald (j := o) (x := vF v 4 o) C rfl rfl (by decide) rfl (by omega) (dx dX5_hasRoom 10 rfl) (hv.e4 (by omega)) ?_
          refine r_icmp_ge (tgt := 26) C (dx dX5_hasRoom 11 rfl) (by decide) (fun c2 => ?_) (fun c2 => ?_)
          · first
            | ((rw [eo] at c2; cases c2); done)
            | (
                have c2 : vF v 4 o ≤ nI (pcs v (nI o) (vP v)) := c2
                refine r_iconst (v := nI 0) C (dx dX5_hasRoom 14 rfl) rfl ?_
                exact F.1 _ _ _ _ _ rfl rfl (dx dX5_hasRoom 15 rfl) rfl ⟨congrArg (fun x => some (vi x)) (show nI 0 = b2i _ by rw [show (hasRm v (nI o)) = false by simp_all [hasRm]]; rfl), rfl⟩)
          · first
            | ((rw [eo] at c2; cases c2); done)
            | (
                have c2 : ¬ vF v 4 o ≤ nI (pcs v (nI o) (vP v)) := c2
                refine r_iconst (v := nI 1) C (dx dX5_hasRoom 12 rfl) rfl ?_
                refine r_goto (tgt := 27) C (dx dX5_hasRoom 13 rfl) (by decide) ?_
                exact F.1 _ _ _ _ _ rfl rfl (dx dX5_hasRoom 15 rfl) rfl ⟨congrArg (fun x => some (vi x)) (show nI 1 = b2i _ by rw [show (hasRm v (nI o)) = true by simp_all [hasRm]]; rfl), rfl⟩))
  ·
    refine r_aload_n C (dx dX5_hasRoom 0 rfl) rfl ?_
    refine r_iload_n C (dx dX5_hasRoom 1 rfl) rfl ?_
    refine r_cvP (as := [vi x]) (st := []) (v := vi (b2i (inR x (vN v)))) C X I_X5_isOne l_X5_67 (c_X5_isOne hv _) (by decide) (Nat.le_of_ble_eq_true rfl) List.prefix_rfl rfl rfl (Nat.le_of_ble_eq_true rfl) rfl (dx dX5_hasRoom 2 rfl) ?_
    refine rb_eq (b := inR x (vN v)) (tgt := 26) C (dx dX5_hasRoom 3 rfl) (by decide) (fun c3 => ?_) (fun c3 => ?_)
    · first
      | ((rw [eo] at c3; cases c3); done)
      | (
          have c3 : (inR x (vN v)) = false := c3
          refine r_iconst (v := nI 0) C (dx dX5_hasRoom 14 rfl) rfl ?_
          exact F.1 _ _ _ _ _ rfl rfl (dx dX5_hasRoom 15 rfl) rfl ⟨congrArg (fun x => some (vi x)) (show nI 0 = b2i _ by rw [show (hasRm v x) = false by simp [hasRm, eo]]; rfl), rfl⟩)
    · first
      | ((rw [eo] at c3; cases c3); done)
set_option maxHeartbeats 4000000 in
theorem c_X5_areBothWorked {l : Launch} {h : Hp} {k : Nat} {v : Vg} (hv : VilAt h k v) (m o : Nat) (s : Int32) (hm : m < vM v) (ho : o < vM v) (hne : m ≠ o) : Mp l yX5_areBothWorked cX5_areBothWorked 5 (some .boolean) 3 [vr 5 k, vi (nI m), vi (nI o), vi s] h (vi (b2i (bothW v m o s))) := by
  refine Ms.of (by decide) (Nat.le_of_ble_eq_true rfl) (fun G C X F => ?_)
  have C : Cx G cX5_areBothWorked 5 RX5 := C
  show Rr G 0 [(0, vr 5 k), (1, vi (nI m)), (2, vi (nI o)), (3, vi s)] [] h
  have bP := hv.bP
  have bM := hv.bM
  have bN := hv.bN
  have ep : pairV v (nI m) (nI o) = true := by simp [pairV, inR_nI (show m < 2 ^ 31 by omega), inR_nI (show o < 2 ^ 31 by omega), hm, ho, nI_eq (show m < 2 ^ 31 by omega) (show o < 2 ^ 31 by omega), hne]
  refine r_aload_n C (dx dX5_areBothWorked 0 rfl) rfl ?_
  refine r_iload_n C (dx dX5_areBothWorked 1 rfl) rfl ?_
  refine r_iload_n C (dx dX5_areBothWorked 2 rfl) rfl ?_
  refine r_cvP (as := [vi (nI m), vi (nI o)]) (st := []) (v := vi (b2i (pairV v (nI m) (nI o)))) C X I_X5_isPair l_X5_81 (c_X5_isPair hv _ _) (by decide) (Nat.le_of_ble_eq_true rfl) List.prefix_rfl rfl rfl (Nat.le_of_ble_eq_true rfl) rfl (dx dX5_areBothWorked 3 rfl) ?_
  refine rb_ne (b := pairV v (nI m) (nI o)) (tgt := 11) C (dx dX5_areBothWorked 4 rfl) (by decide) (fun c1 => ?_) (fun c1 => ?_)
  · first
    | ((rw [ep] at c1; cases c1); done)
    | (
        have c1 : (pairV v (nI m) (nI o)) = true := c1
        refine r_aload_n C (dx dX5_areBothWorked 7 rfl) rfl ?_
        refine g_X5_25 C (dx dX5_areBothWorked 8 rfl) ?_
        refine r_iload_n C (dx dX5_areBothWorked 9 rfl) rfl ?_
        refine r_iald (j := m) (x := vF v 2 m) C rfl rfl (by decide) rfl (by omega) (dx dX5_areBothWorked 10 rfl) (hv.e2 (by omega)) ?_
        refine r_aload_n C (dx dX5_areBothWorked 11 rfl) rfl ?_
        refine g_X5_25 C (dx dX5_areBothWorked 12 rfl) ?_
        refine r_iload_n C (dx dX5_areBothWorked 13 rfl) rfl ?_
        refine r_iald (j := o) (x := vF v 2 o) C rfl rfl (by decide) rfl (by omega) (dx dX5_areBothWorked 14 rfl) (hv.e2 (by omega)) ?_
        refine r_ior C (dx dX5_areBothWorked 15 rfl) ?_
        refine r_aload_n C (dx dX5_areBothWorked 16 rfl) rfl ?_
        refine r_iload_n C (dx dX5_areBothWorked 17 rfl) rfl ?_
        refine r_cvP (as := [vi s]) (st := [vi ((vF v 2 m) ||| (vF v 2 o))]) (v := vi (hasP v s)) C X I_X5_partsWith l_X5_84 (c_X5_partsWith hv _) (by decide) (Nat.le_of_ble_eq_true rfl) List.prefix_rfl rfl rfl (Nat.le_of_ble_eq_true rfl) rfl (dx dX5_areBothWorked 18 rfl) ?_
        refine r_iconst (v := -1) C (dx dX5_areBothWorked 19 rfl) rfl ?_
        refine r_ixor C (dx dX5_areBothWorked 20 rfl) ?_
        refine r_iand C (dx dX5_areBothWorked 21 rfl) ?_
        refine r_if_ne (tgt := 39) C (dx dX5_areBothWorked 22 rfl) (by decide) (fun c2 => ?_) (fun c2 => ?_)
        · first
          | ((rw [ep] at c2; cases c2); done)
          | (
              have c2 : ¬ ((vF v 2 m) ||| (vF v 2 o)) &&& ((hasP v s) ^^^ (-1)) = 0 := c2
              refine r_iconst (v := nI 0) C (dx dX5_areBothWorked 25 rfl) rfl ?_
              refine r_istore (ls' := [(0, vr 5 k), (1, vi (nI m)), (2, vi (nI o)), (3, vi s), (4, vi (nI 0))]) C (dx dX5_areBothWorked 26 rfl) (by decide) [1, 2, 3, 4, 0] rfl ?_
              refine r_iload C (dx dX5_areBothWorked 27 rfl) rfl ?_
              refine r_if_eq (tgt := 75) C (dx dX5_areBothWorked 28 rfl) (by decide) (fun _ => ?_) (fun c3 => (show False from by revert c3; decide).elim)
              refine r_iconst (v := nI 0) C (dx dX5_areBothWorked 47 rfl) rfl ?_
              exact F.1 _ _ _ _ _ rfl rfl (dx dX5_areBothWorked 48 rfl) rfl ⟨congrArg (fun x => some (vi x)) (show nI 0 = b2i _ by rw [show (bothW v m o s) = false by simp_all [bothW]]; rfl), rfl⟩)
        · first
          | ((rw [ep] at c2; cases c2); done)
          | (
              have c2 : ((vF v 2 m) ||| (vF v 2 o)) &&& ((hasP v s) ^^^ (-1)) = 0 := c2
              refine r_iconst (v := nI 1) C (dx dX5_areBothWorked 23 rfl) rfl ?_
              refine r_goto (tgt := 40) C (dx dX5_areBothWorked 24 rfl) (by decide) ?_
              refine r_istore (ls' := [(0, vr 5 k), (1, vi (nI m)), (2, vi (nI o)), (3, vi s), (4, vi (nI 1))]) C (dx dX5_areBothWorked 26 rfl) (by decide) [1, 2, 3, 4, 0] rfl ?_
              refine r_iload C (dx dX5_areBothWorked 27 rfl) rfl ?_
              refine r_if_eq (tgt := 75) C (dx dX5_areBothWorked 28 rfl) (by decide) (fun c4 => (show False from by revert c4; decide).elim) (fun _ => ?_)
              refine r_aload_n C (dx dX5_areBothWorked 29 rfl) rfl ?_
              refine g_X5_25 C (dx dX5_areBothWorked 30 rfl) ?_
              refine r_iload_n C (dx dX5_areBothWorked 31 rfl) rfl ?_
              refine r_iald (j := m) (x := vF v 2 m) C rfl rfl (by decide) rfl (by omega) (dx dX5_areBothWorked 32 rfl) (hv.e2 (by omega)) ?_
              refine r_aload_n C (dx dX5_areBothWorked 33 rfl) rfl ?_
              refine g_X5_25 C (dx dX5_areBothWorked 34 rfl) ?_
              refine r_iload_n C (dx dX5_areBothWorked 35 rfl) rfl ?_
              refine r_iald (j := o) (x := vF v 2 o) C rfl rfl (by decide) rfl (by omega) (dx dX5_areBothWorked 36 rfl) (hv.e2 (by omega)) ?_
              refine r_iand C (dx dX5_areBothWorked 37 rfl) ?_
              refine r_aload_n C (dx dX5_areBothWorked 38 rfl) rfl ?_
              refine r_iload_n C (dx dX5_areBothWorked 39 rfl) rfl ?_
              refine r_cvP (as := [vi s]) (st := [vi ((vF v 2 m) &&& (vF v 2 o))]) (v := vi (dblP v s)) C X I_X5_doublesWith l_X5_87 (c_X5_doublesWith hv _) (by decide) (Nat.le_of_ble_eq_true rfl) List.prefix_rfl rfl rfl (Nat.le_of_ble_eq_true rfl) rfl (dx dX5_areBothWorked 40 rfl) ?_
              refine r_iconst (v := -1) C (dx dX5_areBothWorked 41 rfl) rfl ?_
              refine r_ixor C (dx dX5_areBothWorked 42 rfl) ?_
              refine r_iand C (dx dX5_areBothWorked 43 rfl) ?_
              refine r_if_ne (tgt := 75) C (dx dX5_areBothWorked 44 rfl) (by decide) (fun c5 => ?_) (fun c5 => ?_)
              · first
                | ((rw [ep] at c5; cases c5); done)
                | (
                    have c5 : ¬ ((vF v 2 m) &&& (vF v 2 o)) &&& ((dblP v s) ^^^ (-1)) = 0 := c5
                    refine r_iconst (v := nI 0) C (dx dX5_areBothWorked 47 rfl) rfl ?_
                    exact F.1 _ _ _ _ _ rfl rfl (dx dX5_areBothWorked 48 rfl) rfl ⟨congrArg (fun x => some (vi x)) (show nI 0 = b2i _ by rw [show (bothW v m o s) = false by simp_all [bothW]]; rfl), rfl⟩)
              · first
                | ((rw [ep] at c5; cases c5); done)
                | (
                    have c5 : ((vF v 2 m) &&& (vF v 2 o)) &&& ((dblP v s) ^^^ (-1)) = 0 := c5
                    refine r_iconst (v := nI 1) C (dx dX5_areBothWorked 45 rfl) rfl ?_
                    refine r_goto (tgt := 76) C (dx dX5_areBothWorked 46 rfl) (by decide) ?_
                    exact F.1 _ _ _ _ _ rfl rfl (dx dX5_areBothWorked 48 rfl) rfl ⟨congrArg (fun x => some (vi x)) (show nI 1 = b2i _ by rw [show (bothW v m o s) = true by simp_all [bothW]]; rfl), rfl⟩)))
  · first
    | ((rw [ep] at c1; cases c1); done)
    | (
        have c1 : (pairV v (nI m) (nI o)) = false := c1
        refine r_iconst (v := nI 0) C (dx dX5_areBothWorked 5 rfl) rfl ?_
        exact F.1 _ _ _ _ _ rfl rfl (dx dX5_areBothWorked 6 rfl) rfl ⟨congrArg (fun x => some (vi x)) (show nI 0 = b2i _ by rw [show (bothW v m o s) = false by simp_all [bothW]]; rfl), rfl⟩)

