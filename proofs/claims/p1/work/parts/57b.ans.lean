/-! PART 57b: answers that both give by the same function -/
theorem prtB_e {v : Vg} {p x : Int32} : prtB v p x = (inR p (vP v) && inR x 2) := by rw [← btw_R (b := 1) (by omega), btw9]; rfl
theorem mcoB_e {v : Vg} {p x : Int32} : mcoB v p x = (inR p (vM v) && inR x 2) := by rw [← btw_R (b := 1) (by omega), btw9]; rfl
set_option maxHeartbeats 4000000 in
theorem e_partOf {l : Launch} {h : Hp} {k : Nat} {v : Vg} (hm : MilAt h k v) (p x : Int32) : Ms l yX7_partOf cX7_partOf 3 (some .int) 4 [vr 7 k, vi p, vi x] h (xK h) (fun r h' => r = some (vi (prtA v p x)) ∧ MilAt h' k v ∧ Kp k h h') := by
  refine Ms.of (by decide) (Nat.le_of_ble_eq_true rfl) (fun G C X F => ?_)
  have C : Cx G cX7_partOf 3 RX7 := C
  show Rr G 0 [(0, vr 7 k), (1, vi p), (2, vi x)] [] h
  have bP := hm.bP
  have bM := hm.bM
  have bN := hm.bN
  refine r_aload_n C (dx dX7_partOf 0 rfl) rfl ?_
  refine r_iload_n C (dx dX7_partOf 1 rfl) rfl ?_
  refine r_cvP (as := [vi p]) (st := []) (v := vi (b2i (inR p (vP v)))) C X I_X7_isPart l_X7_132 (c_X7_isPart hm _) (by decide) (Nat.le_of_ble_eq_true rfl) List.prefix_rfl rfl rfl (Nat.le_of_ble_eq_true rfl) rfl (dx dX7_partOf 2 rfl) ?_
  refine rb_eq (b := inR p (vP v)) (tgt := 18) C (dx dX7_partOf 3 rfl) (by decide) (fun c1 => ?_) (fun c1 => ?_)
  ·
    have c1 : (inR p (vP v)) = false := c1
    refine r_aload_n C (dx dX7_partOf 10 rfl) rfl ?_
    refine r_bipush (v := -2) C (dx dX7_partOf 11 rfl) rfl ?_
    refine r_cv (as := [vi (-2)]) (st := []) C X I_X7_refuse l_X7_83 (e_refuse hm (x := -2) (j := 2) (by decide) (by decide)) (by decide) (Nat.le_of_ble_eq_true rfl) List.prefix_rfl List.prefix_rfl rfl rfl (Nat.le_of_ble_eq_true rfl) rfl (dx dX7_partOf 12 rfl) ?_
    rintro _ h2 ⟨rfl, m9h2, qh2⟩ kkh2
    have mh2 : MilAt h2 k v := m9h2
    have ph2 : Kp k h h2 := qh2
    have kh2 : xK h2 = xK h := kkh2
    have eA : prtA v p x = -2 := by (simp [prtA, prtB_e, show inR 0 2 = true by decide, c1] <;> rfl)
    exact F.1 _ _ _ _ .int rfl rfl (dx dX7_partOf 13 rfl) kh2 ⟨by (rw [eA]; first | done | rfl), by exact mh2, ph2⟩
  ·
    have c1 : (inR p (vP v)) = true := c1
    obtain ⟨π, hπ, rfl⟩ := inR_ex (n := (vP v)) (by omega) c1
    refine r_iload_n C (dx dX7_partOf 4 rfl) rfl ?_
    refine r_i2l C (dx dX7_partOf 5 rfl) ?_
    refine r_lconst (v := 0) C (dx dX7_partOf 6 rfl) rfl ?_
    refine r_lconst (v := 1) C (dx dX7_partOf 7 rfl) rfl ?_
    refine r_csP (as := [vl x.toInt64, vl 0, vl 1]) (st := []) (v := vi (b2i (inR x 2))) C X I_X7_in l_X7_67 (c_inR (b := 1) (by decide) (by decide)) (by decide) (Nat.le_of_ble_eq_true rfl) List.prefix_rfl (Nat.le_of_ble_eq_true rfl) rfl (dx dX7_partOf 8 rfl) ?_
    refine rb_ne (b := inR x 2) (tgt := 25) C (dx dX7_partOf 9 rfl) (by decide) (fun c3 => ?_) (fun c3 => ?_)
    ·
      have c3 : (inR x 2) = true := c3
      refine r_iload_n C (dx dX7_partOf 14 rfl) rfl ?_
      refine r_if_ne (tgt := 38) C (dx dX7_partOf 15 rfl) (by decide) (fun c4 => ?_) (fun c4 => ?_)
      ·
        have c4 : ¬ x = 0 := c4
        refine r_aload_n C (dx dX7_partOf 21 rfl) rfl ?_
        refine g_X7_43 C (dx dX7_partOf 22 rfl) ?_
        refine r_iload_n C (dx dX7_partOf 23 rfl) rfl ?_
        refine r_iald (j := π) (x := vF v 1 π) C rfl rfl (by decide) rfl (by omega) (dx dX7_partOf 24 rfl) (hm.e1 (by omega)) ?_
        have eA : prtA v (nI π) x = vF v 1 π := by (simp [prtA, prtB_e, show inR 0 2 = true by decide, clN (show π < 2 ^ 31 by omega), c1, c3, c4] <;> rfl)
        exact F.1 _ _ _ _ .int rfl rfl (dx dX7_partOf 25 rfl) rfl ⟨by (rw [eA]; first | done | rfl), by exact hm, Kp.rf⟩
      ·
        have c4 : x = 0 := c4
        refine r_aload_n C (dx dX7_partOf 16 rfl) rfl ?_
        refine g_X7_40 C (dx dX7_partOf 17 rfl) ?_
        refine r_iload_n C (dx dX7_partOf 18 rfl) rfl ?_
        refine r_iald (j := π) (x := vF v 0 π) C rfl rfl (by decide) rfl (by omega) (dx dX7_partOf 19 rfl) (hm.e0 (by omega)) ?_
        refine r_goto (tgt := 44) C (dx dX7_partOf 20 rfl) (by decide) ?_
        have eA : prtA v (nI π) x = vF v 0 π := by (simp [prtA, prtB_e, show inR 0 2 = true by decide, clN (show π < 2 ^ 31 by omega), c1, c3, c4] <;> rfl)
        exact F.1 _ _ _ _ .int rfl rfl (dx dX7_partOf 25 rfl) rfl ⟨by (rw [eA]; first | done | rfl), by exact hm, Kp.rf⟩
    ·
      have c3 : (inR x 2) = false := c3
      refine r_aload_n C (dx dX7_partOf 10 rfl) rfl ?_
      refine r_bipush (v := -2) C (dx dX7_partOf 11 rfl) rfl ?_
      refine r_cv (as := [vi (-2)]) (st := []) C X I_X7_refuse l_X7_83 (e_refuse hm (x := -2) (j := 2) (by decide) (by decide)) (by decide) (Nat.le_of_ble_eq_true rfl) List.prefix_rfl List.prefix_rfl rfl rfl (Nat.le_of_ble_eq_true rfl) rfl (dx dX7_partOf 12 rfl) ?_
      rintro _ h5 ⟨rfl, m9h5, qh5⟩ kkh5
      have mh5 : MilAt h5 k v := m9h5
      have ph5 : Kp k h h5 := qh5
      have kh5 : xK h5 = xK h := kkh5
      have eA : prtA v (nI π) x = -2 := by (simp [prtA, prtB_e, show inR 0 2 = true by decide, clN (show π < 2 ^ 31 by omega), c1, c3] <;> rfl)
      exact F.1 _ _ _ _ .int rfl rfl (dx dX7_partOf 13 rfl) kh5 ⟨by (rw [eA]; first | done | rfl), by exact mh5, ph5⟩
set_option maxHeartbeats 4000000 in
theorem e_machineOf {l : Launch} {h : Hp} {k : Nat} {v : Vg} (hm : MilAt h k v) (m x : Int32) : Ms l yX7_machineOf cX7_machineOf 3 (some .int) 4 [vr 7 k, vi m, vi x] h (xK h) (fun r h' => r = some (vi (mcoA v m x)) ∧ MilAt h' k v ∧ Kp k h h') := by
  refine Ms.of (by decide) (Nat.le_of_ble_eq_true rfl) (fun G C X F => ?_)
  have C : Cx G cX7_machineOf 3 RX7 := C
  show Rr G 0 [(0, vr 7 k), (1, vi m), (2, vi x)] [] h
  have bP := hm.bP
  have bM := hm.bM
  have bN := hm.bN
  refine r_aload_n C (dx dX7_machineOf 0 rfl) rfl ?_
  refine r_iload_n C (dx dX7_machineOf 1 rfl) rfl ?_
  refine r_cvP (as := [vi m]) (st := []) (v := vi (b2i (inR m (vM v)))) C X I_X7_isMachine l_X7_241 (c_X7_isMachine hm _) (by decide) (Nat.le_of_ble_eq_true rfl) List.prefix_rfl rfl rfl (Nat.le_of_ble_eq_true rfl) rfl (dx dX7_machineOf 2 rfl) ?_
  refine rb_eq (b := inR m (vM v)) (tgt := 18) C (dx dX7_machineOf 3 rfl) (by decide) (fun c1 => ?_) (fun c1 => ?_)
  ·
    have c1 : (inR m (vM v)) = false := c1
    refine r_aload_n C (dx dX7_machineOf 10 rfl) rfl ?_
    refine r_bipush (v := -2) C (dx dX7_machineOf 11 rfl) rfl ?_
    refine r_cv (as := [vi (-2)]) (st := []) C X I_X7_refuse l_X7_83 (e_refuse hm (x := -2) (j := 2) (by decide) (by decide)) (by decide) (Nat.le_of_ble_eq_true rfl) List.prefix_rfl List.prefix_rfl rfl rfl (Nat.le_of_ble_eq_true rfl) rfl (dx dX7_machineOf 12 rfl) ?_
    rintro _ h2 ⟨rfl, m9h2, qh2⟩ kkh2
    have mh2 : MilAt h2 k v := m9h2
    have ph2 : Kp k h h2 := qh2
    have kh2 : xK h2 = xK h := kkh2
    have eA : mcoA v m x = -2 := by (simp [mcoA, mcoB_e, show inR 0 2 = true by decide, c1] <;> rfl)
    exact F.1 _ _ _ _ .int rfl rfl (dx dX7_machineOf 13 rfl) kh2 ⟨by (rw [eA]; first | done | rfl), by exact mh2, ph2⟩
  ·
    have c1 : (inR m (vM v)) = true := c1
    obtain ⟨μ, hμ, rfl⟩ := inR_ex (n := (vM v)) (by omega) c1
    refine r_iload_n C (dx dX7_machineOf 4 rfl) rfl ?_
    refine r_i2l C (dx dX7_machineOf 5 rfl) ?_
    refine r_lconst (v := 0) C (dx dX7_machineOf 6 rfl) rfl ?_
    refine r_lconst (v := 1) C (dx dX7_machineOf 7 rfl) rfl ?_
    refine r_csP (as := [vl x.toInt64, vl 0, vl 1]) (st := []) (v := vi (b2i (inR x 2))) C X I_X7_in l_X7_67 (c_inR (b := 1) (by decide) (by decide)) (by decide) (Nat.le_of_ble_eq_true rfl) List.prefix_rfl (Nat.le_of_ble_eq_true rfl) rfl (dx dX7_machineOf 8 rfl) ?_
    refine rb_ne (b := inR x 2) (tgt := 25) C (dx dX7_machineOf 9 rfl) (by decide) (fun c3 => ?_) (fun c3 => ?_)
    ·
      have c3 : (inR x 2) = true := c3
      refine r_iload_n C (dx dX7_machineOf 14 rfl) rfl ?_
      refine r_if_ne (tgt := 38) C (dx dX7_machineOf 15 rfl) (by decide) (fun c4 => ?_) (fun c4 => ?_)
      ·
        have c4 : ¬ x = 0 := c4
        refine r_aload_n C (dx dX7_machineOf 21 rfl) rfl ?_
        refine g_X7_49 C (dx dX7_machineOf 22 rfl) ?_
        refine r_iload_n C (dx dX7_machineOf 23 rfl) rfl ?_
        refine r_iald (j := μ) (x := vF v 3 μ) C rfl rfl (by decide) rfl (by omega) (dx dX7_machineOf 24 rfl) (hm.e3 (by omega)) ?_
        have eA : mcoA v (nI μ) x = vF v 3 μ := by (simp [mcoA, mcoB_e, show inR 0 2 = true by decide, clN (show μ < 2 ^ 31 by omega), c1, c3, c4] <;> rfl)
        exact F.1 _ _ _ _ .int rfl rfl (dx dX7_machineOf 25 rfl) rfl ⟨by (rw [eA]; first | done | rfl), by exact hm, Kp.rf⟩
      ·
        have c4 : x = 0 := c4
        refine r_aload_n C (dx dX7_machineOf 16 rfl) rfl ?_
        refine g_X7_46 C (dx dX7_machineOf 17 rfl) ?_
        refine r_iload_n C (dx dX7_machineOf 18 rfl) rfl ?_
        refine r_iald (j := μ) (x := vF v 2 μ) C rfl rfl (by decide) rfl (by omega) (dx dX7_machineOf 19 rfl) (hm.e2 (by omega)) ?_
        refine r_goto (tgt := 44) C (dx dX7_machineOf 20 rfl) (by decide) ?_
        have eA : mcoA v (nI μ) x = vF v 2 μ := by (simp [mcoA, mcoB_e, show inR 0 2 = true by decide, clN (show μ < 2 ^ 31 by omega), c1, c3, c4] <;> rfl)
        exact F.1 _ _ _ _ .int rfl rfl (dx dX7_machineOf 25 rfl) rfl ⟨by (rw [eA]; first | done | rfl), by exact hm, Kp.rf⟩
    ·
      have c3 : (inR x 2) = false := c3
      refine r_aload_n C (dx dX7_machineOf 10 rfl) rfl ?_
      refine r_bipush (v := -2) C (dx dX7_machineOf 11 rfl) rfl ?_
      refine r_cv (as := [vi (-2)]) (st := []) C X I_X7_refuse l_X7_83 (e_refuse hm (x := -2) (j := 2) (by decide) (by decide)) (by decide) (Nat.le_of_ble_eq_true rfl) List.prefix_rfl List.prefix_rfl rfl rfl (Nat.le_of_ble_eq_true rfl) rfl (dx dX7_machineOf 12 rfl) ?_
      rintro _ h5 ⟨rfl, m9h5, qh5⟩ kkh5
      have mh5 : MilAt h5 k v := m9h5
      have ph5 : Kp k h h5 := qh5
      have kh5 : xK h5 = xK h := kkh5
      have eA : mcoA v (nI μ) x = -2 := by (simp [mcoA, mcoB_e, show inR 0 2 = true by decide, clN (show μ < 2 ^ 31 by omega), c1, c3] <;> rfl)
      exact F.1 _ _ _ _ .int rfl rfl (dx dX7_machineOf 13 rfl) kh5 ⟨by (rw [eA]; first | done | rfl), by exact mh5, ph5⟩
set_option maxHeartbeats 4000000 in
theorem e_has {l : Launch} {h : Hp} {k : Nat} {v : Vg} (hm : MilAt h k v) (x : Int32) : Ms l yX7_has cX7_has 2 (some .int) 4 [vr 7 k, vi x] h (xK h) (fun r h' => r = some (vi (hasA v x)) ∧ MilAt h' k v ∧ Kp k h h') := by
  refine Ms.of (by decide) (Nat.le_of_ble_eq_true rfl) (fun G C X F => ?_)
  have C : Cx G cX7_has 2 RX7 := C
  show Rr G 0 [(0, vr 7 k), (1, vi x)] [] h
  have bP := hm.bP
  have bM := hm.bM
  have bN := hm.bN
  refine r_iload_n C (dx dX7_has 0 rfl) rfl ?_
  refine r_i2l C (dx dX7_has 1 rfl) ?_
  refine r_lconst (v := 0) C (dx dX7_has 2 rfl) rfl ?_
  refine r_aload_n C (dx dX7_has 3 rfl) rfl ?_
  refine r_cvP (as := []) (st := [vl 0, vl x.toInt64]) (v := vi (full (vN v))) C X I_X7_all l_X7_253 (c_X7_all hm) (by decide) (Nat.le_of_ble_eq_true rfl) List.prefix_rfl rfl rfl (Nat.le_of_ble_eq_true rfl) rfl (dx dX7_has 4 rfl) ?_
  refine r_i2l C (dx dX7_has 5 rfl) ?_
  refine r_csP (as := [vl x.toInt64, vl 0, vl ((full (vN v)).toInt64)]) (st := []) (v := vi (b2i (inR x (2 ^ vN v)))) C X I_X7_in l_X7_67 (c_inF (by omega)) (by decide) (Nat.le_of_ble_eq_true rfl) List.prefix_rfl (Nat.le_of_ble_eq_true rfl) rfl (dx dX7_has 6 rfl) ?_
  refine rb_eq (b := inR x (2 ^ vN v)) (tgt := 22) C (dx dX7_has 7 rfl) (by decide) (fun c1 => ?_) (fun c1 => ?_)
  ·
    have c1 : (inR x (2 ^ vN v)) = false := c1
    refine r_aload_n C (dx dX7_has 12 rfl) rfl ?_
    refine r_bipush (v := -2) C (dx dX7_has 13 rfl) rfl ?_
    refine r_cv (as := [vi (-2)]) (st := []) C X I_X7_refuse l_X7_83 (e_refuse hm (x := -2) (j := 2) (by decide) (by decide)) (by decide) (Nat.le_of_ble_eq_true rfl) List.prefix_rfl List.prefix_rfl rfl rfl (Nat.le_of_ble_eq_true rfl) rfl (dx dX7_has 14 rfl) ?_
    rintro _ h2 ⟨rfl, m9h2, qh2⟩ kkh2
    have mh2 : MilAt h2 k v := m9h2
    have ph2 : Kp k h h2 := qh2
    have kh2 : xK h2 = xK h := kkh2
    have eA : hasA v x = -2 := by (simp [hasA, c1] <;> rfl)
    exact F.1 _ _ _ _ .int rfl rfl (dx dX7_has 15 rfl) kh2 ⟨by (rw [eA]; first | done | rfl), by exact mh2, ph2⟩
  ·
    have c1 : (inR x (2 ^ vN v)) = true := c1
    refine r_aload_n C (dx dX7_has 8 rfl) rfl ?_
    refine r_iload_n C (dx dX7_has 9 rfl) rfl ?_
    refine r_cvP (as := [vi x]) (st := []) (v := vi (hasP v x)) C X I_X7_hasOf l_X7_247 (e_hasOf hm _) (by decide) (Nat.le_of_ble_eq_true rfl) List.prefix_rfl rfl rfl (Nat.le_of_ble_eq_true rfl) rfl (dx dX7_has 10 rfl) ?_
    refine r_goto (tgt := 28) C (dx dX7_has 11 rfl) (by decide) ?_
    have eA : hasA v x = hasP v x := by (simp [hasA, c1] <;> rfl)
    exact F.1 _ _ _ _ .int rfl rfl (dx dX7_has 15 rfl) rfl ⟨by (rw [eA]; first | done | rfl), by exact hm, Kp.rf⟩
set_option maxHeartbeats 4000000 in
theorem e_works {l : Launch} {h : Hp} {k : Nat} {v : Vg} (hm : MilAt h k v) (m x : Int32) : Ms l yX7_works cX7_works 3 (some .int) 4 [vr 7 k, vi m, vi x] h (xK h) (fun r h' => r = some (vi (wrkA v m x)) ∧ MilAt h' k v ∧ Kp k h h') := by
  refine Ms.of (by decide) (Nat.le_of_ble_eq_true rfl) (fun G C X F => ?_)
  have C : Cx G cX7_works 3 RX7 := C
  show Rr G 0 [(0, vr 7 k), (1, vi m), (2, vi x)] [] h
  have bP := hm.bP
  have bM := hm.bM
  have bN := hm.bN
  refine r_aload_n C (dx dX7_works 0 rfl) rfl ?_
  refine r_iload_n C (dx dX7_works 1 rfl) rfl ?_
  refine r_cvP (as := [vi m]) (st := []) (v := vi (b2i (inR m (vM v)))) C X I_X7_isMachine l_X7_241 (c_X7_isMachine hm _) (by decide) (Nat.le_of_ble_eq_true rfl) List.prefix_rfl rfl rfl (Nat.le_of_ble_eq_true rfl) rfl (dx dX7_works 2 rfl) ?_
  refine rb_eq (b := inR m (vM v)) (tgt := 22) C (dx dX7_works 3 rfl) (by decide) (fun c1 => ?_) (fun c1 => ?_)
  ·
    have c1 : (inR m (vM v)) = false := c1
    refine r_aload_n C (dx dX7_works 12 rfl) rfl ?_
    refine r_bipush (v := -2) C (dx dX7_works 13 rfl) rfl ?_
    refine r_cv (as := [vi (-2)]) (st := []) C X I_X7_refuse l_X7_83 (e_refuse hm (x := -2) (j := 2) (by decide) (by decide)) (by decide) (Nat.le_of_ble_eq_true rfl) List.prefix_rfl List.prefix_rfl rfl rfl (Nat.le_of_ble_eq_true rfl) rfl (dx dX7_works 14 rfl) ?_
    rintro _ h2 ⟨rfl, m9h2, qh2⟩ kkh2
    have mh2 : MilAt h2 k v := m9h2
    have ph2 : Kp k h h2 := qh2
    have kh2 : xK h2 = xK h := kkh2
    have eA : wrkA v m x = -2 := by (simp [wrkA, wkW, c1] <;> rfl)
    exact F.1 _ _ _ _ .int rfl rfl (dx dX7_works 15 rfl) kh2 ⟨by (rw [eA]; first | done | rfl), by exact mh2, ph2⟩
  ·
    have c1 : (inR m (vM v)) = true := c1
    obtain ⟨μ, hμ, rfl⟩ := inR_ex (n := (vM v)) (by omega) c1
    refine r_iload_n C (dx dX7_works 4 rfl) rfl ?_
    refine r_i2l C (dx dX7_works 5 rfl) ?_
    refine r_lconst (v := 0) C (dx dX7_works 6 rfl) rfl ?_
    refine r_aload_n C (dx dX7_works 7 rfl) rfl ?_
    refine r_cvP (as := []) (st := [vl 0, vl x.toInt64]) (v := vi (full (vN v))) C X I_X7_all l_X7_253 (c_X7_all hm) (by decide) (Nat.le_of_ble_eq_true rfl) List.prefix_rfl rfl rfl (Nat.le_of_ble_eq_true rfl) rfl (dx dX7_works 8 rfl) ?_
    refine r_i2l C (dx dX7_works 9 rfl) ?_
    refine r_csP (as := [vl x.toInt64, vl 0, vl ((full (vN v)).toInt64)]) (st := []) (v := vi (b2i (inR x (2 ^ vN v)))) C X I_X7_in l_X7_67 (c_inF (by omega)) (by decide) (Nat.le_of_ble_eq_true rfl) List.prefix_rfl (Nat.le_of_ble_eq_true rfl) rfl (dx dX7_works 10 rfl) ?_
    refine rb_ne (b := inR x (2 ^ vN v)) (tgt := 29) C (dx dX7_works 11 rfl) (by decide) (fun c3 => ?_) (fun c3 => ?_)
    ·
      have c3 : (inR x (2 ^ vN v)) = true := c3
      refine r_aload_n C (dx dX7_works 16 rfl) rfl ?_
      refine r_iload_n C (dx dX7_works 17 rfl) rfl ?_
      refine r_iload_n C (dx dX7_works 18 rfl) rfl ?_
      refine r_cvP (as := [vi (nI μ), vi x]) (st := []) (v := vi (b2i (needW v (hasP v x) μ))) C X I_X7_worksOf l_X7_250 (e_worksOf hm (m := μ) (by omega) _) (by decide) (Nat.le_of_ble_eq_true rfl) List.prefix_rfl rfl rfl (Nat.le_of_ble_eq_true rfl) rfl (dx dX7_works 19 rfl) ?_
      refine rb_eq (b := needW v (hasP v x) μ) (tgt := 42) C (dx dX7_works 20 rfl) (by decide) (fun c4 => ?_) (fun c4 => ?_)
      ·
        have c4 : (needW v (hasP v x) μ) = false := c4
        refine r_iconst (v := nI 0) C (dx dX7_works 23 rfl) rfl ?_
        have eA : wrkA v (nI μ) x = nI 0 := by (simp [wrkA, wkW, clN (show μ < 2 ^ 31 by omega), c1, c3, c4] <;> rfl)
        exact F.1 _ _ _ _ .int rfl rfl (dx dX7_works 24 rfl) rfl ⟨by (rw [eA]; first | done | rfl), by exact hm, Kp.rf⟩
      ·
        have c4 : (needW v (hasP v x) μ) = true := c4
        refine r_iconst (v := nI 1) C (dx dX7_works 21 rfl) rfl ?_
        refine r_goto (tgt := 43) C (dx dX7_works 22 rfl) (by decide) ?_
        have eA : wrkA v (nI μ) x = nI 1 := by (simp [wrkA, wkW, clN (show μ < 2 ^ 31 by omega), c1, c3, c4] <;> rfl)
        exact F.1 _ _ _ _ .int rfl rfl (dx dX7_works 24 rfl) rfl ⟨by (rw [eA]; first | done | rfl), by exact hm, Kp.rf⟩
    ·
      have c3 : (inR x (2 ^ vN v)) = false := c3
      refine r_aload_n C (dx dX7_works 12 rfl) rfl ?_
      refine r_bipush (v := -2) C (dx dX7_works 13 rfl) rfl ?_
      refine r_cv (as := [vi (-2)]) (st := []) C X I_X7_refuse l_X7_83 (e_refuse hm (x := -2) (j := 2) (by decide) (by decide)) (by decide) (Nat.le_of_ble_eq_true rfl) List.prefix_rfl List.prefix_rfl rfl rfl (Nat.le_of_ble_eq_true rfl) rfl (dx dX7_works 14 rfl) ?_
      rintro _ h5 ⟨rfl, m9h5, qh5⟩ kkh5
      have mh5 : MilAt h5 k v := m9h5
      have ph5 : Kp k h h5 := qh5
      have kh5 : xK h5 = xK h := kkh5
      have eA : wrkA v (nI μ) x = -2 := by (simp [wrkA, wkW, clN (show μ < 2 ^ 31 by omega), c1, c3] <;> rfl)
      exact F.1 _ _ _ _ .int rfl rfl (dx dX7_works 15 rfl) kh5 ⟨by (rw [eA]; first | done | rfl), by exact mh5, ph5⟩
set_option maxHeartbeats 4000000 in
theorem e_room {l : Launch} {h : Hp} {k : Nat} {v : Vg} (hm : MilAt h k v)  : Ms l yX7_room cX7_room 3 (some .int) 4 [vr 7 k] h (xK h) (fun r h' => r = some (vi (romS v (vN v))) ∧ MilAt h' k v ∧ Kp k h h') := by
  refine Ms.of (by decide) (Nat.le_of_ble_eq_true rfl) (fun G C X F => ?_)
  have C : Cx G cX7_room 3 RX7 := C
  show Rr G 0 [(0, vr 7 k)] [] h
  have bP := hm.bP
  have bM := hm.bM
  have bN := hm.bN
  refine r_iconst (v := nI 0) C (dx dX7_room 0 rfl) rfl ?_
  refine r_istore_n (ls' := [(0, vr 7 k), (1, vi (nI 0))]) C (dx dX7_room 1 rfl) (by decide) [1, 0] rfl ?_
  refine r_iconst (v := nI 0) C (dx dX7_room 2 rfl) rfl ?_
  refine r_istore_n (ls' := [(0, vr 7 k), (1, vi (nI 0)), (2, vi (nI 0))]) C (dx dX7_room 3 rfl) (by decide) [1, 2, 0] rfl ?_
  refine loopU (Φ := fun p => Rr G 4 [(0, vr 7 k), (1, vi (romS v p)), (2, vi (nI p))] [] h) (N := vN v) ?_ ?_ 0 (Nat.zero_le _)
  ·
    refine r_iload_n C (dx dX7_room 4 rfl) rfl ?_
    refine r_aload_n C (dx dX7_room 5 rfl) rfl ?_
    refine g_X7_74 (x := nI (vN v)) C (dx dX7_room 6 rfl) hm.eN ?_
    refine rn_ge (a := vN v) (b := vN v) (tgt := 35) C (by omega) (by omega) (dx dX7_room 7 rfl) (by decide) (fun c1 => ?_) (fun c1 => ?_)
    · first
      | (omega; done)
      | (
          have c1 : vN v ≤ vN v := c1
          refine r_iload_n C (dx dX7_room 23 rfl) rfl ?_
          exact F.1 _ _ _ _ .int rfl rfl (dx dX7_room 24 rfl) rfl ⟨rfl, by exact hm, Kp.rf⟩)
    · first
      | (omega; done)
  ·
    intro p hp ih
    refine r_iload_n C (dx dX7_room 4 rfl) rfl ?_
    refine r_aload_n C (dx dX7_room 5 rfl) rfl ?_
    refine g_X7_74 (x := nI (vN v)) C (dx dX7_room 6 rfl) hm.eN ?_
    refine rn_ge (a := p) (b := vN v) (tgt := 35) C (by omega) (by omega) (dx dX7_room 7 rfl) (by decide) (fun c2 => ?_) (fun c2 => ?_)
    · first
      | (omega; done)
      | (
          have c2 : vN v ≤ p := c2
          refine r_iload_n C (dx dX7_room 23 rfl) rfl ?_
          have eA : romS v (vN v) = romS v p := by rfl
          exact F.1 _ _ _ _ .int rfl rfl (dx dX7_room 24 rfl) rfl ⟨by (rw [eA]; first | done | rfl), by exact hm, Kp.rf⟩)
    · first
      | (omega; done)
      | (
          have c2 : p < vN v := c2
          refine r_iload_n C (dx dX7_room 8 rfl) rfl ?_
          refine r_aload_n C (dx dX7_room 9 rfl) rfl ?_
          refine g_X7_54 C (dx dX7_room 10 rfl) ?_
          refine r_iload_n C (dx dX7_room 11 rfl) rfl ?_
          refine r_aald4 (j := p) C rfl rfl (by decide) rfl (by omega) (dx dX7_room 12 rfl) ?_
          refine r_iconst (v := nI 0) C (dx dX7_room 13 rfl) rfl ?_
          refine r_iald (j := 0) (x := vF v 4 p) C rfl rfl (by decide) rfl (by omega) (dx dX7_room 14 rfl) (hm.eo (by omega) (by omega)) ?_
          refine r_aload_n C (dx dX7_room 15 rfl) rfl ?_
          refine r_iload_n C (dx dX7_room 16 rfl) rfl ?_
          refine r_cvP (as := [vi (nI p)]) (st := [vi (vF v 4 p), vi (romS v p)]) (v := vi (nI (pcs v (nI p) (vP v)))) C X I_X7_piecesOf l_X7_129 (e_piecesOf hm _) (by decide) (Nat.le_of_ble_eq_true rfl) List.prefix_rfl rfl rfl (Nat.le_of_ble_eq_true rfl) rfl (dx dX7_room 17 rfl) ?_
          refine r_isub C (dx dX7_room 18 rfl) ?_
          refine r_iadd C (dx dX7_room 19 rfl) ?_
          refine r_istore_n (ls' := [(0, vr 7 k), (1, vi ((romS v p) + ((vF v 4 p) - (nI (pcs v (nI p) (vP v)))))), (2, vi (nI p))]) C (dx dX7_room 20 rfl) (by decide) [1, 0, 2] rfl ?_
          refine rn_iinc (a := p) (k := 1) (ls' := [(0, vr 7 k), (1, vi ((romS v p) + ((vF v 4 p) - (nI (pcs v (nI p) (vP v)))))), (2, vi (nI (p + 1)))]) C (dx dX7_room 21 rfl) rfl rfl (by decide) [1, 2, 0] rfl ?_
          refine r_goto (tgt := 4) C (dx dX7_room 22 rfl) (by decide) ?_
          have e9 : ((romS v p) + ((vF v 4 p) - (nI (pcs v (nI p) (vP v))))) = (romS v (p + 1)) := by rfl
          rw [e9]
          exact ih)
def onoR (v : Vg) (o x : Int32) : Int32 := if (inR o (vN v) && inR x 5) = true then (if x.toNatClampNeg = 3 then nI (pcs v o (vP v)) else if x.toNatClampNeg = 4 then vF v 7 o.toNatClampNeg else vF v (4 + x.toNatClampNeg) o.toNatClampNeg) else -2
def nevR (v : Vg) (b : Bool) : Int32 := if b = true then bset (fun m => !needW v (hasP v (full (vN v))) m) (vM v) else full (vP v) &&& (hasP v (full (vN v)) ^^^ -1)
def aloR (v : Vg) (o : Int32) : Int32 := if inR o (vN v) = true then bset (fun m => needW v (hasP v (nI 1 <<< (o &&& 31))) m) (vM v) else -2
def botR (v : Vg) (m n s : Int32) : Int32 := if (inR m (vM v) && inR n (vM v)) = true ∧ ¬ m.toNatClampNeg = n.toNatClampNeg ∧ inR s (2 ^ vN v) = true then (if bothR v m.toNatClampNeg n.toNatClampNeg s = true then nI 1 else nI 0) else -2
set_option maxHeartbeats 4000000 in
theorem e_oneOf {l : Launch} {h : Hp} {k : Nat} {v : Vg} (hm : MilAt h k v) (o1 x : Int32) : Ms l yX7_oneOf cX7_oneOf 3 (some .int) 4 [vr 7 k, vi o1, vi x] h (xK h) (fun r h' => r = some (vi (onoR v o1 x)) ∧ MilAt h' k v ∧ Kp k h h') := by
  refine Ms.of (by decide) (Nat.le_of_ble_eq_true rfl) (fun G C X F => ?_)
  have C : Cx G cX7_oneOf 3 RX7 := C
  show Rr G 0 [(0, vr 7 k), (1, vi o1), (2, vi x)] [] h
  have bP := hm.bP
  have bM := hm.bM
  have bN := hm.bN
  refine r_aload_n C (dx dX7_oneOf 0 rfl) rfl ?_
  refine r_iload_n C (dx dX7_oneOf 1 rfl) rfl ?_
  refine r_cvP (as := [vi o1]) (st := []) (v := vi (b2i (inR o1 (vN v)))) C X I_X7_isOne l_X7_125 (c_X7_isOne hm _) (by decide) (Nat.le_of_ble_eq_true rfl) List.prefix_rfl rfl rfl (Nat.le_of_ble_eq_true rfl) rfl (dx dX7_oneOf 2 rfl) ?_
  refine rb_eq (b := inR o1 (vN v)) (tgt := 20) C (dx dX7_oneOf 3 rfl) (by decide) (fun c1 => ?_) (fun c1 => ?_)
  ·
    have c1 : (inR o1 (vN v)) = false := c1
    refine r_aload_n C (dx dX7_oneOf 10 rfl) rfl ?_
    refine r_bipush (v := -2) C (dx dX7_oneOf 11 rfl) rfl ?_
    refine r_cv (as := [vi (-2)]) (st := []) C X I_X7_refuse l_X7_83 (e_refuse hm (x := -2) (j := 2) (by decide) (by decide)) (by decide) (Nat.le_of_ble_eq_true rfl) List.prefix_rfl List.prefix_rfl rfl rfl (Nat.le_of_ble_eq_true rfl) rfl (dx dX7_oneOf 12 rfl) ?_
    rintro _ h2 ⟨rfl, m9h2, qh2⟩ kkh2
    have mh2 : MilAt h2 k v := m9h2
    have ph2 : Kp k h h2 := qh2
    have kh2 : xK h2 = xK h := kkh2
    have eA : onoR v o1 x = -2 := by (simp [onoR, c1] <;> rfl)
    exact F.1 _ _ _ _ .int rfl rfl (dx dX7_oneOf 13 rfl) kh2 ⟨by (rw [eA]; first | done | rfl), by exact mh2, ph2⟩
  ·
    have c1 : (inR o1 (vN v)) = true := c1
    obtain ⟨o19, ho19, rfl⟩ := inR_ex (n := (vN v)) (by omega) c1
    refine r_iload_n C (dx dX7_oneOf 4 rfl) rfl ?_
    refine r_i2l C (dx dX7_oneOf 5 rfl) ?_
    refine r_lconst (v := 0) C (dx dX7_oneOf 6 rfl) rfl ?_
    refine r_ldc2 C n_X7_79 (dx dX7_oneOf 7 rfl) ?_
    refine r_csP (as := [vl x.toInt64, vl 0, vl 4]) (st := []) (v := vi (b2i (inR x 5))) C X I_X7_in l_X7_67 (c_inR (b := 4) (by decide) (by decide)) (by decide) (Nat.le_of_ble_eq_true rfl) List.prefix_rfl (Nat.le_of_ble_eq_true rfl) rfl (dx dX7_oneOf 8 rfl) ?_
    refine rb_ne (b := inR x 5) (tgt := 27) C (dx dX7_oneOf 9 rfl) (by decide) (fun c3 => ?_) (fun c3 => ?_)
    ·
      have c3 : (inR x 5) = true := c3
      obtain ⟨x9, hx9, rfl⟩ := inR_ex (n := 5) (by omega) c3
      refine r_iload_n C (dx dX7_oneOf 14 rfl) rfl ?_
      refine r_iconst (v := nI 3) C (dx dX7_oneOf 15 rfl) rfl ?_
      refine rn_ne (a := x9) (b := 3) (tgt := 40) C (by omega) (by omega) (dx dX7_oneOf 16 rfl) (by decide) (fun c4 => ?_) (fun c4 => ?_)
      · first
        | (omega; done)
        | (
            have c4 : ¬ x9 = 3 := c4
            refine r_iload_n C (dx dX7_oneOf 21 rfl) rfl ?_
            refine r_iconst (v := nI 4) C (dx dX7_oneOf 22 rfl) rfl ?_
            refine rn_ne (a := x9) (b := 4) (tgt := 56) C (by omega) (by omega) (dx dX7_oneOf 23 rfl) (by decide) (fun c5 => ?_) (fun c5 => ?_)
            · first
              | (omega; done)
              | (
                  have c5 : ¬ x9 = 4 := c5
                  refine r_aload_n C (dx dX7_oneOf 31 rfl) rfl ?_
                  refine g_X7_54 C (dx dX7_oneOf 32 rfl) ?_
                  refine r_iload_n C (dx dX7_oneOf 33 rfl) rfl ?_
                  refine r_aald4 (j := o19) C rfl rfl (by decide) rfl (by omega) (dx dX7_oneOf 34 rfl) ?_
                  refine r_iload_n C (dx dX7_oneOf 35 rfl) rfl ?_
                  refine r_iald (j := x9) (x := vF v (4 + x9) o19) C rfl rfl (by decide) rfl (by omega) (dx dX7_oneOf 36 rfl) (hm.eo (by omega) (by omega)) ?_
                  have eA : onoR v (nI o19) (nI x9) = vF v (4 + x9) o19 := by (simp [onoR, clN (show o19 < 2 ^ 31 by omega), clN (show x9 < 2 ^ 31 by omega), c1, c3, c4, c5] <;> rfl)
                  exact F.1 _ _ _ _ .int rfl rfl (dx dX7_oneOf 37 rfl) rfl ⟨by (rw [eA]; first | done | rfl), by exact hm, Kp.rf⟩)
            · first
              | (omega; done)
              | (
                  have c5 : x9 = 4 := c5
                  refine r_aload_n C (dx dX7_oneOf 24 rfl) rfl ?_
                  refine g_X7_54 C (dx dX7_oneOf 25 rfl) ?_
                  refine r_iload_n C (dx dX7_oneOf 26 rfl) rfl ?_
                  refine r_aald4 (j := o19) C rfl rfl (by decide) rfl (by omega) (dx dX7_oneOf 27 rfl) ?_
                  refine r_iconst (v := nI 3) C (dx dX7_oneOf 28 rfl) rfl ?_
                  refine r_iald (j := 3) (x := vF v 7 o19) C rfl rfl (by decide) rfl (by omega) (dx dX7_oneOf 29 rfl) (hm.eo (by omega) (by omega)) ?_
                  refine r_goto (tgt := 64) C (dx dX7_oneOf 30 rfl) (by decide) ?_
                  have eA : onoR v (nI o19) (nI x9) = vF v 7 o19 := by (simp [onoR, clN (show o19 < 2 ^ 31 by omega), clN (show x9 < 2 ^ 31 by omega), c1, c3, c4, c5] <;> rfl)
                  exact F.1 _ _ _ _ .int rfl rfl (dx dX7_oneOf 37 rfl) rfl ⟨by (rw [eA]; first | done | rfl), by exact hm, Kp.rf⟩))
      · first
        | (omega; done)
        | (
            have c4 : x9 = 3 := c4
            refine r_aload_n C (dx dX7_oneOf 17 rfl) rfl ?_
            refine r_iload_n C (dx dX7_oneOf 18 rfl) rfl ?_
            refine r_cvP (as := [vi (nI o19)]) (st := []) (v := vi (nI (pcs v (nI o19) (vP v)))) C X I_X7_piecesOf l_X7_129 (e_piecesOf hm _) (by decide) (Nat.le_of_ble_eq_true rfl) List.prefix_rfl rfl rfl (Nat.le_of_ble_eq_true rfl) rfl (dx dX7_oneOf 19 rfl) ?_
            refine r_goto (tgt := 64) C (dx dX7_oneOf 20 rfl) (by decide) ?_
            have eA : onoR v (nI o19) (nI x9) = nI (pcs v (nI o19) (vP v)) := by (simp [onoR, clN (show o19 < 2 ^ 31 by omega), clN (show x9 < 2 ^ 31 by omega), c1, c3, c4] <;> rfl)
            exact F.1 _ _ _ _ .int rfl rfl (dx dX7_oneOf 37 rfl) rfl ⟨by (rw [eA]; first | done | rfl), by exact hm, Kp.rf⟩)
    ·
      have c3 : (inR x 5) = false := c3
      refine r_aload_n C (dx dX7_oneOf 10 rfl) rfl ?_
      refine r_bipush (v := -2) C (dx dX7_oneOf 11 rfl) rfl ?_
      refine r_cv (as := [vi (-2)]) (st := []) C X I_X7_refuse l_X7_83 (e_refuse hm (x := -2) (j := 2) (by decide) (by decide)) (by decide) (Nat.le_of_ble_eq_true rfl) List.prefix_rfl List.prefix_rfl rfl rfl (Nat.le_of_ble_eq_true rfl) rfl (dx dX7_oneOf 12 rfl) ?_
      rintro _ h6 ⟨rfl, m9h6, qh6⟩ kkh6
      have mh6 : MilAt h6 k v := m9h6
      have ph6 : Kp k h h6 := qh6
      have kh6 : xK h6 = xK h := kkh6
      have eA : onoR v (nI o19) x = -2 := by (simp [onoR, clN (show o19 < 2 ^ 31 by omega), c1, c3] <;> rfl)
      exact F.1 _ _ _ _ .int rfl rfl (dx dX7_oneOf 13 rfl) kh6 ⟨by (rw [eA]; first | done | rfl), by exact mh6, ph6⟩
set_option maxHeartbeats 4000000 in
theorem e_never {l : Launch} {h : Hp} {k : Nat} {v : Vg} (hm : MilAt h k v) (b : Bool) : Ms l yX7_never cX7_never 4 (some .int) 4 [vr 7 k, vi (b2i b)] h (xK h) (fun r h' => r = some (vi (nevR v b)) ∧ MilAt h' k v ∧ Kp k h h') := by
  refine Ms.of (by decide) (Nat.le_of_ble_eq_true rfl) (fun G C X F => ?_)
  have C : Cx G cX7_never 4 RX7 := C
  show Rr G 0 [(0, vr 7 k), (1, vi (b2i b))] [] h
  have bP := hm.bP
  have bM := hm.bM
  have bN := hm.bN
  refine r_iconst (v := nI 0) C (dx dX7_never 0 rfl) rfl ?_
  refine r_istore_n (ls' := [(0, vr 7 k), (1, vi (b2i b)), (2, vi (nI 0))]) C (dx dX7_never 1 rfl) (by decide) [1, 2, 0] rfl ?_
  refine r_iload_n C (dx dX7_never 2 rfl) rfl ?_
  refine rb_eq (b := b) (tgt := 46) C (dx dX7_never 3 rfl) (by decide) (fun c1 => ?_) (fun c1 => ?_)
  ·
    have c1 : b = false := c1
    refine r_iconst (v := nI 1) C (dx dX7_never 28 rfl) rfl ?_
    refine r_aload_n C (dx dX7_never 29 rfl) rfl ?_
    refine g_X7_64 (x := nI (vP v)) C (dx dX7_never 30 rfl) hm.eP ?_
    refine r_ishl C (dx dX7_never 31 rfl) ?_
    refine r_iconst (v := nI 1) C (dx dX7_never 32 rfl) rfl ?_
    refine r_isub C (dx dX7_never 33 rfl) ?_
    refine r_aload_n C (dx dX7_never 34 rfl) rfl ?_
    refine r_aload_n C (dx dX7_never 35 rfl) rfl ?_
    refine r_cvP (as := []) (st := [vr 7 k, vi (((nI 1) <<< ((nI (vP v)) &&& 31)) - (nI 1))]) (v := vi (full (vN v))) C X I_X7_all l_X7_253 (c_X7_all hm) (by decide) (Nat.le_of_ble_eq_true rfl) List.prefix_rfl rfl rfl (Nat.le_of_ble_eq_true rfl) rfl (dx dX7_never 36 rfl) ?_
    refine r_cvP (as := [vi (full (vN v))]) (st := [vi (((nI 1) <<< ((nI (vP v)) &&& 31)) - (nI 1))]) (v := vi (hasP v (full (vN v)))) C X I_X7_hasOf l_X7_247 (e_hasOf hm _) (by decide) (Nat.le_of_ble_eq_true rfl) List.prefix_rfl rfl rfl (Nat.le_of_ble_eq_true rfl) rfl (dx dX7_never 37 rfl) ?_
    refine r_iconst (v := -1) C (dx dX7_never 38 rfl) rfl ?_
    refine r_ixor C (dx dX7_never 39 rfl) ?_
    refine r_iand C (dx dX7_never 40 rfl) ?_
    have eA : nevR v b = (((nI 1) <<< ((nI (vP v)) &&& 31)) - (nI 1)) &&& ((hasP v (full (vN v))) ^^^ (-1)) := by (unfold nevR; rw [if_neg (by rw [c1]; decide), full_sh bP])
    exact F.1 _ _ _ _ .int rfl rfl (dx dX7_never 41 rfl) rfl ⟨by (rw [eA]; first | done | rfl), by exact hm, Kp.rf⟩
  ·
    have c1 : b = true := c1
    refine r_iconst (v := nI 0) C (dx dX7_never 4 rfl) rfl ?_
    refine r_istore_n (ls' := [(0, vr 7 k), (1, vi (b2i b)), (2, vi (nI 0)), (3, vi (nI 0))]) C (dx dX7_never 5 rfl) (by decide) [1, 2, 3, 0] rfl ?_
    refine loopU (Φ := fun p => Rr G 8 [(0, vr 7 k), (1, vi (b2i b)), (2, vi (bset (fun m => !needW v (hasP v (full (vN v))) m) p)), (3, vi (nI p))] [] h) (N := vM v) ?_ ?_ 0 (Nat.zero_le _)
    ·
      refine r_iload_n C (dx dX7_never 6 rfl) rfl ?_
      refine r_aload_n C (dx dX7_never 7 rfl) rfl ?_
      refine g_X7_71 (x := nI (vM v)) C (dx dX7_never 8 rfl) hm.eM ?_
      refine rn_ge (a := vM v) (b := vM v) (tgt := 44) C (by omega) (by omega) (dx dX7_never 9 rfl) (by decide) (fun c2 => ?_) (fun c2 => ?_)
      · first
        | (omega; done)
        | (
            have c2 : vM v ≤ vM v := c2
            refine r_iload_n C (dx dX7_never 26 rfl) rfl ?_
            have eA : nevR v b = bset (fun m => !needW v (hasP v (full (vN v))) m) (vM v) := by (unfold nevR; rw [if_pos c1])
            exact F.1 _ _ _ _ .int rfl rfl (dx dX7_never 27 rfl) rfl ⟨by (rw [eA]; first | done | rfl), by exact hm, Kp.rf⟩)
      · first
        | (omega; done)
    ·
      intro p hp ih
      refine r_iload_n C (dx dX7_never 6 rfl) rfl ?_
      refine r_aload_n C (dx dX7_never 7 rfl) rfl ?_
      refine g_X7_71 (x := nI (vM v)) C (dx dX7_never 8 rfl) hm.eM ?_
      refine rn_ge (a := p) (b := vM v) (tgt := 44) C (by omega) (by omega) (dx dX7_never 9 rfl) (by decide) (fun c4 => ?_) (fun c4 => ?_)
      · first
        | (omega; done)
        | (
            have c4 : vM v ≤ p := c4
            refine r_iload_n C (dx dX7_never 26 rfl) rfl ?_
            have eA : nevR v b = bset (fun m => !needW v (hasP v (full (vN v))) m) p := by (unfold nevR; rw [if_pos c1])
            exact F.1 _ _ _ _ .int rfl rfl (dx dX7_never 27 rfl) rfl ⟨by (rw [eA]; first | done | rfl), by exact hm, Kp.rf⟩)
      · first
        | (omega; done)
        | (
            have c4 : p < vM v := c4
            refine r_iload_n C (dx dX7_never 10 rfl) rfl ?_
            refine r_aload_n C (dx dX7_never 11 rfl) rfl ?_
            refine r_iload_n C (dx dX7_never 12 rfl) rfl ?_
            refine r_aload_n C (dx dX7_never 13 rfl) rfl ?_
            refine r_cvP (as := []) (st := [vi (nI p), vr 7 k, vi (bset (fun m => !needW v (hasP v (full (vN v))) m) p)]) (v := vi (full (vN v))) C X I_X7_all l_X7_253 (c_X7_all hm) (by decide) (Nat.le_of_ble_eq_true rfl) List.prefix_rfl rfl rfl (Nat.le_of_ble_eq_true rfl) rfl (dx dX7_never 14 rfl) ?_
            refine r_cvP (as := [vi (nI p), vi (full (vN v))]) (st := [vi (bset (fun m => !needW v (hasP v (full (vN v))) m) p)]) (v := vi (b2i (needW v (hasP v (full (vN v))) p))) C X I_X7_worksOf l_X7_250 (e_worksOf hm (m := p) (by omega) _) (by decide) (Nat.le_of_ble_eq_true rfl) List.prefix_rfl rfl rfl (Nat.le_of_ble_eq_true rfl) rfl (dx dX7_never 15 rfl) ?_
            refine rb_eq (b := needW v (hasP v (full (vN v))) p) (tgt := 33) C (dx dX7_never 16 rfl) (by decide) (fun c5 => ?_) (fun c5 => ?_)
            ·
              have c5 : (needW v (hasP v (full (vN v))) p) = false := c5
              refine r_iconst (v := nI 1) C (dx dX7_never 19 rfl) rfl ?_
              refine r_iload_n C (dx dX7_never 20 rfl) rfl ?_
              refine r_ishl C (dx dX7_never 21 rfl) ?_
              refine r_ior C (dx dX7_never 22 rfl) ?_
              refine r_istore_n (ls' := [(0, vr 7 k), (1, vi (b2i b)), (2, vi ((bset (fun m => !needW v (hasP v (full (vN v))) m) p) ||| ((nI 1) <<< ((nI p) &&& 31)))), (3, vi (nI p))]) C (dx dX7_never 23 rfl) (by decide) [1, 2, 0, 3] rfl ?_
              refine rn_iinc (a := p) (k := 1) (ls' := [(0, vr 7 k), (1, vi (b2i b)), (2, vi ((bset (fun m => !needW v (hasP v (full (vN v))) m) p) ||| ((nI 1) <<< ((nI p) &&& 31)))), (3, vi (nI (p + 1)))]) C (dx dX7_never 24 rfl) rfl rfl (by decide) [1, 2, 3, 0] rfl ?_
              refine r_goto (tgt := 8) C (dx dX7_never 25 rfl) (by decide) ?_
              have e9 : ((bset (fun m => !needW v (hasP v (full (vN v))) m) p) ||| ((nI 1) <<< ((nI p) &&& 31))) = (bset (fun m => !needW v (hasP v (full (vN v))) m) (p + 1)) := by simp [bset, or0, c5]
              rw [e9]
              exact ih
            ·
              have c5 : (needW v (hasP v (full (vN v))) p) = true := c5
              refine r_iconst (v := nI 0) C (dx dX7_never 17 rfl) rfl ?_
              refine r_goto (tgt := 36) C (dx dX7_never 18 rfl) (by decide) ?_
              refine r_ior C (dx dX7_never 22 rfl) ?_
              refine r_istore_n (ls' := [(0, vr 7 k), (1, vi (b2i b)), (2, vi ((bset (fun m => !needW v (hasP v (full (vN v))) m) p) ||| (nI 0))), (3, vi (nI p))]) C (dx dX7_never 23 rfl) (by decide) [1, 2, 0, 3] rfl ?_
              refine rn_iinc (a := p) (k := 1) (ls' := [(0, vr 7 k), (1, vi (b2i b)), (2, vi ((bset (fun m => !needW v (hasP v (full (vN v))) m) p) ||| (nI 0))), (3, vi (nI (p + 1)))]) C (dx dX7_never 24 rfl) rfl rfl (by decide) [1, 2, 3, 0] rfl ?_
              refine r_goto (tgt := 8) C (dx dX7_never 25 rfl) (by decide) ?_
              have e9 : ((bset (fun m => !needW v (hasP v (full (vN v))) m) p) ||| (nI 0)) = (bset (fun m => !needW v (hasP v (full (vN v))) m) (p + 1)) := by simp [bset, or0, c5]
              rw [e9]
              exact ih)
set_option maxHeartbeats 4000000 in
theorem e_alone {l : Launch} {h : Hp} {k : Nat} {v : Vg} (hm : MilAt h k v) (o1 : Int32) : Ms l yX7_alone cX7_alone 4 (some .int) 4 [vr 7 k, vi o1] h (xK h) (fun r h' => r = some (vi (aloR v o1)) ∧ MilAt h' k v ∧ Kp k h h') := by
  refine Ms.of (by decide) (Nat.le_of_ble_eq_true rfl) (fun G C X F => ?_)
  have C : Cx G cX7_alone 4 RX7 := C
  show Rr G 0 [(0, vr 7 k), (1, vi o1)] [] h
  have bP := hm.bP
  have bM := hm.bM
  have bN := hm.bN
  refine r_aload_n C (dx dX7_alone 0 rfl) rfl ?_
  refine r_iload_n C (dx dX7_alone 1 rfl) rfl ?_
  refine r_cvP (as := [vi o1]) (st := []) (v := vi (b2i (inR o1 (vN v)))) C X I_X7_isOne l_X7_125 (c_X7_isOne hm _) (by decide) (Nat.le_of_ble_eq_true rfl) List.prefix_rfl rfl rfl (Nat.le_of_ble_eq_true rfl) rfl (dx dX7_alone 2 rfl) ?_
  refine rb_ne (b := inR o1 (vN v)) (tgt := 15) C (dx dX7_alone 3 rfl) (by decide) (fun c1 => ?_) (fun c1 => ?_)
  ·
    have c1 : (inR o1 (vN v)) = true := c1
    obtain ⟨o19, ho19, rfl⟩ := inR_ex (n := (vN v)) (by omega) c1
    refine r_iconst (v := nI 0) C (dx dX7_alone 8 rfl) rfl ?_
    refine r_istore_n (ls' := [(0, vr 7 k), (1, vi (nI o19)), (2, vi (nI 0))]) C (dx dX7_alone 9 rfl) (by decide) [1, 2, 0] rfl ?_
    refine r_iconst (v := nI 0) C (dx dX7_alone 10 rfl) rfl ?_
    refine r_istore_n (ls' := [(0, vr 7 k), (1, vi (nI o19)), (2, vi (nI 0)), (3, vi (nI 0))]) C (dx dX7_alone 11 rfl) (by decide) [1, 2, 3, 0] rfl ?_
    refine loopU (Φ := fun p => Rr G 19 [(0, vr 7 k), (1, vi (nI o19)), (2, vi (bset (fun m => needW v (hasP v (nI 1 <<< (nI o19 &&& 31))) m) p)), (3, vi (nI p))] [] h) (N := vM v) ?_ ?_ 0 (Nat.zero_le _)
    ·
      refine r_iload_n C (dx dX7_alone 12 rfl) rfl ?_
      refine r_aload_n C (dx dX7_alone 13 rfl) rfl ?_
      refine g_X7_71 (x := nI (vM v)) C (dx dX7_alone 14 rfl) hm.eM ?_
      refine rn_ge (a := vM v) (b := vM v) (tgt := 54) C (by omega) (by omega) (dx dX7_alone 15 rfl) (by decide) (fun c2 => ?_) (fun c2 => ?_)
      · first
        | (omega; done)
        | (
            have c2 : vM v ≤ vM v := c2
            refine r_iload_n C (dx dX7_alone 33 rfl) rfl ?_
            have eA : aloR v (nI o19) = bset (fun m => needW v (hasP v (nI 1 <<< (nI o19 &&& 31))) m) (vM v) := by (simp [aloR, clN (show o19 < 2 ^ 31 by omega), c1, c2] <;> rfl)
            exact F.1 _ _ _ _ .int rfl rfl (dx dX7_alone 34 rfl) rfl ⟨by (rw [eA]; first | done | rfl), by exact hm, Kp.rf⟩)
      · first
        | (omega; done)
    ·
      intro p hp ih
      refine r_iload_n C (dx dX7_alone 12 rfl) rfl ?_
      refine r_aload_n C (dx dX7_alone 13 rfl) rfl ?_
      refine g_X7_71 (x := nI (vM v)) C (dx dX7_alone 14 rfl) hm.eM ?_
      refine rn_ge (a := p) (b := vM v) (tgt := 54) C (by omega) (by omega) (dx dX7_alone 15 rfl) (by decide) (fun c4 => ?_) (fun c4 => ?_)
      · first
        | (omega; done)
        | (
            have c4 : vM v ≤ p := c4
            refine r_iload_n C (dx dX7_alone 33 rfl) rfl ?_
            have eA : aloR v (nI o19) = bset (fun m => needW v (hasP v (nI 1 <<< (nI o19 &&& 31))) m) p := by (simp [aloR, clN (show o19 < 2 ^ 31 by omega), c1, c4] <;> rfl)
            exact F.1 _ _ _ _ .int rfl rfl (dx dX7_alone 34 rfl) rfl ⟨by (rw [eA]; first | done | rfl), by exact hm, Kp.rf⟩)
      · first
        | (omega; done)
        | (
            have c4 : p < vM v := c4
            refine r_iload_n C (dx dX7_alone 16 rfl) rfl ?_
            refine r_aload_n C (dx dX7_alone 17 rfl) rfl ?_
            refine r_iload_n C (dx dX7_alone 18 rfl) rfl ?_
            refine r_iconst (v := nI 1) C (dx dX7_alone 19 rfl) rfl ?_
            refine r_iload_n C (dx dX7_alone 20 rfl) rfl ?_
            refine r_ishl C (dx dX7_alone 21 rfl) ?_
            refine r_cvP (as := [vi (nI p), vi ((nI 1) <<< ((nI o19) &&& 31))]) (st := [vi (bset (fun m => needW v (hasP v (nI 1 <<< (nI o19 &&& 31))) m) p)]) (v := vi (b2i (needW v (hasP v ((nI 1) <<< ((nI o19) &&& 31))) p))) C X I_X7_worksOf l_X7_250 (e_worksOf hm (m := p) (by omega) _) (by decide) (Nat.le_of_ble_eq_true rfl) List.prefix_rfl rfl rfl (Nat.le_of_ble_eq_true rfl) rfl (dx dX7_alone 22 rfl) ?_
            refine rb_eq (b := needW v (hasP v ((nI 1) <<< ((nI o19) &&& 31))) p) (tgt := 45) C (dx dX7_alone 23 rfl) (by decide) (fun c5 => ?_) (fun c5 => ?_)
            ·
              have c5 : (needW v (hasP v ((nI 1) <<< ((nI o19) &&& 31))) p) = false := c5
              refine r_iconst (v := nI 0) C (dx dX7_alone 28 rfl) rfl ?_
              refine r_ior C (dx dX7_alone 29 rfl) ?_
              refine r_istore_n (ls' := [(0, vr 7 k), (1, vi (nI o19)), (2, vi ((bset (fun m => needW v (hasP v (nI 1 <<< (nI o19 &&& 31))) m) p) ||| (nI 0))), (3, vi (nI p))]) C (dx dX7_alone 30 rfl) (by decide) [1, 2, 0, 3] rfl ?_
              refine rn_iinc (a := p) (k := 1) (ls' := [(0, vr 7 k), (1, vi (nI o19)), (2, vi ((bset (fun m => needW v (hasP v (nI 1 <<< (nI o19 &&& 31))) m) p) ||| (nI 0))), (3, vi (nI (p + 1)))]) C (dx dX7_alone 31 rfl) rfl rfl (by decide) [1, 2, 3, 0] rfl ?_
              refine r_goto (tgt := 19) C (dx dX7_alone 32 rfl) (by decide) ?_
              have e9 : ((bset (fun m => needW v (hasP v (nI 1 <<< (nI o19 &&& 31))) m) p) ||| (nI 0)) = (bset (fun m => needW v (hasP v (nI 1 <<< (nI o19 &&& 31))) m) (p + 1)) := by simp [bset, or0, c5]
              rw [e9]
              exact ih
            ·
              have c5 : (needW v (hasP v ((nI 1) <<< ((nI o19) &&& 31))) p) = true := c5
              refine r_iconst (v := nI 1) C (dx dX7_alone 24 rfl) rfl ?_
              refine r_iload_n C (dx dX7_alone 25 rfl) rfl ?_
              refine r_ishl C (dx dX7_alone 26 rfl) ?_
              refine r_goto (tgt := 46) C (dx dX7_alone 27 rfl) (by decide) ?_
              refine r_ior C (dx dX7_alone 29 rfl) ?_
              refine r_istore_n (ls' := [(0, vr 7 k), (1, vi (nI o19)), (2, vi ((bset (fun m => needW v (hasP v (nI 1 <<< (nI o19 &&& 31))) m) p) ||| ((nI 1) <<< ((nI p) &&& 31)))), (3, vi (nI p))]) C (dx dX7_alone 30 rfl) (by decide) [1, 2, 0, 3] rfl ?_
              refine rn_iinc (a := p) (k := 1) (ls' := [(0, vr 7 k), (1, vi (nI o19)), (2, vi ((bset (fun m => needW v (hasP v (nI 1 <<< (nI o19 &&& 31))) m) p) ||| ((nI 1) <<< ((nI p) &&& 31)))), (3, vi (nI (p + 1)))]) C (dx dX7_alone 31 rfl) rfl rfl (by decide) [1, 2, 3, 0] rfl ?_
              refine r_goto (tgt := 19) C (dx dX7_alone 32 rfl) (by decide) ?_
              have e9 : ((bset (fun m => needW v (hasP v (nI 1 <<< (nI o19 &&& 31))) m) p) ||| ((nI 1) <<< ((nI p) &&& 31))) = (bset (fun m => needW v (hasP v (nI 1 <<< (nI o19 &&& 31))) m) (p + 1)) := by simp [bset, or0, c5]
              rw [e9]
              exact ih)
  ·
    have c1 : (inR o1 (vN v)) = false := c1
    refine r_aload_n C (dx dX7_alone 4 rfl) rfl ?_
    refine r_bipush (v := -2) C (dx dX7_alone 5 rfl) rfl ?_
    refine r_cv (as := [vi (-2)]) (st := []) C X I_X7_refuse l_X7_83 (e_refuse hm (x := -2) (j := 2) (by decide) (by decide)) (by decide) (Nat.le_of_ble_eq_true rfl) List.prefix_rfl List.prefix_rfl rfl rfl (Nat.le_of_ble_eq_true rfl) rfl (dx dX7_alone 6 rfl) ?_
    rintro _ h6 ⟨rfl, m9h6, qh6⟩ kkh6
    have mh6 : MilAt h6 k v := m9h6
    have ph6 : Kp k h h6 := qh6
    have kh6 : xK h6 = xK h := kkh6
    have eA : aloR v o1 = -2 := by (simp [aloR, c1] <;> rfl)
    exact F.1 _ _ _ _ .int rfl rfl (dx dX7_alone 7 rfl) kh6 ⟨by (rw [eA]; first | done | rfl), by exact mh6, ph6⟩
set_option maxHeartbeats 4000000 in
theorem e_both {l : Launch} {h : Hp} {k : Nat} {v : Vg} (hm : MilAt h k v) (m n s : Int32) : Ms l yX7_both cX7_both 4 (some .int) 5 [vr 7 k, vi m, vi n, vi s] h (xK h) (fun r h' => r = some (vi (botR v m n s)) ∧ MilAt h' k v ∧ Kp k h h') := by
  refine Ms.of (by decide) (Nat.le_of_ble_eq_true rfl) (fun G C X F => ?_)
  have C : Cx G cX7_both 4 RX7 := C
  show Rr G 0 [(0, vr 7 k), (1, vi m), (2, vi n), (3, vi s)] [] h
  have bP := hm.bP
  have bM := hm.bM
  have bN := hm.bN
  refine r_aload_n C (dx dX7_both 0 rfl) rfl ?_
  refine r_iload_n C (dx dX7_both 1 rfl) rfl ?_
  refine r_cvP (as := [vi m]) (st := []) (v := vi (b2i (inR m (vM v)))) C X I_X7_isMachine l_X7_241 (c_X7_isMachine hm _) (by decide) (Nat.le_of_ble_eq_true rfl) List.prefix_rfl rfl rfl (Nat.le_of_ble_eq_true rfl) rfl (dx dX7_both 2 rfl) ?_
  refine rb_eq (b := inR m (vM v)) (tgt := 35) C (dx dX7_both 3 rfl) (by decide) (fun c1 => ?_) (fun c1 => ?_)
  ·
    have c1 : (inR m (vM v)) = false := c1
    refine r_aload_n C (dx dX7_both 19 rfl) rfl ?_
    refine r_bipush (v := -2) C (dx dX7_both 20 rfl) rfl ?_
    refine r_cv (as := [vi (-2)]) (st := []) C X I_X7_refuse l_X7_83 (e_refuse hm (x := -2) (j := 2) (by decide) (by decide)) (by decide) (Nat.le_of_ble_eq_true rfl) List.prefix_rfl List.prefix_rfl rfl rfl (Nat.le_of_ble_eq_true rfl) rfl (dx dX7_both 21 rfl) ?_
    rintro _ h2 ⟨rfl, m9h2, qh2⟩ kkh2
    have mh2 : MilAt h2 k v := m9h2
    have ph2 : Kp k h h2 := qh2
    have kh2 : xK h2 = xK h := kkh2
    have eA : botR v m n s = -2 := by (simp [botR, c1] <;> rfl)
    exact F.1 _ _ _ _ .int rfl rfl (dx dX7_both 22 rfl) kh2 ⟨by (rw [eA]; first | done | rfl), by exact mh2, ph2⟩
  ·
    have c1 : (inR m (vM v)) = true := c1
    obtain ⟨μ, hμ, rfl⟩ := inR_ex (n := (vM v)) (by omega) c1
    refine r_aload_n C (dx dX7_both 4 rfl) rfl ?_
    refine r_iload_n C (dx dX7_both 5 rfl) rfl ?_
    refine r_cvP (as := [vi n]) (st := []) (v := vi (b2i (inR n (vM v)))) C X I_X7_isMachine l_X7_241 (c_X7_isMachine hm _) (by decide) (Nat.le_of_ble_eq_true rfl) List.prefix_rfl rfl rfl (Nat.le_of_ble_eq_true rfl) rfl (dx dX7_both 6 rfl) ?_
    refine rb_eq (b := inR n (vM v)) (tgt := 35) C (dx dX7_both 7 rfl) (by decide) (fun c3 => ?_) (fun c3 => ?_)
    ·
      have c3 : (inR n (vM v)) = false := c3
      refine r_aload_n C (dx dX7_both 19 rfl) rfl ?_
      refine r_bipush (v := -2) C (dx dX7_both 20 rfl) rfl ?_
      refine r_cv (as := [vi (-2)]) (st := []) C X I_X7_refuse l_X7_83 (e_refuse hm (x := -2) (j := 2) (by decide) (by decide)) (by decide) (Nat.le_of_ble_eq_true rfl) List.prefix_rfl List.prefix_rfl rfl rfl (Nat.le_of_ble_eq_true rfl) rfl (dx dX7_both 21 rfl) ?_
      rintro _ h4 ⟨rfl, m9h4, qh4⟩ kkh4
      have mh4 : MilAt h4 k v := m9h4
      have ph4 : Kp k h h4 := qh4
      have kh4 : xK h4 = xK h := kkh4
      have eA : botR v (nI μ) n s = -2 := by (simp [botR, clN (show μ < 2 ^ 31 by omega), c1, c3] <;> rfl)
      exact F.1 _ _ _ _ .int rfl rfl (dx dX7_both 22 rfl) kh4 ⟨by (rw [eA]; first | done | rfl), by exact mh4, ph4⟩
    ·
      have c3 : (inR n (vM v)) = true := c3
      obtain ⟨ν, hν, rfl⟩ := inR_ex (n := (vM v)) (by omega) c3
      refine r_iload_n C (dx dX7_both 8 rfl) rfl ?_
      refine r_iload_n C (dx dX7_both 9 rfl) rfl ?_
      refine rn_eq (a := μ) (b := ν) (tgt := 35) C (by omega) (by omega) (dx dX7_both 10 rfl) (by decide) (fun c5 => ?_) (fun c5 => ?_)
      · first
        | (omega; done)
        | (
            have c5 : μ = ν := c5
            refine r_aload_n C (dx dX7_both 19 rfl) rfl ?_
            refine r_bipush (v := -2) C (dx dX7_both 20 rfl) rfl ?_
            refine r_cv (as := [vi (-2)]) (st := []) C X I_X7_refuse l_X7_83 (e_refuse hm (x := -2) (j := 2) (by decide) (by decide)) (by decide) (Nat.le_of_ble_eq_true rfl) List.prefix_rfl List.prefix_rfl rfl rfl (Nat.le_of_ble_eq_true rfl) rfl (dx dX7_both 21 rfl) ?_
            rintro _ h6 ⟨rfl, m9h6, qh6⟩ kkh6
            have mh6 : MilAt h6 k v := m9h6
            have ph6 : Kp k h h6 := qh6
            have kh6 : xK h6 = xK h := kkh6
            have eA : botR v (nI μ) (nI ν) s = -2 := by (simp [botR, clN (show μ < 2 ^ 31 by omega), clN (show ν < 2 ^ 31 by omega), c1, c3, c5] <;> rfl)
            exact F.1 _ _ _ _ .int rfl rfl (dx dX7_both 22 rfl) kh6 ⟨by (rw [eA]; first | done | rfl), by exact mh6, ph6⟩)
      · first
        | (omega; done)
        | (
            have c5 : ¬ μ = ν := c5
            refine r_iload_n C (dx dX7_both 11 rfl) rfl ?_
            refine r_i2l C (dx dX7_both 12 rfl) ?_
            refine r_lconst (v := 0) C (dx dX7_both 13 rfl) rfl ?_
            refine r_aload_n C (dx dX7_both 14 rfl) rfl ?_
            refine r_cvP (as := []) (st := [vl 0, vl s.toInt64]) (v := vi (full (vN v))) C X I_X7_all l_X7_253 (c_X7_all hm) (by decide) (Nat.le_of_ble_eq_true rfl) List.prefix_rfl rfl rfl (Nat.le_of_ble_eq_true rfl) rfl (dx dX7_both 15 rfl) ?_
            refine r_i2l C (dx dX7_both 16 rfl) ?_
            refine r_csP (as := [vl s.toInt64, vl 0, vl ((full (vN v)).toInt64)]) (st := []) (v := vi (b2i (inR s (2 ^ vN v)))) C X I_X7_in l_X7_67 (c_inF (by omega)) (by decide) (Nat.le_of_ble_eq_true rfl) List.prefix_rfl (Nat.le_of_ble_eq_true rfl) rfl (dx dX7_both 17 rfl) ?_
            refine rb_ne (b := inR s (2 ^ vN v)) (tgt := 42) C (dx dX7_both 18 rfl) (by decide) (fun c7 => ?_) (fun c7 => ?_)
            ·
              have c7 : (inR s (2 ^ vN v)) = true := c7
              refine r_aload_n C (dx dX7_both 23 rfl) rfl ?_
              refine r_iload_n C (dx dX7_both 24 rfl) rfl ?_
              refine r_iload_n C (dx dX7_both 25 rfl) rfl ?_
              refine r_iload_n C (dx dX7_both 26 rfl) rfl ?_
              refine r_cvP (as := [vi (nI μ), vi (nI ν), vi s]) (st := []) (v := vi (b2i (bothR v μ ν s))) C X I_X7_bothOf l_X7_256 (e_bothOf hm (m := μ) (n := ν) (by omega) (by omega) _) (by decide) (Nat.le_of_ble_eq_true rfl) List.prefix_rfl rfl rfl (Nat.le_of_ble_eq_true rfl) rfl (dx dX7_both 27 rfl) ?_
              refine rb_eq (b := bothR v μ ν s) (tgt := 56) C (dx dX7_both 28 rfl) (by decide) (fun c8 => ?_) (fun c8 => ?_)
              ·
                have c8 : (bothR v μ ν s) = false := c8
                refine r_iconst (v := nI 0) C (dx dX7_both 31 rfl) rfl ?_
                have eA : botR v (nI μ) (nI ν) s = nI 0 := by (simp [botR, clN (show μ < 2 ^ 31 by omega), clN (show ν < 2 ^ 31 by omega), c1, c3, c5, c7, c8] <;> rfl)
                exact F.1 _ _ _ _ .int rfl rfl (dx dX7_both 32 rfl) rfl ⟨by (rw [eA]; first | done | rfl), by exact hm, Kp.rf⟩
              ·
                have c8 : (bothR v μ ν s) = true := c8
                refine r_iconst (v := nI 1) C (dx dX7_both 29 rfl) rfl ?_
                refine r_goto (tgt := 57) C (dx dX7_both 30 rfl) (by decide) ?_
                have eA : botR v (nI μ) (nI ν) s = nI 1 := by (simp [botR, clN (show μ < 2 ^ 31 by omega), clN (show ν < 2 ^ 31 by omega), c1, c3, c5, c7, c8] <;> rfl)
                exact F.1 _ _ _ _ .int rfl rfl (dx dX7_both 32 rfl) rfl ⟨by (rw [eA]; first | done | rfl), by exact hm, Kp.rf⟩
            ·
              have c7 : (inR s (2 ^ vN v)) = false := c7
              refine r_aload_n C (dx dX7_both 19 rfl) rfl ?_
              refine r_bipush (v := -2) C (dx dX7_both 20 rfl) rfl ?_
              refine r_cv (as := [vi (-2)]) (st := []) C X I_X7_refuse l_X7_83 (e_refuse hm (x := -2) (j := 2) (by decide) (by decide)) (by decide) (Nat.le_of_ble_eq_true rfl) List.prefix_rfl List.prefix_rfl rfl rfl (Nat.le_of_ble_eq_true rfl) rfl (dx dX7_both 21 rfl) ?_
              rintro _ h9 ⟨rfl, m9h9, qh9⟩ kkh9
              have mh9 : MilAt h9 k v := m9h9
              have ph9 : Kp k h h9 := qh9
              have kh9 : xK h9 = xK h := kkh9
              have eA : botR v (nI μ) (nI ν) s = -2 := by (simp [botR, clN (show μ < 2 ^ 31 by omega), clN (show ν < 2 ^ 31 by omega), c1, c3, c5, c7] <;> rfl)
              exact F.1 _ _ _ _ .int rfl rfl (dx dX7_both 22 rfl) kh9 ⟨by (rw [eA]; first | done | rfl), by exact mh9, ph9⟩)
def odaR (v : Vg) (m : Int32) : Int64 := if inR m (vM v) = true then sumL (smF v m.toNatClampNeg m.toNatClampNeg) (2 ^ vN v) else (-2 : Int32).toInt64
def atoR (v : Vg) (m n : Int32) : Int64 := if (inR m (vM v) && inR n (vM v)) = true ∧ ¬ m.toNatClampNeg = n.toNatClampNeg then sumL (smF v m.toNatClampNeg n.toNatClampNeg) (2 ^ vN v) else (-2 : Int32).toInt64
set_option maxHeartbeats 4000000 in
theorem e_odds {l : Launch} {h : Hp} {k : Nat} {v : Vg} (hm : MilAt h k v) (m : Int32) : Ms l yX7_odds cX7_odds 2 (some .long) 6 [vr 7 k, vi m] h (xK h) (fun r h' => r = some (vl (odaR v m)) ∧ MilAt h' k v ∧ Kp k h h') := by
  refine Ms.of (by decide) (Nat.le_of_ble_eq_true rfl) (fun G C X F => ?_)
  have C : Cx G cX7_odds 2 RX7 := C
  show Rr G 0 [(0, vr 7 k), (1, vi m)] [] h
  have bP := hm.bP
  have bM := hm.bM
  have bN := hm.bN
  refine r_aload_n C (dx dX7_odds 0 rfl) rfl ?_
  refine r_iload_n C (dx dX7_odds 1 rfl) rfl ?_
  refine r_cvP (as := [vi m]) (st := []) (v := vi (b2i (inR m (vM v)))) C X I_X7_isMachine l_X7_241 (c_X7_isMachine hm _) (by decide) (Nat.le_of_ble_eq_true rfl) List.prefix_rfl rfl rfl (Nat.le_of_ble_eq_true rfl) rfl (dx dX7_odds 2 rfl) ?_
  refine rb_eq (b := inR m (vM v)) (tgt := 17) C (dx dX7_odds 3 rfl) (by decide) (fun c1 => ?_) (fun c1 => ?_)
  ·
    have c1 : (inR m (vM v)) = false := c1
    refine r_aload_n C (dx dX7_odds 9 rfl) rfl ?_
    refine r_bipush (v := -2) C (dx dX7_odds 10 rfl) rfl ?_
    refine r_cv (as := [vi (-2)]) (st := []) C X I_X7_refuse l_X7_83 (e_refuse hm (x := -2) (j := 2) (by decide) (by decide)) (by decide) (Nat.le_of_ble_eq_true rfl) List.prefix_rfl List.prefix_rfl rfl rfl (Nat.le_of_ble_eq_true rfl) rfl (dx dX7_odds 11 rfl) ?_
    rintro _ h2 ⟨rfl, m9h2, qh2⟩ kkh2
    have mh2 : MilAt h2 k v := m9h2
    have ph2 : Kp k h h2 := qh2
    have kh2 : xK h2 = xK h := kkh2
    refine r_i2l C (dx dX7_odds 12 rfl) ?_
    have eA : odaR v m = (-2).toInt64 := by (simp [odaR, c1] <;> rfl)
    exact F.2.1 _ _ _ _ rfl (dx dX7_odds 13 rfl) kh2 ⟨by (rw [eA]; first | done | rfl), by exact mh2, ph2⟩
  ·
    have c1 : (inR m (vM v)) = true := c1
    obtain ⟨μ, hμ, rfl⟩ := inR_ex (n := (vM v)) (by omega) c1
    refine r_aload_n C (dx dX7_odds 4 rfl) rfl ?_
    refine r_iload_n C (dx dX7_odds 5 rfl) rfl ?_
    refine r_iload_n C (dx dX7_odds 6 rfl) rfl ?_
    refine r_cvP (as := [vi (nI μ), vi (nI μ)]) (st := []) (v := vl (sumL (smF v μ μ) (2 ^ vN v))) C X I_X7_sumOf l_X7_264 (e_sumOf hm (m := μ) (n := μ) (by omega) (by omega)) (by decide) (Nat.le_of_ble_eq_true rfl) List.prefix_rfl rfl rfl (Nat.le_of_ble_eq_true rfl) rfl (dx dX7_odds 7 rfl) ?_
    refine r_goto (tgt := 24) C (dx dX7_odds 8 rfl) (by decide) ?_
    have eA : odaR v (nI μ) = sumL (smF v μ μ) (2 ^ vN v) := by (simp [odaR, clN (show μ < 2 ^ 31 by omega), c1] <;> rfl)
    exact F.2.1 _ _ _ _ rfl (dx dX7_odds 13 rfl) rfl ⟨by (rw [eA]; first | done | rfl), by exact hm, Kp.rf⟩
set_option maxHeartbeats 4000000 in
theorem e_atOnce {l : Launch} {h : Hp} {k : Nat} {v : Vg} (hm : MilAt h k v) (m n : Int32) : Ms l yX7_atOnce cX7_atOnce 3 (some .long) 6 [vr 7 k, vi m, vi n] h (xK h) (fun r h' => r = some (vl (atoR v m n)) ∧ MilAt h' k v ∧ Kp k h h') := by
  refine Ms.of (by decide) (Nat.le_of_ble_eq_true rfl) (fun G C X F => ?_)
  have C : Cx G cX7_atOnce 3 RX7 := C
  show Rr G 0 [(0, vr 7 k), (1, vi m), (2, vi n)] [] h
  have bP := hm.bP
  have bM := hm.bM
  have bN := hm.bN
  refine r_aload_n C (dx dX7_atOnce 0 rfl) rfl ?_
  refine r_iload_n C (dx dX7_atOnce 1 rfl) rfl ?_
  refine r_cvP (as := [vi m]) (st := []) (v := vi (b2i (inR m (vM v)))) C X I_X7_isMachine l_X7_241 (c_X7_isMachine hm _) (by decide) (Nat.le_of_ble_eq_true rfl) List.prefix_rfl rfl rfl (Nat.le_of_ble_eq_true rfl) rfl (dx dX7_atOnce 2 rfl) ?_
  refine rb_eq (b := inR m (vM v)) (tgt := 30) C (dx dX7_atOnce 3 rfl) (by decide) (fun c1 => ?_) (fun c1 => ?_)
  ·
    have c1 : (inR m (vM v)) = false := c1
    refine r_aload_n C (dx dX7_atOnce 16 rfl) rfl ?_
    refine r_bipush (v := -2) C (dx dX7_atOnce 17 rfl) rfl ?_
    refine r_cv (as := [vi (-2)]) (st := []) C X I_X7_refuse l_X7_83 (e_refuse hm (x := -2) (j := 2) (by decide) (by decide)) (by decide) (Nat.le_of_ble_eq_true rfl) List.prefix_rfl List.prefix_rfl rfl rfl (Nat.le_of_ble_eq_true rfl) rfl (dx dX7_atOnce 18 rfl) ?_
    rintro _ h2 ⟨rfl, m9h2, qh2⟩ kkh2
    have mh2 : MilAt h2 k v := m9h2
    have ph2 : Kp k h h2 := qh2
    have kh2 : xK h2 = xK h := kkh2
    refine r_i2l C (dx dX7_atOnce 19 rfl) ?_
    have eA : atoR v m n = (-2).toInt64 := by (simp [atoR, c1] <;> rfl)
    exact F.2.1 _ _ _ _ rfl (dx dX7_atOnce 20 rfl) kh2 ⟨by (rw [eA]; first | done | rfl), by exact mh2, ph2⟩
  ·
    have c1 : (inR m (vM v)) = true := c1
    obtain ⟨μ, hμ, rfl⟩ := inR_ex (n := (vM v)) (by omega) c1
    refine r_aload_n C (dx dX7_atOnce 4 rfl) rfl ?_
    refine r_iload_n C (dx dX7_atOnce 5 rfl) rfl ?_
    refine r_cvP (as := [vi n]) (st := []) (v := vi (b2i (inR n (vM v)))) C X I_X7_isMachine l_X7_241 (c_X7_isMachine hm _) (by decide) (Nat.le_of_ble_eq_true rfl) List.prefix_rfl rfl rfl (Nat.le_of_ble_eq_true rfl) rfl (dx dX7_atOnce 6 rfl) ?_
    refine rb_eq (b := inR n (vM v)) (tgt := 30) C (dx dX7_atOnce 7 rfl) (by decide) (fun c3 => ?_) (fun c3 => ?_)
    ·
      have c3 : (inR n (vM v)) = false := c3
      refine r_aload_n C (dx dX7_atOnce 16 rfl) rfl ?_
      refine r_bipush (v := -2) C (dx dX7_atOnce 17 rfl) rfl ?_
      refine r_cv (as := [vi (-2)]) (st := []) C X I_X7_refuse l_X7_83 (e_refuse hm (x := -2) (j := 2) (by decide) (by decide)) (by decide) (Nat.le_of_ble_eq_true rfl) List.prefix_rfl List.prefix_rfl rfl rfl (Nat.le_of_ble_eq_true rfl) rfl (dx dX7_atOnce 18 rfl) ?_
      rintro _ h4 ⟨rfl, m9h4, qh4⟩ kkh4
      have mh4 : MilAt h4 k v := m9h4
      have ph4 : Kp k h h4 := qh4
      have kh4 : xK h4 = xK h := kkh4
      refine r_i2l C (dx dX7_atOnce 19 rfl) ?_
      have eA : atoR v (nI μ) n = (-2).toInt64 := by (simp [atoR, clN (show μ < 2 ^ 31 by omega), c1, c3] <;> rfl)
      exact F.2.1 _ _ _ _ rfl (dx dX7_atOnce 20 rfl) kh4 ⟨by (rw [eA]; first | done | rfl), by exact mh4, ph4⟩
    ·
      have c3 : (inR n (vM v)) = true := c3
      obtain ⟨ν, hν, rfl⟩ := inR_ex (n := (vM v)) (by omega) c3
      refine r_iload_n C (dx dX7_atOnce 8 rfl) rfl ?_
      refine r_iload_n C (dx dX7_atOnce 9 rfl) rfl ?_
      refine rn_eq (a := μ) (b := ν) (tgt := 30) C (by omega) (by omega) (dx dX7_atOnce 10 rfl) (by decide) (fun c5 => ?_) (fun c5 => ?_)
      · first
        | (omega; done)
        | (
            have c5 : μ = ν := c5
            refine r_aload_n C (dx dX7_atOnce 16 rfl) rfl ?_
            refine r_bipush (v := -2) C (dx dX7_atOnce 17 rfl) rfl ?_
            refine r_cv (as := [vi (-2)]) (st := []) C X I_X7_refuse l_X7_83 (e_refuse hm (x := -2) (j := 2) (by decide) (by decide)) (by decide) (Nat.le_of_ble_eq_true rfl) List.prefix_rfl List.prefix_rfl rfl rfl (Nat.le_of_ble_eq_true rfl) rfl (dx dX7_atOnce 18 rfl) ?_
            rintro _ h6 ⟨rfl, m9h6, qh6⟩ kkh6
            have mh6 : MilAt h6 k v := m9h6
            have ph6 : Kp k h h6 := qh6
            have kh6 : xK h6 = xK h := kkh6
            refine r_i2l C (dx dX7_atOnce 19 rfl) ?_
            have eA : atoR v (nI μ) (nI ν) = (-2).toInt64 := by (simp [atoR, clN (show μ < 2 ^ 31 by omega), clN (show ν < 2 ^ 31 by omega), c1, c3, c5] <;> rfl)
            exact F.2.1 _ _ _ _ rfl (dx dX7_atOnce 20 rfl) kh6 ⟨by (rw [eA]; first | done | rfl), by exact mh6, ph6⟩)
      · first
        | (omega; done)
        | (
            have c5 : ¬ μ = ν := c5
            refine r_aload_n C (dx dX7_atOnce 11 rfl) rfl ?_
            refine r_iload_n C (dx dX7_atOnce 12 rfl) rfl ?_
            refine r_iload_n C (dx dX7_atOnce 13 rfl) rfl ?_
            refine r_cvP (as := [vi (nI μ), vi (nI ν)]) (st := []) (v := vl (sumL (smF v μ ν) (2 ^ vN v))) C X I_X7_sumOf l_X7_264 (e_sumOf hm (m := μ) (n := ν) (by omega) (by omega)) (by decide) (Nat.le_of_ble_eq_true rfl) List.prefix_rfl rfl rfl (Nat.le_of_ble_eq_true rfl) rfl (dx dX7_atOnce 14 rfl) ?_
            refine r_goto (tgt := 37) C (dx dX7_atOnce 15 rfl) (by decide) ?_
            have eA : atoR v (nI μ) (nI ν) = sumL (smF v μ ν) (2 ^ vN v) := by (simp [atoR, clN (show μ < 2 ^ 31 by omega), clN (show ν < 2 ^ 31 by omega), c1, c3, c5] <;> rfl)
            exact F.2.1 _ _ _ _ rfl (dx dX7_atOnce 20 rfl) rfl ⟨by (rw [eA]; first | done | rfl), by exact hm, Kp.rf⟩)
theorem bset_c {p q : Nat → Bool} : ∀ n, (∀ i, i < n → p i = q i) → bset p n = bset q n
  | 0, _ => rfl
  | n + 1, h => by simp only [bset]; rw [bset_c n (fun i hi => h i (by omega)), h n (by omega)]
theorem z_bt {x : Int32} : x = 0 ↔ ∀ i, i < 32 → bt x i = false := by
  constructor
  · intro e i _; rw [e]; exact bt_0 i
  · intro h; exact bt_ext (fun i hi => by rw [h i hi]; exact (bt_0 i).symm)
theorem bt_cm (x : Int32) {i : Nat} (hi : i < 32) : bt (x ^^^ -1) i = !bt x i := by
  have e : bt (-1) i = true := by
    have t : ∀ i : Fin 32, bt (-1) i.val = true := by decide +kernel
    exact t ⟨i, hi⟩
  rw [bt_xor, e, Bool.xor_true]
theorem nev_eq {v : Vg} {b : Bool} (hM : vM v ≤ 6) : nevR v b = nevA v b := by
  unfold nevR nevA
  cases b with
  | false => rfl
  | true =>
    rw [if_pos rfl, if_pos rfl]
    refine bt_ext (fun i hi => ?_)
    unfold macW
    rw [bt_bset _ hi _ (by omega), bt_and, bt_cm _ hi, bt_bset _ hi _ (by omega)]
    by_cases c : i < vM v
    · rw [bt_full (by omega) c, decide_eq_true c]; simp
    · rw [decide_eq_false c]
      have : bt (full (vM v)) i = false := by
        unfold full
        rw [bt_nI _ hi, Nat.testBit_two_pow_sub_one]; exact decide_eq_false c
      rw [this]; simp
theorem own_eq {v : Vg} (ok : VOk v) {j : Nat} (hj : j < 8) : hasP v (nI 1 <<< (nI j &&& 31)) = ownP v (nI j) := by
  have hN := ok.2.2.2.2.2.2.2.2.2
  have key : ∀ c p, (vF v c p = -1 ∨ ∃ o, o < vN v ∧ vF v c p = nI o) → inB (nI 1 <<< (nI j &&& 31)) (vF v c p) = decide (vF v c p = nI j) := fun c p h => by
    rcases h with e | ⟨o, ho, e⟩
    · rw [e, decide_eq_false (show ¬ (-1 : Int32) = nI j from fun q => nI_nm1 (by omega) q.symm)]
      unfold inB; simp
    · rw [e, inB_bt (by omega), bt_pow2 ⟨j, by omega⟩ ⟨o, by omega⟩]
      exact decide_eq_decide.mpr ⟨fun q => by simp only at q; rw [q], fun q => (nI_eq (by omega) (by omega)).mp q⟩
  unfold hasP ownP
  exact bset_c _ (fun p hp => by rw [key 0 p (ok.2.2.2.2.1 p hp), key 1 p (ok.2.2.2.2.2.1 p hp)])
theorem alo_eq {v : Vg} (ok : VOk v) (o : Int32) : aloR v o = aloA v o := by
  have hN := ok.2.2.2.2.2.2.2.2.2
  unfold aloR aloA
  by_cases c : inR o (vN v) = true
  · rw [if_pos c, if_pos c]
    obtain ⟨j, hj, rfl⟩ := inR_ex (by omega) c
    rw [own_eq ok (by omega)]; rfl
  · rw [if_neg c, if_neg c]
theorem ono_eq {v : Vg} (ok : VOk v) (o x : Int32) : onoR v o x = onoA v o x := by
  have hN := ok.2.2.2.2.2.2.2.2.2
  unfold onoR onoA
  by_cases c : inR o (vN v) = true
  · rw [if_pos c, c, Bool.true_and]
    obtain ⟨j, hj, rfl⟩ := inR_ex (by omega) c
    by_cases d : inR x 5 = true
    · rw [if_pos d]
      obtain ⟨ξ, hξ, rfl⟩ := inR_ex (by omega) d
      rw [clN (show ξ < 2 ^ 31 by omega), clN (show j < 2 ^ 31 by omega)]
      match ξ, hξ with
      | 0, _ => rfl
      | 1, _ => rfl
      | 2, _ =>
        show vF v 6 j = if vF v 6 j = 0 then nI 0 else nI 1
        rcases ok.2.2.2.1 j hj with e | e
        · rw [e]; rfl
        · rw [e]; rfl
      | 3, _ => rfl
      | 4, _ => rfl
    · rw [if_neg d]
      have n : ∀ k, k < 5 → ¬ x = nI k := fun k hk e => d (by rw [e]; exact inN (by omega) hk)
      rw [if_neg (n 0 (by decide)), if_neg (n 1 (by decide)), if_neg (n 2 (by decide)), if_neg (n 3 (by decide)), if_neg (n 4 (by decide))]
  · rw [if_neg c, if_neg (fun z => c (by simp only [Bool.and_eq_true] at z; exact z.1))]
theorem all_iff {p : Nat → Bool} : ∀ n, allF p n = true ↔ ∀ i, i < n → p i = true
  | 0 => ⟨fun _ i hi => absurd hi (by omega), fun _ => rfl⟩
  | n + 1 => by
    simp only [allF, Bool.and_eq_true]
    rw [all_iff n]
    exact ⟨fun ⟨a, b⟩ i hi => by
      by_cases e : i = n
      · rw [e]; exact b
      · exact a i (by omega), fun h => ⟨fun i hi => h i (by omega), h n (by omega)⟩⟩
theorem nd_hi {v : Vg} (ok : VOk v) {m i : Nat} (hm : m < vM v) (hi : i < 32) (h : vP v ≤ i) : bt (vF v 2 m) i = false := by
  obtain ⟨S, _, s2, e⟩ := ok.2.2.2.2.2.2.1 m hm
  rw [e, bt_nI _ hi]
  exact Nat.testBit_lt_two_pow (Nat.lt_of_lt_of_le s2 (Nat.pow_le_pow_right (by omega) h))
theorem both_eq {v : Vg} (ok : VOk v) {m n : Nat} (hm : m < vM v) (hn : n < vM v) (s : Int32) : bothR v m n s = bothW v m n s := by
  have hP := ok.2.2.2.2.2.2.2.1
  unfold bothR bothW needW
  rw [Bool.eq_iff_iff]
  simp only [Bool.and_eq_true, decide_eq_true_eq]
  rw [all_iff, z_bt, z_bt, z_bt, z_bt]
  constructor
  · rintro ⟨h1, h2, h3⟩
    refine ⟨fun i hi => ?_, fun i hi => ?_⟩
    · have a := h1 i hi
      have b := h2 i hi
      rw [bt_and] at a b ⊢
      rw [bt_or]
      generalize bt (hasP v s ^^^ -1) i = C at a b ⊢
      generalize bt (vF v 2 m) i = A at a ⊢
      generalize bt (vF v 2 n) i = B at b ⊢
      cases A <;> cases B <;> cases C <;> simp_all
    · rw [bt_and, bt_cm _ hi]
      unfold dblP
      rw [bt_bset _ hi _ (by omega)]
      by_cases c : i < vP v
      · have d := h3 i c
        unfold botP at d
        rw [inB_bt hi] at d
        rw [decide_eq_true c, Bool.true_and]
        generalize bt (vF v 2 m &&& vF v 2 n) i = A at d ⊢
        generalize inB s (vF v 0 i) = X at d ⊢
        generalize inB s (vF v 1 i) = Y at d ⊢
        cases A <;> cases X <;> cases Y <;> simp_all
      · rw [bt_and, nd_hi ok hm hi (by omega)]; simp
  · rintro ⟨h1, h2⟩
    have h12 : ∀ i, i < 32 → bt (vF v 2 m &&& (hasP v s ^^^ -1)) i = false ∧ bt (vF v 2 n &&& (hasP v s ^^^ -1)) i = false := fun i hi => by
      have a := h1 i hi
      rw [bt_and, bt_or] at a
      rw [bt_and, bt_and]
      generalize bt (hasP v s ^^^ -1) i = C at a ⊢
      generalize bt (vF v 2 m) i = A at a ⊢
      generalize bt (vF v 2 n) i = B at a ⊢
      cases A <;> cases B <;> cases C <;> simp_all
    refine ⟨fun i hi => (h12 i hi).1, fun i hi => (h12 i hi).2, fun i hi => ?_⟩
    have b := h2 i (by omega)
    rw [bt_and, bt_cm _ (by omega)] at b
    unfold dblP at b
    rw [bt_bset _ (by omega) _ (by omega), decide_eq_true hi, Bool.true_and] at b
    unfold botP
    rw [inB_bt (by omega)]
    generalize bt (vF v 2 m &&& vF v 2 n) i = A at b ⊢
    generalize inB s (vF v 0 i) = X at b ⊢
    generalize inB s (vF v 1 i) = Y at b ⊢
    cases A <;> cases X <;> cases Y <;> simp_all
theorem bot_eq {v : Vg} (ok : VOk v) (m n s : Int32) : botR v m n s = botA v m n s := by
  have hM := ok.2.2.2.2.2.2.2.2.1
  unfold botR botA pairV
  by_cases c1 : inR m (vM v) = true
  · by_cases c2 : inR n (vM v) = true
    · obtain ⟨a, ha, rfl⟩ := inR_ex (by omega) c1
      obtain ⟨b, hb, rfl⟩ := inR_ex (by omega) c2
      rw [c1, c2, clN (show a < 2 ^ 31 by omega), clN (show b < 2 ^ 31 by omega)]
      have e : (nI a = nI b) ↔ a = b := nI_eq (by omega) (by omega)
      by_cases c3 : a = b
      · rw [if_neg (fun z => z.2.1 c3), if_neg (by simp [e.mpr c3])]
      · by_cases c4 : inR s (2 ^ vN v) = true
        · rw [both_eq ok ha hb, if_pos (show (true && true) = true ∧ ¬ a = b ∧ inR s (2 ^ vN v) = true from ⟨rfl, c3, c4⟩), if_pos (show (true && true && decide (¬ nI a = nI b) && inR s (2 ^ vN v)) = true by rw [c4, decide_eq_true (show ¬ nI a = nI b from fun z => c3 (e.mp z))]; rfl)]
        · rw [if_neg (fun z => c4 z.2.2), if_neg (by simp [c4])]
    · rw [if_neg (fun z => c2 (by have := z.1; simp only [Bool.and_eq_true] at this; exact this.2)), if_neg (by simp [c2])]
  · rw [if_neg (fun z => c1 (by have := z.1; simp only [Bool.and_eq_true] at this; exact this.1)), if_neg (by simp [c1])]
theorem VOk.ho {v : Vg} (ok : VOk v) : HOk v := fun c hc i hi => by
  have : c = 0 ∨ c = 1 := by omega
  rcases this with rfl | rfl
  · exact ok.2.2.2.2.1 i hi
  · exact ok.2.2.2.2.2.1 i hi
theorem nl {a : Nat} (h : a < 2 ^ 31) : (nI a).toInt64 = Int64.ofNat a := by
  apply Int64.toInt_inj.mp
  rw [Int32.toInt_toInt64, nI_toInt h, Int64.toInt_ofNat_of_lt (by omega)]
theorem fac_eq {v : Vg} (ok : VOk v) {o s : Nat} (ho : o < vN v) : (fac v o (s.testBit o)).toInt64 = facR v (nI s) o ∧ ∃ K, K ≤ 10 ∧ facR v (nI s) o = Int64.ofNat K := by
  have hN := ok.2.2.2.2.2.2.2.2.2
  obtain ⟨A, hA, eA⟩ := ok.2.1 o ho
  unfold fac facR
  rw [inB_N (show o < 32 by omega)]
  rcases ok.2.2.2.1 o ho with e | e
  · rw [e, if_pos (show nI 0 = 0 from rfl), if_neg (show ¬ nI 0 = nI 1 by decide), eA]
    cases s.testBit o
    · exact ⟨rfl, A, hA, nl (by omega)⟩
    · refine ⟨rfl, 10 - A, by omega, ?_⟩
      show (nI 10 - nI A).toInt64 = _
      rw [pk_sub hA, nl (by omega)]
  · rw [e, if_neg (show ¬ nI 1 = 0 by decide), if_pos rfl]
    cases s.testBit o
    · exact ⟨by decide, 10, by omega, rfl⟩
    · exact ⟨by decide, 0, by omega, rfl⟩
theorem wgt_eq {v : Vg} (ok : VOk v) {s : Nat} : ∀ n, n ≤ vN v → wgt v s n = prodL (facR v (nI s)) n ∧ ∃ K, K ≤ 10 ^ n ∧ prodL (facR v (nI s)) n = Int64.ofNat K
  | 0, _ => ⟨rfl, 1, Nat.le_refl _, rfl⟩
  | n + 1, h => by
    obtain ⟨i1, K, k1, k2⟩ := wgt_eq ok (s := s) n (by omega)
    obtain ⟨f1, J, j1, j2⟩ := fac_eq ok (s := s) (show n < vN v by omega)
    simp only [wgt, prodL]
    refine ⟨by rw [i1, f1], K * J, by rw [Nat.pow_succ]; exact Nat.mul_le_mul k1 j1, by rw [k2, j2, Int64.ofNat_mul]⟩
theorem sumIfL_e {p : Nat → Bool} {f : Nat → Int64} : ∀ n, sumIfL p f n = sumL (fun s => if p s = true then f s else 0) n
  | 0 => rfl
  | n + 1 => by
    simp only [sumIfL, sumL]
    rw [sumIfL_e n]
    by_cases c : p n = true
    · rw [if_pos c, if_pos c]
    · rw [if_neg c, if_neg c, Int64.add_zero]
theorem sumL_c {f g : Nat → Int64} : ∀ n, (∀ s, s < n → f s = g s) → sumL f n = sumL g n
  | 0, _ => rfl
  | n + 1, h => by simp only [sumL]; rw [sumL_c n (fun s hs => h s (by omega)), h n (by omega)]
theorem odds_eq {v : Vg} (ok : VOk v) (m : Nat) : sumL (smF v m m) (2 ^ vN v) = oddsC v m := by
  have hN := ok.2.2.2.2.2.2.2.2.2
  have hP := ok.2.2.2.2.2.2.2.1
  unfold oddsC
  rw [sumIfL_e]
  refine sumL_c _ (fun s hs => ?_)
  rw [gat_has hP hN ok.ho hs, (wgt_eq ok (s := s) _ (Nat.le_refl _)).1]
  unfold smF
  rw [isR_y rfl]
theorem oddsP_eq {v : Vg} (ok : VOk v) {m n : Nat} (hm : m < vM v) (hn : n < vM v) (h : ¬ m = n) : sumL (smF v m n) (2 ^ vN v) = oddsPC v m n := by
  unfold oddsPC
  rw [sumIfL_e]
  refine sumL_c _ (fun s hs => ?_)
  rw [(wgt_eq ok (s := s) _ (Nat.le_refl _)).1]
  unfold smF
  rw [isR_n h, both_eq ok hm hn]
theorem oda_eq {v : Vg} (ok : VOk v) (m : Int32) : odaR v m = odaA v m := by
  unfold odaR odaA
  split
  · exact odds_eq ok _
  · rfl
theorem ato_eq {v : Vg} (ok : VOk v) (m n : Int32) : atoR v m n = atoA v m n := by
  have hM := ok.2.2.2.2.2.2.2.2.1
  unfold atoR atoA pairV
  by_cases c1 : inR m (vM v) = true
  · by_cases c2 : inR n (vM v) = true
    · obtain ⟨a, ha, rfl⟩ := inR_ex (by omega) c1
      obtain ⟨b, hb, rfl⟩ := inR_ex (by omega) c2
      rw [c1, c2, clN (show a < 2 ^ 31 by omega), clN (show b < 2 ^ 31 by omega)]
      have e : (nI a = nI b) ↔ a = b := nI_eq (by omega) (by omega)
      by_cases c3 : a = b
      · rw [if_neg (fun z => z.2 c3), if_neg (by simp [e.mpr c3])]
      · rw [if_pos ⟨rfl, c3⟩, if_pos (by simp [show ¬ nI a = nI b from fun z => c3 (e.mp z)])]
        exact oddsP_eq ok ha hb c3
    · rw [if_neg (fun z => c2 (by have := z.1; simp only [Bool.and_eq_true] at this; exact this.2)), if_neg (by simp [c2])]
  · rw [if_neg (fun z => c1 (by have := z.1; simp only [Bool.and_eq_true] at this; exact this.1)), if_neg (by simp [c1])]
theorem wor_eq {v : Vg} (ok : VOk v) (H : Int32) : ∀ n, n ≤ vM v → ∃ K, K ≤ 99 * n ∧ sumIf (needW v H) (fun m => vF v 3 m) n = nI K ∧ sumL (fun m => if needW v H m = true then (vF v 3 m).toInt64 else 0) n = (nI K).toInt64
  | 0, _ => ⟨0, Nat.le_refl _, rfl, rfl⟩
  | n + 1, h => by
    have hM := ok.2.2.2.2.2.2.2.2.1
    obtain ⟨K, k1, k2, k3⟩ := wor_eq ok H n (by omega)
    obtain ⟨W, w1, w2, e⟩ := ok.2.2.1 n (by omega)
    simp only [sumIf, sumL]
    rw [k2, k3]
    by_cases c : needW v H n = true
    · rw [if_pos c, if_pos c, e]
      refine ⟨K + W, by omega, nI_add _ _, ?_⟩
      rw [nl (by omega), nl (by omega), nl (by omega), Int64.ofNat_add]
    · rw [if_neg c, if_neg c, Int64.add_zero]
      exact ⟨K, by omega, rfl, rfl⟩
theorem dyM_s {v : Vg} {od : Int64} {H : Int32} : ∀ n, sumL (dyM v od H) n = sumL (fun m => if needW v H m = true then (vF v 3 m).toInt64 else 0) n * od
  | 0 => by simp [sumL]
  | n + 1 => by
    simp only [sumL]
    rw [dyM_s n, Int64.add_mul]
    congr 1
    unfold dyM needW
    by_cases c : vF v 2 n &&& (H ^^^ -1) = 0
    · rw [if_pos c, if_pos (decide_eq_true c)]
    · rw [if_neg c, if_neg (fun z => c (of_decide_eq_true z)), Int64.zero_mul]
theorem day_eq {v : Vg} (ok : VOk v) : sumL (dyF v) (2 ^ vN v) = dayC v := by
  have hN := ok.2.2.2.2.2.2.2.2.2
  have hP := ok.2.2.2.2.2.2.2.1
  unfold dayC
  refine sumL_c _ (fun s hs => ?_)
  rw [gat_has hP hN ok.ho hs, (wgt_eq ok (s := s) _ (Nat.le_refl _)).1]
  obtain ⟨K, k1, k2, k3⟩ := wor_eq ok (hasP v (nI s)) (vM v) (Nat.le_refl _)
  have ew : (worthS v (hasP v (nI s))).toInt64 = sumL (fun m => if needW v (hasP v (nI s)) m = true then (vF v 3 m).toInt64 else 0) (vM v) := by
    unfold worthS
    rw [k2, k3]
  rw [ew]
  obtain ⟨J, j1, j2⟩ := (wgt_eq ok (s := s) _ (Nat.le_refl _)).2
  by_cases c : 0 < prodL (facR v (nI s)) (vN v)
  · rw [dyF_1 c, dyM_s, Int64.mul_comm]
  · rw [dyF_0 c]
    have : J = 0 := by
      rcases Nat.eq_zero_or_pos J with z | z
      · exact z
      · exfalso
        apply c
        have h8 : 10 ^ vN v ≤ 10 ^ 8 := Nat.pow_le_pow_right (by omega) hN
        rw [j2, Int64.lt_iff_toInt_lt, Int64.toInt_ofNat_of_lt (by omega)]
        show (0 : Int64).toInt < _
        rw [show (0 : Int64).toInt = 0 from rfl]; omega
    rw [j2, this]
    show 0 = Int64.ofNat 0 * _
    rw [show Int64.ofNat 0 = 0 from rfl, Int64.zero_mul]

