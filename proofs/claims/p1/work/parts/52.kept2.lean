/-! PART 56b -/
set_option maxHeartbeats 4000000 in
theorem v_X7_noHolding {l : Launch} {h : Hp} {k : Nat} {v : Vg} {g : Sg} (hm : MilAt h k v) (hs : MshAt h k g) (s : Int32) : Ms l yX7_noHolding cX7_noHolding 2 (some .int) 4 [vr 7 k, vi s] h (xK h) (fun r h' => r = some (vi (nhA g s)) ∧ MilAt h' k v ∧ Kp k h h') := by
  refine Ms.of (by decide) (Nat.le_of_ble_eq_true rfl) (fun G C X F => ?_)
  have C : Cx G cX7_noHolding 2 RX7 := C
  show Rr G 0 [(0, vr 7 k), (1, vi s)] [] h
  have bP := hm.bP
  have bM := hm.bM
  have bN := hm.bN
  refine r_iload_n C (dx dX7_noHolding 0 rfl) rfl ?_
  refine r_i2l C (dx dX7_noHolding 1 rfl) ?_
  refine r_lconst (v := 0) C (dx dX7_noHolding 2 rfl) rfl ?_
  refine r_ldc2 C n_X7_77 (dx dX7_noHolding 3 rfl) ?_
  refine r_csP (as := [vl s.toInt64, vl 0, vl 7]) (st := []) (v := vi (b2i (inR s 8))) C X I_X7_in l_X7_67 (c_inR (b := 7) (by decide) (by decide)) (by decide) (Nat.le_of_ble_eq_true rfl) List.prefix_rfl (Nat.le_of_ble_eq_true rfl) rfl (dx dX7_noHolding 4 rfl) ?_
  refine rb_ne (b := inR s 8) (tgt := 19) C (dx dX7_noHolding 5 rfl) (by decide) (fun c1 => ?_) (fun c1 => ?_)
  ·
    have c1 : (inR s 8) = true := c1
    obtain ⟨σ, hσ, rfl⟩ := inR_ex (n := 8) (by omega) c1
    rcases hs σ hσ with ⟨a11, a21⟩ | ⟨τ1, ν1, a11, a21, a31, a41, a51, a61, a71, a81⟩ | ⟨κ1, b1, a11, a21, a31, a41, a51, a61, a71, a81⟩
    ·
      obtain ⟨e01, e11, e21, e31, e41, e51, e61⟩ := sh_bare hσ a21
      refine r_aload_n C (dx dX7_noHolding 10 rfl) rfl ?_
      refine g_X7_7 C (dx dX7_noHolding 11 rfl) ?_
      refine r_iload_n C (dx dX7_noHolding 12 rfl) rfl ?_
      refine r_iald (j := σ) (x := nI 0) C rfl rfl (by decide) rfl (by omega) (dx dX7_noHolding 13 rfl) a11 ?_
      refine r_iconst (v := nI 1) C (dx dX7_noHolding 14 rfl) rfl ?_
      refine rn_ne (a := 0) (b := 1) (tgt := 36) C (by omega) (by omega) (dx dX7_noHolding 15 rfl) (by decide) (fun c2 => ?_) (fun c2 => ?_)
      · first
        | (omega; done)
        | (
            have c2 : ¬ 0 = 1 := c2
            refine r_aload_n C (dx dX7_noHolding 20 rfl) rfl ?_
            refine g_X7_7 C (dx dX7_noHolding 21 rfl) ?_
            refine r_iload_n C (dx dX7_noHolding 22 rfl) rfl ?_
            refine r_iald (j := σ) (x := nI 0) C rfl rfl (by decide) rfl (by omega) (dx dX7_noHolding 23 rfl) a11 ?_
            refine r_if_ne (tgt := 54) C (dx dX7_noHolding 24 rfl) (by decide) (fun c3 => (show False from by revert c3; decide).elim) (fun _ => ?_)
            refine r_aload_n C (dx dX7_noHolding 25 rfl) rfl ?_
            refine r_bipush (v := -4) C (dx dX7_noHolding 26 rfl) rfl ?_
            refine r_cv (as := [vi (-4)]) (st := []) C X I_X7_refuse l_X7_83 (e_refuse hm (x := -4) (j := 4) (by decide) (by decide)) (by decide) (Nat.le_of_ble_eq_true rfl) List.prefix_rfl List.prefix_rfl rfl rfl (Nat.le_of_ble_eq_true rfl) rfl (dx dX7_noHolding 27 rfl) ?_
            rintro _ h4 ⟨rfl, m9h4, qh4⟩ kkh4
            have mh4 : MilAt h4 k v := m9h4
            have ph4 : Kp k h h4 := qh4
            have kh4 : xK h4 = xK h := kkh4
            refine r_goto (tgt := 55) C (dx dX7_noHolding 28 rfl) (by decide) ?_
            have eA : nhA g (nI σ) = -4 := by simp [nhA, c1, c2, e01, e11, e21, e31, e41, e51, e61, inR_nI (show σ < 2 ^ 31 by omega), show σ < 8 by omega]
            exact F.1 _ _ _ _ _ rfl rfl (dx dX7_noHolding 30 rfl) kh4 (show some (vi (-4)) = some (vi (nhA g (nI σ))) ∧ MilAt h4 k v ∧ Kp k h h4 from by rw [eA]; exact ⟨rfl, mh4, ph4⟩))
      · first
        | (omega; done)
        | (
            have c2 : 0 = 1 := c2
            refine r_aload_n C (dx dX7_noHolding 16 rfl) rfl ?_
            refine r_bipush (v := -3) C (dx dX7_noHolding 17 rfl) rfl ?_
            refine r_cv (as := [vi (-3)]) (st := []) C X I_X7_refuse l_X7_83 (e_refuse hm (x := -3) (j := 3) (by decide) (by decide)) (by decide) (Nat.le_of_ble_eq_true rfl) List.prefix_rfl List.prefix_rfl rfl rfl (Nat.le_of_ble_eq_true rfl) rfl (dx dX7_noHolding 18 rfl) ?_
            rintro _ h5 ⟨rfl, m9h5, qh5⟩ kkh5
            have mh5 : MilAt h5 k v := m9h5
            have ph5 : Kp k h h5 := qh5
            have kh5 : xK h5 = xK h := kkh5
            have eA : nhA g (nI σ) = -3 := by simp [nhA, c1, c2, e01, e11, e21, e31, e41, e51, e61, inR_nI (show σ < 2 ^ 31 by omega), show σ < 8 by omega]
            exact F.1 _ _ _ _ _ rfl rfl (dx dX7_noHolding 19 rfl) kh5 (show some (vi (-3)) = some (vi (nhA g (nI σ))) ∧ MilAt h5 k v ∧ Kp k h h5 from by rw [eA]; exact ⟨rfl, mh5, ph5⟩))
    ·
      obtain ⟨e01, e11, e21, e31, e41, e51, e61⟩ := sh_row hσ a11 a61 a71
      refine r_aload_n C (dx dX7_noHolding 10 rfl) rfl ?_
      refine g_X7_7 C (dx dX7_noHolding 11 rfl) ?_
      refine r_iload_n C (dx dX7_noHolding 12 rfl) rfl ?_
      refine r_iald (j := σ) (x := nI 1) C rfl rfl (by decide) rfl (by omega) (dx dX7_noHolding 13 rfl) a31 ?_
      refine r_iconst (v := nI 1) C (dx dX7_noHolding 14 rfl) rfl ?_
      refine rn_ne (a := 1) (b := 1) (tgt := 36) C (by omega) (by omega) (dx dX7_noHolding 15 rfl) (by decide) (fun c6 => ?_) (fun c6 => ?_)
      · first
        | (omega; done)
        | (
            have c6 : ¬ 1 = 1 := c6
            refine r_aload_n C (dx dX7_noHolding 20 rfl) rfl ?_
            refine g_X7_7 C (dx dX7_noHolding 21 rfl) ?_
            refine r_iload_n C (dx dX7_noHolding 22 rfl) rfl ?_
            refine r_iald (j := σ) (x := nI 1) C rfl rfl (by decide) rfl (by omega) (dx dX7_noHolding 23 rfl) a31 ?_
            refine r_if_ne (tgt := 54) C (dx dX7_noHolding 24 rfl) (by decide) (fun _ => ?_) (fun c7 => (show False from by revert c7; decide).elim)
            refine r_iconst (v := nI 0) C (dx dX7_noHolding 29 rfl) rfl ?_
            have eA : nhA g (nI σ) = nI 0 := by simp [nhA, c1, c6, e01, e11, e21, e31, e41, e51, e61, inR_nI (show σ < 2 ^ 31 by omega), show σ < 8 by omega]
            exact F.1 _ _ _ _ _ rfl rfl (dx dX7_noHolding 30 rfl) rfl (show some (vi (nI 0)) = some (vi (nhA g (nI σ))) ∧ MilAt h k v ∧ Kp k h h from by rw [eA]; exact ⟨rfl, hm, Kp.rf⟩))
      · first
        | (omega; done)
        | (
            have c6 : 1 = 1 := c6
            refine r_aload_n C (dx dX7_noHolding 16 rfl) rfl ?_
            refine r_bipush (v := -3) C (dx dX7_noHolding 17 rfl) rfl ?_
            refine r_cv (as := [vi (-3)]) (st := []) C X I_X7_refuse l_X7_83 (e_refuse hm (x := -3) (j := 3) (by decide) (by decide)) (by decide) (Nat.le_of_ble_eq_true rfl) List.prefix_rfl List.prefix_rfl rfl rfl (Nat.le_of_ble_eq_true rfl) rfl (dx dX7_noHolding 18 rfl) ?_
            rintro _ h8 ⟨rfl, m9h8, qh8⟩ kkh8
            have mh8 : MilAt h8 k v := m9h8
            have ph8 : Kp k h h8 := qh8
            have kh8 : xK h8 = xK h := kkh8
            have eA : nhA g (nI σ) = -3 := by simp [nhA, c1, c6, e01, e11, e21, e31, e41, e51, e61, inR_nI (show σ < 2 ^ 31 by omega), show σ < 8 by omega]
            exact F.1 _ _ _ _ _ rfl rfl (dx dX7_noHolding 19 rfl) kh8 (show some (vi (-3)) = some (vi (nhA g (nI σ))) ∧ MilAt h8 k v ∧ Kp k h h8 from by rw [eA]; exact ⟨rfl, mh8, ph8⟩))
    ·
      obtain ⟨e01, e11, e21, e31, e41, e51, e61, e71⟩ := sh_hold hσ a21 a71 a81
      refine r_aload_n C (dx dX7_noHolding 10 rfl) rfl ?_
      refine g_X7_7 C (dx dX7_noHolding 11 rfl) ?_
      refine r_iload_n C (dx dX7_noHolding 12 rfl) rfl ?_
      refine r_iald (j := σ) (x := nI 2) C rfl rfl (by decide) rfl (by omega) (dx dX7_noHolding 13 rfl) a41 ?_
      refine r_iconst (v := nI 1) C (dx dX7_noHolding 14 rfl) rfl ?_
      refine rn_ne (a := 2) (b := 1) (tgt := 36) C (by omega) (by omega) (dx dX7_noHolding 15 rfl) (by decide) (fun c9 => ?_) (fun c9 => ?_)
      · first
        | (omega; done)
        | (
            have c9 : ¬ 2 = 1 := c9
            refine r_aload_n C (dx dX7_noHolding 20 rfl) rfl ?_
            refine g_X7_7 C (dx dX7_noHolding 21 rfl) ?_
            refine r_iload_n C (dx dX7_noHolding 22 rfl) rfl ?_
            refine r_iald (j := σ) (x := nI 2) C rfl rfl (by decide) rfl (by omega) (dx dX7_noHolding 23 rfl) a41 ?_
            refine r_if_ne (tgt := 54) C (dx dX7_noHolding 24 rfl) (by decide) (fun _ => ?_) (fun c10 => (show False from by revert c10; decide).elim)
            refine r_iconst (v := nI 0) C (dx dX7_noHolding 29 rfl) rfl ?_
            have eA : nhA g (nI σ) = nI 0 := by simp [nhA, c1, c9, e01, e11, e21, e31, e41, e51, e61, e71, inR_nI (show σ < 2 ^ 31 by omega), show σ < 8 by omega]
            exact F.1 _ _ _ _ _ rfl rfl (dx dX7_noHolding 30 rfl) rfl (show some (vi (nI 0)) = some (vi (nhA g (nI σ))) ∧ MilAt h k v ∧ Kp k h h from by rw [eA]; exact ⟨rfl, hm, Kp.rf⟩))
      · first
        | (omega; done)
        | (
            have c9 : 2 = 1 := c9
            refine r_aload_n C (dx dX7_noHolding 16 rfl) rfl ?_
            refine r_bipush (v := -3) C (dx dX7_noHolding 17 rfl) rfl ?_
            refine r_cv (as := [vi (-3)]) (st := []) C X I_X7_refuse l_X7_83 (e_refuse hm (x := -3) (j := 3) (by decide) (by decide)) (by decide) (Nat.le_of_ble_eq_true rfl) List.prefix_rfl List.prefix_rfl rfl rfl (Nat.le_of_ble_eq_true rfl) rfl (dx dX7_noHolding 18 rfl) ?_
            rintro _ h11 ⟨rfl, m9h11, qh11⟩ kkh11
            have mh11 : MilAt h11 k v := m9h11
            have ph11 : Kp k h h11 := qh11
            have kh11 : xK h11 = xK h := kkh11
            have eA : nhA g (nI σ) = -3 := by simp [nhA, c1, c9, e01, e11, e21, e31, e41, e51, e61, e71, inR_nI (show σ < 2 ^ 31 by omega), show σ < 8 by omega]
            exact F.1 _ _ _ _ _ rfl rfl (dx dX7_noHolding 19 rfl) kh11 (show some (vi (-3)) = some (vi (nhA g (nI σ))) ∧ MilAt h11 k v ∧ Kp k h h11 from by rw [eA]; exact ⟨rfl, mh11, ph11⟩))
  ·
    have c1 : (inR s 8) = false := c1
    refine r_aload_n C (dx dX7_noHolding 6 rfl) rfl ?_
    refine r_bipush (v := -2) C (dx dX7_noHolding 7 rfl) rfl ?_
    refine r_cv (as := [vi (-2)]) (st := []) C X I_X7_refuse l_X7_83 (e_refuse hm (x := -2) (j := 2) (by decide) (by decide)) (by decide) (Nat.le_of_ble_eq_true rfl) List.prefix_rfl List.prefix_rfl rfl rfl (Nat.le_of_ble_eq_true rfl) rfl (dx dX7_noHolding 8 rfl) ?_
    rintro _ h12 ⟨rfl, m9h12, qh12⟩ kkh12
    have mh12 : MilAt h12 k v := m9h12
    have ph12 : Kp k h h12 := qh12
    have kh12 : xK h12 = xK h := kkh12
    have eA : nhA g s = -2 := by simp [nhA, c1]
    exact F.1 _ _ _ _ _ rfl rfl (dx dX7_noHolding 9 rfl) kh12 (show some (vi (-2)) = some (vi (nhA g s)) ∧ MilAt h12 k v ∧ Kp k h h12 from by rw [eA]; exact ⟨rfl, mh12, ph12⟩)
