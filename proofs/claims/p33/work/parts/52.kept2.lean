/-! PART 56b -/
set_option maxHeartbeats 4000000 in
theorem v_X7_noHolding {l : Launch} {h : Hp} {k : Nat} {v : Vg} {g : Sg} (hm : MilAt h k v) (hs : MshAt h k g) (s : Int32) : Ms l yX7_noHolding cX7_noHolding 2 (some .int) 4 [vr 7 k, vi s] h (xK h) (fun r h' => r = some (vi (nhA g s)) ∧ MilAt h' k v ∧ Kp k h h') := by
  refine Ms.of (by decide) (Nat.le_of_ble_eq_true rfl) (fun G C X F => ?_)
  have C : Cx G cX7_noHolding 2 RX7 := C
  show Rr G 0 [(0, vr 7 k), (1, vi s)] [] h
  have bP := hm.bP
  have bM := hm.bM
  have bN := hm.bN
  refine r_iload_n C (dx dX7_noHolding 0 rfl) rfl ?_
  refine r_i2l C (dx dX7_noHolding 1 rfl) ?_
  refine r_lconst (v := 0) C (dx dX7_noHolding 2 rfl) rfl ?_
  refine r_ldc2 C n_X7_77 (dx dX7_noHolding 3 rfl) ?_
  refine r_csP (as := [vl s.toInt64, vl 0, vl 7]) (st := []) (v := vi (b2i (inR s 8))) C X I_X7_in l_X7_67 (c_inR (b := 7) (by decide) (by decide)) (by decide) (Nat.le_of_ble_eq_true rfl) List.prefix_rfl (Nat.le_of_ble_eq_true rfl) rfl (dx dX7_noHolding 4 rfl) ?_
  refine rb_ne (b := inR s 8) (tgt := 19) C (dx dX7_noHolding 5 rfl) (by decide) (fun c1 => ?_) (fun c1 => ?_)
  ·
    have c1 : (inR s 8) = true := c1
    obtain ⟨σ, hσ, rfl⟩ := inR_ex (n := 8) (by omega) c1
    rcases hs σ hσ with ⟨a11, a21⟩ | ⟨τ1, ν1, a11, a21, a31, a41, a51, a61, a71, a81⟩ | ⟨κ1, b1, a11, a21, a31, a41, a51, a61, a71, a81⟩
    ·
      obtain ⟨e01, e11, e21, e31, e41, e51, e61⟩ := sh_bare hσ a21
      refine r_aload_n C (dx dX7_noHolding 10 rfl) rfl ?_
      refine g_X7_7 C (dx dX7_noHolding 11 rfl) ?_
      refine r_iload_n C (dx dX7_noHolding 12 rfl) rfl ?_
      refine r_iald (j := σ) (x := nI 0) C rfl rfl (by decide) rfl (by omega) (dx dX7_noHolding 13 rfl) a11 ?_
      refine r_iconst (v := nI 1) C (dx dX7_noHolding 14 rfl) rfl ?_
      refine rn_ne (a := 0) (b := 1) (tgt := 36) C (by omega) (by omega) (dx dX7_noHolding 15 rfl) (by decide) (fun c2 => ?_) (fun c2 => ?_)
      · first
        | (omega; done)
        | (
            have c2 : ¬ 0 = 1 := c2
            refine r_aload_n C (dx dX7_noHolding 20 rfl) rfl ?_
            refine g_X7_7 C (dx dX7_noHolding 21 rfl) ?_
            refine r_iload_n C (dx dX7_noHolding 22 rfl) rfl ?_
            refine r_iald (j := σ) (x := nI 0) C rfl rfl (by decide) rfl (by omega) (dx dX7_noHolding 23 rfl) a11 ?_
            refine r_if_ne (tgt := 54) C (dx dX7_noHolding 24 rfl) (by decide) (fun c3 => (show False from by revert c3; decide).elim) (fun _ => ?_)
            refine r_aload_n C (dx dX7_noHolding 25 rfl) rfl ?_
            refine r_bipush (v := -4) C (dx dX7_noHolding 26 rfl) rfl ?_
            refine r_cv (as := [vi (-4)]) (st := []) C X I_X7_refuse l_X7_83 (e_refuse hm (x := -4) (j := 4) (by decide) (by decide)) (by decide) (Nat.le_of_ble_eq_true rfl) List.prefix_rfl List.prefix_rfl rfl rfl (Nat.le_of_ble_eq_true rfl) rfl (dx dX7_noHolding 27 rfl) ?_
            rintro _ h4 ⟨rfl, m9h4, qh4⟩ kkh4
            have mh4 : MilAt h4 k v := m9h4
            have ph4 : Kp k h h4 := qh4
            have kh4 : xK h4 = xK h := kkh4
            refine r_goto (tgt := 55) C (dx dX7_noHolding 28 rfl) (by decide) ?_
            have eA : nhA g (nI σ) = -4 := by simp [nhA, c1, c2, e01, e11, e21, e31, e41, e51, e61, inR_nI (show σ < 2 ^ 31 by omega), show σ < 8 by omega]
            exact F.1 _ _ _ _ _ rfl rfl (dx dX7_noHolding 30 rfl) kh4 (show some (vi (-4)) = some (vi (nhA g (nI σ))) ∧ MilAt h4 k v ∧ Kp k h h4 from by rw [eA]; exact ⟨rfl, mh4, ph4⟩))
      · first
        | (omega; done)
        | (
            have c2 : 0 = 1 := c2
            refine r_aload_n C (dx dX7_noHolding 16 rfl) rfl ?_
            refine r_bipush (v := -3) C (dx dX7_noHolding 17 rfl) rfl ?_
            refine r_cv (as := [vi (-3)]) (st := []) C X I_X7_refuse l_X7_83 (e_refuse hm (x := -3) (j := 3) (by decide) (by decide)) (by decide) (Nat.le_of_ble_eq_true rfl) List.prefix_rfl List.prefix_rfl rfl rfl (Nat.le_of_ble_eq_true rfl) rfl (dx dX7_noHolding 18 rfl) ?_
            rintro _ h5 ⟨rfl, m9h5, qh5⟩ kkh5
            have mh5 : MilAt h5 k v := m9h5
            have ph5 : Kp k h h5 := qh5
            have kh5 : xK h5 = xK h := kkh5
            have eA : nhA g (nI σ) = -3 := by simp [nhA, c1, c2, e01, e11, e21, e31, e41, e51, e61, inR_nI (show σ < 2 ^ 31 by omega), show σ < 8 by omega]
            exact F.1 _ _ _ _ _ rfl rfl (dx dX7_noHolding 19 rfl) kh5 (show some (vi (-3)) = some (vi (nhA g (nI σ))) ∧ MilAt h5 k v ∧ Kp k h h5 from by rw [eA]; exact ⟨rfl, mh5, ph5⟩))
    ·
      obtain ⟨e01, e11, e21, e31, e41, e51, e61⟩ := sh_row hσ a11 a61 a71
      refine r_aload_n C (dx dX7_noHolding 10 rfl) rfl ?_
      refine g_X7_7 C (dx dX7_noHolding 11 rfl) ?_
      refine r_iload_n C (dx dX7_noHolding 12 rfl) rfl ?_
      refine r_iald (j := σ) (x := nI 1) C rfl rfl (by decide) rfl (by omega) (dx dX7_noHolding 13 rfl) a31 ?_
      refine r_iconst (v := nI 1) C (dx dX7_noHolding 14 rfl) rfl ?_
      refine rn_ne (a := 1) (b := 1) (tgt := 36) C (by omega) (by omega) (dx dX7_noHolding 15 rfl) (by decide) (fun c6 => ?_) (fun c6 => ?_)
      · first
        | (omega; done)
        | (
            have c6 : ¬ 1 = 1 := c6
            refine r_aload_n C (dx dX7_noHolding 20 rfl) rfl ?_
            refine g_X7_7 C (dx dX7_noHolding 21 rfl) ?_
            refine r_iload_n C (dx dX7_noHolding 22 rfl) rfl ?_
            refine r_iald (j := σ) (x := nI 1) C rfl rfl (by decide) rfl (by omega) (dx dX7_noHolding 23 rfl) a31 ?_
            refine r_if_ne (tgt := 54) C (dx dX7_noHolding 24 rfl) (by decide) (fun _ => ?_) (fun c7 => (show False from by revert c7; decide).elim)
            refine r_iconst (v := nI 0) C (dx dX7_noHolding 29 rfl) rfl ?_
            have eA : nhA g (nI σ) = nI 0 := by simp [nhA, c1, c6, e01, e11, e21, e31, e41, e51, e61, inR_nI (show σ < 2 ^ 31 by omega), show σ < 8 by omega]
            exact F.1 _ _ _ _ _ rfl rfl (dx dX7_noHolding 30 rfl) rfl (show some (vi (nI 0)) = some (vi (nhA g (nI σ))) ∧ MilAt h k v ∧ Kp k h h from by rw [eA]; exact ⟨rfl, hm, Kp.rf⟩))
      · first
        | (omega; done)
        | (
            have c6 : 1 = 1 := c6
            refine r_aload_n C (dx dX7_noHolding 16 rfl) rfl ?_
            refine r_bipush (v := -3) C (dx dX7_noHolding 17 rfl) rfl ?_
            refine r_cv (as := [vi (-3)]) (st := []) C X I_X7_refuse l_X7_83 (e_refuse hm (x := -3) (j := 3) (by decide) (by decide)) (by decide) (Nat.le_of_ble_eq_true rfl) List.prefix_rfl List.prefix_rfl rfl rfl (Nat.le_of_ble_eq_true rfl) rfl (dx dX7_noHolding 18 rfl) ?_
            rintro _ h8 ⟨rfl, m9h8, qh8⟩ kkh8
            have mh8 : MilAt h8 k v := m9h8
            have ph8 : Kp k h h8 := qh8
            have kh8 : xK h8 = xK h := kkh8
            have eA : nhA g (nI σ) = -3 := by simp [nhA, c1, c6, e01, e11, e21, e31, e41, e51, e61, inR_nI (show σ < 2 ^ 31 by omega), show σ < 8 by omega]
            exact F.1 _ _ _ _ _ rfl rfl (dx dX7_noHolding 19 rfl) kh8 (show some (vi (-3)) = some (vi (nhA g (nI σ))) ∧ MilAt h8 k v ∧ Kp k h h8 from by rw [eA]; exact ⟨rfl, mh8, ph8⟩))
    ·
      obtain ⟨e01, e11, e21, e31, e41, e51, e61, e71⟩ := sh_hold hσ a21 a71 a81
      refine r_aload_n C (dx dX7_noHolding 10 rfl) rfl ?_
      refine g_X7_7 C (dx dX7_noHolding 11 rfl) ?_
      refine r_iload_n C (dx dX7_noHolding 12 rfl) rfl ?_
      refine r_iald (j := σ) (x := nI 2) C rfl rfl (by decide) rfl (by omega) (dx dX7_noHolding 13 rfl) a41 ?_
      refine r_iconst (v := nI 1) C (dx dX7_noHolding 14 rfl) rfl ?_
      refine rn_ne (a := 2) (b := 1) (tgt := 36) C (by omega) (by omega) (dx dX7_noHolding 15 rfl) (by decide) (fun c9 => ?_) (fun c9 => ?_)
      · first
        | (omega; done)
        | (
            have c9 : ¬ 2 = 1 := c9
            refine r_aload_n C (dx dX7_noHolding 20 rfl) rfl ?_
            refine g_X7_7 C (dx dX7_noHolding 21 rfl) ?_
            refine r_iload_n C (dx dX7_noHolding 22 rfl) rfl ?_
            refine r_iald (j := σ) (x := nI 2) C rfl rfl (by decide) rfl (by omega) (dx dX7_noHolding 23 rfl) a41 ?_
            refine r_if_ne (tgt := 54) C (dx dX7_noHolding 24 rfl) (by decide) (fun _ => ?_) (fun c10 => (show False from by revert c10; decide).elim)
            refine r_iconst (v := nI 0) C (dx dX7_noHolding 29 rfl) rfl ?_
            have eA : nhA g (nI σ) = nI 0 := by simp [nhA, c1, c9, e01, e11, e21, e31, e41, e51, e61, e71, inR_nI (show σ < 2 ^ 31 by omega), show σ < 8 by omega]
            exact F.1 _ _ _ _ _ rfl rfl (dx dX7_noHolding 30 rfl) rfl (show some (vi (nI 0)) = some (vi (nhA g (nI σ))) ∧ MilAt h k v ∧ Kp k h h from by rw [eA]; exact ⟨rfl, hm, Kp.rf⟩))
      · first
        | (omega; done)
        | (
            have c9 : 2 = 1 := c9
            refine r_aload_n C (dx dX7_noHolding 16 rfl) rfl ?_
            refine r_bipush (v := -3) C (dx dX7_noHolding 17 rfl) rfl ?_
            refine r_cv (as := [vi (-3)]) (st := []) C X I_X7_refuse l_X7_83 (e_refuse hm (x := -3) (j := 3) (by decide) (by decide)) (by decide) (Nat.le_of_ble_eq_true rfl) List.prefix_rfl List.prefix_rfl rfl rfl (Nat.le_of_ble_eq_true rfl) rfl (dx dX7_noHolding 18 rfl) ?_
            rintro _ h11 ⟨rfl, m9h11, qh11⟩ kkh11
            have mh11 : MilAt h11 k v := m9h11
            have ph11 : Kp k h h11 := qh11
            have kh11 : xK h11 = xK h := kkh11
            have eA : nhA g (nI σ) = -3 := by simp [nhA, c1, c9, e01, e11, e21, e31, e41, e51, e61, e71, inR_nI (show σ < 2 ^ 31 by omega), show σ < 8 by omega]
            exact F.1 _ _ _ _ _ rfl rfl (dx dX7_noHolding 19 rfl) kh11 (show some (vi (-3)) = some (vi (nhA g (nI σ))) ∧ MilAt h11 k v ∧ Kp k h h11 from by rw [eA]; exact ⟨rfl, mh11, ph11⟩))
  ·
    have c1 : (inR s 8) = false := c1
    refine r_aload_n C (dx dX7_noHolding 6 rfl) rfl ?_
    refine r_bipush (v := -2) C (dx dX7_noHolding 7 rfl) rfl ?_
    refine r_cv (as := [vi (-2)]) (st := []) C X I_X7_refuse l_X7_83 (e_refuse hm (x := -2) (j := 2) (by decide) (by decide)) (by decide) (Nat.le_of_ble_eq_true rfl) List.prefix_rfl List.prefix_rfl rfl rfl (Nat.le_of_ble_eq_true rfl) rfl (dx dX7_noHolding 8 rfl) ?_
    rintro _ h12 ⟨rfl, m9h12, qh12⟩ kkh12
    have mh12 : MilAt h12 k v := m9h12
    have ph12 : Kp k h h12 := qh12
    have kh12 : xK h12 = xK h := kkh12
    have eA : nhA g s = -2 := by simp [nhA, c1]
    exact F.1 _ _ _ _ _ rfl rfl (dx dX7_noHolding 9 rfl) kh12 (show some (vi (-2)) = some (vi (nhA g s)) ∧ MilAt h12 k v ∧ Kp k h h12 from by rw [eA]; exact ⟨rfl, mh12, ph12⟩)
set_option maxHeartbeats 4000000 in
theorem v_X7_says_n {l : Launch} {h : Hp} {k : Nat} {v : Vg} {g : Sg} (hm : MilAt h k v) (hs : MshAt h k g) (s x : Int32) (hn : ¬ ∃ σ η β, σ < 8 ∧ s = nI σ ∧ (1 ≤ η ∧ η ≤ 5) ∧ β < 100 ∧ gT g σ = nI (10 + η) ∧ gY g σ = nI β ∧ inR x 6 = true ∧ undV (nI η) x = true ∧ ¬ x = 0) : Ms l yX7_says cX7_says 3 (some .int) 10 [vr 7 k, vi s, vi x] h (xK h) (fun r h' => PI r ∧ MilAt h' k v ∧ Kp k h h') := by
  refine Ms.of (by decide) (Nat.le_of_ble_eq_true rfl) (fun G C X F => ?_)
  have C : Cx G cX7_says 3 RX7 := C
  show Rr G 0 [(0, vr 7 k), (1, vi s), (2, vi x)] [] h
  have bP := hm.bP
  have bM := hm.bM
  have bN := hm.bN
  refine r_iload_n C (dx dX7_says 0 rfl) rfl ?_
  refine r_i2l C (dx dX7_says 1 rfl) ?_
  refine r_lconst (v := 0) C (dx dX7_says 2 rfl) rfl ?_
  refine r_ldc2 C n_X7_77 (dx dX7_says 3 rfl) ?_
  refine r_csP (as := [vl s.toInt64, vl 0, vl 7]) (st := []) (v := vi (b2i (inR s 8))) C X I_X7_in l_X7_67 (c_inR (b := 7) (by decide) (by decide)) (by decide) (Nat.le_of_ble_eq_true rfl) List.prefix_rfl (Nat.le_of_ble_eq_true rfl) rfl (dx dX7_says 4 rfl) ?_
  refine rb_eq (b := inR s 8) (tgt := 24) C (dx dX7_says 5 rfl) (by decide) (fun c1 => ?_) (fun c1 => ?_)
  ·
    have c1 : (inR s 8) = false := c1
    refine r_aload_n C (dx dX7_says 12 rfl) rfl ?_
    refine r_bipush (v := -2) C (dx dX7_says 13 rfl) rfl ?_
    refine r_cv (as := [vi (-2)]) (st := []) C X I_X7_refuse l_X7_83 (e_refuse hm (x := -2) (j := 2) (by decide) (by decide)) (by decide) (Nat.le_of_ble_eq_true rfl) List.prefix_rfl List.prefix_rfl rfl rfl (Nat.le_of_ble_eq_true rfl) rfl (dx dX7_says 14 rfl) ?_
    rintro _ h2 ⟨rfl, m9h2, qh2⟩ kkh2
    have mh2 : MilAt h2 k v := m9h2
    have ph2 : Kp k h h2 := qh2
    have kh2 : xK h2 = xK h := kkh2
    exact F.1 _ _ _ _ .int rfl rfl (dx dX7_says 15 rfl) kh2 ⟨⟨_, rfl⟩, mh2, ph2⟩
  ·
    have c1 : (inR s 8) = true := c1
    obtain ⟨σ, hσ, rfl⟩ := inR_ex (n := 8) (by omega) c1
    refine r_iload_n C (dx dX7_says 6 rfl) rfl ?_
    refine r_i2l C (dx dX7_says 7 rfl) ?_
    refine r_lconst (v := 0) C (dx dX7_says 8 rfl) rfl ?_
    refine r_ldc2 C n_X7_94 (dx dX7_says 9 rfl) ?_
    refine r_csP (as := [vl x.toInt64, vl 0, vl 5]) (st := []) (v := vi (b2i (inR x 6))) C X I_X7_in l_X7_67 (c_inR (b := 5) (by decide) (by decide)) (by decide) (Nat.le_of_ble_eq_true rfl) List.prefix_rfl (Nat.le_of_ble_eq_true rfl) rfl (dx dX7_says 10 rfl) ?_
    refine rb_ne (b := inR x 6) (tgt := 31) C (dx dX7_says 11 rfl) (by decide) (fun c3 => ?_) (fun c3 => ?_)
    ·
      have c3 : (inR x 6) = true := c3
      rcases hs σ hσ with ⟨a11, a21⟩ | ⟨τ1, ν1, a11, a21, a31, a41, a51, a61, a71, a81⟩ | ⟨κ1, b1, a11, a21, a31, a41, a51, a61, a71, a81⟩
      ·
        obtain ⟨e01, e11, e21, e31, e41, e51, e61⟩ := sh_bare hσ a21
        refine r_aload_n C (dx dX7_says 16 rfl) rfl ?_
        refine g_X7_7 C (dx dX7_says 17 rfl) ?_
        refine r_iload_n C (dx dX7_says 18 rfl) rfl ?_
        refine r_iald (j := σ) (x := nI 0) C rfl rfl (by decide) rfl (by omega) (dx dX7_says 19 rfl) a11 ?_
        refine r_iconst (v := nI 1) C (dx dX7_says 20 rfl) rfl ?_
        refine rn_eq (a := 0) (b := 1) (tgt := 64) C (by omega) (by omega) (dx dX7_says 21 rfl) (by decide) (fun c4 => ?_) (fun c4 => ?_)
        · first
          | (omega; done)
          | (
              have c4 : 0 = 1 := c4
              refine r_aload_n C (dx dX7_says 35 rfl) rfl ?_
              refine r_bipush (v := -3) C (dx dX7_says 36 rfl) rfl ?_
              refine r_cv (as := [vi (-3)]) (st := []) C X I_X7_refuse l_X7_83 (e_refuse hm (x := -3) (j := 3) (by decide) (by decide)) (by decide) (Nat.le_of_ble_eq_true rfl) List.prefix_rfl List.prefix_rfl rfl rfl (Nat.le_of_ble_eq_true rfl) rfl (dx dX7_says 37 rfl) ?_
              rintro _ h5 ⟨rfl, m9h5, qh5⟩ kkh5
              have mh5 : MilAt h5 k v := m9h5
              have ph5 : Kp k h h5 := qh5
              have kh5 : xK h5 = xK h := kkh5
              exact F.1 _ _ _ _ .int rfl rfl (dx dX7_says 38 rfl) kh5 ⟨⟨_, rfl⟩, mh5, ph5⟩)
        · first
          | (omega; done)
          | (
              have c4 : ¬ 0 = 1 := c4
              refine r_aload_n C (dx dX7_says 22 rfl) rfl ?_
              refine g_X7_7 C (dx dX7_says 23 rfl) ?_
              refine r_iload_n C (dx dX7_says 24 rfl) rfl ?_
              refine r_iald (j := σ) (x := nI 0) C rfl rfl (by decide) rfl (by omega) (dx dX7_says 25 rfl) a11 ?_
              refine r_iconst (v := nI 2) C (dx dX7_says 26 rfl) rfl ?_
              refine rn_ne (a := 0) (b := 2) (tgt := 71) C (by omega) (by omega) (dx dX7_says 27 rfl) (by decide) (fun c6 => ?_) (fun c6 => ?_)
              · first
                | (omega; done)
                | (
                    have c6 : ¬ 0 = 2 := c6
                    refine r_aload_n C (dx dX7_says 39 rfl) rfl ?_
                    refine g_X7_7 C (dx dX7_says 40 rfl) ?_
                    refine r_iload_n C (dx dX7_says 41 rfl) rfl ?_
                    refine r_iald (j := σ) (x := nI 0) C rfl rfl (by decide) rfl (by omega) (dx dX7_says 42 rfl) a11 ?_
                    refine r_if_ne (tgt := 87) C (dx dX7_says 43 rfl) (by decide) (fun c7 => (show False from by revert c7; decide).elim) (fun _ => ?_)
                    refine r_aload_n C (dx dX7_says 44 rfl) rfl ?_
                    refine r_bipush (v := -4) C (dx dX7_says 45 rfl) rfl ?_
                    refine r_cv (as := [vi (-4)]) (st := []) C X I_X7_refuse l_X7_83 (e_refuse hm (x := -4) (j := 4) (by decide) (by decide)) (by decide) (Nat.le_of_ble_eq_true rfl) List.prefix_rfl List.prefix_rfl rfl rfl (Nat.le_of_ble_eq_true rfl) rfl (dx dX7_says 46 rfl) ?_
                    rintro _ h8 ⟨rfl, m9h8, qh8⟩ kkh8
                    have mh8 : MilAt h8 k v := m9h8
                    have ph8 : Kp k h h8 := qh8
                    have kh8 : xK h8 = xK h := kkh8
                    exact F.1 _ _ _ _ .int rfl rfl (dx dX7_says 47 rfl) kh8 ⟨⟨_, rfl⟩, mh8, ph8⟩)
              · first
                | (omega; done)
                | (
                    have c6 : 0 = 2 := c6
                    refine r_aload_n C (dx dX7_says 28 rfl) rfl ?_
                    refine g_X7_28 C (dx dX7_says 29 rfl) ?_
                    refine r_iload_n C (dx dX7_says 30 rfl) rfl ?_
                    refine r_iald (j := σ) (x := xI h (k + 14) σ) C rfl rfl (by decide) rfl (by omega) (dx dX7_says 31 rfl) rfl ?_
                    refine r_iload_n C (dx dX7_says 32 rfl) rfl ?_
                    refine r_csP (as := [vi (xI h (k + 14) σ), vi x]) (st := []) (v := vi (b2i (undV (xI h (k + 14) σ) x))) C X I_X7_isUnder l_X7_98 (c_X7_isUnder _ _) (by decide) (Nat.le_of_ble_eq_true rfl) List.prefix_rfl (Nat.le_of_ble_eq_true rfl) rfl (dx dX7_says 33 rfl) ?_
                    refine rb_ne (b := undV (xI h (k + 14) σ) x) (tgt := 71) C (dx dX7_says 34 rfl) (by decide) (fun c9 => ?_) (fun c9 => ?_)
                    ·
                      have c9 : (undV (xI h (k + 14) σ) x) = true := c9
                      refine r_aload_n C (dx dX7_says 39 rfl) rfl ?_
                      refine g_X7_7 C (dx dX7_says 40 rfl) ?_
                      refine r_iload_n C (dx dX7_says 41 rfl) rfl ?_
                      refine r_iald (j := σ) (x := nI 0) C rfl rfl (by decide) rfl (by omega) (dx dX7_says 42 rfl) a11 ?_
                      refine r_if_ne (tgt := 87) C (dx dX7_says 43 rfl) (by decide) (fun c10 => (show False from by revert c10; decide).elim) (fun _ => ?_)
                      refine r_aload_n C (dx dX7_says 44 rfl) rfl ?_
                      refine r_bipush (v := -4) C (dx dX7_says 45 rfl) rfl ?_
                      refine r_cv (as := [vi (-4)]) (st := []) C X I_X7_refuse l_X7_83 (e_refuse hm (x := -4) (j := 4) (by decide) (by decide)) (by decide) (Nat.le_of_ble_eq_true rfl) List.prefix_rfl List.prefix_rfl rfl rfl (Nat.le_of_ble_eq_true rfl) rfl (dx dX7_says 46 rfl) ?_
                      rintro _ h11 ⟨rfl, m9h11, qh11⟩ kkh11
                      have mh11 : MilAt h11 k v := m9h11
                      have ph11 : Kp k h h11 := qh11
                      have kh11 : xK h11 = xK h := kkh11
                      exact F.1 _ _ _ _ .int rfl rfl (dx dX7_says 47 rfl) kh11 ⟨⟨_, rfl⟩, mh11, ph11⟩
                    ·
                      have c9 : (undV (xI h (k + 14) σ) x) = false := c9
                      refine r_aload_n C (dx dX7_says 35 rfl) rfl ?_
                      refine r_bipush (v := -3) C (dx dX7_says 36 rfl) rfl ?_
                      refine r_cv (as := [vi (-3)]) (st := []) C X I_X7_refuse l_X7_83 (e_refuse hm (x := -3) (j := 3) (by decide) (by decide)) (by decide) (Nat.le_of_ble_eq_true rfl) List.prefix_rfl List.prefix_rfl rfl rfl (Nat.le_of_ble_eq_true rfl) rfl (dx dX7_says 37 rfl) ?_
                      rintro _ h12 ⟨rfl, m9h12, qh12⟩ kkh12
                      have mh12 : MilAt h12 k v := m9h12
                      have ph12 : Kp k h h12 := qh12
                      have kh12 : xK h12 = xK h := kkh12
                      exact F.1 _ _ _ _ .int rfl rfl (dx dX7_says 38 rfl) kh12 ⟨⟨_, rfl⟩, mh12, ph12⟩))
      ·
        obtain ⟨e01, e11, e21, e31, e41, e51, e61⟩ := sh_row hσ a11 a61 a71
        refine r_aload_n C (dx dX7_says 16 rfl) rfl ?_
        refine g_X7_7 C (dx dX7_says 17 rfl) ?_
        refine r_iload_n C (dx dX7_says 18 rfl) rfl ?_
        refine r_iald (j := σ) (x := nI 1) C rfl rfl (by decide) rfl (by omega) (dx dX7_says 19 rfl) a31 ?_
        refine r_iconst (v := nI 1) C (dx dX7_says 20 rfl) rfl ?_
        refine rn_eq (a := 1) (b := 1) (tgt := 64) C (by omega) (by omega) (dx dX7_says 21 rfl) (by decide) (fun c13 => ?_) (fun c13 => ?_)
        · first
          | (omega; done)
          | (
              have c13 : 1 = 1 := c13
              refine r_aload_n C (dx dX7_says 35 rfl) rfl ?_
              refine r_bipush (v := -3) C (dx dX7_says 36 rfl) rfl ?_
              refine r_cv (as := [vi (-3)]) (st := []) C X I_X7_refuse l_X7_83 (e_refuse hm (x := -3) (j := 3) (by decide) (by decide)) (by decide) (Nat.le_of_ble_eq_true rfl) List.prefix_rfl List.prefix_rfl rfl rfl (Nat.le_of_ble_eq_true rfl) rfl (dx dX7_says 37 rfl) ?_
              rintro _ h14 ⟨rfl, m9h14, qh14⟩ kkh14
              have mh14 : MilAt h14 k v := m9h14
              have ph14 : Kp k h h14 := qh14
              have kh14 : xK h14 = xK h := kkh14
              exact F.1 _ _ _ _ .int rfl rfl (dx dX7_says 38 rfl) kh14 ⟨⟨_, rfl⟩, mh14, ph14⟩)
        · first
          | (omega; done)
          | (
              have c13 : ¬ 1 = 1 := c13
              refine r_aload_n C (dx dX7_says 22 rfl) rfl ?_
              refine g_X7_7 C (dx dX7_says 23 rfl) ?_
              refine r_iload_n C (dx dX7_says 24 rfl) rfl ?_
              refine r_iald (j := σ) (x := nI 1) C rfl rfl (by decide) rfl (by omega) (dx dX7_says 25 rfl) a31 ?_
              refine r_iconst (v := nI 2) C (dx dX7_says 26 rfl) rfl ?_
              refine rn_ne (a := 1) (b := 2) (tgt := 71) C (by omega) (by omega) (dx dX7_says 27 rfl) (by decide) (fun c15 => ?_) (fun c15 => ?_)
              · first
                | (omega; done)
                | (
                    have c15 : ¬ 1 = 2 := c15
                    refine r_aload_n C (dx dX7_says 39 rfl) rfl ?_
                    refine g_X7_7 C (dx dX7_says 40 rfl) ?_
                    refine r_iload_n C (dx dX7_says 41 rfl) rfl ?_
                    refine r_iald (j := σ) (x := nI 1) C rfl rfl (by decide) rfl (by omega) (dx dX7_says 42 rfl) a31 ?_
                    refine r_if_ne (tgt := 87) C (dx dX7_says 43 rfl) (by decide) (fun _ => ?_) (fun c16 => (show False from by revert c16; decide).elim)
                    refine r_iload_n C (dx dX7_says 48 rfl) rfl ?_
                    refine r_if_ne (tgt := 98) C (dx dX7_says 49 rfl) (by decide) (fun c17 => ?_) (fun c17 => ?_)
                    ·
                      have c17 : ¬ x = 0 := c17
                      exact absurd XX hn
                    ·
                      have c17 : x = 0 := c17
                      refine r_aload_n C (dx dX7_says 50 rfl) rfl ?_
                      refine g_X7_31 C (dx dX7_says 51 rfl) ?_
                      refine r_iload_n C (dx dX7_says 52 rfl) rfl ?_
                      refine r_iald (j := σ) (x := xI h (k + 15) σ) C rfl rfl (by decide) rfl (by omega) (dx dX7_says 53 rfl) rfl ?_
                      exact F.1 _ _ _ _ .int rfl rfl (dx dX7_says 54 rfl) rfl ⟨⟨_, rfl⟩, hm, Kp.rf⟩)
              · first
                | (omega; done)
                | (
                    have c15 : 1 = 2 := c15
                    refine r_aload_n C (dx dX7_says 28 rfl) rfl ?_
                    refine g_X7_28 C (dx dX7_says 29 rfl) ?_
                    refine r_iload_n C (dx dX7_says 30 rfl) rfl ?_
                    refine r_iald (j := σ) (x := xI h (k + 14) σ) C rfl rfl (by decide) rfl (by omega) (dx dX7_says 31 rfl) rfl ?_
                    refine r_iload_n C (dx dX7_says 32 rfl) rfl ?_
                    refine r_csP (as := [vi (xI h (k + 14) σ), vi x]) (st := []) (v := vi (b2i (undV (xI h (k + 14) σ) x))) C X I_X7_isUnder l_X7_98 (c_X7_isUnder _ _) (by decide) (Nat.le_of_ble_eq_true rfl) List.prefix_rfl (Nat.le_of_ble_eq_true rfl) rfl (dx dX7_says 33 rfl) ?_
                    refine rb_ne (b := undV (xI h (k + 14) σ) x) (tgt := 71) C (dx dX7_says 34 rfl) (by decide) (fun c18 => ?_) (fun c18 => ?_)
                    ·
                      have c18 : (undV (xI h (k + 14) σ) x) = true := c18
                      refine r_aload_n C (dx dX7_says 39 rfl) rfl ?_
                      refine g_X7_7 C (dx dX7_says 40 rfl) ?_
                      refine r_iload_n C (dx dX7_says 41 rfl) rfl ?_
                      refine r_iald (j := σ) (x := nI 1) C rfl rfl (by decide) rfl (by omega) (dx dX7_says 42 rfl) a31 ?_
                      refine r_if_ne (tgt := 87) C (dx dX7_says 43 rfl) (by decide) (fun _ => ?_) (fun c19 => (show False from by revert c19; decide).elim)
                      refine r_iload_n C (dx dX7_says 48 rfl) rfl ?_
                      refine r_if_ne (tgt := 98) C (dx dX7_says 49 rfl) (by decide) (fun c20 => ?_) (fun c20 => ?_)
                      ·
                        have c20 : ¬ x = 0 := c20
                        exact absurd XX hn
                      ·
                        have c20 : x = 0 := c20
                        refine r_aload_n C (dx dX7_says 50 rfl) rfl ?_
                        refine g_X7_31 C (dx dX7_says 51 rfl) ?_
                        refine r_iload_n C (dx dX7_says 52 rfl) rfl ?_
                        refine r_iald (j := σ) (x := xI h (k + 15) σ) C rfl rfl (by decide) rfl (by omega) (dx dX7_says 53 rfl) rfl ?_
                        exact F.1 _ _ _ _ .int rfl rfl (dx dX7_says 54 rfl) rfl ⟨⟨_, rfl⟩, hm, Kp.rf⟩
                    ·
                      have c18 : (undV (xI h (k + 14) σ) x) = false := c18
                      refine r_aload_n C (dx dX7_says 35 rfl) rfl ?_
                      refine r_bipush (v := -3) C (dx dX7_says 36 rfl) rfl ?_
                      refine r_cv (as := [vi (-3)]) (st := []) C X I_X7_refuse l_X7_83 (e_refuse hm (x := -3) (j := 3) (by decide) (by decide)) (by decide) (Nat.le_of_ble_eq_true rfl) List.prefix_rfl List.prefix_rfl rfl rfl (Nat.le_of_ble_eq_true rfl) rfl (dx dX7_says 37 rfl) ?_
                      rintro _ h21 ⟨rfl, m9h21, qh21⟩ kkh21
                      have mh21 : MilAt h21 k v := m9h21
                      have ph21 : Kp k h h21 := qh21
                      have kh21 : xK h21 = xK h := kkh21
                      exact F.1 _ _ _ _ .int rfl rfl (dx dX7_says 38 rfl) kh21 ⟨⟨_, rfl⟩, mh21, ph21⟩))
      ·
        obtain ⟨e01, e11, e21, e31, e41, e51, e61, e71⟩ := sh_hold hσ a21 a71 a81
        refine r_aload_n C (dx dX7_says 16 rfl) rfl ?_
        refine g_X7_7 C (dx dX7_says 17 rfl) ?_
        refine r_iload_n C (dx dX7_says 18 rfl) rfl ?_
        refine r_iald (j := σ) (x := nI 2) C rfl rfl (by decide) rfl (by omega) (dx dX7_says 19 rfl) a41 ?_
        refine r_iconst (v := nI 1) C (dx dX7_says 20 rfl) rfl ?_
        refine rn_eq (a := 2) (b := 1) (tgt := 64) C (by omega) (by omega) (dx dX7_says 21 rfl) (by decide) (fun c22 => ?_) (fun c22 => ?_)
        · first
          | (omega; done)
          | (
              have c22 : 2 = 1 := c22
              refine r_aload_n C (dx dX7_says 35 rfl) rfl ?_
              refine r_bipush (v := -3) C (dx dX7_says 36 rfl) rfl ?_
              refine r_cv (as := [vi (-3)]) (st := []) C X I_X7_refuse l_X7_83 (e_refuse hm (x := -3) (j := 3) (by decide) (by decide)) (by decide) (Nat.le_of_ble_eq_true rfl) List.prefix_rfl List.prefix_rfl rfl rfl (Nat.le_of_ble_eq_true rfl) rfl (dx dX7_says 37 rfl) ?_
              rintro _ h23 ⟨rfl, m9h23, qh23⟩ kkh23
              have mh23 : MilAt h23 k v := m9h23
              have ph23 : Kp k h h23 := qh23
              have kh23 : xK h23 = xK h := kkh23
              exact F.1 _ _ _ _ .int rfl rfl (dx dX7_says 38 rfl) kh23 ⟨⟨_, rfl⟩, mh23, ph23⟩)
        · first
          | (omega; done)
          | (
              have c22 : ¬ 2 = 1 := c22
              refine r_aload_n C (dx dX7_says 22 rfl) rfl ?_
              refine g_X7_7 C (dx dX7_says 23 rfl) ?_
              refine r_iload_n C (dx dX7_says 24 rfl) rfl ?_
              refine r_iald (j := σ) (x := nI 2) C rfl rfl (by decide) rfl (by omega) (dx dX7_says 25 rfl) a41 ?_
              refine r_iconst (v := nI 2) C (dx dX7_says 26 rfl) rfl ?_
              refine rn_ne (a := 2) (b := 2) (tgt := 71) C (by omega) (by omega) (dx dX7_says 27 rfl) (by decide) (fun c24 => ?_) (fun c24 => ?_)
              · first
                | (omega; done)
                | (
                    have c24 : ¬ 2 = 2 := c24
                    refine r_aload_n C (dx dX7_says 39 rfl) rfl ?_
                    refine g_X7_7 C (dx dX7_says 40 rfl) ?_
                    refine r_iload_n C (dx dX7_says 41 rfl) rfl ?_
                    refine r_iald (j := σ) (x := nI 2) C rfl rfl (by decide) rfl (by omega) (dx dX7_says 42 rfl) a41 ?_
                    refine r_if_ne (tgt := 87) C (dx dX7_says 43 rfl) (by decide) (fun _ => ?_) (fun c25 => (show False from by revert c25; decide).elim)
                    refine r_iload_n C (dx dX7_says 48 rfl) rfl ?_
                    refine r_if_ne (tgt := 98) C (dx dX7_says 49 rfl) (by decide) (fun c26 => ?_) (fun c26 => ?_)
                    ·
                      have c26 : ¬ x = 0 := c26
                      exact absurd ⟨σ, κ1, b1, hσ, rfl, ⟨a11, a21⟩, a31, a71, a81, c3, XX, c26⟩ hn
                    ·
                      have c26 : x = 0 := c26
                      refine r_aload_n C (dx dX7_says 50 rfl) rfl ?_
                      refine g_X7_31 C (dx dX7_says 51 rfl) ?_
                      refine r_iload_n C (dx dX7_says 52 rfl) rfl ?_
                      refine r_iald (j := σ) (x := nI b1) C rfl rfl (by decide) rfl (by omega) (dx dX7_says 53 rfl) a61 ?_
                      exact F.1 _ _ _ _ .int rfl rfl (dx dX7_says 54 rfl) rfl ⟨⟨_, rfl⟩, hm, Kp.rf⟩)
              · first
                | (omega; done)
                | (
                    have c24 : 2 = 2 := c24
                    refine r_aload_n C (dx dX7_says 28 rfl) rfl ?_
                    refine g_X7_28 C (dx dX7_says 29 rfl) ?_
                    refine r_iload_n C (dx dX7_says 30 rfl) rfl ?_
                    refine r_iald (j := σ) (x := nI κ1) C rfl rfl (by decide) rfl (by omega) (dx dX7_says 31 rfl) a51 ?_
                    refine r_iload_n C (dx dX7_says 32 rfl) rfl ?_
                    refine r_csP (as := [vi (nI κ1), vi x]) (st := []) (v := vi (b2i (undV (nI κ1) x))) C X I_X7_isUnder l_X7_98 (c_X7_isUnder _ _) (by decide) (Nat.le_of_ble_eq_true rfl) List.prefix_rfl (Nat.le_of_ble_eq_true rfl) rfl (dx dX7_says 33 rfl) ?_
                    refine rb_ne (b := undV (nI κ1) x) (tgt := 71) C (dx dX7_says 34 rfl) (by decide) (fun c27 => ?_) (fun c27 => ?_)
                    ·
                      have c27 : (undV (nI κ1) x) = true := c27
                      refine r_aload_n C (dx dX7_says 39 rfl) rfl ?_
                      refine g_X7_7 C (dx dX7_says 40 rfl) ?_
                      refine r_iload_n C (dx dX7_says 41 rfl) rfl ?_
                      refine r_iald (j := σ) (x := nI 2) C rfl rfl (by decide) rfl (by omega) (dx dX7_says 42 rfl) a41 ?_
                      refine r_if_ne (tgt := 87) C (dx dX7_says 43 rfl) (by decide) (fun _ => ?_) (fun c28 => (show False from by revert c28; decide).elim)
                      refine r_iload_n C (dx dX7_says 48 rfl) rfl ?_
                      refine r_if_ne (tgt := 98) C (dx dX7_says 49 rfl) (by decide) (fun c29 => ?_) (fun c29 => ?_)
                      ·
                        have c29 : ¬ x = 0 := c29
                        exact absurd ⟨σ, κ1, b1, hσ, rfl, ⟨a11, a21⟩, a31, a71, a81, c3, c27, c29⟩ hn
                      ·
                        have c29 : x = 0 := c29
                        refine r_aload_n C (dx dX7_says 50 rfl) rfl ?_
                        refine g_X7_31 C (dx dX7_says 51 rfl) ?_
                        refine r_iload_n C (dx dX7_says 52 rfl) rfl ?_
                        refine r_iald (j := σ) (x := nI b1) C rfl rfl (by decide) rfl (by omega) (dx dX7_says 53 rfl) a61 ?_
                        exact F.1 _ _ _ _ .int rfl rfl (dx dX7_says 54 rfl) rfl ⟨⟨_, rfl⟩, hm, Kp.rf⟩
                    ·
                      have c27 : (undV (nI κ1) x) = false := c27
                      refine r_aload_n C (dx dX7_says 35 rfl) rfl ?_
                      refine r_bipush (v := -3) C (dx dX7_says 36 rfl) rfl ?_
                      refine r_cv (as := [vi (-3)]) (st := []) C X I_X7_refuse l_X7_83 (e_refuse hm (x := -3) (j := 3) (by decide) (by decide)) (by decide) (Nat.le_of_ble_eq_true rfl) List.prefix_rfl List.prefix_rfl rfl rfl (Nat.le_of_ble_eq_true rfl) rfl (dx dX7_says 37 rfl) ?_
                      rintro _ h30 ⟨rfl, m9h30, qh30⟩ kkh30
                      have mh30 : MilAt h30 k v := m9h30
                      have ph30 : Kp k h h30 := qh30
                      have kh30 : xK h30 = xK h := kkh30
                      exact F.1 _ _ _ _ .int rfl rfl (dx dX7_says 38 rfl) kh30 ⟨⟨_, rfl⟩, mh30, ph30⟩))
    ·
      have c3 : (inR x 6) = false := c3
      refine r_aload_n C (dx dX7_says 12 rfl) rfl ?_
      refine r_bipush (v := -2) C (dx dX7_says 13 rfl) rfl ?_
      refine r_cv (as := [vi (-2)]) (st := []) C X I_X7_refuse l_X7_83 (e_refuse hm (x := -2) (j := 2) (by decide) (by decide)) (by decide) (Nat.le_of_ble_eq_true rfl) List.prefix_rfl List.prefix_rfl rfl rfl (Nat.le_of_ble_eq_true rfl) rfl (dx dX7_says 14 rfl) ?_
      rintro _ h31 ⟨rfl, m9h31, qh31⟩ kkh31
      have mh31 : MilAt h31 k v := m9h31
      have ph31 : Kp k h h31 := qh31
      have kh31 : xK h31 = xK h := kkh31
      exact F.1 _ _ _ _ .int rfl rfl (dx dX7_says 15 rfl) kh31 ⟨⟨_, rfl⟩, mh31, ph31⟩
set_option maxHeartbeats 4000000 in
theorem v_X7_would_n {l : Launch} {h : Hp} {k : Nat} {v : Vg} {g : Sg} (hm : MilAt h k v) (hs : MshAt h k g) (s : Int32) (hq : ¬ nhA g s = 0) : Ms l yX7_would cX7_would 3 (some .long) 11 [vr 7 k, vi s] h (xK h) (fun r h' => PL r ∧ MilAt h' k v ∧ Kp k h h') := by
  refine Ms.of (by decide) (Nat.le_of_ble_eq_true rfl) (fun G C X F => ?_)
  have C : Cx G cX7_would 3 RX7 := C
  show Rr G 0 [(0, vr 7 k), (1, vi s)] [] h
  have bP := hm.bP
  have bM := hm.bM
  have bN := hm.bN
  refine r_aload_n C (dx dX7_would 0 rfl) rfl ?_
  refine r_iload_n C (dx dX7_would 1 rfl) rfl ?_
  refine r_cv (as := [vi s]) (st := []) C X I_X7_noHolding l_X7_292 (v_X7_noHolding hm hs s) (by decide) (Nat.le_of_ble_eq_true rfl) List.prefix_rfl List.prefix_rfl rfl rfl (Nat.le_of_ble_eq_true rfl) rfl (dx dX7_would 2 rfl) ?_
  rintro _ h1 ⟨rfl, m9h1, qh1⟩ kkh1
  have mh1 : MilAt h1 k v := m9h1
  have ph1 : Kp k h h1 := qh1
  have kh1 : xK h1 = xK h := kkh1
  refine r_istore_n (ls' := [(0, vr 7 k), (1, vi s), (2, vi (nhA g s))]) C (dx dX7_would 3 rfl) (by decide) [1, 2, 0] rfl ?_
  refine r_iload_n C (dx dX7_would 4 rfl) rfl ?_
  refine r_if_eq (tgt := 15) C (dx dX7_would 5 rfl) (by decide) (fun c2 => ?_) (fun c2 => ?_)
  ·
    have c2 : nhA g s = 0 := c2
    exact absurd c2 hq
  ·
    have c2 : ¬ nhA g s = 0 := c2
    refine r_iload_n C (dx dX7_would 6 rfl) rfl ?_
    refine r_i2l C (dx dX7_would 7 rfl) ?_
    refine r_goto (tgt := 20) C (dx dX7_would 8 rfl) (by decide) ?_
    exact F.2.1 _ _ _ _ rfl (dx dX7_would 12 rfl) kh1 ⟨⟨_, rfl⟩, mh1, ph1⟩
set_option maxHeartbeats 4000000 in
theorem v_X7_trust_n {l : Launch} {h : Hp} {k : Nat} {v : Vg} {g : Sg} (hm : MilAt h k v) (hs : MshAt h k g) (o1 o2 : Int32) (hn : ¬ (inR o1 (vN v) = true ∧ inR o2 (vN v) = true ∧ ¬ o1 = o2)) : Ms l yX7_trust cX7_trust 5 (some .long) 5 [vr 7 k, vi o1, vi o2] h (xK h) (fun r h' => PL r ∧ MilAt h' k v ∧ Kp k h h') := by
  refine Ms.of (by decide) (Nat.le_of_ble_eq_true rfl) (fun G C X F => ?_)
  have C : Cx G cX7_trust 5 RX7 := C
  show Rr G 0 [(0, vr 7 k), (1, vi o1), (2, vi o2)] [] h
  have bP := hm.bP
  have bM := hm.bM
  have bN := hm.bN
  refine r_aload_n C (dx dX7_trust 0 rfl) rfl ?_
  refine r_iload_n C (dx dX7_trust 1 rfl) rfl ?_
  refine r_cvP (as := [vi o1]) (st := []) (v := vi (b2i (inR o1 (vN v)))) C X I_X7_isOne l_X7_125 (c_X7_isOne hm _) (by decide) (Nat.le_of_ble_eq_true rfl) List.prefix_rfl rfl rfl (Nat.le_of_ble_eq_true rfl) rfl (dx dX7_trust 2 rfl) ?_
  refine rb_eq (b := inR o1 (vN v)) (tgt := 21) C (dx dX7_trust 3 rfl) (by decide) (fun c1 => ?_) (fun c1 => ?_)
  ·
    have c1 : (inR o1 (vN v)) = false := c1
    refine r_aload_n C (dx dX7_trust 11 rfl) rfl ?_
    refine r_bipush (v := -2) C (dx dX7_trust 12 rfl) rfl ?_
    refine r_cv (as := [vi (-2)]) (st := []) C X I_X7_refuse l_X7_83 (e_refuse hm (x := -2) (j := 2) (by decide) (by decide)) (by decide) (Nat.le_of_ble_eq_true rfl) List.prefix_rfl List.prefix_rfl rfl rfl (Nat.le_of_ble_eq_true rfl) rfl (dx dX7_trust 13 rfl) ?_
    rintro _ h2 ⟨rfl, m9h2, qh2⟩ kkh2
    have mh2 : MilAt h2 k v := m9h2
    have ph2 : Kp k h h2 := qh2
    have kh2 : xK h2 = xK h := kkh2
    refine r_i2l C (dx dX7_trust 14 rfl) ?_
    refine r_ldc2 C n_X7_320 (dx dX7_trust 15 rfl) ?_
    refine r_lsub C (dx dX7_trust 16 rfl) ?_
    exact F.2.1 _ _ _ _ rfl (dx dX7_trust 17 rfl) kh2 ⟨⟨_, rfl⟩, mh2, ph2⟩
  ·
    have c1 : (inR o1 (vN v)) = true := c1
    refine r_aload_n C (dx dX7_trust 4 rfl) rfl ?_
    refine r_iload_n C (dx dX7_trust 5 rfl) rfl ?_
    refine r_cvP (as := [vi o2]) (st := []) (v := vi (b2i (inR o2 (vN v)))) C X I_X7_isOne l_X7_125 (c_X7_isOne hm _) (by decide) (Nat.le_of_ble_eq_true rfl) List.prefix_rfl rfl rfl (Nat.le_of_ble_eq_true rfl) rfl (dx dX7_trust 6 rfl) ?_
    refine rb_eq (b := inR o2 (vN v)) (tgt := 21) C (dx dX7_trust 7 rfl) (by decide) (fun c3 => ?_) (fun c3 => ?_)
    ·
      have c3 : (inR o2 (vN v)) = false := c3
      refine r_aload_n C (dx dX7_trust 11 rfl) rfl ?_
      refine r_bipush (v := -2) C (dx dX7_trust 12 rfl) rfl ?_
      refine r_cv (as := [vi (-2)]) (st := []) C X I_X7_refuse l_X7_83 (e_refuse hm (x := -2) (j := 2) (by decide) (by decide)) (by decide) (Nat.le_of_ble_eq_true rfl) List.prefix_rfl List.prefix_rfl rfl rfl (Nat.le_of_ble_eq_true rfl) rfl (dx dX7_trust 13 rfl) ?_
      rintro _ h4 ⟨rfl, m9h4, qh4⟩ kkh4
      have mh4 : MilAt h4 k v := m9h4
      have ph4 : Kp k h h4 := qh4
      have kh4 : xK h4 = xK h := kkh4
      refine r_i2l C (dx dX7_trust 14 rfl) ?_
      refine r_ldc2 C n_X7_320 (dx dX7_trust 15 rfl) ?_
      refine r_lsub C (dx dX7_trust 16 rfl) ?_
      exact F.2.1 _ _ _ _ rfl (dx dX7_trust 17 rfl) kh4 ⟨⟨_, rfl⟩, mh4, ph4⟩
    ·
      have c3 : (inR o2 (vN v)) = true := c3
      refine r_iload_n C (dx dX7_trust 8 rfl) rfl ?_
      refine r_iload_n C (dx dX7_trust 9 rfl) rfl ?_
      refine r_icmp_ne (tgt := 33) C (dx dX7_trust 10 rfl) (by decide) (fun c5 => ?_) (fun c5 => ?_)
      ·
        have c5 : ¬ o1 = o2 := c5
        exact absurd ⟨c1, c3, c5⟩ hn
      ·
        have c5 : o1 = o2 := c5
        refine r_aload_n C (dx dX7_trust 11 rfl) rfl ?_
        refine r_bipush (v := -2) C (dx dX7_trust 12 rfl) rfl ?_
        refine r_cv (as := [vi (-2)]) (st := []) C X I_X7_refuse l_X7_83 (e_refuse hm (x := -2) (j := 2) (by decide) (by decide)) (by decide) (Nat.le_of_ble_eq_true rfl) List.prefix_rfl List.prefix_rfl rfl rfl (Nat.le_of_ble_eq_true rfl) rfl (dx dX7_trust 13 rfl) ?_
        rintro _ h6 ⟨rfl, m9h6, qh6⟩ kkh6
        have mh6 : MilAt h6 k v := m9h6
        have ph6 : Kp k h h6 := qh6
        have kh6 : xK h6 = xK h := kkh6
        refine r_i2l C (dx dX7_trust 14 rfl) ?_
        refine r_ldc2 C n_X7_320 (dx dX7_trust 15 rfl) ?_
        refine r_lsub C (dx dX7_trust 16 rfl) ?_
        exact F.2.1 _ _ _ _ rfl (dx dX7_trust 17 rfl) kh6 ⟨⟨_, rfl⟩, mh6, ph6⟩
set_option maxHeartbeats 4000000 in
theorem v_X7_best_n {l : Launch} {h : Hp} {k : Nat} {v : Vg} {g : Sg} (hm : MilAt h k v) (hs : MshAt h k g) (x : Int32) (hn : inR x (vP v) = true → 4 < vN v ∨ 6 < vP v) : Ms l yX7_best cX7_best 2 (some .int) 17 [vr 7 k, vi x] h (xK h) (fun r h' => PI r ∧ MilAt h' k v ∧ Kp k h h') := by
  refine Ms.of (by decide) (Nat.le_of_ble_eq_true rfl) (fun G C X F => ?_)
  have C : Cx G cX7_best 2 RX7 := C
  show Rr G 0 [(0, vr 7 k), (1, vi x)] [] h
  have bP := hm.bP
  have bM := hm.bM
  have bN := hm.bN
  refine r_aload_n C (dx dX7_best 0 rfl) rfl ?_
  refine r_iload_n C (dx dX7_best 1 rfl) rfl ?_
  refine r_cvP (as := [vi x]) (st := []) (v := vi (b2i (inR x (vP v)))) C X I_X7_isPart l_X7_132 (c_X7_isPart hm _) (by decide) (Nat.le_of_ble_eq_true rfl) List.prefix_rfl rfl rfl (Nat.le_of_ble_eq_true rfl) rfl (dx dX7_best 2 rfl) ?_
  refine rb_ne (b := inR x (vP v)) (tgt := 15) C (dx dX7_best 3 rfl) (by decide) (fun c1 => ?_) (fun c1 => ?_)
  ·
    have c1 : (inR x (vP v)) = true := c1
    have hn2 := hn c1
    refine r_aload_n C (dx dX7_best 8 rfl) rfl ?_
    refine r_cvP (as := []) (st := []) (v := vi (b2i false)) C X I_X7_findBest l_X7_311 (c_X7_findBest_n hm hn2) (by decide) (Nat.le_of_ble_eq_true rfl) List.prefix_rfl rfl rfl (Nat.le_of_ble_eq_true rfl) rfl (dx dX7_best 9 rfl) ?_
    refine rb_eq (b := false) (tgt := 31) C (dx dX7_best 10 rfl) (by decide) (fun c2 => ?_) (fun c2 => ?_)
    ·
      have c2 : false = false := c2
      refine r_aload_n C (dx dX7_best 16 rfl) rfl ?_
      refine r_bipush (v := -5) C (dx dX7_best 17 rfl) rfl ?_
      refine r_cv (as := [vi (-5)]) (st := []) C X I_X7_refuse l_X7_83 (e_refuse hm (x := -5) (j := 5) (by decide) (by decide)) (by decide) (Nat.le_of_ble_eq_true rfl) List.prefix_rfl List.prefix_rfl rfl rfl (Nat.le_of_ble_eq_true rfl) rfl (dx dX7_best 18 rfl) ?_
      rintro _ h3 ⟨rfl, m9h3, qh3⟩ kkh3
      have mh3 : MilAt h3 k v := m9h3
      have ph3 : Kp k h h3 := qh3
      have kh3 : xK h3 = xK h := kkh3
      exact F.1 _ _ _ _ .int rfl rfl (dx dX7_best 19 rfl) kh3 ⟨⟨_, rfl⟩, mh3, ph3⟩
    ·
      have c2 : false = true := c2
      exact absurd (rfl.symm.trans c2) (by decide)
  ·
    have c1 : (inR x (vP v)) = false := c1
    refine r_aload_n C (dx dX7_best 4 rfl) rfl ?_
    refine r_bipush (v := -2) C (dx dX7_best 5 rfl) rfl ?_
    refine r_cv (as := [vi (-2)]) (st := []) C X I_X7_refuse l_X7_83 (e_refuse hm (x := -2) (j := 2) (by decide) (by decide)) (by decide) (Nat.le_of_ble_eq_true rfl) List.prefix_rfl List.prefix_rfl rfl rfl (Nat.le_of_ble_eq_true rfl) rfl (dx dX7_best 6 rfl) ?_
    rintro _ h4 ⟨rfl, m9h4, qh4⟩ kkh4
    have mh4 : MilAt h4 k v := m9h4
    have ph4 : Kp k h h4 := qh4
    have kh4 : xK h4 = xK h := kkh4
    exact F.1 _ _ _ _ .int rfl rfl (dx dX7_best 7 rfl) kh4 ⟨⟨_, rfl⟩, mh4, ph4⟩
