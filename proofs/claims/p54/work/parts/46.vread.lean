/-! PART 51: the reference's readers: the village stays as it is, and the tape's bytes -/
def Kt (k : Nat) (h h' : Hp) : Prop := Ks k h h' ∧ xI h' (k + 16) = xI h (k + 16)
theorem Kt.rf {k : Nat} {h : Hp} : Kt k h h := ⟨Ks.rf, rfl⟩
theorem Kt.tr {k : Nat} {h h1 h2 : Hp} (a : Kt k h h1) (b : Kt k h1 h2) : Kt k h h2 := ⟨a.1.tr b.1, b.2.trans a.2⟩
theorem Kp.t16 {k : Nat} {h h1 : Hp} (a : Kp k h h1) : xI h1 (k + 16) = xI h (k + 16) := (a.2.2 (k + 16) (fun q => by unfold VC at q; omega)).1
theorem Kp.kt {k : Nat} {h h1 : Hp} (a : Kp k h h1) : Kt k h h1 := ⟨a.ks, a.t16⟩
theorem Kt.fr {k lo hi : Nat} {h h1 : Hp} (f : Fr lo hi h h1) (h1' : k < lo) (h2 : hi ≤ k + 16) : Kt k h h1 := ⟨Ks.fr f h1' (by omega), (f (k + 16) (by omega)).1⟩
set_option maxHeartbeats 4000000 in
theorem v_X7_noRow {l : Launch} {h : Hp} {k : Nat} {v : Vg} {g : Sg} (hm : MilAt h k v) (hs : MshAt h k g) (s : Int32) : Ms l yX7_noRow cX7_noRow 2 (some .int) 4 [vr 7 k, vi s] h (xK h) (fun r h' => r = some (vi (nrA g s)) ∧ MilAt h' k v ∧ Kp k h h') := by
  refine Ms.of (by decide) (Nat.le_of_ble_eq_true rfl) (fun G C X F => ?_)
  have C : Cx G cX7_noRow 2 RX7 := C
  show Rr G 0 [(0, vr 7 k), (1, vi s)] [] h
  have bP := hm.bP
  have bM := hm.bM
  have bN := hm.bN
  refine r_iload_n C (dx dX7_noRow 0 rfl) rfl ?_
  refine r_i2l C (dx dX7_noRow 1 rfl) ?_
  refine r_lconst (v := 0) C (dx dX7_noRow 2 rfl) rfl ?_
  refine r_ldc2 C n_X7_77 (dx dX7_noRow 3 rfl) ?_
  refine r_csP (as := [vl s.toInt64, vl 0, vl 7]) (st := []) (v := vi (b2i (inR s 8))) C X I_X7_in l_X7_67 (c_inR (b := 7) (by decide) (by decide)) (by decide) (Nat.le_of_ble_eq_true rfl) List.prefix_rfl (Nat.le_of_ble_eq_true rfl) rfl (dx dX7_noRow 4 rfl) ?_
  refine rb_ne (b := inR s 8) (tgt := 19) C (dx dX7_noRow 5 rfl) (by decide) (fun c1 => ?_) (fun c1 => ?_)
  ·
    have c1 : (inR s 8) = true := c1
    obtain ⟨σ, hσ, rfl⟩ := inR_ex (n := 8) (by omega) c1
    rcases hs σ hσ with ⟨a11, a21⟩ | ⟨τ1, ν1, a11, a21, a31, a41, a51, a61, a71, a81⟩ | ⟨κ1, b1, a11, a21, a31, a41, a51, a61, a71, a81⟩
    ·
      obtain ⟨e01, e11, e21, e31, e41, e51, e61⟩ := sh_bare hσ a21
      refine r_aload_n C (dx dX7_noRow 10 rfl) rfl ?_
      refine g_X7_7 C (dx dX7_noRow 11 rfl) ?_
      refine r_iload_n C (dx dX7_noRow 12 rfl) rfl ?_
      refine r_iald (j := σ) (x := nI 0) C rfl rfl (by decide) rfl (by omega) (dx dX7_noRow 13 rfl) a11 ?_
      refine r_iconst (v := nI 2) C (dx dX7_noRow 14 rfl) rfl ?_
      refine rn_ne (a := 0) (b := 2) (tgt := 36) C (by omega) (by omega) (dx dX7_noRow 15 rfl) (by decide) (fun c2 => ?_) (fun c2 => ?_)
      · first
        | (omega; done)
        | (
            have c2 : ¬ 0 = 2 := c2
            refine r_aload_n C (dx dX7_noRow 20 rfl) rfl ?_
            refine g_X7_7 C (dx dX7_noRow 21 rfl) ?_
            refine r_iload_n C (dx dX7_noRow 22 rfl) rfl ?_
            refine r_iald (j := σ) (x := nI 0) C rfl rfl (by decide) rfl (by omega) (dx dX7_noRow 23 rfl) a11 ?_
            refine r_if_ne (tgt := 54) C (dx dX7_noRow 24 rfl) (by decide) (fun c3 => (show False from by revert c3; decide).elim) (fun _ => ?_)
            refine r_aload_n C (dx dX7_noRow 25 rfl) rfl ?_
            refine r_bipush (v := -4) C (dx dX7_noRow 26 rfl) rfl ?_
            refine r_cv (as := [vi (-4)]) (st := []) C X I_X7_refuse l_X7_83 (e_refuse hm (x := -4) (j := 4) (by decide) (by decide)) (by decide) (Nat.le_of_ble_eq_true rfl) List.prefix_rfl List.prefix_rfl rfl rfl (Nat.le_of_ble_eq_true rfl) rfl (dx dX7_noRow 27 rfl) ?_
            rintro _ h4 ⟨rfl, m9h4, qh4⟩ kkh4
            have mh4 : MilAt h4 k v := m9h4
            have ph4 : Kp k h h4 := qh4
            have kh4 : xK h4 = xK h := kkh4
            refine r_goto (tgt := 55) C (dx dX7_noRow 28 rfl) (by decide) ?_
            have eA : nrA g (nI σ) = -4 := by simp [nrA, c1, c2, e01, e11, e21, e31, e41, e51, e61, inR_nI (show σ < 2 ^ 31 by omega), show σ < 8 by omega]
            exact F.1 _ _ _ _ _ rfl rfl (dx dX7_noRow 30 rfl) kh4 (show some (vi (-4)) = some (vi (nrA g (nI σ))) ∧ MilAt h4 k v ∧ Kp k h h4 from by rw [eA]; exact ⟨rfl, mh4, ph4⟩))
      · first
        | (omega; done)
        | (
            have c2 : 0 = 2 := c2
            refine r_aload_n C (dx dX7_noRow 16 rfl) rfl ?_
            refine r_bipush (v := -3) C (dx dX7_noRow 17 rfl) rfl ?_
            refine r_cv (as := [vi (-3)]) (st := []) C X I_X7_refuse l_X7_83 (e_refuse hm (x := -3) (j := 3) (by decide) (by decide)) (by decide) (Nat.le_of_ble_eq_true rfl) List.prefix_rfl List.prefix_rfl rfl rfl (Nat.le_of_ble_eq_true rfl) rfl (dx dX7_noRow 18 rfl) ?_
            rintro _ h5 ⟨rfl, m9h5, qh5⟩ kkh5
            have mh5 : MilAt h5 k v := m9h5
            have ph5 : Kp k h h5 := qh5
            have kh5 : xK h5 = xK h := kkh5
            have eA : nrA g (nI σ) = -3 := by simp [nrA, c1, c2, e01, e11, e21, e31, e41, e51, e61, inR_nI (show σ < 2 ^ 31 by omega), show σ < 8 by omega]
            exact F.1 _ _ _ _ _ rfl rfl (dx dX7_noRow 19 rfl) kh5 (show some (vi (-3)) = some (vi (nrA g (nI σ))) ∧ MilAt h5 k v ∧ Kp k h h5 from by rw [eA]; exact ⟨rfl, mh5, ph5⟩))
    ·
      obtain ⟨e01, e11, e21, e31, e41, e51, e61⟩ := sh_row hσ a11 a61 a71
      refine r_aload_n C (dx dX7_noRow 10 rfl) rfl ?_
      refine g_X7_7 C (dx dX7_noRow 11 rfl) ?_
      refine r_iload_n C (dx dX7_noRow 12 rfl) rfl ?_
      refine r_iald (j := σ) (x := nI 1) C rfl rfl (by decide) rfl (by omega) (dx dX7_noRow 13 rfl) a31 ?_
      refine r_iconst (v := nI 2) C (dx dX7_noRow 14 rfl) rfl ?_
      refine rn_ne (a := 1) (b := 2) (tgt := 36) C (by omega) (by omega) (dx dX7_noRow 15 rfl) (by decide) (fun c6 => ?_) (fun c6 => ?_)
      · first
        | (omega; done)
        | (
            have c6 : ¬ 1 = 2 := c6
            refine r_aload_n C (dx dX7_noRow 20 rfl) rfl ?_
            refine g_X7_7 C (dx dX7_noRow 21 rfl) ?_
            refine r_iload_n C (dx dX7_noRow 22 rfl) rfl ?_
            refine r_iald (j := σ) (x := nI 1) C rfl rfl (by decide) rfl (by omega) (dx dX7_noRow 23 rfl) a31 ?_
            refine r_if_ne (tgt := 54) C (dx dX7_noRow 24 rfl) (by decide) (fun _ => ?_) (fun c7 => (show False from by revert c7; decide).elim)
            refine r_iconst (v := nI 0) C (dx dX7_noRow 29 rfl) rfl ?_
            have eA : nrA g (nI σ) = nI 0 := by simp [nrA, c1, c6, e01, e11, e21, e31, e41, e51, e61, inR_nI (show σ < 2 ^ 31 by omega), show σ < 8 by omega]
            exact F.1 _ _ _ _ _ rfl rfl (dx dX7_noRow 30 rfl) rfl (show some (vi (nI 0)) = some (vi (nrA g (nI σ))) ∧ MilAt h k v ∧ Kp k h h from by rw [eA]; exact ⟨rfl, hm, Kp.rf⟩))
      · first
        | (omega; done)
        | (
            have c6 : 1 = 2 := c6
            refine r_aload_n C (dx dX7_noRow 16 rfl) rfl ?_
            refine r_bipush (v := -3) C (dx dX7_noRow 17 rfl) rfl ?_
            refine r_cv (as := [vi (-3)]) (st := []) C X I_X7_refuse l_X7_83 (e_refuse hm (x := -3) (j := 3) (by decide) (by decide)) (by decide) (Nat.le_of_ble_eq_true rfl) List.prefix_rfl List.prefix_rfl rfl rfl (Nat.le_of_ble_eq_true rfl) rfl (dx dX7_noRow 18 rfl) ?_
            rintro _ h8 ⟨rfl, m9h8, qh8⟩ kkh8
            have mh8 : MilAt h8 k v := m9h8
            have ph8 : Kp k h h8 := qh8
            have kh8 : xK h8 = xK h := kkh8
            have eA : nrA g (nI σ) = -3 := by simp [nrA, c1, c6, e01, e11, e21, e31, e41, e51, e61, inR_nI (show σ < 2 ^ 31 by omega), show σ < 8 by omega]
            exact F.1 _ _ _ _ _ rfl rfl (dx dX7_noRow 19 rfl) kh8 (show some (vi (-3)) = some (vi (nrA g (nI σ))) ∧ MilAt h8 k v ∧ Kp k h h8 from by rw [eA]; exact ⟨rfl, mh8, ph8⟩))
    ·
      obtain ⟨e01, e11, e21, e31, e41, e51, e61, e71⟩ := sh_hold hσ a21 a71 a81
      refine r_aload_n C (dx dX7_noRow 10 rfl) rfl ?_
      refine g_X7_7 C (dx dX7_noRow 11 rfl) ?_
      refine r_iload_n C (dx dX7_noRow 12 rfl) rfl ?_
      refine r_iald (j := σ) (x := nI 2) C rfl rfl (by decide) rfl (by omega) (dx dX7_noRow 13 rfl) a41 ?_
      refine r_iconst (v := nI 2) C (dx dX7_noRow 14 rfl) rfl ?_
      refine rn_ne (a := 2) (b := 2) (tgt := 36) C (by omega) (by omega) (dx dX7_noRow 15 rfl) (by decide) (fun c9 => ?_) (fun c9 => ?_)
      · first
        | (omega; done)
        | (
            have c9 : ¬ 2 = 2 := c9
            refine r_aload_n C (dx dX7_noRow 20 rfl) rfl ?_
            refine g_X7_7 C (dx dX7_noRow 21 rfl) ?_
            refine r_iload_n C (dx dX7_noRow 22 rfl) rfl ?_
            refine r_iald (j := σ) (x := nI 2) C rfl rfl (by decide) rfl (by omega) (dx dX7_noRow 23 rfl) a41 ?_
            refine r_if_ne (tgt := 54) C (dx dX7_noRow 24 rfl) (by decide) (fun _ => ?_) (fun c10 => (show False from by revert c10; decide).elim)
            refine r_iconst (v := nI 0) C (dx dX7_noRow 29 rfl) rfl ?_
            have eA : nrA g (nI σ) = nI 0 := by simp [nrA, c1, c9, e01, e11, e21, e31, e41, e51, e61, e71, inR_nI (show σ < 2 ^ 31 by omega), show σ < 8 by omega]
            exact F.1 _ _ _ _ _ rfl rfl (dx dX7_noRow 30 rfl) rfl (show some (vi (nI 0)) = some (vi (nrA g (nI σ))) ∧ MilAt h k v ∧ Kp k h h from by rw [eA]; exact ⟨rfl, hm, Kp.rf⟩))
      · first
        | (omega; done)
        | (
            have c9 : 2 = 2 := c9
            refine r_aload_n C (dx dX7_noRow 16 rfl) rfl ?_
            refine r_bipush (v := -3) C (dx dX7_noRow 17 rfl) rfl ?_
            refine r_cv (as := [vi (-3)]) (st := []) C X I_X7_refuse l_X7_83 (e_refuse hm (x := -3) (j := 3) (by decide) (by decide)) (by decide) (Nat.le_of_ble_eq_true rfl) List.prefix_rfl List.prefix_rfl rfl rfl (Nat.le_of_ble_eq_true rfl) rfl (dx dX7_noRow 18 rfl) ?_
            rintro _ h11 ⟨rfl, m9h11, qh11⟩ kkh11
            have mh11 : MilAt h11 k v := m9h11
            have ph11 : Kp k h h11 := qh11
            have kh11 : xK h11 = xK h := kkh11
            have eA : nrA g (nI σ) = -3 := by simp [nrA, c1, c9, e01, e11, e21, e31, e41, e51, e61, e71, inR_nI (show σ < 2 ^ 31 by omega), show σ < 8 by omega]
            exact F.1 _ _ _ _ _ rfl rfl (dx dX7_noRow 19 rfl) kh11 (show some (vi (-3)) = some (vi (nrA g (nI σ))) ∧ MilAt h11 k v ∧ Kp k h h11 from by rw [eA]; exact ⟨rfl, mh11, ph11⟩))
  ·
    have c1 : (inR s 8) = false := c1
    refine r_aload_n C (dx dX7_noRow 6 rfl) rfl ?_
    refine r_bipush (v := -2) C (dx dX7_noRow 7 rfl) rfl ?_
    refine r_cv (as := [vi (-2)]) (st := []) C X I_X7_refuse l_X7_83 (e_refuse hm (x := -2) (j := 2) (by decide) (by decide)) (by decide) (Nat.le_of_ble_eq_true rfl) List.prefix_rfl List.prefix_rfl rfl rfl (Nat.le_of_ble_eq_true rfl) rfl (dx dX7_noRow 8 rfl) ?_
    rintro _ h12 ⟨rfl, m9h12, qh12⟩ kkh12
    have mh12 : MilAt h12 k v := m9h12
    have ph12 : Kp k h h12 := qh12
    have kh12 : xK h12 = xK h := kkh12
    have eA : nrA g s = -2 := by simp [nrA, c1]
    exact F.1 _ _ _ _ _ rfl rfl (dx dX7_noRow 9 rfl) kh12 (show some (vi (-2)) = some (vi (nrA g s)) ∧ MilAt h12 k v ∧ Kp k h h12 from by rw [eA]; exact ⟨rfl, mh12, ph12⟩)
set_option maxHeartbeats 4000000 in
theorem v_X7_noTold {l : Launch} {h : Hp} {k : Nat} {v : Vg} {g : Sg} (hm : MilAt h k v) (hs : MshAt h k g) (s n : Int32) : Ms l yX7_noTold cX7_noTold 4 (some .int) 5 [vr 7 k, vi s, vi n] h (xK h) (fun r h' => r = some (vi (tfV g s n)) ∧ MilAt h' k v ∧ Kp k h h') := by
  refine Ms.of (by decide) (Nat.le_of_ble_eq_true rfl) (fun G C X F => ?_)
  have C : Cx G cX7_noTold 4 RX7 := C
  show Rr G 0 [(0, vr 7 k), (1, vi s), (2, vi n)] [] h
  have bP := hm.bP
  have bM := hm.bM
  have bN := hm.bN
  refine r_iload_n C (dx dX7_noTold 0 rfl) rfl ?_
  refine r_i2l C (dx dX7_noTold 1 rfl) ?_
  refine r_lconst (v := 0) C (dx dX7_noTold 2 rfl) rfl ?_
  refine r_ldc2 C n_X7_77 (dx dX7_noTold 3 rfl) ?_
  refine r_csP (as := [vl s.toInt64, vl 0, vl 7]) (st := []) (v := vi (b2i (inR s 8))) C X I_X7_in l_X7_67 (c_inR (b := 7) (by decide) (by decide)) (by decide) (Nat.le_of_ble_eq_true rfl) List.prefix_rfl (Nat.le_of_ble_eq_true rfl) rfl (dx dX7_noTold 4 rfl) ?_
  refine rb_eq (b := inR s 8) (tgt := 24) C (dx dX7_noTold 5 rfl) (by decide) (fun c1 => ?_) (fun c1 => ?_)
  ·
    have c1 : (inR s 8) = false := c1
    refine r_aload_n C (dx dX7_noTold 12 rfl) rfl ?_
    refine r_bipush (v := -2) C (dx dX7_noTold 13 rfl) rfl ?_
    refine r_cv (as := [vi (-2)]) (st := []) C X I_X7_refuse l_X7_83 (e_refuse hm (x := -2) (j := 2) (by decide) (by decide)) (by decide) (Nat.le_of_ble_eq_true rfl) List.prefix_rfl List.prefix_rfl rfl rfl (Nat.le_of_ble_eq_true rfl) rfl (dx dX7_noTold 14 rfl) ?_
    rintro _ h2 ⟨rfl, m9h2, qh2⟩ kkh2
    have mh2 : MilAt h2 k v := m9h2
    have ph2 : Kp k h h2 := qh2
    have kh2 : xK h2 = xK h := kkh2
    have eA : tfV g s n = -2 := by exact tf_in (fun z => by rw [c1] at z; cases z.1)
    exact F.1 _ _ _ _ _ rfl rfl (dx dX7_noTold 15 rfl) kh2 (show some (vi (-2)) = some (vi (tfV g s n)) ∧ MilAt h2 k v ∧ Kp k h h2 from by rw [eA]; exact ⟨rfl, mh2, ph2⟩)
  ·
    have c1 : (inR s 8) = true := c1
    refine r_iload_n C (dx dX7_noTold 6 rfl) rfl ?_
    refine r_i2l C (dx dX7_noTold 7 rfl) ?_
    refine r_lconst (v := 0) C (dx dX7_noTold 8 rfl) rfl ?_
    refine r_ldc2 C n_X7_327 (dx dX7_noTold 9 rfl) ?_
    refine r_csP (as := [vl n.toInt64, vl 0, vl 20]) (st := []) (v := vi (b2i (inR n 21))) C X I_X7_in l_X7_67 (c_inR (b := 20) (by decide) (by decide)) (by decide) (Nat.le_of_ble_eq_true rfl) List.prefix_rfl (Nat.le_of_ble_eq_true rfl) rfl (dx dX7_noTold 10 rfl) ?_
    refine rb_ne (b := inR n 21) (tgt := 31) C (dx dX7_noTold 11 rfl) (by decide) (fun c3 => ?_) (fun c3 => ?_)
    ·
      have c3 : (inR n 21) = true := c3
      obtain ⟨ν, hν, rfl⟩ := inR_ex (n := 21) (by omega) c3
      refine r_aload_n C (dx dX7_noTold 16 rfl) rfl ?_
      refine r_iload_n C (dx dX7_noTold 17 rfl) rfl ?_
      refine r_cv (as := [vi s]) (st := []) C X I_X7_noRow l_X7_87 (v_X7_noRow hm hs s) (by decide) (Nat.le_of_ble_eq_true rfl) List.prefix_rfl List.prefix_rfl rfl rfl (Nat.le_of_ble_eq_true rfl) rfl (dx dX7_noTold 18 rfl) ?_
      rintro _ h4 ⟨rfl, m9h4, qh4⟩ kkh4
      have mh4 : MilAt h4 k v := m9h4
      have ph4 : Kp k h h4 := qh4
      have kh4 : xK h4 = xK h := kkh4
      refine r_istore_n (ls' := [(0, vr 7 k), (1, vi s), (2, vi (nI ν)), (3, vi (nrA g s))]) C (dx dX7_noTold 19 rfl) (by decide) [1, 2, 3, 0] rfl ?_
      refine r_iload_n C (dx dX7_noTold 20 rfl) rfl ?_
      refine r_if_eq (tgt := 43) C (dx dX7_noTold 21 rfl) (by decide) (fun c5 => ?_) (fun c5 => ?_)
      ·
        have c5 : nrA g s = 0 := c5
        obtain ⟨σ, hσ, rfl, r9⟩ := nr_ok (hs.kp ph4) c5
        have r8 := r9
        obtain ⟨τ1, ν1, a11, a21, a31, a41, a51, a61, a71, a81⟩ := r9
        obtain ⟨e01, e11, e21, e31, e41, e51, e61⟩ := sh_row hσ a11 a61 a71
        refine r_aload_n C (dx dX7_noTold 24 rfl) rfl ?_
        refine g_X7_16 C (dx dX7_noTold 25 rfl) ?_
        refine r_iload_n C (dx dX7_noTold 26 rfl) rfl ?_
        refine r_iald (j := σ) (x := nI ν1) C rfl rfl (by decide) rfl (by omega) (dx dX7_noTold 27 rfl) a51 ?_
        refine r_iload_n C (dx dX7_noTold 28 rfl) rfl ?_
        refine rn_ge (a := ν1) (b := ν) (tgt := 62) C (by omega) (by omega) (dx dX7_noTold 29 rfl) (by decide) (fun c6 => ?_) (fun c6 => ?_)
        · first
          | (omega; done)
          | (
              have c6 : ν ≤ ν1 := c6
              refine r_iconst (v := nI 0) C (dx dX7_noTold 34 rfl) rfl ?_
              have eA : tfV g (nI σ) (nI ν) = nI 0 := by rw [tf_row hσ (by omega) e51 e31 (by omega)]; first | (rw [if_pos (by omega)]; done) | (rw [if_neg (by omega)])
              exact F.1 _ _ _ _ _ rfl rfl (dx dX7_noTold 35 rfl) kh4 (show some (vi (nI 0)) = some (vi (tfV g (nI σ) (nI ν))) ∧ MilAt h4 k v ∧ Kp k h h4 from by rw [eA]; exact ⟨rfl, mh4, ph4⟩))
        · first
          | (omega; done)
          | (
              have c6 : ν1 < ν := c6
              refine r_aload_n C (dx dX7_noTold 30 rfl) rfl ?_
              refine r_bipush (v := -2) C (dx dX7_noTold 31 rfl) rfl ?_
              refine r_cv (as := [vi (-2)]) (st := []) C X I_X7_refuse l_X7_83 (e_refuse mh4 (x := -2) (j := 2) (by decide) (by decide)) (by decide) (Nat.le_of_ble_eq_true rfl) List.prefix_rfl (pfx_eq kh4) rfl rfl (Nat.le_of_ble_eq_true rfl) rfl (dx dX7_noTold 32 rfl) ?_
              rintro _ h7 ⟨rfl, m9h7, qh7⟩ kkh7
              have mh7 : MilAt h7 k v := m9h7
              have ph7 : Kp k h h7 := ph4.tr (qh7)
              have kh7 : xK h7 = xK h := (kkh7).trans kh4
              refine r_goto (tgt := 63) C (dx dX7_noTold 33 rfl) (by decide) ?_
              have eA : tfV g (nI σ) (nI ν) = -2 := by rw [tf_row hσ (by omega) e51 e31 (by omega)]; first | (rw [if_pos (by omega)]; done) | (rw [if_neg (by omega)])
              exact F.1 _ _ _ _ _ rfl rfl (dx dX7_noTold 35 rfl) kh7 (show some (vi (-2)) = some (vi (tfV g (nI σ) (nI ν))) ∧ MilAt h7 k v ∧ Kp k h h7 from by rw [eA]; exact ⟨rfl, mh7, ph7⟩))
      ·
        have c5 : ¬ nrA g s = 0 := c5
        refine r_iload_n C (dx dX7_noTold 22 rfl) rfl ?_
        have eA : tfV g s (nI ν) = nrA g s := by exact tf_no c1 c3 c5
        exact F.1 _ _ _ _ _ rfl rfl (dx dX7_noTold 23 rfl) kh4 (show some (vi (nrA g s)) = some (vi (tfV g s (nI ν))) ∧ MilAt h4 k v ∧ Kp k h h4 from by rw [eA]; exact ⟨rfl, mh4, ph4⟩)
    ·
      have c3 : (inR n 21) = false := c3
      refine r_aload_n C (dx dX7_noTold 12 rfl) rfl ?_
      refine r_bipush (v := -2) C (dx dX7_noTold 13 rfl) rfl ?_
      refine r_cv (as := [vi (-2)]) (st := []) C X I_X7_refuse l_X7_83 (e_refuse hm (x := -2) (j := 2) (by decide) (by decide)) (by decide) (Nat.le_of_ble_eq_true rfl) List.prefix_rfl List.prefix_rfl rfl rfl (Nat.le_of_ble_eq_true rfl) rfl (dx dX7_noTold 14 rfl) ?_
      rintro _ h8 ⟨rfl, m9h8, qh8⟩ kkh8
      have mh8 : MilAt h8 k v := m9h8
      have ph8 : Kp k h h8 := qh8
      have kh8 : xK h8 = xK h := kkh8
      have eA : tfV g s n = -2 := by exact tf_in (fun z => by rw [c3] at z; cases z.2)
      exact F.1 _ _ _ _ _ rfl rfl (dx dX7_noTold 15 rfl) kh8 (show some (vi (-2)) = some (vi (tfV g s n)) ∧ MilAt h8 k v ∧ Kp k h h8 from by rw [eA]; exact ⟨rfl, mh8, ph8⟩)
set_option maxHeartbeats 4000000 in
theorem v_X7_row {l : Launch} {h : Hp} {k : Nat} {v : Vg} {g : Sg} (hm : MilAt h k v) (hs : MshAt h k g) (s t n : Int32) : Ms l yX7_row cX7_row 5 (some .int) 4 [vr 7 k, vi s, vi t, vi n] h (xK h) (fun r h' => r = some (vi (rowA s t n)) ∧ MilAt h' k v ∧ MshAt h' k (rowG g s t n) ∧ Kt k h h') := by
  refine Ms.of (by decide) (Nat.le_of_ble_eq_true rfl) (fun G C X F => ?_)
  have C : Cx G cX7_row 5 RX7 := C
  show Rr G 0 [(0, vr 7 k), (1, vi s), (2, vi t), (3, vi n)] [] h
  have bP := hm.bP
  have bM := hm.bM
  have bN := hm.bN
  refine r_iload_n C (dx dX7_row 0 rfl) rfl ?_
  refine r_i2l C (dx dX7_row 1 rfl) ?_
  refine r_lconst (v := 0) C (dx dX7_row 2 rfl) rfl ?_
  refine r_ldc2 C n_X7_77 (dx dX7_row 3 rfl) ?_
  refine r_csP (as := [vl s.toInt64, vl 0, vl 7]) (st := []) (v := vi (b2i (inR s 8))) C X I_X7_in l_X7_67 (c_inR (b := 7) (by decide) (by decide)) (by decide) (Nat.le_of_ble_eq_true rfl) List.prefix_rfl (Nat.le_of_ble_eq_true rfl) rfl (dx dX7_row 4 rfl) ?_
  refine rb_eq (b := inR s 8) (tgt := 36) C (dx dX7_row 5 rfl) (by decide) (fun c1 => ?_) (fun c1 => ?_)
  ·
    have c1 : (inR s 8) = false := c1
    refine r_aload_n C (dx dX7_row 18 rfl) rfl ?_
    refine r_bipush (v := -2) C (dx dX7_row 19 rfl) rfl ?_
    refine r_cv (as := [vi (-2)]) (st := []) C X I_X7_refuse l_X7_83 (e_refuse hm (x := -2) (j := 2) (by decide) (by decide)) (by decide) (Nat.le_of_ble_eq_true rfl) List.prefix_rfl List.prefix_rfl rfl rfl (Nat.le_of_ble_eq_true rfl) rfl (dx dX7_row 20 rfl) ?_
    rintro _ h2 ⟨rfl, m9h2, qh2⟩ kkh2
    have mh2 : MilAt h2 k v := m9h2
    have ph2 : Kp k h h2 := qh2
    have kh2 : xK h2 = xK h := kkh2
    have eA : rowA s t n = -2 := by simp [rowA, rowG, rowB9, c1]
    have eG : rowG g s t n = g := by simp [rowA, rowG, rowB9, c1]
    exact F.1 _ _ _ _ _ rfl rfl (dx dX7_row 21 rfl) kh2 (show some (vi (-2)) = some (vi (rowA s t n)) ∧ MilAt h2 k v ∧ MshAt h2 k (rowG g s t n) ∧ Kt k h h2 from by rw [eA, eG]; exact ⟨rfl, mh2, hs.kp ph2, ph2.kt⟩)
  ·
    have c1 : (inR s 8) = true := c1
    obtain ⟨σ, hσ, rfl⟩ := inR_ex (n := 8) (by omega) c1
    refine r_iload_n C (dx dX7_row 6 rfl) rfl ?_
    refine r_i2l C (dx dX7_row 7 rfl) ?_
    refine r_lconst (v := 0) C (dx dX7_row 8 rfl) rfl ?_
    refine r_ldc2 C n_X7_79 (dx dX7_row 9 rfl) ?_
    refine r_csP (as := [vl t.toInt64, vl 0, vl 4]) (st := []) (v := vi (b2i (inR t 5))) C X I_X7_in l_X7_67 (c_inR (b := 4) (by decide) (by decide)) (by decide) (Nat.le_of_ble_eq_true rfl) List.prefix_rfl (Nat.le_of_ble_eq_true rfl) rfl (dx dX7_row 10 rfl) ?_
    refine rb_eq (b := inR t 5) (tgt := 36) C (dx dX7_row 11 rfl) (by decide) (fun c3 => ?_) (fun c3 => ?_)
    ·
      have c3 : (inR t 5) = false := c3
      refine r_aload_n C (dx dX7_row 18 rfl) rfl ?_
      refine r_bipush (v := -2) C (dx dX7_row 19 rfl) rfl ?_
      refine r_cv (as := [vi (-2)]) (st := []) C X I_X7_refuse l_X7_83 (e_refuse hm (x := -2) (j := 2) (by decide) (by decide)) (by decide) (Nat.le_of_ble_eq_true rfl) List.prefix_rfl List.prefix_rfl rfl rfl (Nat.le_of_ble_eq_true rfl) rfl (dx dX7_row 20 rfl) ?_
      rintro _ h4 ⟨rfl, m9h4, qh4⟩ kkh4
      have mh4 : MilAt h4 k v := m9h4
      have ph4 : Kp k h h4 := qh4
      have kh4 : xK h4 = xK h := kkh4
      have eA : rowA (nI σ) t n = -2 := by simp [rowA, rowG, rowB9, c1, c3, clN (show σ < 2 ^ 31 by omega), inR_nI (show σ < 2 ^ 31 by omega), show σ < 8 by omega]
      have eG : rowG g (nI σ) t n = g := by simp [rowA, rowG, rowB9, c1, c3, clN (show σ < 2 ^ 31 by omega), inR_nI (show σ < 2 ^ 31 by omega), show σ < 8 by omega]
      exact F.1 _ _ _ _ _ rfl rfl (dx dX7_row 21 rfl) kh4 (show some (vi (-2)) = some (vi (rowA (nI σ) t n)) ∧ MilAt h4 k v ∧ MshAt h4 k (rowG g (nI σ) t n) ∧ Kt k h h4 from by rw [eA, eG]; exact ⟨rfl, mh4, hs.kp ph4, ph4.kt⟩)
    ·
      have c3 : (inR t 5) = true := c3
      obtain ⟨τ, hτ, rfl⟩ := inR_ex (n := 5) (by omega) c3
      refine r_iload_n C (dx dX7_row 12 rfl) rfl ?_
      refine r_i2l C (dx dX7_row 13 rfl) ?_
      refine r_lconst (v := 0) C (dx dX7_row 14 rfl) rfl ?_
      refine r_ldc2 C n_X7_81 (dx dX7_row 15 rfl) ?_
      refine r_csP (as := [vl n.toInt64, vl 0, vl 40]) (st := []) (v := vi (b2i (inR n 41))) C X I_X7_in l_X7_67 (c_inR (b := 40) (by decide) (by decide)) (by decide) (Nat.le_of_ble_eq_true rfl) List.prefix_rfl (Nat.le_of_ble_eq_true rfl) rfl (dx dX7_row 16 rfl) ?_
      refine rb_ne (b := inR n 41) (tgt := 43) C (dx dX7_row 17 rfl) (by decide) (fun c5 => ?_) (fun c5 => ?_)
      ·
        have c5 : (inR n 41) = true := c5
        obtain ⟨ν, hν, rfl⟩ := inR_ex (n := 41) (by omega) c5
        refine r_aload_n C (dx dX7_row 22 rfl) rfl ?_
        refine g_X7_7 C (dx dX7_row 23 rfl) ?_
        refine r_iload_n C (dx dX7_row 24 rfl) rfl ?_
        refine r_iconst (v := nI 1) C (dx dX7_row 25 rfl) rfl ?_
        refine r_iast (j := σ) C rfl rfl (by decide) rfl (by omega) (dx dX7_row 26 rfl) ?_
        refine r_aload_n C (dx dX7_row 27 rfl) rfl ?_
        refine g_X7_13 C (dx dX7_row 28 rfl) ?_
        refine r_iload_n C (dx dX7_row 29 rfl) rfl ?_
        refine r_iload_n C (dx dX7_row 30 rfl) rfl ?_
        refine r_iast (j := σ) C rfl rfl (by decide) rfl (by omega) (dx dX7_row 31 rfl) ?_
        refine r_aload_n C (dx dX7_row 32 rfl) rfl ?_
        refine g_X7_16 C (dx dX7_row 33 rfl) ?_
        refine r_iload_n C (dx dX7_row 34 rfl) rfl ?_
        refine r_iload_n C (dx dX7_row 35 rfl) rfl ?_
        refine r_iast (j := σ) C rfl rfl (by decide) rfl (by omega) (dx dX7_row 36 rfl) ?_
        refine r_iconst (v := nI 0) C (dx dX7_row 37 rfl) rfl ?_
        refine r_istore (ls' := [(0, vr 7 k), (1, vi (nI σ)), (2, vi (nI τ)), (3, vi (nI ν)), (4, vi (nI 0))]) C (dx dX7_row 38 rfl) (by decide) [1, 2, 3, 4, 0] rfl ?_
        refine loopU (Φ := fun p => ∀ h9, (∀ i, i < p → xL h9 (k + 5 + σ) i = 0) → Fr (k + 5 + σ) (k + 5 + σ + 1) (sI (sI (sI h (k + 1) σ (nI 1)) (k + 2) σ (nI τ)) (k + 3) σ (nI ν)) h9 → xK h9 = xK h → Rr G 67 [(0, vr 7 k), (1, vi (nI σ)), (2, vi (nI τ)), (3, vi (nI ν)), (4, vi (nI p))] [] h9) (N := 40) ?_ ?_ 0 (by omega) _ (fun i hi => absurd hi (by omega)) Fr.rf rfl
        ·
          intro h9 q9 f9 k9
          have s9 : MshAt h9 k (pRow g σ (nI τ) ν) := msh_row hs hσ (by omega) (by omega) f9 q9
          have g9 : Fr (k + 1) (k + 16) h h9 := (((Fr.sI (by omega) (by omega)).tr (Fr.sI (by omega) (by omega))).tr (Fr.sI (by omega) (by omega))).tr (f9.mono (by omega) (by omega))
          refine r_iload C (dx dX7_row 39 rfl) rfl ?_
          refine r_bipush (v := nI 40) C (dx dX7_row 40 rfl) rfl ?_
          refine rn_ge (a := 40) (b := 40) (tgt := 90) C (by omega) (by omega) (dx dX7_row 41 rfl) (by decide) (fun c6 => ?_) (fun c6 => ?_)
          · first
            | (omega; done)
            | (
                have c6 : 40 ≤ 40 := c6
                refine r_iconst (v := nI 1) C (dx dX7_row 51 rfl) rfl ?_
                have eA : rowA (nI σ) (nI τ) (nI ν) = nI 1 := by simp [rowA, rowG, rowB9, c1, c3, c5, c6, clN (show σ < 2 ^ 31 by omega), clN (show τ < 2 ^ 31 by omega), clN (show ν < 2 ^ 31 by omega), inR_nI (show σ < 2 ^ 31 by omega), inR_nI (show τ < 2 ^ 31 by omega), inR_nI (show ν < 2 ^ 31 by omega), show σ < 8 by omega, show τ < 5 by omega, show ν < 41 by omega]
                have eG : rowG g (nI σ) (nI τ) (nI ν) = pRow g σ (nI τ) ν := by simp [rowA, rowG, rowB9, c1, c3, c5, c6, clN (show σ < 2 ^ 31 by omega), clN (show τ < 2 ^ 31 by omega), clN (show ν < 2 ^ 31 by omega), inR_nI (show σ < 2 ^ 31 by omega), inR_nI (show τ < 2 ^ 31 by omega), inR_nI (show ν < 2 ^ 31 by omega), show σ < 8 by omega, show τ < 5 by omega, show ν < 41 by omega]
                exact F.1 _ _ _ _ _ rfl rfl (dx dX7_row 52 rfl) k9 (show some (vi (nI 1)) = some (vi (rowA (nI σ) (nI τ) (nI ν))) ∧ MilAt h9 k v ∧ MshAt h9 k (rowG g (nI σ) (nI τ) (nI ν)) ∧ Kt k h h9 from by rw [eA, eG]; exact ⟨rfl, hm.fr g9 (by omega), s9, (Kt.fr g9 (by omega) (by omega))⟩))
          · first
            | (omega; done)
        ·
          intro p hp ih h9 q9 f9 k9
          refine r_iload C (dx dX7_row 39 rfl) rfl ?_
          refine r_bipush (v := nI 40) C (dx dX7_row 40 rfl) rfl ?_
          refine rn_ge (a := p) (b := 40) (tgt := 90) C (by omega) (by omega) (dx dX7_row 41 rfl) (by decide) (fun c7 => ?_) (fun c7 => ?_)
          · first
            | (omega; done)
            | (
                have c7 : 40 ≤ p := c7
                refine r_iconst (v := nI 1) C (dx dX7_row 51 rfl) rfl ?_
                have eA : rowA (nI σ) (nI τ) (nI ν) = nI 1 := by simp [rowA, rowG, rowB9, c1, c3, c5, c7, clN (show σ < 2 ^ 31 by omega), clN (show τ < 2 ^ 31 by omega), clN (show ν < 2 ^ 31 by omega), inR_nI (show σ < 2 ^ 31 by omega), inR_nI (show τ < 2 ^ 31 by omega), inR_nI (show ν < 2 ^ 31 by omega), show σ < 8 by omega, show τ < 5 by omega, show ν < 41 by omega]
                have eG : rowG g (nI σ) (nI τ) (nI ν) = g := by simp [rowA, rowG, rowB9, c1, c3, c5, c7, clN (show σ < 2 ^ 31 by omega), clN (show τ < 2 ^ 31 by omega), clN (show ν < 2 ^ 31 by omega), inR_nI (show σ < 2 ^ 31 by omega), inR_nI (show τ < 2 ^ 31 by omega), inR_nI (show ν < 2 ^ 31 by omega), show σ < 8 by omega, show τ < 5 by omega, show ν < 41 by omega]
                exact F.1 _ _ _ _ _ rfl rfl (dx dX7_row 52 rfl) k9 (show some (vi (nI 1)) = some (vi (rowA (nI σ) (nI τ) (nI ν))) ∧ MilAt h9 k v ∧ MshAt h9 k (rowG g (nI σ) (nI τ) (nI ν)) ∧ Kt k h h9 from by rw [eA, eG]; exact ⟨rfl, hm, hs, Kt.rf⟩))
          · first
            | (omega; done)
            | (
                have c7 : p < 40 := c7
                refine r_aload_n C (dx dX7_row 42 rfl) rfl ?_
                refine g_X7_21 C (dx dX7_row 43 rfl) ?_
                refine r_iload_n C (dx dX7_row 44 rfl) rfl ?_
                refine r_aald5 (j := σ) C rfl rfl (by decide) rfl (by omega) (dx dX7_row 45 rfl) ?_
                refine r_iload C (dx dX7_row 46 rfl) rfl ?_
                refine r_lconst (v := 0) C (dx dX7_row 47 rfl) rfl ?_
                refine r_last (j := p) C rfl rfl (by decide) rfl (by omega) (dx dX7_row 48 rfl) ?_
                refine rn_iinc (a := p) (k := 1) (ls' := [(0, vr 7 k), (1, vi (nI σ)), (2, vi (nI τ)), (3, vi (nI ν)), (4, vi (nI (p + 1)))]) C (dx dX7_row 49 rfl) rfl rfl (by decide) [1, 2, 3, 4, 0] rfl ?_
                refine r_goto (tgt := 67) C (dx dX7_row 50 rfl) (by decide) ?_
                exact ih _ (fun i hi => by rw [sL_at]; split; rfl; exact q9 i (by omega)) (f9.tr (Fr.sL (by omega) (by omega))) k9)
      ·
        have c5 : (inR n 41) = false := c5
        refine r_aload_n C (dx dX7_row 18 rfl) rfl ?_
        refine r_bipush (v := -2) C (dx dX7_row 19 rfl) rfl ?_
        refine r_cv (as := [vi (-2)]) (st := []) C X I_X7_refuse l_X7_83 (e_refuse hm (x := -2) (j := 2) (by decide) (by decide)) (by decide) (Nat.le_of_ble_eq_true rfl) List.prefix_rfl List.prefix_rfl rfl rfl (Nat.le_of_ble_eq_true rfl) rfl (dx dX7_row 20 rfl) ?_
        rintro _ h8 ⟨rfl, m9h8, qh8⟩ kkh8
        have mh8 : MilAt h8 k v := m9h8
        have ph8 : Kp k h h8 := qh8
        have kh8 : xK h8 = xK h := kkh8
        have eA : rowA (nI σ) (nI τ) n = -2 := by simp [rowA, rowG, rowB9, c1, c3, c5, clN (show σ < 2 ^ 31 by omega), clN (show τ < 2 ^ 31 by omega), inR_nI (show σ < 2 ^ 31 by omega), inR_nI (show τ < 2 ^ 31 by omega), show σ < 8 by omega, show τ < 5 by omega]
        have eG : rowG g (nI σ) (nI τ) n = g := by simp [rowA, rowG, rowB9, c1, c3, c5, clN (show σ < 2 ^ 31 by omega), clN (show τ < 2 ^ 31 by omega), inR_nI (show σ < 2 ^ 31 by omega), inR_nI (show τ < 2 ^ 31 by omega), show σ < 8 by omega, show τ < 5 by omega]
        exact F.1 _ _ _ _ _ rfl rfl (dx dX7_row 21 rfl) kh8 (show some (vi (-2)) = some (vi (rowA (nI σ) (nI τ) n)) ∧ MilAt h8 k v ∧ MshAt h8 k (rowG g (nI σ) (nI τ) n) ∧ Kt k h h8 from by rw [eA, eG]; exact ⟨rfl, mh8, hs.kp ph8, ph8.kt⟩)
set_option maxHeartbeats 4000000 in
theorem v_X7_set {l : Launch} {h : Hp} {k : Nat} {v : Vg} {g : Sg} (hm : MilAt h k v) (hs : MshAt h k g) (s i : Int32) (v9 : Int64) : Ms l yX7_set cX7_set 6 (some .int) 6 [vr 7 k, vi s, vi i, vl v9] h (xK h) (fun r h' => r = some (vi (setA g s i)) ∧ MilAt h' k v ∧ MshAt h' k (setG g s i v9) ∧ Kt k h h') := by
  refine Ms.of (by decide) (Nat.le_of_ble_eq_true rfl) (fun G C X F => ?_)
  have C : Cx G cX7_set 6 RX7 := C
  show Rr G 0 [(0, vr 7 k), (1, vi s), (2, vi i), (3, vl v9)] [] h
  have bP := hm.bP
  have bM := hm.bM
  have bN := hm.bN
  refine r_aload_n C (dx dX7_set 0 rfl) rfl ?_
  refine r_iload_n C (dx dX7_set 1 rfl) rfl ?_
  refine r_cv (as := [vi s]) (st := []) C X I_X7_noRow l_X7_87 (v_X7_noRow hm hs s) (by decide) (Nat.le_of_ble_eq_true rfl) List.prefix_rfl List.prefix_rfl rfl rfl (Nat.le_of_ble_eq_true rfl) rfl (dx dX7_set 2 rfl) ?_
  rintro _ h1 ⟨rfl, m9h1, qh1⟩ kkh1
  have mh1 : MilAt h1 k v := m9h1
  have ph1 : Kp k h h1 := qh1
  have kh1 : xK h1 = xK h := kkh1
  refine r_istore (ls' := [(0, vr 7 k), (1, vi s), (2, vi i), (3, vl v9), (5, vi (nrA g s))]) C (dx dX7_set 3 rfl) (by decide) [1, 2, 3, 4, 0] rfl ?_
  refine r_iload C (dx dX7_set 4 rfl) rfl ?_
  refine r_if_eq (tgt := 15) C (dx dX7_set 5 rfl) (by decide) (fun c2 => ?_) (fun c2 => ?_)
  ·
    have c2 : nrA g s = 0 := c2
    obtain ⟨σ, hσ, rfl, r9⟩ := nr_ok (hs.kp ph1) c2
    have r8 := r9
    obtain ⟨τ1, ν1, a11, a21, a31, a41, a51, a61, a71, a81⟩ := r9
    obtain ⟨e01, e11, e21, e31, e41, e51, e61⟩ := sh_row hσ a11 a61 a71
    refine r_iload_n C (dx dX7_set 8 rfl) rfl ?_
    refine r_i2l C (dx dX7_set 9 rfl) ?_
    refine r_lconst (v := 0) C (dx dX7_set 10 rfl) rfl ?_
    refine r_aload_n C (dx dX7_set 11 rfl) rfl ?_
    refine g_X7_16 C (dx dX7_set 12 rfl) ?_
    refine r_iload_n C (dx dX7_set 13 rfl) rfl ?_
    refine r_iald (j := σ) (x := nI ν1) C rfl rfl (by decide) rfl (by omega) (dx dX7_set 14 rfl) a51 ?_
    refine r_iconst (v := nI 1) C (dx dX7_set 15 rfl) rfl ?_
    refine r_isub C (dx dX7_set 16 rfl) ?_
    refine r_i2l C (dx dX7_set 17 rfl) ?_
    refine r_csP (as := [vl i.toInt64, vl 0, vl (((nI ν1) - (nI 1)).toInt64)]) (st := []) (v := vi (b2i (inR i ν1))) C X I_X7_in l_X7_67 (c_inN (by omega)) (by decide) (Nat.le_of_ble_eq_true rfl) (pfx_eq kh1) (Nat.le_of_ble_eq_true rfl) rfl (dx dX7_set 18 rfl) ?_
    refine rb_ne (b := inR i ν1) (tgt := 40) C (dx dX7_set 19 rfl) (by decide) (fun c3 => ?_) (fun c3 => ?_)
    ·
      have c3 : (inR i ν1) = true := c3
      obtain ⟨ι, hι, rfl⟩ := inR_ex (n := ν1) (by omega) c3
      refine r_aload_n C (dx dX7_set 24 rfl) rfl ?_
      refine g_X7_21 C (dx dX7_set 25 rfl) ?_
      refine r_iload_n C (dx dX7_set 26 rfl) rfl ?_
      refine r_aald5 (j := σ) C rfl rfl (by decide) rfl (by omega) (dx dX7_set 27 rfl) ?_
      refine r_iload_n C (dx dX7_set 28 rfl) rfl ?_
      refine r_aload_n C (dx dX7_set 29 rfl) rfl ?_
      refine g_X7_13 C (dx dX7_set 30 rfl) ?_
      refine r_iload_n C (dx dX7_set 31 rfl) rfl ?_
      refine r_iald (j := σ) (x := nI τ1) C rfl rfl (by decide) rfl (by omega) (dx dX7_set 32 rfl) a41 ?_
      refine r_lload_n C (dx dX7_set 33 rfl) rfl ?_
      refine r_csP (as := [vi (nI τ1), vl v9]) (st := [vi (nI ι), vr 31 (k + 5 + σ)]) (v := vl (lowB (nI τ1) v9)) C X I_X7_fit l_X7_90 (c_X7_fit (nI τ1) v9) (by decide) (Nat.le_of_ble_eq_true rfl) (pfx_eq kh1) (Nat.le_of_ble_eq_true rfl) rfl (dx dX7_set 34 rfl) ?_
      refine r_last (j := ι) C rfl rfl (by decide) rfl (by omega) (dx dX7_set 35 rfl) ?_
      have sh4 : MshAt (sL h1 (k + 5 + σ) ι (lowB (nI τ1) v9)) k (rowPut g σ ι (lowB (gT g σ) v9)) := msh_set (hs.kp ph1) hσ r8 a61
      have mh4 : MilAt (sL h1 (k + 5 + σ) ι (lowB (nI τ1) v9)) k v := mh1.fr (Fr.sL (lo := k + 5 + σ) (hi := k + 5 + σ + 1) (by omega) (by omega)) (by omega)
      have ph4 : Kt k h (sL h1 (k + 5 + σ) ι (lowB (nI τ1) v9)) := ph1.kt.tr (Kt.fr (Fr.sL (lo := k + 5 + σ) (hi := k + 5 + σ + 1) (by omega) (by omega)) (by omega) (by omega))
      have kh4 : xK (sL h1 (k + 5 + σ) ι (lowB (nI τ1) v9)) = xK h := kh1
      generalize sL h1 (k + 5 + σ) ι (lowB (nI τ1) v9) = h4 at sh4 mh4 ph4 kh4 ⊢
      refine r_iconst (v := nI 1) C (dx dX7_set 36 rfl) rfl ?_
      have eA : setA g (nI σ) (nI ι) = nI 1 := by first | (rw [(set_row (x := v9) hσ e51 e31 (by omega)).1, if_pos (inN (by omega) hι)]; done) | (rw [(set_row hσ e51 e31 (by omega)).2, if_pos (inN (by omega) hι), pEl_row e31 hι (by omega)])
      have eG : setG g (nI σ) (nI ι) v9 = rowPut g σ ι (lowB (gT g σ) v9) := by first | (rw [(set_row (x := v9) hσ e51 e31 (by omega)).1, if_pos (inN (by omega) hι)]; done) | (rw [(set_row hσ e51 e31 (by omega)).2, if_pos (inN (by omega) hι), pEl_row e31 hι (by omega)])
      exact F.1 _ _ _ _ _ rfl rfl (dx dX7_set 37 rfl) kh4 (show some (vi (nI 1)) = some (vi (setA g (nI σ) (nI ι))) ∧ MilAt h4 k v ∧ MshAt h4 k (setG g (nI σ) (nI ι) v9) ∧ Kt k h h4 from by rw [eA, eG]; exact ⟨rfl, mh4, sh4, ph4⟩)
    ·
      have c3 : (inR i ν1) = false := c3
      refine r_aload_n C (dx dX7_set 20 rfl) rfl ?_
      refine r_bipush (v := -2) C (dx dX7_set 21 rfl) rfl ?_
      refine r_cv (as := [vi (-2)]) (st := []) C X I_X7_refuse l_X7_83 (e_refuse mh1 (x := -2) (j := 2) (by decide) (by decide)) (by decide) (Nat.le_of_ble_eq_true rfl) List.prefix_rfl (pfx_eq kh1) rfl rfl (Nat.le_of_ble_eq_true rfl) rfl (dx dX7_set 22 rfl) ?_
      rintro _ h5 ⟨rfl, m9h5, qh5⟩ kkh5
      have mh5 : MilAt h5 k v := m9h5
      have ph5 : Kp k h h5 := ph1.tr (qh5)
      have kh5 : xK h5 = xK h := (kkh5).trans kh1
      have eA : setA g (nI σ) i = -2 := by first | (rw [(set_row (x := v9) hσ e51 e31 (by omega)).1, if_neg (by simp [c3])]; done) | (rw [(set_row hσ e51 e31 (by omega)).2, if_neg (by simp [c3])])
      have eG : setG g (nI σ) i v9 = g := by first | (rw [(set_row (x := v9) hσ e51 e31 (by omega)).1, if_neg (by simp [c3])]; done) | (rw [(set_row hσ e51 e31 (by omega)).2, if_neg (by simp [c3])])
      exact F.1 _ _ _ _ _ rfl rfl (dx dX7_set 23 rfl) kh5 (show some (vi (-2)) = some (vi (setA g (nI σ) i)) ∧ MilAt h5 k v ∧ MshAt h5 k (setG g (nI σ) i v9) ∧ Kt k h h5 from by rw [eA, eG]; exact ⟨rfl, mh5, hs.kp ph5, ph5.kt⟩)
  ·
    have c2 : ¬ nrA g s = 0 := c2
    refine r_iload C (dx dX7_set 6 rfl) rfl ?_
    have eA : setA g s i = nrA g s := by first | exact (set_no (x := v9) c2).1 | exact (set_no c2).2
    have eG : setG g s i v9 = g := by first | exact (set_no (x := v9) c2).1 | exact (set_no c2).2
    exact F.1 _ _ _ _ _ rfl rfl (dx dX7_set 7 rfl) kh1 (show some (vi (nrA g s)) = some (vi (setA g s i)) ∧ MilAt h1 k v ∧ MshAt h1 k (setG g s i v9) ∧ Kt k h h1 from by rw [eA, eG]; exact ⟨rfl, mh1, hs.kp ph1, ph1.kt⟩)
set_option maxHeartbeats 4000000 in
theorem v_X7_copy {l : Launch} {h : Hp} {k : Nat} {v : Vg} {g : Sg} (hm : MilAt h k v) (hs : MshAt h k g) (p q i j n : Int32) : Ms l yX7_copy cX7_copy 7 (some .int) 4 [vr 7 k, vi p, vi q, vi i, vi j, vi n] h (xK h) (fun r h' => r = some (vi (copA g p q i j n)) ∧ MilAt h' k v ∧ MshAt h' k (copG g p q i j n) ∧ Kt k h h') := by
  refine Ms.of (by decide) (Nat.le_of_ble_eq_true rfl) (fun G C X F => ?_)
  have C : Cx G cX7_copy 7 RX7 := C
  show Rr G 0 [(0, vr 7 k), (1, vi p), (2, vi q), (3, vi i), (4, vi j), (5, vi n)] [] h
  have bP := hm.bP
  have bM := hm.bM
  have bN := hm.bN
  refine r_iload_n C (dx dX7_copy 0 rfl) rfl ?_
  refine r_i2l C (dx dX7_copy 1 rfl) ?_
  refine r_lconst (v := 0) C (dx dX7_copy 2 rfl) rfl ?_
  refine r_ldc2 C n_X7_77 (dx dX7_copy 3 rfl) ?_
  refine r_csP (as := [vl p.toInt64, vl 0, vl 7]) (st := []) (v := vi (b2i (inR p 8))) C X I_X7_in l_X7_67 (c_inR (b := 7) (by decide) (by decide)) (by decide) (Nat.le_of_ble_eq_true rfl) List.prefix_rfl (Nat.le_of_ble_eq_true rfl) rfl (dx dX7_copy 4 rfl) ?_
  refine rb_eq (b := inR p 8) (tgt := 24) C (dx dX7_copy 5 rfl) (by decide) (fun c1 => ?_) (fun c1 => ?_)
  ·
    have c1 : (inR p 8) = false := c1
    refine r_aload_n C (dx dX7_copy 12 rfl) rfl ?_
    refine r_bipush (v := -2) C (dx dX7_copy 13 rfl) rfl ?_
    refine r_cv (as := [vi (-2)]) (st := []) C X I_X7_refuse l_X7_83 (e_refuse hm (x := -2) (j := 2) (by decide) (by decide)) (by decide) (Nat.le_of_ble_eq_true rfl) List.prefix_rfl List.prefix_rfl rfl rfl (Nat.le_of_ble_eq_true rfl) rfl (dx dX7_copy 14 rfl) ?_
    rintro _ h2 ⟨rfl, m9h2, qh2⟩ kkh2
    have mh2 : MilAt h2 k v := m9h2
    have ph2 : Kp k h h2 := qh2
    have kh2 : xK h2 = xK h := kkh2
    have eA : copA g p q i j n = -2 := by simp [copA, copG, copF, cpOk, c1]
    have eG : copG g p q i j n = g := by simp [copA, copG, copF, cpOk, c1]
    exact F.1 _ _ _ _ _ rfl rfl (dx dX7_copy 15 rfl) kh2 (show some (vi (-2)) = some (vi (copA g p q i j n)) ∧ MilAt h2 k v ∧ MshAt h2 k (copG g p q i j n) ∧ Kt k h h2 from by rw [eA, eG]; exact ⟨rfl, mh2, hs.kp ph2, ph2.kt⟩)
  ·
    have c1 : (inR p 8) = true := c1
    obtain ⟨π, hπ, rfl⟩ := inR_ex (n := 8) (by omega) c1
    refine r_iload_n C (dx dX7_copy 6 rfl) rfl ?_
    refine r_i2l C (dx dX7_copy 7 rfl) ?_
    refine r_lconst (v := 0) C (dx dX7_copy 8 rfl) rfl ?_
    refine r_ldc2 C n_X7_77 (dx dX7_copy 9 rfl) ?_
    refine r_csP (as := [vl q.toInt64, vl 0, vl 7]) (st := []) (v := vi (b2i (inR q 8))) C X I_X7_in l_X7_67 (c_inR (b := 7) (by decide) (by decide)) (by decide) (Nat.le_of_ble_eq_true rfl) List.prefix_rfl (Nat.le_of_ble_eq_true rfl) rfl (dx dX7_copy 10 rfl) ?_
    refine rb_ne (b := inR q 8) (tgt := 31) C (dx dX7_copy 11 rfl) (by decide) (fun c3 => ?_) (fun c3 => ?_)
    ·
      have c3 : (inR q 8) = true := c3
      obtain ⟨θ, hθ, rfl⟩ := inR_ex (n := 8) (by omega) c3
      rcases hs π hπ with ⟨a11, a21⟩ | ⟨τ1, ν1, a11, a21, a31, a41, a51, a61, a71, a81⟩ | ⟨κ1, b1, a11, a21, a31, a41, a51, a61, a71, a81⟩
      ·
        obtain ⟨e01, e11, e21, e31, e41, e51, e61⟩ := sh_bare hπ a21
        rcases hs θ hθ with ⟨a12, a22⟩ | ⟨τ2, ν2, a12, a22, a32, a42, a52, a62, a72, a82⟩ | ⟨κ2, b2, a12, a22, a32, a42, a52, a62, a72, a82⟩
        ·
          obtain ⟨e02, e12, e22, e32, e42, e52, e62⟩ := sh_bare hθ a22
          refine r_aload_n C (dx dX7_copy 16 rfl) rfl ?_
          refine g_X7_7 C (dx dX7_copy 17 rfl) ?_
          refine r_iload_n C (dx dX7_copy 18 rfl) rfl ?_
          refine r_iald (j := π) (x := nI 0) C rfl rfl (by decide) rfl (by omega) (dx dX7_copy 19 rfl) a11 ?_
          refine r_iconst (v := nI 2) C (dx dX7_copy 20 rfl) rfl ?_
          refine rn_eq (a := 0) (b := 2) (tgt := 86) C (by omega) (by omega) (dx dX7_copy 21 rfl) (by decide) (fun c4 => ?_) (fun c4 => ?_)
          · first
            | (omega; done)
            | (
                have c4 : 0 = 2 := c4
                refine r_aload_n C (dx dX7_copy 49 rfl) rfl ?_
                refine r_bipush (v := -3) C (dx dX7_copy 50 rfl) rfl ?_
                refine r_cv (as := [vi (-3)]) (st := []) C X I_X7_refuse l_X7_83 (e_refuse hm (x := -3) (j := 3) (by decide) (by decide)) (by decide) (Nat.le_of_ble_eq_true rfl) List.prefix_rfl List.prefix_rfl rfl rfl (Nat.le_of_ble_eq_true rfl) rfl (dx dX7_copy 51 rfl) ?_
                rintro _ h5 ⟨rfl, m9h5, qh5⟩ kkh5
                have mh5 : MilAt h5 k v := m9h5
                have ph5 : Kp k h h5 := qh5
                have kh5 : xK h5 = xK h := kkh5
                have eA : copA g (nI π) (nI θ) i j n = -3 := by simp [copA, copG, copF, cpOk, c1, c3, c4, e01, e11, e21, e31, e41, e51, e61, e02, e12, e22, e32, e42, e52, e62, clN (show π < 2 ^ 31 by omega), clN (show θ < 2 ^ 31 by omega), inR_nI (show π < 2 ^ 31 by omega), inR_nI (show θ < 2 ^ 31 by omega), show π < 8 by omega, show θ < 8 by omega]
                have eG : copG g (nI π) (nI θ) i j n = g := by simp [copA, copG, copF, cpOk, c1, c3, c4, e01, e11, e21, e31, e41, e51, e61, e02, e12, e22, e32, e42, e52, e62, clN (show π < 2 ^ 31 by omega), clN (show θ < 2 ^ 31 by omega), inR_nI (show π < 2 ^ 31 by omega), inR_nI (show θ < 2 ^ 31 by omega), show π < 8 by omega, show θ < 8 by omega]
                exact F.1 _ _ _ _ _ rfl rfl (dx dX7_copy 52 rfl) kh5 (show some (vi (-3)) = some (vi (copA g (nI π) (nI θ) i j n)) ∧ MilAt h5 k v ∧ MshAt h5 k (copG g (nI π) (nI θ) i j n) ∧ Kt k h h5 from by rw [eA, eG]; exact ⟨rfl, mh5, hs.kp ph5, ph5.kt⟩))
          · first
            | (omega; done)
            | (
                have c4 : ¬ 0 = 2 := c4
                refine r_aload_n C (dx dX7_copy 22 rfl) rfl ?_
                refine g_X7_7 C (dx dX7_copy 23 rfl) ?_
                refine r_iload_n C (dx dX7_copy 24 rfl) rfl ?_
                refine r_iald (j := θ) (x := nI 0) C rfl rfl (by decide) rfl (by omega) (dx dX7_copy 25 rfl) a12 ?_
                refine r_iconst (v := nI 2) C (dx dX7_copy 26 rfl) rfl ?_
                refine rn_eq (a := 0) (b := 2) (tgt := 86) C (by omega) (by omega) (dx dX7_copy 27 rfl) (by decide) (fun c6 => ?_) (fun c6 => ?_)
                ·
                  have c6 : 0 = 2 := c6
                  exact absurd c6 c4
                · first
                  | (omega; done)
                  | (
                      have c6 : ¬ 0 = 2 := c6
                      refine r_aload_n C (dx dX7_copy 28 rfl) rfl ?_
                      refine g_X7_7 C (dx dX7_copy 29 rfl) ?_
                      refine r_iload_n C (dx dX7_copy 30 rfl) rfl ?_
                      refine r_iald (j := π) (x := nI 0) C rfl rfl (by decide) rfl (by omega) (dx dX7_copy 31 rfl) a11 ?_
                      refine r_iconst (v := nI 1) C (dx dX7_copy 32 rfl) rfl ?_
                      refine rn_ne (a := 0) (b := 1) (tgt := 93) C (by omega) (by omega) (dx dX7_copy 33 rfl) (by decide) (fun c7 => ?_) (fun c7 => ?_)
                      · first
                        | (omega; done)
                        | (
                            have c7 : ¬ 0 = 1 := c7
                            refine r_aload_n C (dx dX7_copy 53 rfl) rfl ?_
                            refine g_X7_7 C (dx dX7_copy 54 rfl) ?_
                            refine r_iload_n C (dx dX7_copy 55 rfl) rfl ?_
                            refine r_iald (j := π) (x := nI 0) C rfl rfl (by decide) rfl (by omega) (dx dX7_copy 56 rfl) a11 ?_
                            refine r_if_eq (tgt := 111) C (dx dX7_copy 57 rfl) (by decide) (fun _ => ?_) (fun c8 => (show False from by revert c8; decide).elim)
                            refine r_aload_n C (dx dX7_copy 63 rfl) rfl ?_
                            refine r_bipush (v := -4) C (dx dX7_copy 64 rfl) rfl ?_
                            refine r_cv (as := [vi (-4)]) (st := []) C X I_X7_refuse l_X7_83 (e_refuse hm (x := -4) (j := 4) (by decide) (by decide)) (by decide) (Nat.le_of_ble_eq_true rfl) List.prefix_rfl List.prefix_rfl rfl rfl (Nat.le_of_ble_eq_true rfl) rfl (dx dX7_copy 65 rfl) ?_
                            rintro _ h9 ⟨rfl, m9h9, qh9⟩ kkh9
                            have mh9 : MilAt h9 k v := m9h9
                            have ph9 : Kp k h h9 := qh9
                            have kh9 : xK h9 = xK h := kkh9
                            have eA : copA g (nI π) (nI θ) i j n = -4 := by simp [copA, copG, copF, cpOk, c1, c3, c4, c6, c7, e01, e11, e21, e31, e41, e51, e61, e02, e12, e22, e32, e42, e52, e62, clN (show π < 2 ^ 31 by omega), clN (show θ < 2 ^ 31 by omega), inR_nI (show π < 2 ^ 31 by omega), inR_nI (show θ < 2 ^ 31 by omega), show π < 8 by omega, show θ < 8 by omega]
                            have eG : copG g (nI π) (nI θ) i j n = g := by simp [copA, copG, copF, cpOk, c1, c3, c4, c6, c7, e01, e11, e21, e31, e41, e51, e61, e02, e12, e22, e32, e42, e52, e62, clN (show π < 2 ^ 31 by omega), clN (show θ < 2 ^ 31 by omega), inR_nI (show π < 2 ^ 31 by omega), inR_nI (show θ < 2 ^ 31 by omega), show π < 8 by omega, show θ < 8 by omega]
                            exact F.1 _ _ _ _ _ rfl rfl (dx dX7_copy 66 rfl) kh9 (show some (vi (-4)) = some (vi (copA g (nI π) (nI θ) i j n)) ∧ MilAt h9 k v ∧ MshAt h9 k (copG g (nI π) (nI θ) i j n) ∧ Kt k h h9 from by rw [eA, eG]; exact ⟨rfl, mh9, hs.kp ph9, ph9.kt⟩))
                      · first
                        | (omega; done)
                        | (
                            have c7 : 0 = 1 := c7
                            refine r_aload_n C (dx dX7_copy 34 rfl) rfl ?_
                            refine g_X7_7 C (dx dX7_copy 35 rfl) ?_
                            refine r_iload_n C (dx dX7_copy 36 rfl) rfl ?_
                            refine r_iald (j := θ) (x := nI 0) C rfl rfl (by decide) rfl (by omega) (dx dX7_copy 37 rfl) a12 ?_
                            refine r_iconst (v := nI 1) C (dx dX7_copy 38 rfl) rfl ?_
                            refine rn_ne (a := 0) (b := 1) (tgt := 93) C (by omega) (by omega) (dx dX7_copy 39 rfl) (by decide) (fun c10 => ?_) (fun c10 => ?_)
                            ·
                              have c10 : ¬ 0 = 1 := c10
                              exact absurd c7 c10
                            · first
                              | (omega; done)
                              | (
                                  have c10 : 0 = 1 := c10
                                  refine r_aload_n C (dx dX7_copy 40 rfl) rfl ?_
                                  refine g_X7_13 C (dx dX7_copy 41 rfl) ?_
                                  refine r_iload_n C (dx dX7_copy 42 rfl) rfl ?_
                                  refine r_iald (j := π) (x := xI h (k + 2) π) C rfl rfl (by decide) rfl (by omega) (dx dX7_copy 43 rfl) rfl ?_
                                  refine r_aload_n C (dx dX7_copy 44 rfl) rfl ?_
                                  refine g_X7_13 C (dx dX7_copy 45 rfl) ?_
                                  refine r_iload_n C (dx dX7_copy 46 rfl) rfl ?_
                                  refine r_iald (j := θ) (x := xI h (k + 2) θ) C rfl rfl (by decide) rfl (by omega) (dx dX7_copy 47 rfl) rfl ?_
                                  refine r_icmp_eq (tgt := 93) C (dx dX7_copy 48 rfl) (by decide) (fun c11 => ?_) (fun c11 => ?_)
                                  ·
                                    have c11 : xI h (k + 2) π = xI h (k + 2) θ := c11
                                    refine r_aload_n C (dx dX7_copy 53 rfl) rfl ?_
                                    refine g_X7_7 C (dx dX7_copy 54 rfl) ?_
                                    refine r_iload_n C (dx dX7_copy 55 rfl) rfl ?_
                                    refine r_iald (j := π) (x := nI 0) C rfl rfl (by decide) rfl (by omega) (dx dX7_copy 56 rfl) a11 ?_
                                    refine r_if_eq (tgt := 111) C (dx dX7_copy 57 rfl) (by decide) (fun _ => ?_) (fun c12 => (show False from by revert c12; decide).elim)
                                    refine r_aload_n C (dx dX7_copy 63 rfl) rfl ?_
                                    refine r_bipush (v := -4) C (dx dX7_copy 64 rfl) rfl ?_
                                    refine r_cv (as := [vi (-4)]) (st := []) C X I_X7_refuse l_X7_83 (e_refuse hm (x := -4) (j := 4) (by decide) (by decide)) (by decide) (Nat.le_of_ble_eq_true rfl) List.prefix_rfl List.prefix_rfl rfl rfl (Nat.le_of_ble_eq_true rfl) rfl (dx dX7_copy 65 rfl) ?_
                                    rintro _ h13 ⟨rfl, m9h13, qh13⟩ kkh13
                                    have mh13 : MilAt h13 k v := m9h13
                                    have ph13 : Kp k h h13 := qh13
                                    have kh13 : xK h13 = xK h := kkh13
                                    have eA : copA g (nI π) (nI θ) i j n = -4 := by simp [copA, copG, copF, cpOk, c1, c3, c4, c6, c7, c10, c11, e01, e11, e21, e31, e41, e51, e61, e02, e12, e22, e32, e42, e52, e62, clN (show π < 2 ^ 31 by omega), clN (show θ < 2 ^ 31 by omega), inR_nI (show π < 2 ^ 31 by omega), inR_nI (show θ < 2 ^ 31 by omega), show π < 8 by omega, show θ < 8 by omega]
                                    have eG : copG g (nI π) (nI θ) i j n = g := by simp [copA, copG, copF, cpOk, c1, c3, c4, c6, c7, c10, c11, e01, e11, e21, e31, e41, e51, e61, e02, e12, e22, e32, e42, e52, e62, clN (show π < 2 ^ 31 by omega), clN (show θ < 2 ^ 31 by omega), inR_nI (show π < 2 ^ 31 by omega), inR_nI (show θ < 2 ^ 31 by omega), show π < 8 by omega, show θ < 8 by omega]
                                    exact F.1 _ _ _ _ _ rfl rfl (dx dX7_copy 66 rfl) kh13 (show some (vi (-4)) = some (vi (copA g (nI π) (nI θ) i j n)) ∧ MilAt h13 k v ∧ MshAt h13 k (copG g (nI π) (nI θ) i j n) ∧ Kt k h h13 from by rw [eA, eG]; exact ⟨rfl, mh13, hs.kp ph13, ph13.kt⟩)
                                  ·
                                    have c11 : ¬ xI h (k + 2) π = xI h (k + 2) θ := c11
                                    refine r_aload_n C (dx dX7_copy 49 rfl) rfl ?_
                                    refine r_bipush (v := -3) C (dx dX7_copy 50 rfl) rfl ?_
                                    refine r_cv (as := [vi (-3)]) (st := []) C X I_X7_refuse l_X7_83 (e_refuse hm (x := -3) (j := 3) (by decide) (by decide)) (by decide) (Nat.le_of_ble_eq_true rfl) List.prefix_rfl List.prefix_rfl rfl rfl (Nat.le_of_ble_eq_true rfl) rfl (dx dX7_copy 51 rfl) ?_
                                    rintro _ h14 ⟨rfl, m9h14, qh14⟩ kkh14
                                    have mh14 : MilAt h14 k v := m9h14
                                    have ph14 : Kp k h h14 := qh14
                                    have kh14 : xK h14 = xK h := kkh14
                                    have eA : copA g (nI π) (nI θ) i j n = -3 := by simp [copA, copG, copF, cpOk, c1, c3, c4, c6, c7, c10, c11, e01, e11, e21, e31, e41, e51, e61, e02, e12, e22, e32, e42, e52, e62, clN (show π < 2 ^ 31 by omega), clN (show θ < 2 ^ 31 by omega), inR_nI (show π < 2 ^ 31 by omega), inR_nI (show θ < 2 ^ 31 by omega), show π < 8 by omega, show θ < 8 by omega]
                                    have eG : copG g (nI π) (nI θ) i j n = g := by simp [copA, copG, copF, cpOk, c1, c3, c4, c6, c7, c10, c11, e01, e11, e21, e31, e41, e51, e61, e02, e12, e22, e32, e42, e52, e62, clN (show π < 2 ^ 31 by omega), clN (show θ < 2 ^ 31 by omega), inR_nI (show π < 2 ^ 31 by omega), inR_nI (show θ < 2 ^ 31 by omega), show π < 8 by omega, show θ < 8 by omega]
                                    exact F.1 _ _ _ _ _ rfl rfl (dx dX7_copy 52 rfl) kh14 (show some (vi (-3)) = some (vi (copA g (nI π) (nI θ) i j n)) ∧ MilAt h14 k v ∧ MshAt h14 k (copG g (nI π) (nI θ) i j n) ∧ Kt k h h14 from by rw [eA, eG]; exact ⟨rfl, mh14, hs.kp ph14, ph14.kt⟩)))))
        ·
          obtain ⟨e02, e12, e22, e32, e42, e52, e62⟩ := sh_row hθ a12 a62 a72
          refine r_aload_n C (dx dX7_copy 16 rfl) rfl ?_
          refine g_X7_7 C (dx dX7_copy 17 rfl) ?_
          refine r_iload_n C (dx dX7_copy 18 rfl) rfl ?_
          refine r_iald (j := π) (x := nI 0) C rfl rfl (by decide) rfl (by omega) (dx dX7_copy 19 rfl) a11 ?_
          refine r_iconst (v := nI 2) C (dx dX7_copy 20 rfl) rfl ?_
          refine rn_eq (a := 0) (b := 2) (tgt := 86) C (by omega) (by omega) (dx dX7_copy 21 rfl) (by decide) (fun c15 => ?_) (fun c15 => ?_)
          · first
            | (omega; done)
            | (
                have c15 : 0 = 2 := c15
                refine r_aload_n C (dx dX7_copy 49 rfl) rfl ?_
                refine r_bipush (v := -3) C (dx dX7_copy 50 rfl) rfl ?_
                refine r_cv (as := [vi (-3)]) (st := []) C X I_X7_refuse l_X7_83 (e_refuse hm (x := -3) (j := 3) (by decide) (by decide)) (by decide) (Nat.le_of_ble_eq_true rfl) List.prefix_rfl List.prefix_rfl rfl rfl (Nat.le_of_ble_eq_true rfl) rfl (dx dX7_copy 51 rfl) ?_
                rintro _ h16 ⟨rfl, m9h16, qh16⟩ kkh16
                have mh16 : MilAt h16 k v := m9h16
                have ph16 : Kp k h h16 := qh16
                have kh16 : xK h16 = xK h := kkh16
                have eA : copA g (nI π) (nI θ) i j n = -3 := by simp [copA, copG, copF, cpOk, c1, c3, c15, e01, e11, e21, e31, e41, e51, e61, e02, e12, e22, e32, e42, e52, e62, clN (show π < 2 ^ 31 by omega), clN (show θ < 2 ^ 31 by omega), inR_nI (show π < 2 ^ 31 by omega), inR_nI (show θ < 2 ^ 31 by omega), show π < 8 by omega, show θ < 8 by omega]
                have eG : copG g (nI π) (nI θ) i j n = g := by simp [copA, copG, copF, cpOk, c1, c3, c15, e01, e11, e21, e31, e41, e51, e61, e02, e12, e22, e32, e42, e52, e62, clN (show π < 2 ^ 31 by omega), clN (show θ < 2 ^ 31 by omega), inR_nI (show π < 2 ^ 31 by omega), inR_nI (show θ < 2 ^ 31 by omega), show π < 8 by omega, show θ < 8 by omega]
                exact F.1 _ _ _ _ _ rfl rfl (dx dX7_copy 52 rfl) kh16 (show some (vi (-3)) = some (vi (copA g (nI π) (nI θ) i j n)) ∧ MilAt h16 k v ∧ MshAt h16 k (copG g (nI π) (nI θ) i j n) ∧ Kt k h h16 from by rw [eA, eG]; exact ⟨rfl, mh16, hs.kp ph16, ph16.kt⟩))
          · first
            | (omega; done)
            | (
                have c15 : ¬ 0 = 2 := c15
                refine r_aload_n C (dx dX7_copy 22 rfl) rfl ?_
                refine g_X7_7 C (dx dX7_copy 23 rfl) ?_
                refine r_iload_n C (dx dX7_copy 24 rfl) rfl ?_
                refine r_iald (j := θ) (x := nI 1) C rfl rfl (by decide) rfl (by omega) (dx dX7_copy 25 rfl) a32 ?_
                refine r_iconst (v := nI 2) C (dx dX7_copy 26 rfl) rfl ?_
                refine rn_eq (a := 1) (b := 2) (tgt := 86) C (by omega) (by omega) (dx dX7_copy 27 rfl) (by decide) (fun c17 => ?_) (fun c17 => ?_)
                · first
                  | (omega; done)
                  | (
                      have c17 : 1 = 2 := c17
                      refine r_aload_n C (dx dX7_copy 49 rfl) rfl ?_
                      refine r_bipush (v := -3) C (dx dX7_copy 50 rfl) rfl ?_
                      refine r_cv (as := [vi (-3)]) (st := []) C X I_X7_refuse l_X7_83 (e_refuse hm (x := -3) (j := 3) (by decide) (by decide)) (by decide) (Nat.le_of_ble_eq_true rfl) List.prefix_rfl List.prefix_rfl rfl rfl (Nat.le_of_ble_eq_true rfl) rfl (dx dX7_copy 51 rfl) ?_
                      rintro _ h18 ⟨rfl, m9h18, qh18⟩ kkh18
                      have mh18 : MilAt h18 k v := m9h18
                      have ph18 : Kp k h h18 := qh18
                      have kh18 : xK h18 = xK h := kkh18
                      have eA : copA g (nI π) (nI θ) i j n = -3 := by simp [copA, copG, copF, cpOk, c1, c3, c15, c17, e01, e11, e21, e31, e41, e51, e61, e02, e12, e22, e32, e42, e52, e62, clN (show π < 2 ^ 31 by omega), clN (show θ < 2 ^ 31 by omega), inR_nI (show π < 2 ^ 31 by omega), inR_nI (show θ < 2 ^ 31 by omega), show π < 8 by omega, show θ < 8 by omega]
                      have eG : copG g (nI π) (nI θ) i j n = g := by simp [copA, copG, copF, cpOk, c1, c3, c15, c17, e01, e11, e21, e31, e41, e51, e61, e02, e12, e22, e32, e42, e52, e62, clN (show π < 2 ^ 31 by omega), clN (show θ < 2 ^ 31 by omega), inR_nI (show π < 2 ^ 31 by omega), inR_nI (show θ < 2 ^ 31 by omega), show π < 8 by omega, show θ < 8 by omega]
                      exact F.1 _ _ _ _ _ rfl rfl (dx dX7_copy 52 rfl) kh18 (show some (vi (-3)) = some (vi (copA g (nI π) (nI θ) i j n)) ∧ MilAt h18 k v ∧ MshAt h18 k (copG g (nI π) (nI θ) i j n) ∧ Kt k h h18 from by rw [eA, eG]; exact ⟨rfl, mh18, hs.kp ph18, ph18.kt⟩))
                · first
                  | (omega; done)
                  | (
                      have c17 : ¬ 1 = 2 := c17
                      refine r_aload_n C (dx dX7_copy 28 rfl) rfl ?_
                      refine g_X7_7 C (dx dX7_copy 29 rfl) ?_
                      refine r_iload_n C (dx dX7_copy 30 rfl) rfl ?_
                      refine r_iald (j := π) (x := nI 0) C rfl rfl (by decide) rfl (by omega) (dx dX7_copy 31 rfl) a11 ?_
                      refine r_iconst (v := nI 1) C (dx dX7_copy 32 rfl) rfl ?_
                      refine rn_ne (a := 0) (b := 1) (tgt := 93) C (by omega) (by omega) (dx dX7_copy 33 rfl) (by decide) (fun c19 => ?_) (fun c19 => ?_)
                      · first
                        | (omega; done)
                        | (
                            have c19 : ¬ 0 = 1 := c19
                            refine r_aload_n C (dx dX7_copy 53 rfl) rfl ?_
                            refine g_X7_7 C (dx dX7_copy 54 rfl) ?_
                            refine r_iload_n C (dx dX7_copy 55 rfl) rfl ?_
                            refine r_iald (j := π) (x := nI 0) C rfl rfl (by decide) rfl (by omega) (dx dX7_copy 56 rfl) a11 ?_
                            refine r_if_eq (tgt := 111) C (dx dX7_copy 57 rfl) (by decide) (fun _ => ?_) (fun c20 => (show False from by revert c20; decide).elim)
                            refine r_aload_n C (dx dX7_copy 63 rfl) rfl ?_
                            refine r_bipush (v := -4) C (dx dX7_copy 64 rfl) rfl ?_
                            refine r_cv (as := [vi (-4)]) (st := []) C X I_X7_refuse l_X7_83 (e_refuse hm (x := -4) (j := 4) (by decide) (by decide)) (by decide) (Nat.le_of_ble_eq_true rfl) List.prefix_rfl List.prefix_rfl rfl rfl (Nat.le_of_ble_eq_true rfl) rfl (dx dX7_copy 65 rfl) ?_
                            rintro _ h21 ⟨rfl, m9h21, qh21⟩ kkh21
                            have mh21 : MilAt h21 k v := m9h21
                            have ph21 : Kp k h h21 := qh21
                            have kh21 : xK h21 = xK h := kkh21
                            have eA : copA g (nI π) (nI θ) i j n = -4 := by simp [copA, copG, copF, cpOk, c1, c3, c15, c17, c19, e01, e11, e21, e31, e41, e51, e61, e02, e12, e22, e32, e42, e52, e62, clN (show π < 2 ^ 31 by omega), clN (show θ < 2 ^ 31 by omega), inR_nI (show π < 2 ^ 31 by omega), inR_nI (show θ < 2 ^ 31 by omega), show π < 8 by omega, show θ < 8 by omega]
                            have eG : copG g (nI π) (nI θ) i j n = g := by simp [copA, copG, copF, cpOk, c1, c3, c15, c17, c19, e01, e11, e21, e31, e41, e51, e61, e02, e12, e22, e32, e42, e52, e62, clN (show π < 2 ^ 31 by omega), clN (show θ < 2 ^ 31 by omega), inR_nI (show π < 2 ^ 31 by omega), inR_nI (show θ < 2 ^ 31 by omega), show π < 8 by omega, show θ < 8 by omega]
                            exact F.1 _ _ _ _ _ rfl rfl (dx dX7_copy 66 rfl) kh21 (show some (vi (-4)) = some (vi (copA g (nI π) (nI θ) i j n)) ∧ MilAt h21 k v ∧ MshAt h21 k (copG g (nI π) (nI θ) i j n) ∧ Kt k h h21 from by rw [eA, eG]; exact ⟨rfl, mh21, hs.kp ph21, ph21.kt⟩))
                      · first
                        | (omega; done)
                        | (
                            have c19 : 0 = 1 := c19
                            refine r_aload_n C (dx dX7_copy 34 rfl) rfl ?_
                            refine g_X7_7 C (dx dX7_copy 35 rfl) ?_
                            refine r_iload_n C (dx dX7_copy 36 rfl) rfl ?_
                            refine r_iald (j := θ) (x := nI 1) C rfl rfl (by decide) rfl (by omega) (dx dX7_copy 37 rfl) a32 ?_
                            refine r_iconst (v := nI 1) C (dx dX7_copy 38 rfl) rfl ?_
                            refine rn_ne (a := 1) (b := 1) (tgt := 93) C (by omega) (by omega) (dx dX7_copy 39 rfl) (by decide) (fun c22 => ?_) (fun c22 => ?_)
                            · first
                              | (omega; done)
                              | (
                                  have c22 : ¬ 1 = 1 := c22
                                  refine r_aload_n C (dx dX7_copy 53 rfl) rfl ?_
                                  refine g_X7_7 C (dx dX7_copy 54 rfl) ?_
                                  refine r_iload_n C (dx dX7_copy 55 rfl) rfl ?_
                                  refine r_iald (j := π) (x := nI 0) C rfl rfl (by decide) rfl (by omega) (dx dX7_copy 56 rfl) a11 ?_
                                  refine r_if_eq (tgt := 111) C (dx dX7_copy 57 rfl) (by decide) (fun _ => ?_) (fun c23 => (show False from by revert c23; decide).elim)
                                  refine r_aload_n C (dx dX7_copy 63 rfl) rfl ?_
                                  refine r_bipush (v := -4) C (dx dX7_copy 64 rfl) rfl ?_
                                  refine r_cv (as := [vi (-4)]) (st := []) C X I_X7_refuse l_X7_83 (e_refuse hm (x := -4) (j := 4) (by decide) (by decide)) (by decide) (Nat.le_of_ble_eq_true rfl) List.prefix_rfl List.prefix_rfl rfl rfl (Nat.le_of_ble_eq_true rfl) rfl (dx dX7_copy 65 rfl) ?_
                                  rintro _ h24 ⟨rfl, m9h24, qh24⟩ kkh24
                                  have mh24 : MilAt h24 k v := m9h24
                                  have ph24 : Kp k h h24 := qh24
                                  have kh24 : xK h24 = xK h := kkh24
                                  have eA : copA g (nI π) (nI θ) i j n = -4 := by simp [copA, copG, copF, cpOk, c1, c3, c15, c17, c19, c22, e01, e11, e21, e31, e41, e51, e61, e02, e12, e22, e32, e42, e52, e62, clN (show π < 2 ^ 31 by omega), clN (show θ < 2 ^ 31 by omega), inR_nI (show π < 2 ^ 31 by omega), inR_nI (show θ < 2 ^ 31 by omega), show π < 8 by omega, show θ < 8 by omega]
                                  have eG : copG g (nI π) (nI θ) i j n = g := by simp [copA, copG, copF, cpOk, c1, c3, c15, c17, c19, c22, e01, e11, e21, e31, e41, e51, e61, e02, e12, e22, e32, e42, e52, e62, clN (show π < 2 ^ 31 by omega), clN (show θ < 2 ^ 31 by omega), inR_nI (show π < 2 ^ 31 by omega), inR_nI (show θ < 2 ^ 31 by omega), show π < 8 by omega, show θ < 8 by omega]
                                  exact F.1 _ _ _ _ _ rfl rfl (dx dX7_copy 66 rfl) kh24 (show some (vi (-4)) = some (vi (copA g (nI π) (nI θ) i j n)) ∧ MilAt h24 k v ∧ MshAt h24 k (copG g (nI π) (nI θ) i j n) ∧ Kt k h h24 from by rw [eA, eG]; exact ⟨rfl, mh24, hs.kp ph24, ph24.kt⟩))
                            · first
                              | (omega; done)
                              | (
                                  have c22 : 1 = 1 := c22
                                  refine r_aload_n C (dx dX7_copy 40 rfl) rfl ?_
                                  refine g_X7_13 C (dx dX7_copy 41 rfl) ?_
                                  refine r_iload_n C (dx dX7_copy 42 rfl) rfl ?_
                                  refine r_iald (j := π) (x := xI h (k + 2) π) C rfl rfl (by decide) rfl (by omega) (dx dX7_copy 43 rfl) rfl ?_
                                  refine r_aload_n C (dx dX7_copy 44 rfl) rfl ?_
                                  refine g_X7_13 C (dx dX7_copy 45 rfl) ?_
                                  refine r_iload_n C (dx dX7_copy 46 rfl) rfl ?_
                                  refine r_iald (j := θ) (x := nI τ2) C rfl rfl (by decide) rfl (by omega) (dx dX7_copy 47 rfl) a42 ?_
                                  refine r_icmp_eq (tgt := 93) C (dx dX7_copy 48 rfl) (by decide) (fun c25 => ?_) (fun c25 => ?_)
                                  ·
                                    have c25 : xI h (k + 2) π = nI τ2 := c25
                                    refine r_aload_n C (dx dX7_copy 53 rfl) rfl ?_
                                    refine g_X7_7 C (dx dX7_copy 54 rfl) ?_
                                    refine r_iload_n C (dx dX7_copy 55 rfl) rfl ?_
                                    refine r_iald (j := π) (x := nI 0) C rfl rfl (by decide) rfl (by omega) (dx dX7_copy 56 rfl) a11 ?_
                                    refine r_if_eq (tgt := 111) C (dx dX7_copy 57 rfl) (by decide) (fun _ => ?_) (fun c26 => (show False from by revert c26; decide).elim)
                                    refine r_aload_n C (dx dX7_copy 63 rfl) rfl ?_
                                    refine r_bipush (v := -4) C (dx dX7_copy 64 rfl) rfl ?_
                                    refine r_cv (as := [vi (-4)]) (st := []) C X I_X7_refuse l_X7_83 (e_refuse hm (x := -4) (j := 4) (by decide) (by decide)) (by decide) (Nat.le_of_ble_eq_true rfl) List.prefix_rfl List.prefix_rfl rfl rfl (Nat.le_of_ble_eq_true rfl) rfl (dx dX7_copy 65 rfl) ?_
                                    rintro _ h27 ⟨rfl, m9h27, qh27⟩ kkh27
                                    have mh27 : MilAt h27 k v := m9h27
                                    have ph27 : Kp k h h27 := qh27
                                    have kh27 : xK h27 = xK h := kkh27
                                    have eA : copA g (nI π) (nI θ) i j n = -4 := by simp [copA, copG, copF, cpOk, c1, c3, c15, c17, c19, c22, c25, e01, e11, e21, e31, e41, e51, e61, e02, e12, e22, e32, e42, e52, e62, clN (show π < 2 ^ 31 by omega), clN (show θ < 2 ^ 31 by omega), inR_nI (show π < 2 ^ 31 by omega), inR_nI (show θ < 2 ^ 31 by omega), show π < 8 by omega, show θ < 8 by omega]
                                    have eG : copG g (nI π) (nI θ) i j n = g := by simp [copA, copG, copF, cpOk, c1, c3, c15, c17, c19, c22, c25, e01, e11, e21, e31, e41, e51, e61, e02, e12, e22, e32, e42, e52, e62, clN (show π < 2 ^ 31 by omega), clN (show θ < 2 ^ 31 by omega), inR_nI (show π < 2 ^ 31 by omega), inR_nI (show θ < 2 ^ 31 by omega), show π < 8 by omega, show θ < 8 by omega]
                                    exact F.1 _ _ _ _ _ rfl rfl (dx dX7_copy 66 rfl) kh27 (show some (vi (-4)) = some (vi (copA g (nI π) (nI θ) i j n)) ∧ MilAt h27 k v ∧ MshAt h27 k (copG g (nI π) (nI θ) i j n) ∧ Kt k h h27 from by rw [eA, eG]; exact ⟨rfl, mh27, hs.kp ph27, ph27.kt⟩)
                                  ·
                                    have c25 : ¬ xI h (k + 2) π = nI τ2 := c25
                                    refine r_aload_n C (dx dX7_copy 49 rfl) rfl ?_
                                    refine r_bipush (v := -3) C (dx dX7_copy 50 rfl) rfl ?_
                                    refine r_cv (as := [vi (-3)]) (st := []) C X I_X7_refuse l_X7_83 (e_refuse hm (x := -3) (j := 3) (by decide) (by decide)) (by decide) (Nat.le_of_ble_eq_true rfl) List.prefix_rfl List.prefix_rfl rfl rfl (Nat.le_of_ble_eq_true rfl) rfl (dx dX7_copy 51 rfl) ?_
                                    rintro _ h28 ⟨rfl, m9h28, qh28⟩ kkh28
                                    have mh28 : MilAt h28 k v := m9h28
                                    have ph28 : Kp k h h28 := qh28
                                    have kh28 : xK h28 = xK h := kkh28
                                    have eA : copA g (nI π) (nI θ) i j n = -3 := by simp [copA, copG, copF, cpOk, c1, c3, c15, c17, c19, c22, c25, e01, e11, e21, e31, e41, e51, e61, e02, e12, e22, e32, e42, e52, e62, clN (show π < 2 ^ 31 by omega), clN (show θ < 2 ^ 31 by omega), inR_nI (show π < 2 ^ 31 by omega), inR_nI (show θ < 2 ^ 31 by omega), show π < 8 by omega, show θ < 8 by omega]
                                    have eG : copG g (nI π) (nI θ) i j n = g := by simp [copA, copG, copF, cpOk, c1, c3, c15, c17, c19, c22, c25, e01, e11, e21, e31, e41, e51, e61, e02, e12, e22, e32, e42, e52, e62, clN (show π < 2 ^ 31 by omega), clN (show θ < 2 ^ 31 by omega), inR_nI (show π < 2 ^ 31 by omega), inR_nI (show θ < 2 ^ 31 by omega), show π < 8 by omega, show θ < 8 by omega]
                                    exact F.1 _ _ _ _ _ rfl rfl (dx dX7_copy 52 rfl) kh28 (show some (vi (-3)) = some (vi (copA g (nI π) (nI θ) i j n)) ∧ MilAt h28 k v ∧ MshAt h28 k (copG g (nI π) (nI θ) i j n) ∧ Kt k h h28 from by rw [eA, eG]; exact ⟨rfl, mh28, hs.kp ph28, ph28.kt⟩)))))
        ·
          obtain ⟨e02, e12, e22, e32, e42, e52, e62, e72⟩ := sh_hold hθ a22 a72 a82
          refine r_aload_n C (dx dX7_copy 16 rfl) rfl ?_
          refine g_X7_7 C (dx dX7_copy 17 rfl) ?_
          refine r_iload_n C (dx dX7_copy 18 rfl) rfl ?_
          refine r_iald (j := π) (x := nI 0) C rfl rfl (by decide) rfl (by omega) (dx dX7_copy 19 rfl) a11 ?_
          refine r_iconst (v := nI 2) C (dx dX7_copy 20 rfl) rfl ?_
          refine rn_eq (a := 0) (b := 2) (tgt := 86) C (by omega) (by omega) (dx dX7_copy 21 rfl) (by decide) (fun c29 => ?_) (fun c29 => ?_)
          · first
            | (omega; done)
            | (
                have c29 : 0 = 2 := c29
                refine r_aload_n C (dx dX7_copy 49 rfl) rfl ?_
                refine r_bipush (v := -3) C (dx dX7_copy 50 rfl) rfl ?_
                refine r_cv (as := [vi (-3)]) (st := []) C X I_X7_refuse l_X7_83 (e_refuse hm (x := -3) (j := 3) (by decide) (by decide)) (by decide) (Nat.le_of_ble_eq_true rfl) List.prefix_rfl List.prefix_rfl rfl rfl (Nat.le_of_ble_eq_true rfl) rfl (dx dX7_copy 51 rfl) ?_
                rintro _ h30 ⟨rfl, m9h30, qh30⟩ kkh30
                have mh30 : MilAt h30 k v := m9h30
                have ph30 : Kp k h h30 := qh30
                have kh30 : xK h30 = xK h := kkh30
                have eA : copA g (nI π) (nI θ) i j n = -3 := by simp [copA, copG, copF, cpOk, c1, c3, c29, e01, e11, e21, e31, e41, e51, e61, e02, e12, e22, e32, e42, e52, e62, e72, clN (show π < 2 ^ 31 by omega), clN (show θ < 2 ^ 31 by omega), inR_nI (show π < 2 ^ 31 by omega), inR_nI (show θ < 2 ^ 31 by omega), show π < 8 by omega, show θ < 8 by omega]
                have eG : copG g (nI π) (nI θ) i j n = g := by simp [copA, copG, copF, cpOk, c1, c3, c29, e01, e11, e21, e31, e41, e51, e61, e02, e12, e22, e32, e42, e52, e62, e72, clN (show π < 2 ^ 31 by omega), clN (show θ < 2 ^ 31 by omega), inR_nI (show π < 2 ^ 31 by omega), inR_nI (show θ < 2 ^ 31 by omega), show π < 8 by omega, show θ < 8 by omega]
                exact F.1 _ _ _ _ _ rfl rfl (dx dX7_copy 52 rfl) kh30 (show some (vi (-3)) = some (vi (copA g (nI π) (nI θ) i j n)) ∧ MilAt h30 k v ∧ MshAt h30 k (copG g (nI π) (nI θ) i j n) ∧ Kt k h h30 from by rw [eA, eG]; exact ⟨rfl, mh30, hs.kp ph30, ph30.kt⟩))
          · first
            | (omega; done)
            | (
                have c29 : ¬ 0 = 2 := c29
                refine r_aload_n C (dx dX7_copy 22 rfl) rfl ?_
                refine g_X7_7 C (dx dX7_copy 23 rfl) ?_
                refine r_iload_n C (dx dX7_copy 24 rfl) rfl ?_
                refine r_iald (j := θ) (x := nI 2) C rfl rfl (by decide) rfl (by omega) (dx dX7_copy 25 rfl) a42 ?_
                refine r_iconst (v := nI 2) C (dx dX7_copy 26 rfl) rfl ?_
                refine rn_eq (a := 2) (b := 2) (tgt := 86) C (by omega) (by omega) (dx dX7_copy 27 rfl) (by decide) (fun c31 => ?_) (fun c31 => ?_)
                · first
                  | (omega; done)
                  | (
                      have c31 : 2 = 2 := c31
                      refine r_aload_n C (dx dX7_copy 49 rfl) rfl ?_
                      refine r_bipush (v := -3) C (dx dX7_copy 50 rfl) rfl ?_
                      refine r_cv (as := [vi (-3)]) (st := []) C X I_X7_refuse l_X7_83 (e_refuse hm (x := -3) (j := 3) (by decide) (by decide)) (by decide) (Nat.le_of_ble_eq_true rfl) List.prefix_rfl List.prefix_rfl rfl rfl (Nat.le_of_ble_eq_true rfl) rfl (dx dX7_copy 51 rfl) ?_
                      rintro _ h32 ⟨rfl, m9h32, qh32⟩ kkh32
                      have mh32 : MilAt h32 k v := m9h32
                      have ph32 : Kp k h h32 := qh32
                      have kh32 : xK h32 = xK h := kkh32
                      have eA : copA g (nI π) (nI θ) i j n = -3 := by simp [copA, copG, copF, cpOk, c1, c3, c29, c31, e01, e11, e21, e31, e41, e51, e61, e02, e12, e22, e32, e42, e52, e62, e72, clN (show π < 2 ^ 31 by omega), clN (show θ < 2 ^ 31 by omega), inR_nI (show π < 2 ^ 31 by omega), inR_nI (show θ < 2 ^ 31 by omega), show π < 8 by omega, show θ < 8 by omega]
                      have eG : copG g (nI π) (nI θ) i j n = g := by simp [copA, copG, copF, cpOk, c1, c3, c29, c31, e01, e11, e21, e31, e41, e51, e61, e02, e12, e22, e32, e42, e52, e62, e72, clN (show π < 2 ^ 31 by omega), clN (show θ < 2 ^ 31 by omega), inR_nI (show π < 2 ^ 31 by omega), inR_nI (show θ < 2 ^ 31 by omega), show π < 8 by omega, show θ < 8 by omega]
                      exact F.1 _ _ _ _ _ rfl rfl (dx dX7_copy 52 rfl) kh32 (show some (vi (-3)) = some (vi (copA g (nI π) (nI θ) i j n)) ∧ MilAt h32 k v ∧ MshAt h32 k (copG g (nI π) (nI θ) i j n) ∧ Kt k h h32 from by rw [eA, eG]; exact ⟨rfl, mh32, hs.kp ph32, ph32.kt⟩))
                · first
                  | (omega; done)
                  | (
                      have c31 : ¬ 2 = 2 := c31
                      refine r_aload_n C (dx dX7_copy 28 rfl) rfl ?_
                      refine g_X7_7 C (dx dX7_copy 29 rfl) ?_
                      refine r_iload_n C (dx dX7_copy 30 rfl) rfl ?_
                      refine r_iald (j := π) (x := nI 0) C rfl rfl (by decide) rfl (by omega) (dx dX7_copy 31 rfl) a11 ?_
                      refine r_iconst (v := nI 1) C (dx dX7_copy 32 rfl) rfl ?_
                      refine rn_ne (a := 0) (b := 1) (tgt := 93) C (by omega) (by omega) (dx dX7_copy 33 rfl) (by decide) (fun c33 => ?_) (fun c33 => ?_)
                      · first
                        | (omega; done)
                        | (
                            have c33 : ¬ 0 = 1 := c33
                            refine r_aload_n C (dx dX7_copy 53 rfl) rfl ?_
                            refine g_X7_7 C (dx dX7_copy 54 rfl) ?_
                            refine r_iload_n C (dx dX7_copy 55 rfl) rfl ?_
                            refine r_iald (j := π) (x := nI 0) C rfl rfl (by decide) rfl (by omega) (dx dX7_copy 56 rfl) a11 ?_
                            refine r_if_eq (tgt := 111) C (dx dX7_copy 57 rfl) (by decide) (fun _ => ?_) (fun c34 => (show False from by revert c34; decide).elim)
                            refine r_aload_n C (dx dX7_copy 63 rfl) rfl ?_
                            refine r_bipush (v := -4) C (dx dX7_copy 64 rfl) rfl ?_
                            refine r_cv (as := [vi (-4)]) (st := []) C X I_X7_refuse l_X7_83 (e_refuse hm (x := -4) (j := 4) (by decide) (by decide)) (by decide) (Nat.le_of_ble_eq_true rfl) List.prefix_rfl List.prefix_rfl rfl rfl (Nat.le_of_ble_eq_true rfl) rfl (dx dX7_copy 65 rfl) ?_
                            rintro _ h35 ⟨rfl, m9h35, qh35⟩ kkh35
                            have mh35 : MilAt h35 k v := m9h35
                            have ph35 : Kp k h h35 := qh35
                            have kh35 : xK h35 = xK h := kkh35
                            have eA : copA g (nI π) (nI θ) i j n = -4 := by simp [copA, copG, copF, cpOk, c1, c3, c29, c31, c33, e01, e11, e21, e31, e41, e51, e61, e02, e12, e22, e32, e42, e52, e62, e72, clN (show π < 2 ^ 31 by omega), clN (show θ < 2 ^ 31 by omega), inR_nI (show π < 2 ^ 31 by omega), inR_nI (show θ < 2 ^ 31 by omega), show π < 8 by omega, show θ < 8 by omega]
                            have eG : copG g (nI π) (nI θ) i j n = g := by simp [copA, copG, copF, cpOk, c1, c3, c29, c31, c33, e01, e11, e21, e31, e41, e51, e61, e02, e12, e22, e32, e42, e52, e62, e72, clN (show π < 2 ^ 31 by omega), clN (show θ < 2 ^ 31 by omega), inR_nI (show π < 2 ^ 31 by omega), inR_nI (show θ < 2 ^ 31 by omega), show π < 8 by omega, show θ < 8 by omega]
                            exact F.1 _ _ _ _ _ rfl rfl (dx dX7_copy 66 rfl) kh35 (show some (vi (-4)) = some (vi (copA g (nI π) (nI θ) i j n)) ∧ MilAt h35 k v ∧ MshAt h35 k (copG g (nI π) (nI θ) i j n) ∧ Kt k h h35 from by rw [eA, eG]; exact ⟨rfl, mh35, hs.kp ph35, ph35.kt⟩))
                      · first
                        | (omega; done)
                        | (
                            have c33 : 0 = 1 := c33
                            refine r_aload_n C (dx dX7_copy 34 rfl) rfl ?_
                            refine g_X7_7 C (dx dX7_copy 35 rfl) ?_
                            refine r_iload_n C (dx dX7_copy 36 rfl) rfl ?_
                            refine r_iald (j := θ) (x := nI 2) C rfl rfl (by decide) rfl (by omega) (dx dX7_copy 37 rfl) a42 ?_
                            refine r_iconst (v := nI 1) C (dx dX7_copy 38 rfl) rfl ?_
                            refine rn_ne (a := 2) (b := 1) (tgt := 93) C (by omega) (by omega) (dx dX7_copy 39 rfl) (by decide) (fun c36 => ?_) (fun c36 => ?_)
                            · first
                              | (omega; done)
                              | (
                                  have c36 : ¬ 2 = 1 := c36
                                  refine r_aload_n C (dx dX7_copy 53 rfl) rfl ?_
                                  refine g_X7_7 C (dx dX7_copy 54 rfl) ?_
                                  refine r_iload_n C (dx dX7_copy 55 rfl) rfl ?_
                                  refine r_iald (j := π) (x := nI 0) C rfl rfl (by decide) rfl (by omega) (dx dX7_copy 56 rfl) a11 ?_
                                  refine r_if_eq (tgt := 111) C (dx dX7_copy 57 rfl) (by decide) (fun _ => ?_) (fun c37 => (show False from by revert c37; decide).elim)
                                  refine r_aload_n C (dx dX7_copy 63 rfl) rfl ?_
                                  refine r_bipush (v := -4) C (dx dX7_copy 64 rfl) rfl ?_
                                  refine r_cv (as := [vi (-4)]) (st := []) C X I_X7_refuse l_X7_83 (e_refuse hm (x := -4) (j := 4) (by decide) (by decide)) (by decide) (Nat.le_of_ble_eq_true rfl) List.prefix_rfl List.prefix_rfl rfl rfl (Nat.le_of_ble_eq_true rfl) rfl (dx dX7_copy 65 rfl) ?_
                                  rintro _ h38 ⟨rfl, m9h38, qh38⟩ kkh38
                                  have mh38 : MilAt h38 k v := m9h38
                                  have ph38 : Kp k h h38 := qh38
                                  have kh38 : xK h38 = xK h := kkh38
                                  have eA : copA g (nI π) (nI θ) i j n = -4 := by simp [copA, copG, copF, cpOk, c1, c3, c29, c31, c33, c36, e01, e11, e21, e31, e41, e51, e61, e02, e12, e22, e32, e42, e52, e62, e72, clN (show π < 2 ^ 31 by omega), clN (show θ < 2 ^ 31 by omega), inR_nI (show π < 2 ^ 31 by omega), inR_nI (show θ < 2 ^ 31 by omega), show π < 8 by omega, show θ < 8 by omega]
                                  have eG : copG g (nI π) (nI θ) i j n = g := by simp [copA, copG, copF, cpOk, c1, c3, c29, c31, c33, c36, e01, e11, e21, e31, e41, e51, e61, e02, e12, e22, e32, e42, e52, e62, e72, clN (show π < 2 ^ 31 by omega), clN (show θ < 2 ^ 31 by omega), inR_nI (show π < 2 ^ 31 by omega), inR_nI (show θ < 2 ^ 31 by omega), show π < 8 by omega, show θ < 8 by omega]
                                  exact F.1 _ _ _ _ _ rfl rfl (dx dX7_copy 66 rfl) kh38 (show some (vi (-4)) = some (vi (copA g (nI π) (nI θ) i j n)) ∧ MilAt h38 k v ∧ MshAt h38 k (copG g (nI π) (nI θ) i j n) ∧ Kt k h h38 from by rw [eA, eG]; exact ⟨rfl, mh38, hs.kp ph38, ph38.kt⟩))
                            · first
                              | (omega; done)
                              | (
                                  have c36 : 2 = 1 := c36
                                  refine r_aload_n C (dx dX7_copy 40 rfl) rfl ?_
                                  refine g_X7_13 C (dx dX7_copy 41 rfl) ?_
                                  refine r_iload_n C (dx dX7_copy 42 rfl) rfl ?_
                                  refine r_iald (j := π) (x := xI h (k + 2) π) C rfl rfl (by decide) rfl (by omega) (dx dX7_copy 43 rfl) rfl ?_
                                  refine r_aload_n C (dx dX7_copy 44 rfl) rfl ?_
                                  refine g_X7_13 C (dx dX7_copy 45 rfl) ?_
                                  refine r_iload_n C (dx dX7_copy 46 rfl) rfl ?_
                                  refine r_iald (j := θ) (x := xI h (k + 2) θ) C rfl rfl (by decide) rfl (by omega) (dx dX7_copy 47 rfl) rfl ?_
                                  refine r_icmp_eq (tgt := 93) C (dx dX7_copy 48 rfl) (by decide) (fun c39 => ?_) (fun c39 => ?_)
                                  ·
                                    have c39 : xI h (k + 2) π = xI h (k + 2) θ := c39
                                    refine r_aload_n C (dx dX7_copy 53 rfl) rfl ?_
                                    refine g_X7_7 C (dx dX7_copy 54 rfl) ?_
                                    refine r_iload_n C (dx dX7_copy 55 rfl) rfl ?_
                                    refine r_iald (j := π) (x := nI 0) C rfl rfl (by decide) rfl (by omega) (dx dX7_copy 56 rfl) a11 ?_
                                    refine r_if_eq (tgt := 111) C (dx dX7_copy 57 rfl) (by decide) (fun _ => ?_) (fun c40 => (show False from by revert c40; decide).elim)
                                    refine r_aload_n C (dx dX7_copy 63 rfl) rfl ?_
                                    refine r_bipush (v := -4) C (dx dX7_copy 64 rfl) rfl ?_
                                    refine r_cv (as := [vi (-4)]) (st := []) C X I_X7_refuse l_X7_83 (e_refuse hm (x := -4) (j := 4) (by decide) (by decide)) (by decide) (Nat.le_of_ble_eq_true rfl) List.prefix_rfl List.prefix_rfl rfl rfl (Nat.le_of_ble_eq_true rfl) rfl (dx dX7_copy 65 rfl) ?_
                                    rintro _ h41 ⟨rfl, m9h41, qh41⟩ kkh41
                                    have mh41 : MilAt h41 k v := m9h41
                                    have ph41 : Kp k h h41 := qh41
                                    have kh41 : xK h41 = xK h := kkh41
                                    have eA : copA g (nI π) (nI θ) i j n = -4 := by simp [copA, copG, copF, cpOk, c1, c3, c29, c31, c33, c36, c39, e01, e11, e21, e31, e41, e51, e61, e02, e12, e22, e32, e42, e52, e62, e72, clN (show π < 2 ^ 31 by omega), clN (show θ < 2 ^ 31 by omega), inR_nI (show π < 2 ^ 31 by omega), inR_nI (show θ < 2 ^ 31 by omega), show π < 8 by omega, show θ < 8 by omega]
                                    have eG : copG g (nI π) (nI θ) i j n = g := by simp [copA, copG, copF, cpOk, c1, c3, c29, c31, c33, c36, c39, e01, e11, e21, e31, e41, e51, e61, e02, e12, e22, e32, e42, e52, e62, e72, clN (show π < 2 ^ 31 by omega), clN (show θ < 2 ^ 31 by omega), inR_nI (show π < 2 ^ 31 by omega), inR_nI (show θ < 2 ^ 31 by omega), show π < 8 by omega, show θ < 8 by omega]
                                    exact F.1 _ _ _ _ _ rfl rfl (dx dX7_copy 66 rfl) kh41 (show some (vi (-4)) = some (vi (copA g (nI π) (nI θ) i j n)) ∧ MilAt h41 k v ∧ MshAt h41 k (copG g (nI π) (nI θ) i j n) ∧ Kt k h h41 from by rw [eA, eG]; exact ⟨rfl, mh41, hs.kp ph41, ph41.kt⟩)
                                  ·
                                    have c39 : ¬ xI h (k + 2) π = xI h (k + 2) θ := c39
                                    refine r_aload_n C (dx dX7_copy 49 rfl) rfl ?_
                                    refine r_bipush (v := -3) C (dx dX7_copy 50 rfl) rfl ?_
                                    refine r_cv (as := [vi (-3)]) (st := []) C X I_X7_refuse l_X7_83 (e_refuse hm (x := -3) (j := 3) (by decide) (by decide)) (by decide) (Nat.le_of_ble_eq_true rfl) List.prefix_rfl List.prefix_rfl rfl rfl (Nat.le_of_ble_eq_true rfl) rfl (dx dX7_copy 51 rfl) ?_
                                    rintro _ h42 ⟨rfl, m9h42, qh42⟩ kkh42
                                    have mh42 : MilAt h42 k v := m9h42
                                    have ph42 : Kp k h h42 := qh42
                                    have kh42 : xK h42 = xK h := kkh42
                                    have eA : copA g (nI π) (nI θ) i j n = -3 := by simp [copA, copG, copF, cpOk, c1, c3, c29, c31, c33, c36, c39, e01, e11, e21, e31, e41, e51, e61, e02, e12, e22, e32, e42, e52, e62, e72, clN (show π < 2 ^ 31 by omega), clN (show θ < 2 ^ 31 by omega), inR_nI (show π < 2 ^ 31 by omega), inR_nI (show θ < 2 ^ 31 by omega), show π < 8 by omega, show θ < 8 by omega]
                                    have eG : copG g (nI π) (nI θ) i j n = g := by simp [copA, copG, copF, cpOk, c1, c3, c29, c31, c33, c36, c39, e01, e11, e21, e31, e41, e51, e61, e02, e12, e22, e32, e42, e52, e62, e72, clN (show π < 2 ^ 31 by omega), clN (show θ < 2 ^ 31 by omega), inR_nI (show π < 2 ^ 31 by omega), inR_nI (show θ < 2 ^ 31 by omega), show π < 8 by omega, show θ < 8 by omega]
                                    exact F.1 _ _ _ _ _ rfl rfl (dx dX7_copy 52 rfl) kh42 (show some (vi (-3)) = some (vi (copA g (nI π) (nI θ) i j n)) ∧ MilAt h42 k v ∧ MshAt h42 k (copG g (nI π) (nI θ) i j n) ∧ Kt k h h42 from by rw [eA, eG]; exact ⟨rfl, mh42, hs.kp ph42, ph42.kt⟩)))))
      ·
        obtain ⟨e01, e11, e21, e31, e41, e51, e61⟩ := sh_row hπ a11 a61 a71
        rcases hs θ hθ with ⟨a12, a22⟩ | ⟨τ2, ν2, a12, a22, a32, a42, a52, a62, a72, a82⟩ | ⟨κ2, b2, a12, a22, a32, a42, a52, a62, a72, a82⟩
        ·
          obtain ⟨e02, e12, e22, e32, e42, e52, e62⟩ := sh_bare hθ a22
          refine r_aload_n C (dx dX7_copy 16 rfl) rfl ?_
          refine g_X7_7 C (dx dX7_copy 17 rfl) ?_
          refine r_iload_n C (dx dX7_copy 18 rfl) rfl ?_
          refine r_iald (j := π) (x := nI 1) C rfl rfl (by decide) rfl (by omega) (dx dX7_copy 19 rfl) a31 ?_
          refine r_iconst (v := nI 2) C (dx dX7_copy 20 rfl) rfl ?_
          refine rn_eq (a := 1) (b := 2) (tgt := 86) C (by omega) (by omega) (dx dX7_copy 21 rfl) (by decide) (fun c43 => ?_) (fun c43 => ?_)
          · first
            | (omega; done)
            | (
                have c43 : 1 = 2 := c43
                refine r_aload_n C (dx dX7_copy 49 rfl) rfl ?_
                refine r_bipush (v := -3) C (dx dX7_copy 50 rfl) rfl ?_
                refine r_cv (as := [vi (-3)]) (st := []) C X I_X7_refuse l_X7_83 (e_refuse hm (x := -3) (j := 3) (by decide) (by decide)) (by decide) (Nat.le_of_ble_eq_true rfl) List.prefix_rfl List.prefix_rfl rfl rfl (Nat.le_of_ble_eq_true rfl) rfl (dx dX7_copy 51 rfl) ?_
                rintro _ h44 ⟨rfl, m9h44, qh44⟩ kkh44
                have mh44 : MilAt h44 k v := m9h44
                have ph44 : Kp k h h44 := qh44
                have kh44 : xK h44 = xK h := kkh44
                have eA : copA g (nI π) (nI θ) i j n = -3 := by simp [copA, copG, copF, cpOk, c1, c3, c43, e01, e11, e21, e31, e41, e51, e61, e02, e12, e22, e32, e42, e52, e62, clN (show π < 2 ^ 31 by omega), clN (show θ < 2 ^ 31 by omega), inR_nI (show π < 2 ^ 31 by omega), inR_nI (show θ < 2 ^ 31 by omega), show π < 8 by omega, show θ < 8 by omega]
                have eG : copG g (nI π) (nI θ) i j n = g := by simp [copA, copG, copF, cpOk, c1, c3, c43, e01, e11, e21, e31, e41, e51, e61, e02, e12, e22, e32, e42, e52, e62, clN (show π < 2 ^ 31 by omega), clN (show θ < 2 ^ 31 by omega), inR_nI (show π < 2 ^ 31 by omega), inR_nI (show θ < 2 ^ 31 by omega), show π < 8 by omega, show θ < 8 by omega]
                exact F.1 _ _ _ _ _ rfl rfl (dx dX7_copy 52 rfl) kh44 (show some (vi (-3)) = some (vi (copA g (nI π) (nI θ) i j n)) ∧ MilAt h44 k v ∧ MshAt h44 k (copG g (nI π) (nI θ) i j n) ∧ Kt k h h44 from by rw [eA, eG]; exact ⟨rfl, mh44, hs.kp ph44, ph44.kt⟩))
          · first
            | (omega; done)
            | (
                have c43 : ¬ 1 = 2 := c43
                refine r_aload_n C (dx dX7_copy 22 rfl) rfl ?_
                refine g_X7_7 C (dx dX7_copy 23 rfl) ?_
                refine r_iload_n C (dx dX7_copy 24 rfl) rfl ?_
                refine r_iald (j := θ) (x := nI 0) C rfl rfl (by decide) rfl (by omega) (dx dX7_copy 25 rfl) a12 ?_
                refine r_iconst (v := nI 2) C (dx dX7_copy 26 rfl) rfl ?_
                refine rn_eq (a := 0) (b := 2) (tgt := 86) C (by omega) (by omega) (dx dX7_copy 27 rfl) (by decide) (fun c45 => ?_) (fun c45 => ?_)
                · first
                  | (omega; done)
                  | (
                      have c45 : 0 = 2 := c45
                      refine r_aload_n C (dx dX7_copy 49 rfl) rfl ?_
                      refine r_bipush (v := -3) C (dx dX7_copy 50 rfl) rfl ?_
                      refine r_cv (as := [vi (-3)]) (st := []) C X I_X7_refuse l_X7_83 (e_refuse hm (x := -3) (j := 3) (by decide) (by decide)) (by decide) (Nat.le_of_ble_eq_true rfl) List.prefix_rfl List.prefix_rfl rfl rfl (Nat.le_of_ble_eq_true rfl) rfl (dx dX7_copy 51 rfl) ?_
                      rintro _ h46 ⟨rfl, m9h46, qh46⟩ kkh46
                      have mh46 : MilAt h46 k v := m9h46
                      have ph46 : Kp k h h46 := qh46
                      have kh46 : xK h46 = xK h := kkh46
                      have eA : copA g (nI π) (nI θ) i j n = -3 := by simp [copA, copG, copF, cpOk, c1, c3, c43, c45, e01, e11, e21, e31, e41, e51, e61, e02, e12, e22, e32, e42, e52, e62, clN (show π < 2 ^ 31 by omega), clN (show θ < 2 ^ 31 by omega), inR_nI (show π < 2 ^ 31 by omega), inR_nI (show θ < 2 ^ 31 by omega), show π < 8 by omega, show θ < 8 by omega]
                      have eG : copG g (nI π) (nI θ) i j n = g := by simp [copA, copG, copF, cpOk, c1, c3, c43, c45, e01, e11, e21, e31, e41, e51, e61, e02, e12, e22, e32, e42, e52, e62, clN (show π < 2 ^ 31 by omega), clN (show θ < 2 ^ 31 by omega), inR_nI (show π < 2 ^ 31 by omega), inR_nI (show θ < 2 ^ 31 by omega), show π < 8 by omega, show θ < 8 by omega]
                      exact F.1 _ _ _ _ _ rfl rfl (dx dX7_copy 52 rfl) kh46 (show some (vi (-3)) = some (vi (copA g (nI π) (nI θ) i j n)) ∧ MilAt h46 k v ∧ MshAt h46 k (copG g (nI π) (nI θ) i j n) ∧ Kt k h h46 from by rw [eA, eG]; exact ⟨rfl, mh46, hs.kp ph46, ph46.kt⟩))
                · first
                  | (omega; done)
                  | (
                      have c45 : ¬ 0 = 2 := c45
                      refine r_aload_n C (dx dX7_copy 28 rfl) rfl ?_
                      refine g_X7_7 C (dx dX7_copy 29 rfl) ?_
                      refine r_iload_n C (dx dX7_copy 30 rfl) rfl ?_
                      refine r_iald (j := π) (x := nI 1) C rfl rfl (by decide) rfl (by omega) (dx dX7_copy 31 rfl) a31 ?_
                      refine r_iconst (v := nI 1) C (dx dX7_copy 32 rfl) rfl ?_
                      refine rn_ne (a := 1) (b := 1) (tgt := 93) C (by omega) (by omega) (dx dX7_copy 33 rfl) (by decide) (fun c47 => ?_) (fun c47 => ?_)
                      · first
                        | (omega; done)
                        | (
                            have c47 : ¬ 1 = 1 := c47
                            refine r_aload_n C (dx dX7_copy 53 rfl) rfl ?_
                            refine g_X7_7 C (dx dX7_copy 54 rfl) ?_
                            refine r_iload_n C (dx dX7_copy 55 rfl) rfl ?_
                            refine r_iald (j := π) (x := nI 1) C rfl rfl (by decide) rfl (by omega) (dx dX7_copy 56 rfl) a31 ?_
                            refine r_if_eq (tgt := 111) C (dx dX7_copy 57 rfl) (by decide) (fun c48 => (show False from by revert c48; decide).elim) (fun _ => ?_)
                            refine r_aload_n C (dx dX7_copy 58 rfl) rfl ?_
                            refine g_X7_7 C (dx dX7_copy 59 rfl) ?_
                            refine r_iload_n C (dx dX7_copy 60 rfl) rfl ?_
                            refine r_iald (j := θ) (x := nI 0) C rfl rfl (by decide) rfl (by omega) (dx dX7_copy 61 rfl) a12 ?_
                            refine r_if_ne (tgt := 118) C (dx dX7_copy 62 rfl) (by decide) (fun c49 => (show False from by revert c49; decide).elim) (fun _ => ?_)
                            refine r_aload_n C (dx dX7_copy 63 rfl) rfl ?_
                            refine r_bipush (v := -4) C (dx dX7_copy 64 rfl) rfl ?_
                            refine r_cv (as := [vi (-4)]) (st := []) C X I_X7_refuse l_X7_83 (e_refuse hm (x := -4) (j := 4) (by decide) (by decide)) (by decide) (Nat.le_of_ble_eq_true rfl) List.prefix_rfl List.prefix_rfl rfl rfl (Nat.le_of_ble_eq_true rfl) rfl (dx dX7_copy 65 rfl) ?_
                            rintro _ h50 ⟨rfl, m9h50, qh50⟩ kkh50
                            have mh50 : MilAt h50 k v := m9h50
                            have ph50 : Kp k h h50 := qh50
                            have kh50 : xK h50 = xK h := kkh50
                            have eA : copA g (nI π) (nI θ) i j n = -4 := by simp [copA, copG, copF, cpOk, c1, c3, c43, c45, c47, e01, e11, e21, e31, e41, e51, e61, e02, e12, e22, e32, e42, e52, e62, clN (show π < 2 ^ 31 by omega), clN (show θ < 2 ^ 31 by omega), inR_nI (show π < 2 ^ 31 by omega), inR_nI (show θ < 2 ^ 31 by omega), show π < 8 by omega, show θ < 8 by omega]
                            have eG : copG g (nI π) (nI θ) i j n = g := by simp [copA, copG, copF, cpOk, c1, c3, c43, c45, c47, e01, e11, e21, e31, e41, e51, e61, e02, e12, e22, e32, e42, e52, e62, clN (show π < 2 ^ 31 by omega), clN (show θ < 2 ^ 31 by omega), inR_nI (show π < 2 ^ 31 by omega), inR_nI (show θ < 2 ^ 31 by omega), show π < 8 by omega, show θ < 8 by omega]
                            exact F.1 _ _ _ _ _ rfl rfl (dx dX7_copy 66 rfl) kh50 (show some (vi (-4)) = some (vi (copA g (nI π) (nI θ) i j n)) ∧ MilAt h50 k v ∧ MshAt h50 k (copG g (nI π) (nI θ) i j n) ∧ Kt k h h50 from by rw [eA, eG]; exact ⟨rfl, mh50, hs.kp ph50, ph50.kt⟩))
                      · first
                        | (omega; done)
                        | (
                            have c47 : 1 = 1 := c47
                            refine r_aload_n C (dx dX7_copy 34 rfl) rfl ?_
                            refine g_X7_7 C (dx dX7_copy 35 rfl) ?_
                            refine r_iload_n C (dx dX7_copy 36 rfl) rfl ?_
                            refine r_iald (j := θ) (x := nI 0) C rfl rfl (by decide) rfl (by omega) (dx dX7_copy 37 rfl) a12 ?_
                            refine r_iconst (v := nI 1) C (dx dX7_copy 38 rfl) rfl ?_
                            refine rn_ne (a := 0) (b := 1) (tgt := 93) C (by omega) (by omega) (dx dX7_copy 39 rfl) (by decide) (fun c51 => ?_) (fun c51 => ?_)
                            · first
                              | (omega; done)
                              | (
                                  have c51 : ¬ 0 = 1 := c51
                                  refine r_aload_n C (dx dX7_copy 53 rfl) rfl ?_
                                  refine g_X7_7 C (dx dX7_copy 54 rfl) ?_
                                  refine r_iload_n C (dx dX7_copy 55 rfl) rfl ?_
                                  refine r_iald (j := π) (x := nI 1) C rfl rfl (by decide) rfl (by omega) (dx dX7_copy 56 rfl) a31 ?_
                                  refine r_if_eq (tgt := 111) C (dx dX7_copy 57 rfl) (by decide) (fun c52 => (show False from by revert c52; decide).elim) (fun _ => ?_)
                                  refine r_aload_n C (dx dX7_copy 58 rfl) rfl ?_
                                  refine g_X7_7 C (dx dX7_copy 59 rfl) ?_
                                  refine r_iload_n C (dx dX7_copy 60 rfl) rfl ?_
                                  refine r_iald (j := θ) (x := nI 0) C rfl rfl (by decide) rfl (by omega) (dx dX7_copy 61 rfl) a12 ?_
                                  refine r_if_ne (tgt := 118) C (dx dX7_copy 62 rfl) (by decide) (fun c53 => (show False from by revert c53; decide).elim) (fun _ => ?_)
                                  refine r_aload_n C (dx dX7_copy 63 rfl) rfl ?_
                                  refine r_bipush (v := -4) C (dx dX7_copy 64 rfl) rfl ?_
                                  refine r_cv (as := [vi (-4)]) (st := []) C X I_X7_refuse l_X7_83 (e_refuse hm (x := -4) (j := 4) (by decide) (by decide)) (by decide) (Nat.le_of_ble_eq_true rfl) List.prefix_rfl List.prefix_rfl rfl rfl (Nat.le_of_ble_eq_true rfl) rfl (dx dX7_copy 65 rfl) ?_
                                  rintro _ h54 ⟨rfl, m9h54, qh54⟩ kkh54
                                  have mh54 : MilAt h54 k v := m9h54
                                  have ph54 : Kp k h h54 := qh54
                                  have kh54 : xK h54 = xK h := kkh54
                                  have eA : copA g (nI π) (nI θ) i j n = -4 := by simp [copA, copG, copF, cpOk, c1, c3, c43, c45, c47, c51, e01, e11, e21, e31, e41, e51, e61, e02, e12, e22, e32, e42, e52, e62, clN (show π < 2 ^ 31 by omega), clN (show θ < 2 ^ 31 by omega), inR_nI (show π < 2 ^ 31 by omega), inR_nI (show θ < 2 ^ 31 by omega), show π < 8 by omega, show θ < 8 by omega]
                                  have eG : copG g (nI π) (nI θ) i j n = g := by simp [copA, copG, copF, cpOk, c1, c3, c43, c45, c47, c51, e01, e11, e21, e31, e41, e51, e61, e02, e12, e22, e32, e42, e52, e62, clN (show π < 2 ^ 31 by omega), clN (show θ < 2 ^ 31 by omega), inR_nI (show π < 2 ^ 31 by omega), inR_nI (show θ < 2 ^ 31 by omega), show π < 8 by omega, show θ < 8 by omega]
                                  exact F.1 _ _ _ _ _ rfl rfl (dx dX7_copy 66 rfl) kh54 (show some (vi (-4)) = some (vi (copA g (nI π) (nI θ) i j n)) ∧ MilAt h54 k v ∧ MshAt h54 k (copG g (nI π) (nI θ) i j n) ∧ Kt k h h54 from by rw [eA, eG]; exact ⟨rfl, mh54, hs.kp ph54, ph54.kt⟩))
                            · first
                              | (omega; done)
                              | (
                                  have c51 : 0 = 1 := c51
                                  refine r_aload_n C (dx dX7_copy 40 rfl) rfl ?_
                                  refine g_X7_13 C (dx dX7_copy 41 rfl) ?_
                                  refine r_iload_n C (dx dX7_copy 42 rfl) rfl ?_
                                  refine r_iald (j := π) (x := nI τ1) C rfl rfl (by decide) rfl (by omega) (dx dX7_copy 43 rfl) a41 ?_
                                  refine r_aload_n C (dx dX7_copy 44 rfl) rfl ?_
                                  refine g_X7_13 C (dx dX7_copy 45 rfl) ?_
                                  refine r_iload_n C (dx dX7_copy 46 rfl) rfl ?_
                                  refine r_iald (j := θ) (x := xI h (k + 2) θ) C rfl rfl (by decide) rfl (by omega) (dx dX7_copy 47 rfl) rfl ?_
                                  refine r_icmp_eq (tgt := 93) C (dx dX7_copy 48 rfl) (by decide) (fun c55 => ?_) (fun c55 => ?_)
                                  ·
                                    have c55 : nI τ1 = xI h (k + 2) θ := c55
                                    refine r_aload_n C (dx dX7_copy 53 rfl) rfl ?_
                                    refine g_X7_7 C (dx dX7_copy 54 rfl) ?_
                                    refine r_iload_n C (dx dX7_copy 55 rfl) rfl ?_
                                    refine r_iald (j := π) (x := nI 1) C rfl rfl (by decide) rfl (by omega) (dx dX7_copy 56 rfl) a31 ?_
                                    refine r_if_eq (tgt := 111) C (dx dX7_copy 57 rfl) (by decide) (fun c56 => (show False from by revert c56; decide).elim) (fun _ => ?_)
                                    refine r_aload_n C (dx dX7_copy 58 rfl) rfl ?_
                                    refine g_X7_7 C (dx dX7_copy 59 rfl) ?_
                                    refine r_iload_n C (dx dX7_copy 60 rfl) rfl ?_
                                    refine r_iald (j := θ) (x := nI 0) C rfl rfl (by decide) rfl (by omega) (dx dX7_copy 61 rfl) a12 ?_
                                    refine r_if_ne (tgt := 118) C (dx dX7_copy 62 rfl) (by decide) (fun c57 => (show False from by revert c57; decide).elim) (fun _ => ?_)
                                    refine r_aload_n C (dx dX7_copy 63 rfl) rfl ?_
                                    refine r_bipush (v := -4) C (dx dX7_copy 64 rfl) rfl ?_
                                    refine r_cv (as := [vi (-4)]) (st := []) C X I_X7_refuse l_X7_83 (e_refuse hm (x := -4) (j := 4) (by decide) (by decide)) (by decide) (Nat.le_of_ble_eq_true rfl) List.prefix_rfl List.prefix_rfl rfl rfl (Nat.le_of_ble_eq_true rfl) rfl (dx dX7_copy 65 rfl) ?_
                                    rintro _ h58 ⟨rfl, m9h58, qh58⟩ kkh58
                                    have mh58 : MilAt h58 k v := m9h58
                                    have ph58 : Kp k h h58 := qh58
                                    have kh58 : xK h58 = xK h := kkh58
                                    have eA : copA g (nI π) (nI θ) i j n = -4 := by simp [copA, copG, copF, cpOk, c1, c3, c43, c45, c47, c51, c55, e01, e11, e21, e31, e41, e51, e61, e02, e12, e22, e32, e42, e52, e62, clN (show π < 2 ^ 31 by omega), clN (show θ < 2 ^ 31 by omega), inR_nI (show π < 2 ^ 31 by omega), inR_nI (show θ < 2 ^ 31 by omega), show π < 8 by omega, show θ < 8 by omega]
                                    have eG : copG g (nI π) (nI θ) i j n = g := by simp [copA, copG, copF, cpOk, c1, c3, c43, c45, c47, c51, c55, e01, e11, e21, e31, e41, e51, e61, e02, e12, e22, e32, e42, e52, e62, clN (show π < 2 ^ 31 by omega), clN (show θ < 2 ^ 31 by omega), inR_nI (show π < 2 ^ 31 by omega), inR_nI (show θ < 2 ^ 31 by omega), show π < 8 by omega, show θ < 8 by omega]
                                    exact F.1 _ _ _ _ _ rfl rfl (dx dX7_copy 66 rfl) kh58 (show some (vi (-4)) = some (vi (copA g (nI π) (nI θ) i j n)) ∧ MilAt h58 k v ∧ MshAt h58 k (copG g (nI π) (nI θ) i j n) ∧ Kt k h h58 from by rw [eA, eG]; exact ⟨rfl, mh58, hs.kp ph58, ph58.kt⟩)
                                  ·
                                    have c55 : ¬ nI τ1 = xI h (k + 2) θ := c55
                                    refine r_aload_n C (dx dX7_copy 49 rfl) rfl ?_
                                    refine r_bipush (v := -3) C (dx dX7_copy 50 rfl) rfl ?_
                                    refine r_cv (as := [vi (-3)]) (st := []) C X I_X7_refuse l_X7_83 (e_refuse hm (x := -3) (j := 3) (by decide) (by decide)) (by decide) (Nat.le_of_ble_eq_true rfl) List.prefix_rfl List.prefix_rfl rfl rfl (Nat.le_of_ble_eq_true rfl) rfl (dx dX7_copy 51 rfl) ?_
                                    rintro _ h59 ⟨rfl, m9h59, qh59⟩ kkh59
                                    have mh59 : MilAt h59 k v := m9h59
                                    have ph59 : Kp k h h59 := qh59
                                    have kh59 : xK h59 = xK h := kkh59
                                    have eA : copA g (nI π) (nI θ) i j n = -3 := by simp [copA, copG, copF, cpOk, c1, c3, c43, c45, c47, c51, c55, e01, e11, e21, e31, e41, e51, e61, e02, e12, e22, e32, e42, e52, e62, clN (show π < 2 ^ 31 by omega), clN (show θ < 2 ^ 31 by omega), inR_nI (show π < 2 ^ 31 by omega), inR_nI (show θ < 2 ^ 31 by omega), show π < 8 by omega, show θ < 8 by omega]
                                    have eG : copG g (nI π) (nI θ) i j n = g := by simp [copA, copG, copF, cpOk, c1, c3, c43, c45, c47, c51, c55, e01, e11, e21, e31, e41, e51, e61, e02, e12, e22, e32, e42, e52, e62, clN (show π < 2 ^ 31 by omega), clN (show θ < 2 ^ 31 by omega), inR_nI (show π < 2 ^ 31 by omega), inR_nI (show θ < 2 ^ 31 by omega), show π < 8 by omega, show θ < 8 by omega]
                                    exact F.1 _ _ _ _ _ rfl rfl (dx dX7_copy 52 rfl) kh59 (show some (vi (-3)) = some (vi (copA g (nI π) (nI θ) i j n)) ∧ MilAt h59 k v ∧ MshAt h59 k (copG g (nI π) (nI θ) i j n) ∧ Kt k h h59 from by rw [eA, eG]; exact ⟨rfl, mh59, hs.kp ph59, ph59.kt⟩)))))
        ·
          obtain ⟨e02, e12, e22, e32, e42, e52, e62⟩ := sh_row hθ a12 a62 a72
          refine r_aload_n C (dx dX7_copy 16 rfl) rfl ?_
          refine g_X7_7 C (dx dX7_copy 17 rfl) ?_
          refine r_iload_n C (dx dX7_copy 18 rfl) rfl ?_
          refine r_iald (j := π) (x := nI 1) C rfl rfl (by decide) rfl (by omega) (dx dX7_copy 19 rfl) a31 ?_
          refine r_iconst (v := nI 2) C (dx dX7_copy 20 rfl) rfl ?_
          refine rn_eq (a := 1) (b := 2) (tgt := 86) C (by omega) (by omega) (dx dX7_copy 21 rfl) (by decide) (fun c60 => ?_) (fun c60 => ?_)
          · first
            | (omega; done)
            | (
                have c60 : 1 = 2 := c60
                refine r_aload_n C (dx dX7_copy 49 rfl) rfl ?_
                refine r_bipush (v := -3) C (dx dX7_copy 50 rfl) rfl ?_
                refine r_cv (as := [vi (-3)]) (st := []) C X I_X7_refuse l_X7_83 (e_refuse hm (x := -3) (j := 3) (by decide) (by decide)) (by decide) (Nat.le_of_ble_eq_true rfl) List.prefix_rfl List.prefix_rfl rfl rfl (Nat.le_of_ble_eq_true rfl) rfl (dx dX7_copy 51 rfl) ?_
                rintro _ h61 ⟨rfl, m9h61, qh61⟩ kkh61
                have mh61 : MilAt h61 k v := m9h61
                have ph61 : Kp k h h61 := qh61
                have kh61 : xK h61 = xK h := kkh61
                have eA : copA g (nI π) (nI θ) i j n = -3 := by simp [copA, copG, copF, cpOk, c1, c3, c60, e01, e11, e21, e31, e41, e51, e61, e02, e12, e22, e32, e42, e52, e62, clN (show π < 2 ^ 31 by omega), clN (show θ < 2 ^ 31 by omega), inR_nI (show π < 2 ^ 31 by omega), inR_nI (show θ < 2 ^ 31 by omega), show π < 8 by omega, show θ < 8 by omega, nI_eq (show τ1 < 2 ^ 31 by omega) (show τ2 < 2 ^ 31 by omega)]
                have eG : copG g (nI π) (nI θ) i j n = g := by simp [copA, copG, copF, cpOk, c1, c3, c60, e01, e11, e21, e31, e41, e51, e61, e02, e12, e22, e32, e42, e52, e62, clN (show π < 2 ^ 31 by omega), clN (show θ < 2 ^ 31 by omega), inR_nI (show π < 2 ^ 31 by omega), inR_nI (show θ < 2 ^ 31 by omega), show π < 8 by omega, show θ < 8 by omega, nI_eq (show τ1 < 2 ^ 31 by omega) (show τ2 < 2 ^ 31 by omega)]
                exact F.1 _ _ _ _ _ rfl rfl (dx dX7_copy 52 rfl) kh61 (show some (vi (-3)) = some (vi (copA g (nI π) (nI θ) i j n)) ∧ MilAt h61 k v ∧ MshAt h61 k (copG g (nI π) (nI θ) i j n) ∧ Kt k h h61 from by rw [eA, eG]; exact ⟨rfl, mh61, hs.kp ph61, ph61.kt⟩))
          · first
            | (omega; done)
            | (
                have c60 : ¬ 1 = 2 := c60
                refine r_aload_n C (dx dX7_copy 22 rfl) rfl ?_
                refine g_X7_7 C (dx dX7_copy 23 rfl) ?_
                refine r_iload_n C (dx dX7_copy 24 rfl) rfl ?_
                refine r_iald (j := θ) (x := nI 1) C rfl rfl (by decide) rfl (by omega) (dx dX7_copy 25 rfl) a32 ?_
                refine r_iconst (v := nI 2) C (dx dX7_copy 26 rfl) rfl ?_
                refine rn_eq (a := 1) (b := 2) (tgt := 86) C (by omega) (by omega) (dx dX7_copy 27 rfl) (by decide) (fun c62 => ?_) (fun c62 => ?_)
                ·
                  have c62 : 1 = 2 := c62
                  exact absurd c62 c60
                · first
                  | (omega; done)
                  | (
                      have c62 : ¬ 1 = 2 := c62
                      refine r_aload_n C (dx dX7_copy 28 rfl) rfl ?_
                      refine g_X7_7 C (dx dX7_copy 29 rfl) ?_
                      refine r_iload_n C (dx dX7_copy 30 rfl) rfl ?_
                      refine r_iald (j := π) (x := nI 1) C rfl rfl (by decide) rfl (by omega) (dx dX7_copy 31 rfl) a31 ?_
                      refine r_iconst (v := nI 1) C (dx dX7_copy 32 rfl) rfl ?_
                      refine rn_ne (a := 1) (b := 1) (tgt := 93) C (by omega) (by omega) (dx dX7_copy 33 rfl) (by decide) (fun c63 => ?_) (fun c63 => ?_)
                      · first
                        | (omega; done)
                        | (
                            have c63 : ¬ 1 = 1 := c63
                            refine r_aload_n C (dx dX7_copy 53 rfl) rfl ?_
                            refine g_X7_7 C (dx dX7_copy 54 rfl) ?_
                            refine r_iload_n C (dx dX7_copy 55 rfl) rfl ?_
                            refine r_iald (j := π) (x := nI 1) C rfl rfl (by decide) rfl (by omega) (dx dX7_copy 56 rfl) a31 ?_
                            refine r_if_eq (tgt := 111) C (dx dX7_copy 57 rfl) (by decide) (fun c64 => (show False from by revert c64; decide).elim) (fun _ => ?_)
                            refine r_aload_n C (dx dX7_copy 58 rfl) rfl ?_
                            refine g_X7_7 C (dx dX7_copy 59 rfl) ?_
                            refine r_iload_n C (dx dX7_copy 60 rfl) rfl ?_
                            refine r_iald (j := θ) (x := nI 1) C rfl rfl (by decide) rfl (by omega) (dx dX7_copy 61 rfl) a32 ?_
                            refine r_if_ne (tgt := 118) C (dx dX7_copy 62 rfl) (by decide) (fun _ => ?_) (fun c65 => (show False from by revert c65; decide).elim)
                            refine r_iload C (dx dX7_copy 67 rfl) rfl ?_
                            refine r_if_lt (tgt := 181) C (dx dX7_copy 68 rfl) (by decide) (fun c66 => ?_) (fun c66 => ?_)
                            ·
                              have c66 : n < 0 := c66
                              refine r_aload_n C (dx dX7_copy 101 rfl) rfl ?_
                              refine r_bipush (v := -2) C (dx dX7_copy 102 rfl) rfl ?_
                              refine r_cv (as := [vi (-2)]) (st := []) C X I_X7_refuse l_X7_83 (e_refuse hm (x := -2) (j := 2) (by decide) (by decide)) (by decide) (Nat.le_of_ble_eq_true rfl) List.prefix_rfl List.prefix_rfl rfl rfl (Nat.le_of_ble_eq_true rfl) rfl (dx dX7_copy 103 rfl) ?_
                              rintro _ h67 ⟨rfl, m9h67, qh67⟩ kkh67
                              have mh67 : MilAt h67 k v := m9h67
                              have ph67 : Kp k h h67 := qh67
                              have kh67 : xK h67 = xK h := kkh67
                              have eA : copA g (nI π) (nI θ) i j n = -2 := by simp [copA, copG, copF, cpOk, c1, c3, c60, c62, c63, (fun n9 => inR_neg (n := n9) c66 : ∀ n9, inR n n9 = false), c66, e01, e11, e21, e31, e41, e51, e61, e02, e12, e22, e32, e42, e52, e62, clN (show π < 2 ^ 31 by omega), clN (show θ < 2 ^ 31 by omega), inR_nI (show π < 2 ^ 31 by omega), inR_nI (show θ < 2 ^ 31 by omega), show π < 8 by omega, show θ < 8 by omega, nI_eq (show τ1 < 2 ^ 31 by omega) (show τ2 < 2 ^ 31 by omega)]
                              have eG : copG g (nI π) (nI θ) i j n = g := by simp [copA, copG, copF, cpOk, c1, c3, c60, c62, c63, (fun n9 => inR_neg (n := n9) c66 : ∀ n9, inR n n9 = false), c66, e01, e11, e21, e31, e41, e51, e61, e02, e12, e22, e32, e42, e52, e62, clN (show π < 2 ^ 31 by omega), clN (show θ < 2 ^ 31 by omega), inR_nI (show π < 2 ^ 31 by omega), inR_nI (show θ < 2 ^ 31 by omega), show π < 8 by omega, show θ < 8 by omega, nI_eq (show τ1 < 2 ^ 31 by omega) (show τ2 < 2 ^ 31 by omega)]
                              exact F.1 _ _ _ _ _ rfl rfl (dx dX7_copy 104 rfl) kh67 (show some (vi (-2)) = some (vi (copA g (nI π) (nI θ) i j n)) ∧ MilAt h67 k v ∧ MshAt h67 k (copG g (nI π) (nI θ) i j n) ∧ Kt k h h67 from by rw [eA, eG]; exact ⟨rfl, mh67, hs.kp ph67, ph67.kt⟩)
                            ·
                              have c66 : ¬ n < 0 := c66
                              obtain ⟨ν, hν, rfl⟩ := nI_of c66
                              refine r_iload_n C (dx dX7_copy 69 rfl) rfl ?_
                              refine r_if_lt (tgt := 181) C (dx dX7_copy 70 rfl) (by decide) (fun c68 => ?_) (fun c68 => ?_)
                              ·
                                have c68 : i < 0 := c68
                                refine r_aload_n C (dx dX7_copy 101 rfl) rfl ?_
                                refine r_bipush (v := -2) C (dx dX7_copy 102 rfl) rfl ?_
                                refine r_cv (as := [vi (-2)]) (st := []) C X I_X7_refuse l_X7_83 (e_refuse hm (x := -2) (j := 2) (by decide) (by decide)) (by decide) (Nat.le_of_ble_eq_true rfl) List.prefix_rfl List.prefix_rfl rfl rfl (Nat.le_of_ble_eq_true rfl) rfl (dx dX7_copy 103 rfl) ?_
                                rintro _ h69 ⟨rfl, m9h69, qh69⟩ kkh69
                                have mh69 : MilAt h69 k v := m9h69
                                have ph69 : Kp k h h69 := qh69
                                have kh69 : xK h69 = xK h := kkh69
                                have eA : copA g (nI π) (nI θ) i j (nI ν) = -2 := by simp [copA, copG, copF, cpOk, c1, c3, c60, c62, c63, c66, (fun n9 => inR_neg (n := n9) c68 : ∀ n9, inR i n9 = false), c68, e01, e11, e21, e31, e41, e51, e61, e02, e12, e22, e32, e42, e52, e62, clN (show π < 2 ^ 31 by omega), clN (show θ < 2 ^ 31 by omega), clN (show ν < 2 ^ 31 by omega), inR_nI (show π < 2 ^ 31 by omega), inR_nI (show θ < 2 ^ 31 by omega), inR_nI (show ν < 2 ^ 31 by omega), show π < 8 by omega, show θ < 8 by omega, nI_eq (show τ1 < 2 ^ 31 by omega) (show τ2 < 2 ^ 31 by omega)]
                                have eG : copG g (nI π) (nI θ) i j (nI ν) = g := by simp [copA, copG, copF, cpOk, c1, c3, c60, c62, c63, c66, (fun n9 => inR_neg (n := n9) c68 : ∀ n9, inR i n9 = false), c68, e01, e11, e21, e31, e41, e51, e61, e02, e12, e22, e32, e42, e52, e62, clN (show π < 2 ^ 31 by omega), clN (show θ < 2 ^ 31 by omega), clN (show ν < 2 ^ 31 by omega), inR_nI (show π < 2 ^ 31 by omega), inR_nI (show θ < 2 ^ 31 by omega), inR_nI (show ν < 2 ^ 31 by omega), show π < 8 by omega, show θ < 8 by omega, nI_eq (show τ1 < 2 ^ 31 by omega) (show τ2 < 2 ^ 31 by omega)]
                                exact F.1 _ _ _ _ _ rfl rfl (dx dX7_copy 104 rfl) kh69 (show some (vi (-2)) = some (vi (copA g (nI π) (nI θ) i j (nI ν))) ∧ MilAt h69 k v ∧ MshAt h69 k (copG g (nI π) (nI θ) i j (nI ν)) ∧ Kt k h h69 from by rw [eA, eG]; exact ⟨rfl, mh69, hs.kp ph69, ph69.kt⟩)
                              ·
                                have c68 : ¬ i < 0 := c68
                                obtain ⟨ι, hι, rfl⟩ := nI_of c68
                                refine r_iload C (dx dX7_copy 71 rfl) rfl ?_
                                refine r_if_lt (tgt := 181) C (dx dX7_copy 72 rfl) (by decide) (fun c70 => ?_) (fun c70 => ?_)
                                ·
                                  have c70 : j < 0 := c70
                                  refine r_aload_n C (dx dX7_copy 101 rfl) rfl ?_
                                  refine r_bipush (v := -2) C (dx dX7_copy 102 rfl) rfl ?_
                                  refine r_cv (as := [vi (-2)]) (st := []) C X I_X7_refuse l_X7_83 (e_refuse hm (x := -2) (j := 2) (by decide) (by decide)) (by decide) (Nat.le_of_ble_eq_true rfl) List.prefix_rfl List.prefix_rfl rfl rfl (Nat.le_of_ble_eq_true rfl) rfl (dx dX7_copy 103 rfl) ?_
                                  rintro _ h71 ⟨rfl, m9h71, qh71⟩ kkh71
                                  have mh71 : MilAt h71 k v := m9h71
                                  have ph71 : Kp k h h71 := qh71
                                  have kh71 : xK h71 = xK h := kkh71
                                  have eA : copA g (nI π) (nI θ) (nI ι) j (nI ν) = -2 := by simp [copA, copG, copF, cpOk, c1, c3, c60, c62, c63, c66, c68, (fun n9 => inR_neg (n := n9) c70 : ∀ n9, inR j n9 = false), c70, e01, e11, e21, e31, e41, e51, e61, e02, e12, e22, e32, e42, e52, e62, clN (show π < 2 ^ 31 by omega), clN (show θ < 2 ^ 31 by omega), clN (show ν < 2 ^ 31 by omega), clN (show ι < 2 ^ 31 by omega), inR_nI (show π < 2 ^ 31 by omega), inR_nI (show θ < 2 ^ 31 by omega), inR_nI (show ν < 2 ^ 31 by omega), inR_nI (show ι < 2 ^ 31 by omega), show π < 8 by omega, show θ < 8 by omega, nI_eq (show τ1 < 2 ^ 31 by omega) (show τ2 < 2 ^ 31 by omega)]
                                  have eG : copG g (nI π) (nI θ) (nI ι) j (nI ν) = g := by simp [copA, copG, copF, cpOk, c1, c3, c60, c62, c63, c66, c68, (fun n9 => inR_neg (n := n9) c70 : ∀ n9, inR j n9 = false), c70, e01, e11, e21, e31, e41, e51, e61, e02, e12, e22, e32, e42, e52, e62, clN (show π < 2 ^ 31 by omega), clN (show θ < 2 ^ 31 by omega), clN (show ν < 2 ^ 31 by omega), clN (show ι < 2 ^ 31 by omega), inR_nI (show π < 2 ^ 31 by omega), inR_nI (show θ < 2 ^ 31 by omega), inR_nI (show ν < 2 ^ 31 by omega), inR_nI (show ι < 2 ^ 31 by omega), show π < 8 by omega, show θ < 8 by omega, nI_eq (show τ1 < 2 ^ 31 by omega) (show τ2 < 2 ^ 31 by omega)]
                                  exact F.1 _ _ _ _ _ rfl rfl (dx dX7_copy 104 rfl) kh71 (show some (vi (-2)) = some (vi (copA g (nI π) (nI θ) (nI ι) j (nI ν))) ∧ MilAt h71 k v ∧ MshAt h71 k (copG g (nI π) (nI θ) (nI ι) j (nI ν)) ∧ Kt k h h71 from by rw [eA, eG]; exact ⟨rfl, mh71, hs.kp ph71, ph71.kt⟩)
                                ·
                                  have c70 : ¬ j < 0 := c70
                                  obtain ⟨ξ, hξ, rfl⟩ := nI_of c70
                                  refine r_iload C (dx dX7_copy 73 rfl) rfl ?_
                                  refine r_aload_n C (dx dX7_copy 74 rfl) rfl ?_
                                  refine g_X7_16 C (dx dX7_copy 75 rfl) ?_
                                  refine r_iload_n C (dx dX7_copy 76 rfl) rfl ?_
                                  refine r_iald (j := π) (x := nI ν1) C rfl rfl (by decide) rfl (by omega) (dx dX7_copy 77 rfl) a51 ?_
                                  refine rn_gt (a := ν) (b := ν1) (tgt := 181) C (by omega) (by omega) (dx dX7_copy 78 rfl) (by decide) (fun c72 => ?_) (fun c72 => ?_)
                                  · first
                                    | (omega; done)
                                    | (
                                        have c72 : ν1 < ν := c72
                                        refine r_aload_n C (dx dX7_copy 101 rfl) rfl ?_
                                        refine r_bipush (v := -2) C (dx dX7_copy 102 rfl) rfl ?_
                                        refine r_cv (as := [vi (-2)]) (st := []) C X I_X7_refuse l_X7_83 (e_refuse hm (x := -2) (j := 2) (by decide) (by decide)) (by decide) (Nat.le_of_ble_eq_true rfl) List.prefix_rfl List.prefix_rfl rfl rfl (Nat.le_of_ble_eq_true rfl) rfl (dx dX7_copy 103 rfl) ?_
                                        rintro _ h73 ⟨rfl, m9h73, qh73⟩ kkh73
                                        have mh73 : MilAt h73 k v := m9h73
                                        have ph73 : Kp k h h73 := qh73
                                        have kh73 : xK h73 = xK h := kkh73
                                        have eA : copA g (nI π) (nI θ) (nI ι) (nI ξ) (nI ν) = -2 := by (have hq : ¬ (ι + ν ≤ ν1 ∧ ξ + ν ≤ ν2) := by omega); (have hq2 := cp_row e31 e32 (i := ι) (j := ξ) (n := ν) (by omega) (by omega) (by omega) (by omega) (by omega)); rw [decide_eq_false hq] at hq2; simp [copA, copG, copF, c1, c3, c60, c62, c63, c66, c68, c70, c72, e01, e11, e21, e31, e41, e51, e61, e02, e12, e22, e32, e42, e52, e62, clN (show π < 2 ^ 31 by omega), clN (show θ < 2 ^ 31 by omega), clN (show ν < 2 ^ 31 by omega), clN (show ι < 2 ^ 31 by omega), clN (show ξ < 2 ^ 31 by omega), inR_nI (show π < 2 ^ 31 by omega), inR_nI (show θ < 2 ^ 31 by omega), inR_nI (show ν < 2 ^ 31 by omega), inR_nI (show ι < 2 ^ 31 by omega), inR_nI (show ξ < 2 ^ 31 by omega), hq2, show π < 8 by omega, show θ < 8 by omega, nI_eq (show τ1 < 2 ^ 31 by omega) (show τ2 < 2 ^ 31 by omega)]
                                        have eG : copG g (nI π) (nI θ) (nI ι) (nI ξ) (nI ν) = g := by (have hq : ¬ (ι + ν ≤ ν1 ∧ ξ + ν ≤ ν2) := by omega); (have hq2 := cp_row e31 e32 (i := ι) (j := ξ) (n := ν) (by omega) (by omega) (by omega) (by omega) (by omega)); rw [decide_eq_false hq] at hq2; simp [copA, copG, copF, c1, c3, c60, c62, c63, c66, c68, c70, c72, e01, e11, e21, e31, e41, e51, e61, e02, e12, e22, e32, e42, e52, e62, clN (show π < 2 ^ 31 by omega), clN (show θ < 2 ^ 31 by omega), clN (show ν < 2 ^ 31 by omega), clN (show ι < 2 ^ 31 by omega), clN (show ξ < 2 ^ 31 by omega), inR_nI (show π < 2 ^ 31 by omega), inR_nI (show θ < 2 ^ 31 by omega), inR_nI (show ν < 2 ^ 31 by omega), inR_nI (show ι < 2 ^ 31 by omega), inR_nI (show ξ < 2 ^ 31 by omega), hq2, show π < 8 by omega, show θ < 8 by omega, nI_eq (show τ1 < 2 ^ 31 by omega) (show τ2 < 2 ^ 31 by omega)]
                                        exact F.1 _ _ _ _ _ rfl rfl (dx dX7_copy 104 rfl) kh73 (show some (vi (-2)) = some (vi (copA g (nI π) (nI θ) (nI ι) (nI ξ) (nI ν))) ∧ MilAt h73 k v ∧ MshAt h73 k (copG g (nI π) (nI θ) (nI ι) (nI ξ) (nI ν)) ∧ Kt k h h73 from by rw [eA, eG]; exact ⟨rfl, mh73, hs.kp ph73, ph73.kt⟩))
                                  · first
                                    | (omega; done)
                                    | (
                                        have c72 : ν ≤ ν1 := c72
                                        refine r_iload C (dx dX7_copy 79 rfl) rfl ?_
                                        refine r_aload_n C (dx dX7_copy 80 rfl) rfl ?_
                                        refine g_X7_16 C (dx dX7_copy 81 rfl) ?_
                                        refine r_iload_n C (dx dX7_copy 82 rfl) rfl ?_
                                        refine r_iald (j := θ) (x := nI ν2) C rfl rfl (by decide) rfl (by omega) (dx dX7_copy 83 rfl) a52 ?_
                                        refine rn_gt (a := ν) (b := ν2) (tgt := 181) C (by omega) (by omega) (dx dX7_copy 84 rfl) (by decide) (fun c74 => ?_) (fun c74 => ?_)
                                        · first
                                          | (omega; done)
                                          | (
                                              have c74 : ν2 < ν := c74
                                              refine r_aload_n C (dx dX7_copy 101 rfl) rfl ?_
                                              refine r_bipush (v := -2) C (dx dX7_copy 102 rfl) rfl ?_
                                              refine r_cv (as := [vi (-2)]) (st := []) C X I_X7_refuse l_X7_83 (e_refuse hm (x := -2) (j := 2) (by decide) (by decide)) (by decide) (Nat.le_of_ble_eq_true rfl) List.prefix_rfl List.prefix_rfl rfl rfl (Nat.le_of_ble_eq_true rfl) rfl (dx dX7_copy 103 rfl) ?_
                                              rintro _ h75 ⟨rfl, m9h75, qh75⟩ kkh75
                                              have mh75 : MilAt h75 k v := m9h75
                                              have ph75 : Kp k h h75 := qh75
                                              have kh75 : xK h75 = xK h := kkh75
                                              have eA : copA g (nI π) (nI θ) (nI ι) (nI ξ) (nI ν) = -2 := by (have hq : ¬ (ι + ν ≤ ν1 ∧ ξ + ν ≤ ν2) := by omega); (have hq2 := cp_row e31 e32 (i := ι) (j := ξ) (n := ν) (by omega) (by omega) (by omega) (by omega) (by omega)); rw [decide_eq_false hq] at hq2; simp [copA, copG, copF, c1, c3, c60, c62, c63, c66, c68, c70, c72, c74, e01, e11, e21, e31, e41, e51, e61, e02, e12, e22, e32, e42, e52, e62, clN (show π < 2 ^ 31 by omega), clN (show θ < 2 ^ 31 by omega), clN (show ν < 2 ^ 31 by omega), clN (show ι < 2 ^ 31 by omega), clN (show ξ < 2 ^ 31 by omega), inR_nI (show π < 2 ^ 31 by omega), inR_nI (show θ < 2 ^ 31 by omega), inR_nI (show ν < 2 ^ 31 by omega), inR_nI (show ι < 2 ^ 31 by omega), inR_nI (show ξ < 2 ^ 31 by omega), hq2, show π < 8 by omega, show θ < 8 by omega, nI_eq (show τ1 < 2 ^ 31 by omega) (show τ2 < 2 ^ 31 by omega)]
                                              have eG : copG g (nI π) (nI θ) (nI ι) (nI ξ) (nI ν) = g := by (have hq : ¬ (ι + ν ≤ ν1 ∧ ξ + ν ≤ ν2) := by omega); (have hq2 := cp_row e31 e32 (i := ι) (j := ξ) (n := ν) (by omega) (by omega) (by omega) (by omega) (by omega)); rw [decide_eq_false hq] at hq2; simp [copA, copG, copF, c1, c3, c60, c62, c63, c66, c68, c70, c72, c74, e01, e11, e21, e31, e41, e51, e61, e02, e12, e22, e32, e42, e52, e62, clN (show π < 2 ^ 31 by omega), clN (show θ < 2 ^ 31 by omega), clN (show ν < 2 ^ 31 by omega), clN (show ι < 2 ^ 31 by omega), clN (show ξ < 2 ^ 31 by omega), inR_nI (show π < 2 ^ 31 by omega), inR_nI (show θ < 2 ^ 31 by omega), inR_nI (show ν < 2 ^ 31 by omega), inR_nI (show ι < 2 ^ 31 by omega), inR_nI (show ξ < 2 ^ 31 by omega), hq2, show π < 8 by omega, show θ < 8 by omega, nI_eq (show τ1 < 2 ^ 31 by omega) (show τ2 < 2 ^ 31 by omega)]
                                              exact F.1 _ _ _ _ _ rfl rfl (dx dX7_copy 104 rfl) kh75 (show some (vi (-2)) = some (vi (copA g (nI π) (nI θ) (nI ι) (nI ξ) (nI ν))) ∧ MilAt h75 k v ∧ MshAt h75 k (copG g (nI π) (nI θ) (nI ι) (nI ξ) (nI ν)) ∧ Kt k h h75 from by rw [eA, eG]; exact ⟨rfl, mh75, hs.kp ph75, ph75.kt⟩))
                                        · first
                                          | (omega; done)
                                          | (
                                              have c74 : ν ≤ ν2 := c74
                                              refine r_iload_n C (dx dX7_copy 85 rfl) rfl ?_
                                              refine r_aload_n C (dx dX7_copy 86 rfl) rfl ?_
                                              refine g_X7_16 C (dx dX7_copy 87 rfl) ?_
                                              refine r_iload_n C (dx dX7_copy 88 rfl) rfl ?_
                                              refine r_iald (j := π) (x := nI ν1) C rfl rfl (by decide) rfl (by omega) (dx dX7_copy 89 rfl) a51 ?_
                                              refine r_iload C (dx dX7_copy 90 rfl) rfl ?_
                                              refine rn_isub (a := ν1) (b := ν) C (by omega) (dx dX7_copy 91 rfl) ?_
                                              refine rn_gt (a := ι) (b := ν1 - ν) (tgt := 181) C (by omega) (by omega) (dx dX7_copy 92 rfl) (by decide) (fun c76 => ?_) (fun c76 => ?_)
                                              · first
                                                | (omega; done)
                                                | (
                                                    have c76 : ν1 - ν < ι := c76
                                                    refine r_aload_n C (dx dX7_copy 101 rfl) rfl ?_
                                                    refine r_bipush (v := -2) C (dx dX7_copy 102 rfl) rfl ?_
                                                    refine r_cv (as := [vi (-2)]) (st := []) C X I_X7_refuse l_X7_83 (e_refuse hm (x := -2) (j := 2) (by decide) (by decide)) (by decide) (Nat.le_of_ble_eq_true rfl) List.prefix_rfl List.prefix_rfl rfl rfl (Nat.le_of_ble_eq_true rfl) rfl (dx dX7_copy 103 rfl) ?_
                                                    rintro _ h77 ⟨rfl, m9h77, qh77⟩ kkh77
                                                    have mh77 : MilAt h77 k v := m9h77
                                                    have ph77 : Kp k h h77 := qh77
                                                    have kh77 : xK h77 = xK h := kkh77
                                                    have eA : copA g (nI π) (nI θ) (nI ι) (nI ξ) (nI ν) = -2 := by (have hq : ¬ (ι + ν ≤ ν1 ∧ ξ + ν ≤ ν2) := by omega); (have hq2 := cp_row e31 e32 (i := ι) (j := ξ) (n := ν) (by omega) (by omega) (by omega) (by omega) (by omega)); rw [decide_eq_false hq] at hq2; simp [copA, copG, copF, c1, c3, c60, c62, c63, c66, c68, c70, c72, c74, c76, e01, e11, e21, e31, e41, e51, e61, e02, e12, e22, e32, e42, e52, e62, clN (show π < 2 ^ 31 by omega), clN (show θ < 2 ^ 31 by omega), clN (show ν < 2 ^ 31 by omega), clN (show ι < 2 ^ 31 by omega), clN (show ξ < 2 ^ 31 by omega), inR_nI (show π < 2 ^ 31 by omega), inR_nI (show θ < 2 ^ 31 by omega), inR_nI (show ν < 2 ^ 31 by omega), inR_nI (show ι < 2 ^ 31 by omega), inR_nI (show ξ < 2 ^ 31 by omega), hq2, show π < 8 by omega, show θ < 8 by omega, nI_eq (show τ1 < 2 ^ 31 by omega) (show τ2 < 2 ^ 31 by omega)]
                                                    have eG : copG g (nI π) (nI θ) (nI ι) (nI ξ) (nI ν) = g := by (have hq : ¬ (ι + ν ≤ ν1 ∧ ξ + ν ≤ ν2) := by omega); (have hq2 := cp_row e31 e32 (i := ι) (j := ξ) (n := ν) (by omega) (by omega) (by omega) (by omega) (by omega)); rw [decide_eq_false hq] at hq2; simp [copA, copG, copF, c1, c3, c60, c62, c63, c66, c68, c70, c72, c74, c76, e01, e11, e21, e31, e41, e51, e61, e02, e12, e22, e32, e42, e52, e62, clN (show π < 2 ^ 31 by omega), clN (show θ < 2 ^ 31 by omega), clN (show ν < 2 ^ 31 by omega), clN (show ι < 2 ^ 31 by omega), clN (show ξ < 2 ^ 31 by omega), inR_nI (show π < 2 ^ 31 by omega), inR_nI (show θ < 2 ^ 31 by omega), inR_nI (show ν < 2 ^ 31 by omega), inR_nI (show ι < 2 ^ 31 by omega), inR_nI (show ξ < 2 ^ 31 by omega), hq2, show π < 8 by omega, show θ < 8 by omega, nI_eq (show τ1 < 2 ^ 31 by omega) (show τ2 < 2 ^ 31 by omega)]
                                                    exact F.1 _ _ _ _ _ rfl rfl (dx dX7_copy 104 rfl) kh77 (show some (vi (-2)) = some (vi (copA g (nI π) (nI θ) (nI ι) (nI ξ) (nI ν))) ∧ MilAt h77 k v ∧ MshAt h77 k (copG g (nI π) (nI θ) (nI ι) (nI ξ) (nI ν)) ∧ Kt k h h77 from by rw [eA, eG]; exact ⟨rfl, mh77, hs.kp ph77, ph77.kt⟩))
                                              · first
                                                | (omega; done)
                                                | (
                                                    have c76 : ι ≤ ν1 - ν := c76
                                                    refine r_iload C (dx dX7_copy 93 rfl) rfl ?_
                                                    refine r_aload_n C (dx dX7_copy 94 rfl) rfl ?_
                                                    refine g_X7_16 C (dx dX7_copy 95 rfl) ?_
                                                    refine r_iload_n C (dx dX7_copy 96 rfl) rfl ?_
                                                    refine r_iald (j := θ) (x := nI ν2) C rfl rfl (by decide) rfl (by omega) (dx dX7_copy 97 rfl) a52 ?_
                                                    refine r_iload C (dx dX7_copy 98 rfl) rfl ?_
                                                    refine rn_isub (a := ν2) (b := ν) C (by omega) (dx dX7_copy 99 rfl) ?_
                                                    refine rn_le (a := ξ) (b := ν2 - ν) (tgt := 188) C (by omega) (by omega) (dx dX7_copy 100 rfl) (by decide) (fun c78 => ?_) (fun c78 => ?_)
                                                    · first
                                                      | (omega; done)
                                                      | (
                                                          have c78 : ξ ≤ ν2 - ν := c78
                                                          refine r_iconst (v := nI 0) C (dx dX7_copy 105 rfl) rfl ?_
                                                          refine r_istore (ls' := [(0, vr 7 k), (1, vi (nI π)), (2, vi (nI θ)), (3, vi (nI ι)), (4, vi (nI ξ)), (5, vi (nI ν)), (6, vi (nI 0))]) C (dx dX7_copy 106 rfl) (by decide) [1, 2, 3, 4, 5, 6, 0] rfl ?_
                                                          refine loopU (Φ := fun p => ∀ h9, (∀ t, t < p → xL h9 (k + 13) t = gE g π (ι + t)) → Fr (k + 13) (k + 14) h h9 → xK h9 = xK h → Rr G 191 [(0, vr 7 k), (1, vi (nI π)), (2, vi (nI θ)), (3, vi (nI ι)), (4, vi (nI ξ)), (5, vi (nI ν)), (6, vi (nI p))] [] h9) (N := ν) ?_ ?_ 0 (by omega) _ (fun i hi => absurd hi (by omega)) Fr.rf rfl
                                                          ·
                                                            intro h9 q9 f9 k9
                                                            refine r_iload C (dx dX7_copy 107 rfl) rfl ?_
                                                            refine r_iload C (dx dX7_copy 108 rfl) rfl ?_
                                                            refine rn_ge (a := ν) (b := ν) (tgt := 222) C (by omega) (by omega) (dx dX7_copy 109 rfl) (by decide) (fun c79 => ?_) (fun c79 => ?_)
                                                            · first
                                                              | (omega; done)
                                                              | (
                                                                  have c79 : ν ≤ ν := c79
                                                                  refine r_iconst (v := nI 0) C (dx dX7_copy 124 rfl) rfl ?_
                                                                  refine r_istore (ls' := [(0, vr 7 k), (1, vi (nI π)), (2, vi (nI θ)), (3, vi (nI ι)), (4, vi (nI ξ)), (5, vi (nI ν)), (6, vi (nI 0))]) C (dx dX7_copy 125 rfl) (by decide) [1, 2, 3, 4, 5, 6, 0] rfl ?_
                                                                  have r9 := MsR.fr (show MsR h k g θ from ⟨_, _, a12, a22, a32, a42, a52, a62, a72, a82⟩) hθ f9
                                                                  refine loopU (Φ := fun p => ∀ h8, (∀ i, i < 40 → xL h8 (k + 5 + θ) i = if ξ ≤ i ∧ i < ξ + p then gE g π (ι + (i - ξ)) else gE g θ i) → (∀ t, t < ν → xL h8 (k + 13) t = gE g π (ι + t)) → Fr (k + 5 + θ) (k + 5 + θ + 1) h9 h8 → xK h8 = xK h → Rr G 225 [(0, vr 7 k), (1, vi (nI π)), (2, vi (nI θ)), (3, vi (nI ι)), (4, vi (nI ξ)), (5, vi (nI ν)), (6, vi (nI p))] [] h8) (N := ν) ?_ ?_ 0 (by omega) _ (fun i hi => by rw [if_neg (by omega), f9.L (by omega)]; exact a82 i hi) q9 Fr.rf k9
                                                                  ·
                                                                    intro h8 q8 u8 f8 k8
                                                                    have s9 : MshAt h8 k (pCp g π θ ι ξ ν) := msh_els (hs.mv f9) hθ r9 f8 (fun i hi => by rw [q8 i hi]; rfl)
                                                                    have g9 : Fr (k + 1) (k + 16) h h8 := (f9.mono (by omega) (by omega)).tr (f8.mono (by omega) (by omega))
                                                                    refine r_iload C (dx dX7_copy 126 rfl) rfl ?_
                                                                    refine r_iload C (dx dX7_copy 127 rfl) rfl ?_
                                                                    refine rn_ge (a := ν) (b := ν) (tgt := 257) C (by omega) (by omega) (dx dX7_copy 128 rfl) (by decide) (fun c80 => ?_) (fun c80 => ?_)
                                                                    · first
                                                                      | (omega; done)
                                                                      | (
                                                                          have c80 : ν ≤ ν := c80
                                                                          refine r_iload C (dx dX7_copy 143 rfl) rfl ?_
                                                                          have eA : copA g (nI π) (nI θ) (nI ι) (nI ξ) (nI ν) = nI ν := by simp [copA, copG, copF, c1, c3, c60, c62, c63, c66, c68, c70, c72, c74, c76, c78, c79, c80, e01, e11, e21, e31, e41, e51, e61, e02, e12, e22, e32, e42, e52, e62, clN (show π < 2 ^ 31 by omega), clN (show θ < 2 ^ 31 by omega), clN (show ν < 2 ^ 31 by omega), clN (show ι < 2 ^ 31 by omega), clN (show ξ < 2 ^ 31 by omega), inR_nI (show π < 2 ^ 31 by omega), inR_nI (show θ < 2 ^ 31 by omega), inR_nI (show ν < 2 ^ 31 by omega), inR_nI (show ι < 2 ^ 31 by omega), inR_nI (show ξ < 2 ^ 31 by omega), show π < 8 by omega, show θ < 8 by omega, nI_eq (show τ1 < 2 ^ 31 by omega) (show τ2 < 2 ^ 31 by omega), cp_row e31 e32 (by omega) (by omega) (show ι < 2 ^ 31 by omega) (show ξ < 2 ^ 31 by omega) (show ν < 2 ^ 31 by omega), show ι + ν ≤ ν1 by omega, show ξ + ν ≤ ν2 by omega]
                                                                          have eG : copG g (nI π) (nI θ) (nI ι) (nI ξ) (nI ν) = pCp g π θ ι ξ ν := by simp [copA, copG, copF, c1, c3, c60, c62, c63, c66, c68, c70, c72, c74, c76, c78, c79, c80, e01, e11, e21, e31, e41, e51, e61, e02, e12, e22, e32, e42, e52, e62, clN (show π < 2 ^ 31 by omega), clN (show θ < 2 ^ 31 by omega), clN (show ν < 2 ^ 31 by omega), clN (show ι < 2 ^ 31 by omega), clN (show ξ < 2 ^ 31 by omega), inR_nI (show π < 2 ^ 31 by omega), inR_nI (show θ < 2 ^ 31 by omega), inR_nI (show ν < 2 ^ 31 by omega), inR_nI (show ι < 2 ^ 31 by omega), inR_nI (show ξ < 2 ^ 31 by omega), show π < 8 by omega, show θ < 8 by omega, nI_eq (show τ1 < 2 ^ 31 by omega) (show τ2 < 2 ^ 31 by omega), cp_row e31 e32 (by omega) (by omega) (show ι < 2 ^ 31 by omega) (show ξ < 2 ^ 31 by omega) (show ν < 2 ^ 31 by omega), show ι + ν ≤ ν1 by omega, show ξ + ν ≤ ν2 by omega]
                                                                          exact F.1 _ _ _ _ _ rfl rfl (dx dX7_copy 144 rfl) k8 (show some (vi (nI ν)) = some (vi (copA g (nI π) (nI θ) (nI ι) (nI ξ) (nI ν))) ∧ MilAt h8 k v ∧ MshAt h8 k (copG g (nI π) (nI θ) (nI ι) (nI ξ) (nI ν)) ∧ Kt k h h8 from by rw [eA, eG]; exact ⟨rfl, hm.fr g9 (by omega), s9, (Kt.fr g9 (by omega) (by omega))⟩))
                                                                    · first
                                                                      | (omega; done)
                                                                  ·
                                                                    intro p hp ih h8 q8 u8 f8 k8
                                                                    refine r_iload C (dx dX7_copy 126 rfl) rfl ?_
                                                                    refine r_iload C (dx dX7_copy 127 rfl) rfl ?_
                                                                    refine rn_ge (a := p) (b := ν) (tgt := 257) C (by omega) (by omega) (dx dX7_copy 128 rfl) (by decide) (fun c81 => ?_) (fun c81 => ?_)
                                                                    · first
                                                                      | (omega; done)
                                                                      | (
                                                                          have c81 : ν ≤ p := c81
                                                                          refine r_iload C (dx dX7_copy 143 rfl) rfl ?_
                                                                          have eA : copA g (nI π) (nI θ) (nI ι) (nI ξ) (nI ν) = nI ν := by simp [copA, copG, copF, c1, c3, c60, c62, c63, c66, c68, c70, c72, c74, c76, c78, c79, c81, e01, e11, e21, e31, e41, e51, e61, e02, e12, e22, e32, e42, e52, e62, clN (show π < 2 ^ 31 by omega), clN (show θ < 2 ^ 31 by omega), clN (show ν < 2 ^ 31 by omega), clN (show ι < 2 ^ 31 by omega), clN (show ξ < 2 ^ 31 by omega), inR_nI (show π < 2 ^ 31 by omega), inR_nI (show θ < 2 ^ 31 by omega), inR_nI (show ν < 2 ^ 31 by omega), inR_nI (show ι < 2 ^ 31 by omega), inR_nI (show ξ < 2 ^ 31 by omega), show π < 8 by omega, show θ < 8 by omega, nI_eq (show τ1 < 2 ^ 31 by omega) (show τ2 < 2 ^ 31 by omega), cp_row e31 e32 (by omega) (by omega) (show ι < 2 ^ 31 by omega) (show ξ < 2 ^ 31 by omega) (show ν < 2 ^ 31 by omega), show ι + ν ≤ ν1 by omega, show ξ + ν ≤ ν2 by omega]
                                                                          have eG : copG g (nI π) (nI θ) (nI ι) (nI ξ) (nI ν) = g := by simp [copA, copG, copF, c1, c3, c60, c62, c63, c66, c68, c70, c72, c74, c76, c78, c79, c81, e01, e11, e21, e31, e41, e51, e61, e02, e12, e22, e32, e42, e52, e62, clN (show π < 2 ^ 31 by omega), clN (show θ < 2 ^ 31 by omega), clN (show ν < 2 ^ 31 by omega), clN (show ι < 2 ^ 31 by omega), clN (show ξ < 2 ^ 31 by omega), inR_nI (show π < 2 ^ 31 by omega), inR_nI (show θ < 2 ^ 31 by omega), inR_nI (show ν < 2 ^ 31 by omega), inR_nI (show ι < 2 ^ 31 by omega), inR_nI (show ξ < 2 ^ 31 by omega), show π < 8 by omega, show θ < 8 by omega, nI_eq (show τ1 < 2 ^ 31 by omega) (show τ2 < 2 ^ 31 by omega), cp_row e31 e32 (by omega) (by omega) (show ι < 2 ^ 31 by omega) (show ξ < 2 ^ 31 by omega) (show ν < 2 ^ 31 by omega), show ι + ν ≤ ν1 by omega, show ξ + ν ≤ ν2 by omega]
                                                                          exact F.1 _ _ _ _ _ rfl rfl (dx dX7_copy 144 rfl) k8 (show some (vi (nI ν)) = some (vi (copA g (nI π) (nI θ) (nI ι) (nI ξ) (nI ν))) ∧ MilAt h8 k v ∧ MshAt h8 k (copG g (nI π) (nI θ) (nI ι) (nI ξ) (nI ν)) ∧ Kt k h h8 from by rw [eA, eG]; exact ⟨rfl, hm, hs, Kt.rf⟩))
                                                                    · first
                                                                      | (omega; done)
                                                                      | (
                                                                          have c81 : p < ν := c81
                                                                          refine r_aload_n C (dx dX7_copy 129 rfl) rfl ?_
                                                                          refine g_X7_21 C (dx dX7_copy 130 rfl) ?_
                                                                          refine r_iload_n C (dx dX7_copy 131 rfl) rfl ?_
                                                                          refine r_aald5 (j := θ) C rfl rfl (by decide) rfl (by omega) (dx dX7_copy 132 rfl) ?_
                                                                          refine r_iload C (dx dX7_copy 133 rfl) rfl ?_
                                                                          refine r_iload C (dx dX7_copy 134 rfl) rfl ?_
                                                                          refine rn_iadd (a := ξ) (b := p) C (dx dX7_copy 135 rfl) ?_
                                                                          refine r_aload_n C (dx dX7_copy 136 rfl) rfl ?_
                                                                          refine g_X7_24 C (dx dX7_copy 137 rfl) ?_
                                                                          refine r_iload C (dx dX7_copy 138 rfl) rfl ?_
                                                                          refine r_lald (j := p) (x := gE g π (ι + p)) C rfl rfl (by decide) rfl (by omega) (dx dX7_copy 139 rfl) (u8 _ (by omega)) ?_
                                                                          refine r_last (j := ξ + p) C rfl rfl (by decide) rfl (by omega) (dx dX7_copy 140 rfl) ?_
                                                                          refine rn_iinc (a := p) (k := 1) (ls' := [(0, vr 7 k), (1, vi (nI π)), (2, vi (nI θ)), (3, vi (nI ι)), (4, vi (nI ξ)), (5, vi (nI ν)), (6, vi (nI (p + 1)))]) C (dx dX7_copy 141 rfl) rfl rfl (by decide) [1, 2, 3, 4, 5, 6, 0] rfl ?_
                                                                          refine r_goto (tgt := 225) C (dx dX7_copy 142 rfl) (by decide) ?_
                                                                          exact ih _ (fun i hi => by rw [sL_at]; exact cp2_step q8 i hi) (fun t ht => by rw [sL_ne (by omega)]; exact u8 t ht) (f8.tr (Fr.sL (by omega) (by omega))) k8))
                                                            · first
                                                              | (omega; done)
                                                          ·
                                                            intro p hp ih h9 q9 f9 k9
                                                            refine r_iload C (dx dX7_copy 107 rfl) rfl ?_
                                                            refine r_iload C (dx dX7_copy 108 rfl) rfl ?_
                                                            refine rn_ge (a := p) (b := ν) (tgt := 222) C (by omega) (by omega) (dx dX7_copy 109 rfl) (by decide) (fun c82 => ?_) (fun c82 => ?_)
                                                            · first
                                                              | (omega; done)
                                                              | (
                                                                  have c82 : ν ≤ p := c82
                                                                  refine r_iconst (v := nI 0) C (dx dX7_copy 124 rfl) rfl ?_
                                                                  refine r_istore (ls' := [(0, vr 7 k), (1, vi (nI π)), (2, vi (nI θ)), (3, vi (nI ι)), (4, vi (nI ξ)), (5, vi (nI ν)), (6, vi (nI 0))]) C (dx dX7_copy 125 rfl) (by decide) [1, 2, 3, 4, 5, 6, 0] rfl ?_
                                                                  have r9 := MsR.fr (show MsR h k g θ from ⟨_, _, a12, a22, a32, a42, a52, a62, a72, a82⟩) hθ f9
                                                                  refine loopU (Φ := fun p => ∀ h8, (∀ i, i < 40 → xL h8 (k + 5 + θ) i = if ξ ≤ i ∧ i < ξ + p then gE g π (ι + (i - ξ)) else gE g θ i) → (∀ t, t < ν → xL h8 (k + 13) t = gE g π (ι + t)) → Fr (k + 5 + θ) (k + 5 + θ + 1) h9 h8 → xK h8 = xK h → Rr G 225 [(0, vr 7 k), (1, vi (nI π)), (2, vi (nI θ)), (3, vi (nI ι)), (4, vi (nI ξ)), (5, vi (nI ν)), (6, vi (nI p))] [] h8) (N := ν) ?_ ?_ 0 (by omega) _ (fun i hi => by rw [if_neg (by omega), f9.L (by omega)]; exact a82 i hi) q9 Fr.rf k9
                                                                  ·
                                                                    intro h8 q8 u8 f8 k8
                                                                    have s9 : MshAt h8 k (pCp g π θ ι ξ ν) := msh_els (hs.mv f9) hθ r9 f8 (fun i hi => by rw [q8 i hi]; rfl)
                                                                    have g9 : Fr (k + 1) (k + 16) h h8 := (f9.mono (by omega) (by omega)).tr (f8.mono (by omega) (by omega))
                                                                    refine r_iload C (dx dX7_copy 126 rfl) rfl ?_
                                                                    refine r_iload C (dx dX7_copy 127 rfl) rfl ?_
                                                                    refine rn_ge (a := ν) (b := ν) (tgt := 257) C (by omega) (by omega) (dx dX7_copy 128 rfl) (by decide) (fun c83 => ?_) (fun c83 => ?_)
                                                                    · first
                                                                      | (omega; done)
                                                                      | (
                                                                          have c83 : ν ≤ ν := c83
                                                                          refine r_iload C (dx dX7_copy 143 rfl) rfl ?_
                                                                          have eA : copA g (nI π) (nI θ) (nI ι) (nI ξ) (nI ν) = nI ν := by simp [copA, copG, copF, c1, c3, c60, c62, c63, c66, c68, c70, c72, c74, c76, c78, c82, c83, e01, e11, e21, e31, e41, e51, e61, e02, e12, e22, e32, e42, e52, e62, clN (show π < 2 ^ 31 by omega), clN (show θ < 2 ^ 31 by omega), clN (show ν < 2 ^ 31 by omega), clN (show ι < 2 ^ 31 by omega), clN (show ξ < 2 ^ 31 by omega), inR_nI (show π < 2 ^ 31 by omega), inR_nI (show θ < 2 ^ 31 by omega), inR_nI (show ν < 2 ^ 31 by omega), inR_nI (show ι < 2 ^ 31 by omega), inR_nI (show ξ < 2 ^ 31 by omega), show π < 8 by omega, show θ < 8 by omega, nI_eq (show τ1 < 2 ^ 31 by omega) (show τ2 < 2 ^ 31 by omega), cp_row e31 e32 (by omega) (by omega) (show ι < 2 ^ 31 by omega) (show ξ < 2 ^ 31 by omega) (show ν < 2 ^ 31 by omega), show ι + ν ≤ ν1 by omega, show ξ + ν ≤ ν2 by omega]
                                                                          have eG : copG g (nI π) (nI θ) (nI ι) (nI ξ) (nI ν) = pCp g π θ ι ξ ν := by simp [copA, copG, copF, c1, c3, c60, c62, c63, c66, c68, c70, c72, c74, c76, c78, c82, c83, e01, e11, e21, e31, e41, e51, e61, e02, e12, e22, e32, e42, e52, e62, clN (show π < 2 ^ 31 by omega), clN (show θ < 2 ^ 31 by omega), clN (show ν < 2 ^ 31 by omega), clN (show ι < 2 ^ 31 by omega), clN (show ξ < 2 ^ 31 by omega), inR_nI (show π < 2 ^ 31 by omega), inR_nI (show θ < 2 ^ 31 by omega), inR_nI (show ν < 2 ^ 31 by omega), inR_nI (show ι < 2 ^ 31 by omega), inR_nI (show ξ < 2 ^ 31 by omega), show π < 8 by omega, show θ < 8 by omega, nI_eq (show τ1 < 2 ^ 31 by omega) (show τ2 < 2 ^ 31 by omega), cp_row e31 e32 (by omega) (by omega) (show ι < 2 ^ 31 by omega) (show ξ < 2 ^ 31 by omega) (show ν < 2 ^ 31 by omega), show ι + ν ≤ ν1 by omega, show ξ + ν ≤ ν2 by omega]
                                                                          exact F.1 _ _ _ _ _ rfl rfl (dx dX7_copy 144 rfl) k8 (show some (vi (nI ν)) = some (vi (copA g (nI π) (nI θ) (nI ι) (nI ξ) (nI ν))) ∧ MilAt h8 k v ∧ MshAt h8 k (copG g (nI π) (nI θ) (nI ι) (nI ξ) (nI ν)) ∧ Kt k h h8 from by rw [eA, eG]; exact ⟨rfl, hm.fr g9 (by omega), s9, (Kt.fr g9 (by omega) (by omega))⟩))
                                                                    · first
                                                                      | (omega; done)
                                                                  ·
                                                                    intro p hp ih h8 q8 u8 f8 k8
                                                                    refine r_iload C (dx dX7_copy 126 rfl) rfl ?_
                                                                    refine r_iload C (dx dX7_copy 127 rfl) rfl ?_
                                                                    refine rn_ge (a := p) (b := ν) (tgt := 257) C (by omega) (by omega) (dx dX7_copy 128 rfl) (by decide) (fun c84 => ?_) (fun c84 => ?_)
                                                                    · first
                                                                      | (omega; done)
                                                                      | (
                                                                          have c84 : ν ≤ p := c84
                                                                          refine r_iload C (dx dX7_copy 143 rfl) rfl ?_
                                                                          have eA : copA g (nI π) (nI θ) (nI ι) (nI ξ) (nI ν) = nI ν := by simp [copA, copG, copF, c1, c3, c60, c62, c63, c66, c68, c70, c72, c74, c76, c78, c82, c84, e01, e11, e21, e31, e41, e51, e61, e02, e12, e22, e32, e42, e52, e62, clN (show π < 2 ^ 31 by omega), clN (show θ < 2 ^ 31 by omega), clN (show ν < 2 ^ 31 by omega), clN (show ι < 2 ^ 31 by omega), clN (show ξ < 2 ^ 31 by omega), inR_nI (show π < 2 ^ 31 by omega), inR_nI (show θ < 2 ^ 31 by omega), inR_nI (show ν < 2 ^ 31 by omega), inR_nI (show ι < 2 ^ 31 by omega), inR_nI (show ξ < 2 ^ 31 by omega), show π < 8 by omega, show θ < 8 by omega, nI_eq (show τ1 < 2 ^ 31 by omega) (show τ2 < 2 ^ 31 by omega), cp_row e31 e32 (by omega) (by omega) (show ι < 2 ^ 31 by omega) (show ξ < 2 ^ 31 by omega) (show ν < 2 ^ 31 by omega), show ι + ν ≤ ν1 by omega, show ξ + ν ≤ ν2 by omega]
                                                                          have eG : copG g (nI π) (nI θ) (nI ι) (nI ξ) (nI ν) = g := by simp [copA, copG, copF, c1, c3, c60, c62, c63, c66, c68, c70, c72, c74, c76, c78, c82, c84, e01, e11, e21, e31, e41, e51, e61, e02, e12, e22, e32, e42, e52, e62, clN (show π < 2 ^ 31 by omega), clN (show θ < 2 ^ 31 by omega), clN (show ν < 2 ^ 31 by omega), clN (show ι < 2 ^ 31 by omega), clN (show ξ < 2 ^ 31 by omega), inR_nI (show π < 2 ^ 31 by omega), inR_nI (show θ < 2 ^ 31 by omega), inR_nI (show ν < 2 ^ 31 by omega), inR_nI (show ι < 2 ^ 31 by omega), inR_nI (show ξ < 2 ^ 31 by omega), show π < 8 by omega, show θ < 8 by omega, nI_eq (show τ1 < 2 ^ 31 by omega) (show τ2 < 2 ^ 31 by omega), cp_row e31 e32 (by omega) (by omega) (show ι < 2 ^ 31 by omega) (show ξ < 2 ^ 31 by omega) (show ν < 2 ^ 31 by omega), show ι + ν ≤ ν1 by omega, show ξ + ν ≤ ν2 by omega]
                                                                          exact F.1 _ _ _ _ _ rfl rfl (dx dX7_copy 144 rfl) k8 (show some (vi (nI ν)) = some (vi (copA g (nI π) (nI θ) (nI ι) (nI ξ) (nI ν))) ∧ MilAt h8 k v ∧ MshAt h8 k (copG g (nI π) (nI θ) (nI ι) (nI ξ) (nI ν)) ∧ Kt k h h8 from by rw [eA, eG]; exact ⟨rfl, hm, hs, Kt.rf⟩))
                                                                    · first
                                                                      | (omega; done)
                                                                      | (
                                                                          have c84 : p < ν := c84
                                                                          refine r_aload_n C (dx dX7_copy 129 rfl) rfl ?_
                                                                          refine g_X7_21 C (dx dX7_copy 130 rfl) ?_
                                                                          refine r_iload_n C (dx dX7_copy 131 rfl) rfl ?_
                                                                          refine r_aald5 (j := θ) C rfl rfl (by decide) rfl (by omega) (dx dX7_copy 132 rfl) ?_
                                                                          refine r_iload C (dx dX7_copy 133 rfl) rfl ?_
                                                                          refine r_iload C (dx dX7_copy 134 rfl) rfl ?_
                                                                          refine rn_iadd (a := ξ) (b := p) C (dx dX7_copy 135 rfl) ?_
                                                                          refine r_aload_n C (dx dX7_copy 136 rfl) rfl ?_
                                                                          refine g_X7_24 C (dx dX7_copy 137 rfl) ?_
                                                                          refine r_iload C (dx dX7_copy 138 rfl) rfl ?_
                                                                          refine r_lald (j := p) (x := gE g π (ι + p)) C rfl rfl (by decide) rfl (by omega) (dx dX7_copy 139 rfl) (u8 _ (by omega)) ?_
                                                                          refine r_last (j := ξ + p) C rfl rfl (by decide) rfl (by omega) (dx dX7_copy 140 rfl) ?_
                                                                          refine rn_iinc (a := p) (k := 1) (ls' := [(0, vr 7 k), (1, vi (nI π)), (2, vi (nI θ)), (3, vi (nI ι)), (4, vi (nI ξ)), (5, vi (nI ν)), (6, vi (nI (p + 1)))]) C (dx dX7_copy 141 rfl) rfl rfl (by decide) [1, 2, 3, 4, 5, 6, 0] rfl ?_
                                                                          refine r_goto (tgt := 225) C (dx dX7_copy 142 rfl) (by decide) ?_
                                                                          exact ih _ (fun i hi => by rw [sL_at]; exact cp2_step q8 i hi) (fun t ht => by rw [sL_ne (by omega)]; exact u8 t ht) (f8.tr (Fr.sL (by omega) (by omega))) k8))
                                                            · first
                                                              | (omega; done)
                                                              | (
                                                                  have c82 : p < ν := c82
                                                                  refine r_aload_n C (dx dX7_copy 110 rfl) rfl ?_
                                                                  refine g_X7_24 C (dx dX7_copy 111 rfl) ?_
                                                                  refine r_iload C (dx dX7_copy 112 rfl) rfl ?_
                                                                  refine r_aload_n C (dx dX7_copy 113 rfl) rfl ?_
                                                                  refine g_X7_21 C (dx dX7_copy 114 rfl) ?_
                                                                  refine r_iload_n C (dx dX7_copy 115 rfl) rfl ?_
                                                                  refine r_aald5 (j := π) C rfl rfl (by decide) rfl (by omega) (dx dX7_copy 116 rfl) ?_
                                                                  refine r_iload_n C (dx dX7_copy 117 rfl) rfl ?_
                                                                  refine r_iload C (dx dX7_copy 118 rfl) rfl ?_
                                                                  refine rn_iadd (a := ι) (b := p) C (dx dX7_copy 119 rfl) ?_
                                                                  refine r_lald (j := ι + p) (x := gE g π (ι + p)) C rfl rfl (by decide) rfl (by omega) (dx dX7_copy 120 rfl) ((f9.L (by omega) _).trans (a81 _ (by omega))) ?_
                                                                  refine r_last (j := p) C rfl rfl (by decide) rfl (by omega) (dx dX7_copy 121 rfl) ?_
                                                                  refine rn_iinc (a := p) (k := 1) (ls' := [(0, vr 7 k), (1, vi (nI π)), (2, vi (nI θ)), (3, vi (nI ι)), (4, vi (nI ξ)), (5, vi (nI ν)), (6, vi (nI (p + 1)))]) C (dx dX7_copy 122 rfl) rfl rfl (by decide) [1, 2, 3, 4, 5, 6, 0] rfl ?_
                                                                  refine r_goto (tgt := 191) C (dx dX7_copy 123 rfl) (by decide) ?_
                                                                  exact ih _ (fun t ht => by rw [sL_at]; split; (next e => rw [e]); exact q9 t (by omega)) (f9.tr (Fr.sL (by omega) (by omega))) k9))
                                                    · first
                                                      | (omega; done)
                                                      | (
                                                          have c78 : ν2 - ν < ξ := c78
                                                          refine r_aload_n C (dx dX7_copy 101 rfl) rfl ?_
                                                          refine r_bipush (v := -2) C (dx dX7_copy 102 rfl) rfl ?_
                                                          refine r_cv (as := [vi (-2)]) (st := []) C X I_X7_refuse l_X7_83 (e_refuse hm (x := -2) (j := 2) (by decide) (by decide)) (by decide) (Nat.le_of_ble_eq_true rfl) List.prefix_rfl List.prefix_rfl rfl rfl (Nat.le_of_ble_eq_true rfl) rfl (dx dX7_copy 103 rfl) ?_
                                                          rintro _ h85 ⟨rfl, m9h85, qh85⟩ kkh85
                                                          have mh85 : MilAt h85 k v := m9h85
                                                          have ph85 : Kp k h h85 := qh85
                                                          have kh85 : xK h85 = xK h := kkh85
                                                          have eA : copA g (nI π) (nI θ) (nI ι) (nI ξ) (nI ν) = -2 := by (have hq : ¬ (ι + ν ≤ ν1 ∧ ξ + ν ≤ ν2) := by omega); (have hq2 := cp_row e31 e32 (i := ι) (j := ξ) (n := ν) (by omega) (by omega) (by omega) (by omega) (by omega)); rw [decide_eq_false hq] at hq2; simp [copA, copG, copF, c1, c3, c60, c62, c63, c66, c68, c70, c72, c74, c76, c78, e01, e11, e21, e31, e41, e51, e61, e02, e12, e22, e32, e42, e52, e62, clN (show π < 2 ^ 31 by omega), clN (show θ < 2 ^ 31 by omega), clN (show ν < 2 ^ 31 by omega), clN (show ι < 2 ^ 31 by omega), clN (show ξ < 2 ^ 31 by omega), inR_nI (show π < 2 ^ 31 by omega), inR_nI (show θ < 2 ^ 31 by omega), inR_nI (show ν < 2 ^ 31 by omega), inR_nI (show ι < 2 ^ 31 by omega), inR_nI (show ξ < 2 ^ 31 by omega), hq2, show π < 8 by omega, show θ < 8 by omega, nI_eq (show τ1 < 2 ^ 31 by omega) (show τ2 < 2 ^ 31 by omega)]
                                                          have eG : copG g (nI π) (nI θ) (nI ι) (nI ξ) (nI ν) = g := by (have hq : ¬ (ι + ν ≤ ν1 ∧ ξ + ν ≤ ν2) := by omega); (have hq2 := cp_row e31 e32 (i := ι) (j := ξ) (n := ν) (by omega) (by omega) (by omega) (by omega) (by omega)); rw [decide_eq_false hq] at hq2; simp [copA, copG, copF, c1, c3, c60, c62, c63, c66, c68, c70, c72, c74, c76, c78, e01, e11, e21, e31, e41, e51, e61, e02, e12, e22, e32, e42, e52, e62, clN (show π < 2 ^ 31 by omega), clN (show θ < 2 ^ 31 by omega), clN (show ν < 2 ^ 31 by omega), clN (show ι < 2 ^ 31 by omega), clN (show ξ < 2 ^ 31 by omega), inR_nI (show π < 2 ^ 31 by omega), inR_nI (show θ < 2 ^ 31 by omega), inR_nI (show ν < 2 ^ 31 by omega), inR_nI (show ι < 2 ^ 31 by omega), inR_nI (show ξ < 2 ^ 31 by omega), hq2, show π < 8 by omega, show θ < 8 by omega, nI_eq (show τ1 < 2 ^ 31 by omega) (show τ2 < 2 ^ 31 by omega)]
                                                          exact F.1 _ _ _ _ _ rfl rfl (dx dX7_copy 104 rfl) kh85 (show some (vi (-2)) = some (vi (copA g (nI π) (nI θ) (nI ι) (nI ξ) (nI ν))) ∧ MilAt h85 k v ∧ MshAt h85 k (copG g (nI π) (nI θ) (nI ι) (nI ξ) (nI ν)) ∧ Kt k h h85 from by rw [eA, eG]; exact ⟨rfl, mh85, hs.kp ph85, ph85.kt⟩))))))
                      · first
                        | (omega; done)
                        | (
                            have c63 : 1 = 1 := c63
                            refine r_aload_n C (dx dX7_copy 34 rfl) rfl ?_
                            refine g_X7_7 C (dx dX7_copy 35 rfl) ?_
                            refine r_iload_n C (dx dX7_copy 36 rfl) rfl ?_
                            refine r_iald (j := θ) (x := nI 1) C rfl rfl (by decide) rfl (by omega) (dx dX7_copy 37 rfl) a32 ?_
                            refine r_iconst (v := nI 1) C (dx dX7_copy 38 rfl) rfl ?_
                            refine rn_ne (a := 1) (b := 1) (tgt := 93) C (by omega) (by omega) (dx dX7_copy 39 rfl) (by decide) (fun c86 => ?_) (fun c86 => ?_)
                            ·
                              have c86 : ¬ 1 = 1 := c86
                              exact absurd c63 c86
                            · first
                              | (omega; done)
                              | (
                                  have c86 : 1 = 1 := c86
                                  refine r_aload_n C (dx dX7_copy 40 rfl) rfl ?_
                                  refine g_X7_13 C (dx dX7_copy 41 rfl) ?_
                                  refine r_iload_n C (dx dX7_copy 42 rfl) rfl ?_
                                  refine r_iald (j := π) (x := nI τ1) C rfl rfl (by decide) rfl (by omega) (dx dX7_copy 43 rfl) a41 ?_
                                  refine r_aload_n C (dx dX7_copy 44 rfl) rfl ?_
                                  refine g_X7_13 C (dx dX7_copy 45 rfl) ?_
                                  refine r_iload_n C (dx dX7_copy 46 rfl) rfl ?_
                                  refine r_iald (j := θ) (x := nI τ2) C rfl rfl (by decide) rfl (by omega) (dx dX7_copy 47 rfl) a42 ?_
                                  refine rn_eq (a := τ1) (b := τ2) (tgt := 93) C (by omega) (by omega) (dx dX7_copy 48 rfl) (by decide) (fun c87 => ?_) (fun c87 => ?_)
                                  · first
                                    | (omega; done)
                                    | (
                                        have c87 : τ1 = τ2 := c87
                                        refine r_aload_n C (dx dX7_copy 53 rfl) rfl ?_
                                        refine g_X7_7 C (dx dX7_copy 54 rfl) ?_
                                        refine r_iload_n C (dx dX7_copy 55 rfl) rfl ?_
                                        refine r_iald (j := π) (x := nI 1) C rfl rfl (by decide) rfl (by omega) (dx dX7_copy 56 rfl) a31 ?_
                                        refine r_if_eq (tgt := 111) C (dx dX7_copy 57 rfl) (by decide) (fun c88 => (show False from by revert c88; decide).elim) (fun _ => ?_)
                                        refine r_aload_n C (dx dX7_copy 58 rfl) rfl ?_
                                        refine g_X7_7 C (dx dX7_copy 59 rfl) ?_
                                        refine r_iload_n C (dx dX7_copy 60 rfl) rfl ?_
                                        refine r_iald (j := θ) (x := nI 1) C rfl rfl (by decide) rfl (by omega) (dx dX7_copy 61 rfl) a32 ?_
                                        refine r_if_ne (tgt := 118) C (dx dX7_copy 62 rfl) (by decide) (fun _ => ?_) (fun c89 => (show False from by revert c89; decide).elim)
                                        refine r_iload C (dx dX7_copy 67 rfl) rfl ?_
                                        refine r_if_lt (tgt := 181) C (dx dX7_copy 68 rfl) (by decide) (fun c90 => ?_) (fun c90 => ?_)
                                        ·
                                          have c90 : n < 0 := c90
                                          refine r_aload_n C (dx dX7_copy 101 rfl) rfl ?_
                                          refine r_bipush (v := -2) C (dx dX7_copy 102 rfl) rfl ?_
                                          refine r_cv (as := [vi (-2)]) (st := []) C X I_X7_refuse l_X7_83 (e_refuse hm (x := -2) (j := 2) (by decide) (by decide)) (by decide) (Nat.le_of_ble_eq_true rfl) List.prefix_rfl List.prefix_rfl rfl rfl (Nat.le_of_ble_eq_true rfl) rfl (dx dX7_copy 103 rfl) ?_
                                          rintro _ h91 ⟨rfl, m9h91, qh91⟩ kkh91
                                          have mh91 : MilAt h91 k v := m9h91
                                          have ph91 : Kp k h h91 := qh91
                                          have kh91 : xK h91 = xK h := kkh91
                                          have eA : copA g (nI π) (nI θ) i j n = -2 := by simp [copA, copG, copF, cpOk, c1, c3, c60, c62, c63, c86, c87, (fun n9 => inR_neg (n := n9) c90 : ∀ n9, inR n n9 = false), c90, e01, e11, e21, e31, e41, e51, e61, e02, e12, e22, e32, e42, e52, e62, clN (show π < 2 ^ 31 by omega), clN (show θ < 2 ^ 31 by omega), inR_nI (show π < 2 ^ 31 by omega), inR_nI (show θ < 2 ^ 31 by omega), show π < 8 by omega, show θ < 8 by omega, nI_eq (show τ1 < 2 ^ 31 by omega) (show τ2 < 2 ^ 31 by omega)]
                                          have eG : copG g (nI π) (nI θ) i j n = g := by simp [copA, copG, copF, cpOk, c1, c3, c60, c62, c63, c86, c87, (fun n9 => inR_neg (n := n9) c90 : ∀ n9, inR n n9 = false), c90, e01, e11, e21, e31, e41, e51, e61, e02, e12, e22, e32, e42, e52, e62, clN (show π < 2 ^ 31 by omega), clN (show θ < 2 ^ 31 by omega), inR_nI (show π < 2 ^ 31 by omega), inR_nI (show θ < 2 ^ 31 by omega), show π < 8 by omega, show θ < 8 by omega, nI_eq (show τ1 < 2 ^ 31 by omega) (show τ2 < 2 ^ 31 by omega)]
                                          exact F.1 _ _ _ _ _ rfl rfl (dx dX7_copy 104 rfl) kh91 (show some (vi (-2)) = some (vi (copA g (nI π) (nI θ) i j n)) ∧ MilAt h91 k v ∧ MshAt h91 k (copG g (nI π) (nI θ) i j n) ∧ Kt k h h91 from by rw [eA, eG]; exact ⟨rfl, mh91, hs.kp ph91, ph91.kt⟩)
                                        ·
                                          have c90 : ¬ n < 0 := c90
                                          obtain ⟨ν, hν, rfl⟩ := nI_of c90
                                          refine r_iload_n C (dx dX7_copy 69 rfl) rfl ?_
                                          refine r_if_lt (tgt := 181) C (dx dX7_copy 70 rfl) (by decide) (fun c92 => ?_) (fun c92 => ?_)
                                          ·
                                            have c92 : i < 0 := c92
                                            refine r_aload_n C (dx dX7_copy 101 rfl) rfl ?_
                                            refine r_bipush (v := -2) C (dx dX7_copy 102 rfl) rfl ?_
                                            refine r_cv (as := [vi (-2)]) (st := []) C X I_X7_refuse l_X7_83 (e_refuse hm (x := -2) (j := 2) (by decide) (by decide)) (by decide) (Nat.le_of_ble_eq_true rfl) List.prefix_rfl List.prefix_rfl rfl rfl (Nat.le_of_ble_eq_true rfl) rfl (dx dX7_copy 103 rfl) ?_
                                            rintro _ h93 ⟨rfl, m9h93, qh93⟩ kkh93
                                            have mh93 : MilAt h93 k v := m9h93
                                            have ph93 : Kp k h h93 := qh93
                                            have kh93 : xK h93 = xK h := kkh93
                                            have eA : copA g (nI π) (nI θ) i j (nI ν) = -2 := by simp [copA, copG, copF, cpOk, c1, c3, c60, c62, c63, c86, c87, c90, (fun n9 => inR_neg (n := n9) c92 : ∀ n9, inR i n9 = false), c92, e01, e11, e21, e31, e41, e51, e61, e02, e12, e22, e32, e42, e52, e62, clN (show π < 2 ^ 31 by omega), clN (show θ < 2 ^ 31 by omega), clN (show ν < 2 ^ 31 by omega), inR_nI (show π < 2 ^ 31 by omega), inR_nI (show θ < 2 ^ 31 by omega), inR_nI (show ν < 2 ^ 31 by omega), show π < 8 by omega, show θ < 8 by omega, nI_eq (show τ1 < 2 ^ 31 by omega) (show τ2 < 2 ^ 31 by omega)]
                                            have eG : copG g (nI π) (nI θ) i j (nI ν) = g := by simp [copA, copG, copF, cpOk, c1, c3, c60, c62, c63, c86, c87, c90, (fun n9 => inR_neg (n := n9) c92 : ∀ n9, inR i n9 = false), c92, e01, e11, e21, e31, e41, e51, e61, e02, e12, e22, e32, e42, e52, e62, clN (show π < 2 ^ 31 by omega), clN (show θ < 2 ^ 31 by omega), clN (show ν < 2 ^ 31 by omega), inR_nI (show π < 2 ^ 31 by omega), inR_nI (show θ < 2 ^ 31 by omega), inR_nI (show ν < 2 ^ 31 by omega), show π < 8 by omega, show θ < 8 by omega, nI_eq (show τ1 < 2 ^ 31 by omega) (show τ2 < 2 ^ 31 by omega)]
                                            exact F.1 _ _ _ _ _ rfl rfl (dx dX7_copy 104 rfl) kh93 (show some (vi (-2)) = some (vi (copA g (nI π) (nI θ) i j (nI ν))) ∧ MilAt h93 k v ∧ MshAt h93 k (copG g (nI π) (nI θ) i j (nI ν)) ∧ Kt k h h93 from by rw [eA, eG]; exact ⟨rfl, mh93, hs.kp ph93, ph93.kt⟩)
                                          ·
                                            have c92 : ¬ i < 0 := c92
                                            obtain ⟨ι, hι, rfl⟩ := nI_of c92
                                            refine r_iload C (dx dX7_copy 71 rfl) rfl ?_
                                            refine r_if_lt (tgt := 181) C (dx dX7_copy 72 rfl) (by decide) (fun c94 => ?_) (fun c94 => ?_)
                                            ·
                                              have c94 : j < 0 := c94
                                              refine r_aload_n C (dx dX7_copy 101 rfl) rfl ?_
                                              refine r_bipush (v := -2) C (dx dX7_copy 102 rfl) rfl ?_
                                              refine r_cv (as := [vi (-2)]) (st := []) C X I_X7_refuse l_X7_83 (e_refuse hm (x := -2) (j := 2) (by decide) (by decide)) (by decide) (Nat.le_of_ble_eq_true rfl) List.prefix_rfl List.prefix_rfl rfl rfl (Nat.le_of_ble_eq_true rfl) rfl (dx dX7_copy 103 rfl) ?_
                                              rintro _ h95 ⟨rfl, m9h95, qh95⟩ kkh95
                                              have mh95 : MilAt h95 k v := m9h95
                                              have ph95 : Kp k h h95 := qh95
                                              have kh95 : xK h95 = xK h := kkh95
                                              have eA : copA g (nI π) (nI θ) (nI ι) j (nI ν) = -2 := by simp [copA, copG, copF, cpOk, c1, c3, c60, c62, c63, c86, c87, c90, c92, (fun n9 => inR_neg (n := n9) c94 : ∀ n9, inR j n9 = false), c94, e01, e11, e21, e31, e41, e51, e61, e02, e12, e22, e32, e42, e52, e62, clN (show π < 2 ^ 31 by omega), clN (show θ < 2 ^ 31 by omega), clN (show ν < 2 ^ 31 by omega), clN (show ι < 2 ^ 31 by omega), inR_nI (show π < 2 ^ 31 by omega), inR_nI (show θ < 2 ^ 31 by omega), inR_nI (show ν < 2 ^ 31 by omega), inR_nI (show ι < 2 ^ 31 by omega), show π < 8 by omega, show θ < 8 by omega, nI_eq (show τ1 < 2 ^ 31 by omega) (show τ2 < 2 ^ 31 by omega)]
                                              have eG : copG g (nI π) (nI θ) (nI ι) j (nI ν) = g := by simp [copA, copG, copF, cpOk, c1, c3, c60, c62, c63, c86, c87, c90, c92, (fun n9 => inR_neg (n := n9) c94 : ∀ n9, inR j n9 = false), c94, e01, e11, e21, e31, e41, e51, e61, e02, e12, e22, e32, e42, e52, e62, clN (show π < 2 ^ 31 by omega), clN (show θ < 2 ^ 31 by omega), clN (show ν < 2 ^ 31 by omega), clN (show ι < 2 ^ 31 by omega), inR_nI (show π < 2 ^ 31 by omega), inR_nI (show θ < 2 ^ 31 by omega), inR_nI (show ν < 2 ^ 31 by omega), inR_nI (show ι < 2 ^ 31 by omega), show π < 8 by omega, show θ < 8 by omega, nI_eq (show τ1 < 2 ^ 31 by omega) (show τ2 < 2 ^ 31 by omega)]
                                              exact F.1 _ _ _ _ _ rfl rfl (dx dX7_copy 104 rfl) kh95 (show some (vi (-2)) = some (vi (copA g (nI π) (nI θ) (nI ι) j (nI ν))) ∧ MilAt h95 k v ∧ MshAt h95 k (copG g (nI π) (nI θ) (nI ι) j (nI ν)) ∧ Kt k h h95 from by rw [eA, eG]; exact ⟨rfl, mh95, hs.kp ph95, ph95.kt⟩)
                                            ·
                                              have c94 : ¬ j < 0 := c94
                                              obtain ⟨ξ, hξ, rfl⟩ := nI_of c94
                                              refine r_iload C (dx dX7_copy 73 rfl) rfl ?_
                                              refine r_aload_n C (dx dX7_copy 74 rfl) rfl ?_
                                              refine g_X7_16 C (dx dX7_copy 75 rfl) ?_
                                              refine r_iload_n C (dx dX7_copy 76 rfl) rfl ?_
                                              refine r_iald (j := π) (x := nI ν1) C rfl rfl (by decide) rfl (by omega) (dx dX7_copy 77 rfl) a51 ?_
                                              refine rn_gt (a := ν) (b := ν1) (tgt := 181) C (by omega) (by omega) (dx dX7_copy 78 rfl) (by decide) (fun c96 => ?_) (fun c96 => ?_)
                                              · first
                                                | (omega; done)
                                                | (
                                                    have c96 : ν1 < ν := c96
                                                    refine r_aload_n C (dx dX7_copy 101 rfl) rfl ?_
                                                    refine r_bipush (v := -2) C (dx dX7_copy 102 rfl) rfl ?_
                                                    refine r_cv (as := [vi (-2)]) (st := []) C X I_X7_refuse l_X7_83 (e_refuse hm (x := -2) (j := 2) (by decide) (by decide)) (by decide) (Nat.le_of_ble_eq_true rfl) List.prefix_rfl List.prefix_rfl rfl rfl (Nat.le_of_ble_eq_true rfl) rfl (dx dX7_copy 103 rfl) ?_
                                                    rintro _ h97 ⟨rfl, m9h97, qh97⟩ kkh97
                                                    have mh97 : MilAt h97 k v := m9h97
                                                    have ph97 : Kp k h h97 := qh97
                                                    have kh97 : xK h97 = xK h := kkh97
                                                    have eA : copA g (nI π) (nI θ) (nI ι) (nI ξ) (nI ν) = -2 := by (have hq : ¬ (ι + ν ≤ ν1 ∧ ξ + ν ≤ ν2) := by omega); (have hq2 := cp_row e31 e32 (i := ι) (j := ξ) (n := ν) (by omega) (by omega) (by omega) (by omega) (by omega)); rw [decide_eq_false hq] at hq2; simp [copA, copG, copF, c1, c3, c60, c62, c63, c86, c87, c90, c92, c94, c96, e01, e11, e21, e31, e41, e51, e61, e02, e12, e22, e32, e42, e52, e62, clN (show π < 2 ^ 31 by omega), clN (show θ < 2 ^ 31 by omega), clN (show ν < 2 ^ 31 by omega), clN (show ι < 2 ^ 31 by omega), clN (show ξ < 2 ^ 31 by omega), inR_nI (show π < 2 ^ 31 by omega), inR_nI (show θ < 2 ^ 31 by omega), inR_nI (show ν < 2 ^ 31 by omega), inR_nI (show ι < 2 ^ 31 by omega), inR_nI (show ξ < 2 ^ 31 by omega), hq2, show π < 8 by omega, show θ < 8 by omega, nI_eq (show τ1 < 2 ^ 31 by omega) (show τ2 < 2 ^ 31 by omega)]
                                                    have eG : copG g (nI π) (nI θ) (nI ι) (nI ξ) (nI ν) = g := by (have hq : ¬ (ι + ν ≤ ν1 ∧ ξ + ν ≤ ν2) := by omega); (have hq2 := cp_row e31 e32 (i := ι) (j := ξ) (n := ν) (by omega) (by omega) (by omega) (by omega) (by omega)); rw [decide_eq_false hq] at hq2; simp [copA, copG, copF, c1, c3, c60, c62, c63, c86, c87, c90, c92, c94, c96, e01, e11, e21, e31, e41, e51, e61, e02, e12, e22, e32, e42, e52, e62, clN (show π < 2 ^ 31 by omega), clN (show θ < 2 ^ 31 by omega), clN (show ν < 2 ^ 31 by omega), clN (show ι < 2 ^ 31 by omega), clN (show ξ < 2 ^ 31 by omega), inR_nI (show π < 2 ^ 31 by omega), inR_nI (show θ < 2 ^ 31 by omega), inR_nI (show ν < 2 ^ 31 by omega), inR_nI (show ι < 2 ^ 31 by omega), inR_nI (show ξ < 2 ^ 31 by omega), hq2, show π < 8 by omega, show θ < 8 by omega, nI_eq (show τ1 < 2 ^ 31 by omega) (show τ2 < 2 ^ 31 by omega)]
                                                    exact F.1 _ _ _ _ _ rfl rfl (dx dX7_copy 104 rfl) kh97 (show some (vi (-2)) = some (vi (copA g (nI π) (nI θ) (nI ι) (nI ξ) (nI ν))) ∧ MilAt h97 k v ∧ MshAt h97 k (copG g (nI π) (nI θ) (nI ι) (nI ξ) (nI ν)) ∧ Kt k h h97 from by rw [eA, eG]; exact ⟨rfl, mh97, hs.kp ph97, ph97.kt⟩))
                                              · first
                                                | (omega; done)
                                                | (
                                                    have c96 : ν ≤ ν1 := c96
                                                    refine r_iload C (dx dX7_copy 79 rfl) rfl ?_
                                                    refine r_aload_n C (dx dX7_copy 80 rfl) rfl ?_
                                                    refine g_X7_16 C (dx dX7_copy 81 rfl) ?_
                                                    refine r_iload_n C (dx dX7_copy 82 rfl) rfl ?_
                                                    refine r_iald (j := θ) (x := nI ν2) C rfl rfl (by decide) rfl (by omega) (dx dX7_copy 83 rfl) a52 ?_
                                                    refine rn_gt (a := ν) (b := ν2) (tgt := 181) C (by omega) (by omega) (dx dX7_copy 84 rfl) (by decide) (fun c98 => ?_) (fun c98 => ?_)
                                                    · first
                                                      | (omega; done)
                                                      | (
                                                          have c98 : ν2 < ν := c98
                                                          refine r_aload_n C (dx dX7_copy 101 rfl) rfl ?_
                                                          refine r_bipush (v := -2) C (dx dX7_copy 102 rfl) rfl ?_
                                                          refine r_cv (as := [vi (-2)]) (st := []) C X I_X7_refuse l_X7_83 (e_refuse hm (x := -2) (j := 2) (by decide) (by decide)) (by decide) (Nat.le_of_ble_eq_true rfl) List.prefix_rfl List.prefix_rfl rfl rfl (Nat.le_of_ble_eq_true rfl) rfl (dx dX7_copy 103 rfl) ?_
                                                          rintro _ h99 ⟨rfl, m9h99, qh99⟩ kkh99
                                                          have mh99 : MilAt h99 k v := m9h99
                                                          have ph99 : Kp k h h99 := qh99
                                                          have kh99 : xK h99 = xK h := kkh99
                                                          have eA : copA g (nI π) (nI θ) (nI ι) (nI ξ) (nI ν) = -2 := by (have hq : ¬ (ι + ν ≤ ν1 ∧ ξ + ν ≤ ν2) := by omega); (have hq2 := cp_row e31 e32 (i := ι) (j := ξ) (n := ν) (by omega) (by omega) (by omega) (by omega) (by omega)); rw [decide_eq_false hq] at hq2; simp [copA, copG, copF, c1, c3, c60, c62, c63, c86, c87, c90, c92, c94, c96, c98, e01, e11, e21, e31, e41, e51, e61, e02, e12, e22, e32, e42, e52, e62, clN (show π < 2 ^ 31 by omega), clN (show θ < 2 ^ 31 by omega), clN (show ν < 2 ^ 31 by omega), clN (show ι < 2 ^ 31 by omega), clN (show ξ < 2 ^ 31 by omega), inR_nI (show π < 2 ^ 31 by omega), inR_nI (show θ < 2 ^ 31 by omega), inR_nI (show ν < 2 ^ 31 by omega), inR_nI (show ι < 2 ^ 31 by omega), inR_nI (show ξ < 2 ^ 31 by omega), hq2, show π < 8 by omega, show θ < 8 by omega, nI_eq (show τ1 < 2 ^ 31 by omega) (show τ2 < 2 ^ 31 by omega)]
                                                          have eG : copG g (nI π) (nI θ) (nI ι) (nI ξ) (nI ν) = g := by (have hq : ¬ (ι + ν ≤ ν1 ∧ ξ + ν ≤ ν2) := by omega); (have hq2 := cp_row e31 e32 (i := ι) (j := ξ) (n := ν) (by omega) (by omega) (by omega) (by omega) (by omega)); rw [decide_eq_false hq] at hq2; simp [copA, copG, copF, c1, c3, c60, c62, c63, c86, c87, c90, c92, c94, c96, c98, e01, e11, e21, e31, e41, e51, e61, e02, e12, e22, e32, e42, e52, e62, clN (show π < 2 ^ 31 by omega), clN (show θ < 2 ^ 31 by omega), clN (show ν < 2 ^ 31 by omega), clN (show ι < 2 ^ 31 by omega), clN (show ξ < 2 ^ 31 by omega), inR_nI (show π < 2 ^ 31 by omega), inR_nI (show θ < 2 ^ 31 by omega), inR_nI (show ν < 2 ^ 31 by omega), inR_nI (show ι < 2 ^ 31 by omega), inR_nI (show ξ < 2 ^ 31 by omega), hq2, show π < 8 by omega, show θ < 8 by omega, nI_eq (show τ1 < 2 ^ 31 by omega) (show τ2 < 2 ^ 31 by omega)]
                                                          exact F.1 _ _ _ _ _ rfl rfl (dx dX7_copy 104 rfl) kh99 (show some (vi (-2)) = some (vi (copA g (nI π) (nI θ) (nI ι) (nI ξ) (nI ν))) ∧ MilAt h99 k v ∧ MshAt h99 k (copG g (nI π) (nI θ) (nI ι) (nI ξ) (nI ν)) ∧ Kt k h h99 from by rw [eA, eG]; exact ⟨rfl, mh99, hs.kp ph99, ph99.kt⟩))
                                                    · first
                                                      | (omega; done)
                                                      | (
                                                          have c98 : ν ≤ ν2 := c98
                                                          refine r_iload_n C (dx dX7_copy 85 rfl) rfl ?_
                                                          refine r_aload_n C (dx dX7_copy 86 rfl) rfl ?_
                                                          refine g_X7_16 C (dx dX7_copy 87 rfl) ?_
                                                          refine r_iload_n C (dx dX7_copy 88 rfl) rfl ?_
                                                          refine r_iald (j := π) (x := nI ν1) C rfl rfl (by decide) rfl (by omega) (dx dX7_copy 89 rfl) a51 ?_
                                                          refine r_iload C (dx dX7_copy 90 rfl) rfl ?_
                                                          refine rn_isub (a := ν1) (b := ν) C (by omega) (dx dX7_copy 91 rfl) ?_
                                                          refine rn_gt (a := ι) (b := ν1 - ν) (tgt := 181) C (by omega) (by omega) (dx dX7_copy 92 rfl) (by decide) (fun c100 => ?_) (fun c100 => ?_)
                                                          · first
                                                            | (omega; done)
                                                            | (
                                                                have c100 : ν1 - ν < ι := c100
                                                                refine r_aload_n C (dx dX7_copy 101 rfl) rfl ?_
                                                                refine r_bipush (v := -2) C (dx dX7_copy 102 rfl) rfl ?_
                                                                refine r_cv (as := [vi (-2)]) (st := []) C X I_X7_refuse l_X7_83 (e_refuse hm (x := -2) (j := 2) (by decide) (by decide)) (by decide) (Nat.le_of_ble_eq_true rfl) List.prefix_rfl List.prefix_rfl rfl rfl (Nat.le_of_ble_eq_true rfl) rfl (dx dX7_copy 103 rfl) ?_
                                                                rintro _ h101 ⟨rfl, m9h101, qh101⟩ kkh101
                                                                have mh101 : MilAt h101 k v := m9h101
                                                                have ph101 : Kp k h h101 := qh101
                                                                have kh101 : xK h101 = xK h := kkh101
                                                                have eA : copA g (nI π) (nI θ) (nI ι) (nI ξ) (nI ν) = -2 := by (have hq : ¬ (ι + ν ≤ ν1 ∧ ξ + ν ≤ ν2) := by omega); (have hq2 := cp_row e31 e32 (i := ι) (j := ξ) (n := ν) (by omega) (by omega) (by omega) (by omega) (by omega)); rw [decide_eq_false hq] at hq2; simp [copA, copG, copF, c1, c3, c60, c62, c63, c86, c87, c90, c92, c94, c96, c98, c100, e01, e11, e21, e31, e41, e51, e61, e02, e12, e22, e32, e42, e52, e62, clN (show π < 2 ^ 31 by omega), clN (show θ < 2 ^ 31 by omega), clN (show ν < 2 ^ 31 by omega), clN (show ι < 2 ^ 31 by omega), clN (show ξ < 2 ^ 31 by omega), inR_nI (show π < 2 ^ 31 by omega), inR_nI (show θ < 2 ^ 31 by omega), inR_nI (show ν < 2 ^ 31 by omega), inR_nI (show ι < 2 ^ 31 by omega), inR_nI (show ξ < 2 ^ 31 by omega), hq2, show π < 8 by omega, show θ < 8 by omega, nI_eq (show τ1 < 2 ^ 31 by omega) (show τ2 < 2 ^ 31 by omega)]
                                                                have eG : copG g (nI π) (nI θ) (nI ι) (nI ξ) (nI ν) = g := by (have hq : ¬ (ι + ν ≤ ν1 ∧ ξ + ν ≤ ν2) := by omega); (have hq2 := cp_row e31 e32 (i := ι) (j := ξ) (n := ν) (by omega) (by omega) (by omega) (by omega) (by omega)); rw [decide_eq_false hq] at hq2; simp [copA, copG, copF, c1, c3, c60, c62, c63, c86, c87, c90, c92, c94, c96, c98, c100, e01, e11, e21, e31, e41, e51, e61, e02, e12, e22, e32, e42, e52, e62, clN (show π < 2 ^ 31 by omega), clN (show θ < 2 ^ 31 by omega), clN (show ν < 2 ^ 31 by omega), clN (show ι < 2 ^ 31 by omega), clN (show ξ < 2 ^ 31 by omega), inR_nI (show π < 2 ^ 31 by omega), inR_nI (show θ < 2 ^ 31 by omega), inR_nI (show ν < 2 ^ 31 by omega), inR_nI (show ι < 2 ^ 31 by omega), inR_nI (show ξ < 2 ^ 31 by omega), hq2, show π < 8 by omega, show θ < 8 by omega, nI_eq (show τ1 < 2 ^ 31 by omega) (show τ2 < 2 ^ 31 by omega)]
                                                                exact F.1 _ _ _ _ _ rfl rfl (dx dX7_copy 104 rfl) kh101 (show some (vi (-2)) = some (vi (copA g (nI π) (nI θ) (nI ι) (nI ξ) (nI ν))) ∧ MilAt h101 k v ∧ MshAt h101 k (copG g (nI π) (nI θ) (nI ι) (nI ξ) (nI ν)) ∧ Kt k h h101 from by rw [eA, eG]; exact ⟨rfl, mh101, hs.kp ph101, ph101.kt⟩))
                                                          · first
                                                            | (omega; done)
                                                            | (
                                                                have c100 : ι ≤ ν1 - ν := c100
                                                                refine r_iload C (dx dX7_copy 93 rfl) rfl ?_
                                                                refine r_aload_n C (dx dX7_copy 94 rfl) rfl ?_
                                                                refine g_X7_16 C (dx dX7_copy 95 rfl) ?_
                                                                refine r_iload_n C (dx dX7_copy 96 rfl) rfl ?_
                                                                refine r_iald (j := θ) (x := nI ν2) C rfl rfl (by decide) rfl (by omega) (dx dX7_copy 97 rfl) a52 ?_
                                                                refine r_iload C (dx dX7_copy 98 rfl) rfl ?_
                                                                refine rn_isub (a := ν2) (b := ν) C (by omega) (dx dX7_copy 99 rfl) ?_
                                                                refine rn_le (a := ξ) (b := ν2 - ν) (tgt := 188) C (by omega) (by omega) (dx dX7_copy 100 rfl) (by decide) (fun c102 => ?_) (fun c102 => ?_)
                                                                · first
                                                                  | (omega; done)
                                                                  | (
                                                                      have c102 : ξ ≤ ν2 - ν := c102
                                                                      refine r_iconst (v := nI 0) C (dx dX7_copy 105 rfl) rfl ?_
                                                                      refine r_istore (ls' := [(0, vr 7 k), (1, vi (nI π)), (2, vi (nI θ)), (3, vi (nI ι)), (4, vi (nI ξ)), (5, vi (nI ν)), (6, vi (nI 0))]) C (dx dX7_copy 106 rfl) (by decide) [1, 2, 3, 4, 5, 6, 0] rfl ?_
                                                                      refine loopU (Φ := fun p => ∀ h9, (∀ t, t < p → xL h9 (k + 13) t = gE g π (ι + t)) → Fr (k + 13) (k + 14) h h9 → xK h9 = xK h → Rr G 191 [(0, vr 7 k), (1, vi (nI π)), (2, vi (nI θ)), (3, vi (nI ι)), (4, vi (nI ξ)), (5, vi (nI ν)), (6, vi (nI p))] [] h9) (N := ν) ?_ ?_ 0 (by omega) _ (fun i hi => absurd hi (by omega)) Fr.rf rfl
                                                                      ·
                                                                        intro h9 q9 f9 k9
                                                                        refine r_iload C (dx dX7_copy 107 rfl) rfl ?_
                                                                        refine r_iload C (dx dX7_copy 108 rfl) rfl ?_
                                                                        refine rn_ge (a := ν) (b := ν) (tgt := 222) C (by omega) (by omega) (dx dX7_copy 109 rfl) (by decide) (fun c103 => ?_) (fun c103 => ?_)
                                                                        · first
                                                                          | (omega; done)
                                                                          | (
                                                                              have c103 : ν ≤ ν := c103
                                                                              refine r_iconst (v := nI 0) C (dx dX7_copy 124 rfl) rfl ?_
                                                                              refine r_istore (ls' := [(0, vr 7 k), (1, vi (nI π)), (2, vi (nI θ)), (3, vi (nI ι)), (4, vi (nI ξ)), (5, vi (nI ν)), (6, vi (nI 0))]) C (dx dX7_copy 125 rfl) (by decide) [1, 2, 3, 4, 5, 6, 0] rfl ?_
                                                                              have r9 := MsR.fr (show MsR h k g θ from ⟨_, _, a12, a22, a32, a42, a52, a62, a72, a82⟩) hθ f9
                                                                              refine loopU (Φ := fun p => ∀ h8, (∀ i, i < 40 → xL h8 (k + 5 + θ) i = if ξ ≤ i ∧ i < ξ + p then gE g π (ι + (i - ξ)) else gE g θ i) → (∀ t, t < ν → xL h8 (k + 13) t = gE g π (ι + t)) → Fr (k + 5 + θ) (k + 5 + θ + 1) h9 h8 → xK h8 = xK h → Rr G 225 [(0, vr 7 k), (1, vi (nI π)), (2, vi (nI θ)), (3, vi (nI ι)), (4, vi (nI ξ)), (5, vi (nI ν)), (6, vi (nI p))] [] h8) (N := ν) ?_ ?_ 0 (by omega) _ (fun i hi => by rw [if_neg (by omega), f9.L (by omega)]; exact a82 i hi) q9 Fr.rf k9
                                                                              ·
                                                                                intro h8 q8 u8 f8 k8
                                                                                have s9 : MshAt h8 k (pCp g π θ ι ξ ν) := msh_els (hs.mv f9) hθ r9 f8 (fun i hi => by rw [q8 i hi]; rfl)
                                                                                have g9 : Fr (k + 1) (k + 16) h h8 := (f9.mono (by omega) (by omega)).tr (f8.mono (by omega) (by omega))
                                                                                refine r_iload C (dx dX7_copy 126 rfl) rfl ?_
                                                                                refine r_iload C (dx dX7_copy 127 rfl) rfl ?_
                                                                                refine rn_ge (a := ν) (b := ν) (tgt := 257) C (by omega) (by omega) (dx dX7_copy 128 rfl) (by decide) (fun c104 => ?_) (fun c104 => ?_)
                                                                                · first
                                                                                  | (omega; done)
                                                                                  | (
                                                                                      have c104 : ν ≤ ν := c104
                                                                                      refine r_iload C (dx dX7_copy 143 rfl) rfl ?_
                                                                                      have eA : copA g (nI π) (nI θ) (nI ι) (nI ξ) (nI ν) = nI ν := by simp [copA, copG, copF, c1, c3, c60, c62, c63, c86, c87, c90, c92, c94, c96, c98, c100, c102, c103, c104, e01, e11, e21, e31, e41, e51, e61, e02, e12, e22, e32, e42, e52, e62, clN (show π < 2 ^ 31 by omega), clN (show θ < 2 ^ 31 by omega), clN (show ν < 2 ^ 31 by omega), clN (show ι < 2 ^ 31 by omega), clN (show ξ < 2 ^ 31 by omega), inR_nI (show π < 2 ^ 31 by omega), inR_nI (show θ < 2 ^ 31 by omega), inR_nI (show ν < 2 ^ 31 by omega), inR_nI (show ι < 2 ^ 31 by omega), inR_nI (show ξ < 2 ^ 31 by omega), show π < 8 by omega, show θ < 8 by omega, nI_eq (show τ1 < 2 ^ 31 by omega) (show τ2 < 2 ^ 31 by omega), cp_row e31 e32 (by omega) (by omega) (show ι < 2 ^ 31 by omega) (show ξ < 2 ^ 31 by omega) (show ν < 2 ^ 31 by omega), show ι + ν ≤ ν1 by omega, show ξ + ν ≤ ν2 by omega]
                                                                                      have eG : copG g (nI π) (nI θ) (nI ι) (nI ξ) (nI ν) = pCp g π θ ι ξ ν := by simp [copA, copG, copF, c1, c3, c60, c62, c63, c86, c87, c90, c92, c94, c96, c98, c100, c102, c103, c104, e01, e11, e21, e31, e41, e51, e61, e02, e12, e22, e32, e42, e52, e62, clN (show π < 2 ^ 31 by omega), clN (show θ < 2 ^ 31 by omega), clN (show ν < 2 ^ 31 by omega), clN (show ι < 2 ^ 31 by omega), clN (show ξ < 2 ^ 31 by omega), inR_nI (show π < 2 ^ 31 by omega), inR_nI (show θ < 2 ^ 31 by omega), inR_nI (show ν < 2 ^ 31 by omega), inR_nI (show ι < 2 ^ 31 by omega), inR_nI (show ξ < 2 ^ 31 by omega), show π < 8 by omega, show θ < 8 by omega, nI_eq (show τ1 < 2 ^ 31 by omega) (show τ2 < 2 ^ 31 by omega), cp_row e31 e32 (by omega) (by omega) (show ι < 2 ^ 31 by omega) (show ξ < 2 ^ 31 by omega) (show ν < 2 ^ 31 by omega), show ι + ν ≤ ν1 by omega, show ξ + ν ≤ ν2 by omega]
                                                                                      exact F.1 _ _ _ _ _ rfl rfl (dx dX7_copy 144 rfl) k8 (show some (vi (nI ν)) = some (vi (copA g (nI π) (nI θ) (nI ι) (nI ξ) (nI ν))) ∧ MilAt h8 k v ∧ MshAt h8 k (copG g (nI π) (nI θ) (nI ι) (nI ξ) (nI ν)) ∧ Kt k h h8 from by rw [eA, eG]; exact ⟨rfl, hm.fr g9 (by omega), s9, (Kt.fr g9 (by omega) (by omega))⟩))
                                                                                · first
                                                                                  | (omega; done)
                                                                              ·
                                                                                intro p hp ih h8 q8 u8 f8 k8
                                                                                refine r_iload C (dx dX7_copy 126 rfl) rfl ?_
                                                                                refine r_iload C (dx dX7_copy 127 rfl) rfl ?_
                                                                                refine rn_ge (a := p) (b := ν) (tgt := 257) C (by omega) (by omega) (dx dX7_copy 128 rfl) (by decide) (fun c105 => ?_) (fun c105 => ?_)
                                                                                · first
                                                                                  | (omega; done)
                                                                                  | (
                                                                                      have c105 : ν ≤ p := c105
                                                                                      refine r_iload C (dx dX7_copy 143 rfl) rfl ?_
                                                                                      have eA : copA g (nI π) (nI θ) (nI ι) (nI ξ) (nI ν) = nI ν := by simp [copA, copG, copF, c1, c3, c60, c62, c63, c86, c87, c90, c92, c94, c96, c98, c100, c102, c103, c105, e01, e11, e21, e31, e41, e51, e61, e02, e12, e22, e32, e42, e52, e62, clN (show π < 2 ^ 31 by omega), clN (show θ < 2 ^ 31 by omega), clN (show ν < 2 ^ 31 by omega), clN (show ι < 2 ^ 31 by omega), clN (show ξ < 2 ^ 31 by omega), inR_nI (show π < 2 ^ 31 by omega), inR_nI (show θ < 2 ^ 31 by omega), inR_nI (show ν < 2 ^ 31 by omega), inR_nI (show ι < 2 ^ 31 by omega), inR_nI (show ξ < 2 ^ 31 by omega), show π < 8 by omega, show θ < 8 by omega, nI_eq (show τ1 < 2 ^ 31 by omega) (show τ2 < 2 ^ 31 by omega), cp_row e31 e32 (by omega) (by omega) (show ι < 2 ^ 31 by omega) (show ξ < 2 ^ 31 by omega) (show ν < 2 ^ 31 by omega), show ι + ν ≤ ν1 by omega, show ξ + ν ≤ ν2 by omega]
                                                                                      have eG : copG g (nI π) (nI θ) (nI ι) (nI ξ) (nI ν) = g := by simp [copA, copG, copF, c1, c3, c60, c62, c63, c86, c87, c90, c92, c94, c96, c98, c100, c102, c103, c105, e01, e11, e21, e31, e41, e51, e61, e02, e12, e22, e32, e42, e52, e62, clN (show π < 2 ^ 31 by omega), clN (show θ < 2 ^ 31 by omega), clN (show ν < 2 ^ 31 by omega), clN (show ι < 2 ^ 31 by omega), clN (show ξ < 2 ^ 31 by omega), inR_nI (show π < 2 ^ 31 by omega), inR_nI (show θ < 2 ^ 31 by omega), inR_nI (show ν < 2 ^ 31 by omega), inR_nI (show ι < 2 ^ 31 by omega), inR_nI (show ξ < 2 ^ 31 by omega), show π < 8 by omega, show θ < 8 by omega, nI_eq (show τ1 < 2 ^ 31 by omega) (show τ2 < 2 ^ 31 by omega), cp_row e31 e32 (by omega) (by omega) (show ι < 2 ^ 31 by omega) (show ξ < 2 ^ 31 by omega) (show ν < 2 ^ 31 by omega), show ι + ν ≤ ν1 by omega, show ξ + ν ≤ ν2 by omega]
                                                                                      exact F.1 _ _ _ _ _ rfl rfl (dx dX7_copy 144 rfl) k8 (show some (vi (nI ν)) = some (vi (copA g (nI π) (nI θ) (nI ι) (nI ξ) (nI ν))) ∧ MilAt h8 k v ∧ MshAt h8 k (copG g (nI π) (nI θ) (nI ι) (nI ξ) (nI ν)) ∧ Kt k h h8 from by rw [eA, eG]; exact ⟨rfl, hm, hs, Kt.rf⟩))
                                                                                · first
                                                                                  | (omega; done)
                                                                                  | (
                                                                                      have c105 : p < ν := c105
                                                                                      refine r_aload_n C (dx dX7_copy 129 rfl) rfl ?_
                                                                                      refine g_X7_21 C (dx dX7_copy 130 rfl) ?_
                                                                                      refine r_iload_n C (dx dX7_copy 131 rfl) rfl ?_
                                                                                      refine r_aald5 (j := θ) C rfl rfl (by decide) rfl (by omega) (dx dX7_copy 132 rfl) ?_
                                                                                      refine r_iload C (dx dX7_copy 133 rfl) rfl ?_
                                                                                      refine r_iload C (dx dX7_copy 134 rfl) rfl ?_
                                                                                      refine rn_iadd (a := ξ) (b := p) C (dx dX7_copy 135 rfl) ?_
                                                                                      refine r_aload_n C (dx dX7_copy 136 rfl) rfl ?_
                                                                                      refine g_X7_24 C (dx dX7_copy 137 rfl) ?_
                                                                                      refine r_iload C (dx dX7_copy 138 rfl) rfl ?_
                                                                                      refine r_lald (j := p) (x := gE g π (ι + p)) C rfl rfl (by decide) rfl (by omega) (dx dX7_copy 139 rfl) (u8 _ (by omega)) ?_
                                                                                      refine r_last (j := ξ + p) C rfl rfl (by decide) rfl (by omega) (dx dX7_copy 140 rfl) ?_
                                                                                      refine rn_iinc (a := p) (k := 1) (ls' := [(0, vr 7 k), (1, vi (nI π)), (2, vi (nI θ)), (3, vi (nI ι)), (4, vi (nI ξ)), (5, vi (nI ν)), (6, vi (nI (p + 1)))]) C (dx dX7_copy 141 rfl) rfl rfl (by decide) [1, 2, 3, 4, 5, 6, 0] rfl ?_
                                                                                      refine r_goto (tgt := 225) C (dx dX7_copy 142 rfl) (by decide) ?_
                                                                                      exact ih _ (fun i hi => by rw [sL_at]; exact cp2_step q8 i hi) (fun t ht => by rw [sL_ne (by omega)]; exact u8 t ht) (f8.tr (Fr.sL (by omega) (by omega))) k8))
                                                                        · first
                                                                          | (omega; done)
                                                                      ·
                                                                        intro p hp ih h9 q9 f9 k9
                                                                        refine r_iload C (dx dX7_copy 107 rfl) rfl ?_
                                                                        refine r_iload C (dx dX7_copy 108 rfl) rfl ?_
                                                                        refine rn_ge (a := p) (b := ν) (tgt := 222) C (by omega) (by omega) (dx dX7_copy 109 rfl) (by decide) (fun c106 => ?_) (fun c106 => ?_)
                                                                        · first
                                                                          | (omega; done)
                                                                          | (
                                                                              have c106 : ν ≤ p := c106
                                                                              refine r_iconst (v := nI 0) C (dx dX7_copy 124 rfl) rfl ?_
                                                                              refine r_istore (ls' := [(0, vr 7 k), (1, vi (nI π)), (2, vi (nI θ)), (3, vi (nI ι)), (4, vi (nI ξ)), (5, vi (nI ν)), (6, vi (nI 0))]) C (dx dX7_copy 125 rfl) (by decide) [1, 2, 3, 4, 5, 6, 0] rfl ?_
                                                                              have r9 := MsR.fr (show MsR h k g θ from ⟨_, _, a12, a22, a32, a42, a52, a62, a72, a82⟩) hθ f9
                                                                              refine loopU (Φ := fun p => ∀ h8, (∀ i, i < 40 → xL h8 (k + 5 + θ) i = if ξ ≤ i ∧ i < ξ + p then gE g π (ι + (i - ξ)) else gE g θ i) → (∀ t, t < ν → xL h8 (k + 13) t = gE g π (ι + t)) → Fr (k + 5 + θ) (k + 5 + θ + 1) h9 h8 → xK h8 = xK h → Rr G 225 [(0, vr 7 k), (1, vi (nI π)), (2, vi (nI θ)), (3, vi (nI ι)), (4, vi (nI ξ)), (5, vi (nI ν)), (6, vi (nI p))] [] h8) (N := ν) ?_ ?_ 0 (by omega) _ (fun i hi => by rw [if_neg (by omega), f9.L (by omega)]; exact a82 i hi) q9 Fr.rf k9
                                                                              ·
                                                                                intro h8 q8 u8 f8 k8
                                                                                have s9 : MshAt h8 k (pCp g π θ ι ξ ν) := msh_els (hs.mv f9) hθ r9 f8 (fun i hi => by rw [q8 i hi]; rfl)
                                                                                have g9 : Fr (k + 1) (k + 16) h h8 := (f9.mono (by omega) (by omega)).tr (f8.mono (by omega) (by omega))
                                                                                refine r_iload C (dx dX7_copy 126 rfl) rfl ?_
                                                                                refine r_iload C (dx dX7_copy 127 rfl) rfl ?_
                                                                                refine rn_ge (a := ν) (b := ν) (tgt := 257) C (by omega) (by omega) (dx dX7_copy 128 rfl) (by decide) (fun c107 => ?_) (fun c107 => ?_)
                                                                                · first
                                                                                  | (omega; done)
                                                                                  | (
                                                                                      have c107 : ν ≤ ν := c107
                                                                                      refine r_iload C (dx dX7_copy 143 rfl) rfl ?_
                                                                                      have eA : copA g (nI π) (nI θ) (nI ι) (nI ξ) (nI ν) = nI ν := by simp [copA, copG, copF, c1, c3, c60, c62, c63, c86, c87, c90, c92, c94, c96, c98, c100, c102, c106, c107, e01, e11, e21, e31, e41, e51, e61, e02, e12, e22, e32, e42, e52, e62, clN (show π < 2 ^ 31 by omega), clN (show θ < 2 ^ 31 by omega), clN (show ν < 2 ^ 31 by omega), clN (show ι < 2 ^ 31 by omega), clN (show ξ < 2 ^ 31 by omega), inR_nI (show π < 2 ^ 31 by omega), inR_nI (show θ < 2 ^ 31 by omega), inR_nI (show ν < 2 ^ 31 by omega), inR_nI (show ι < 2 ^ 31 by omega), inR_nI (show ξ < 2 ^ 31 by omega), show π < 8 by omega, show θ < 8 by omega, nI_eq (show τ1 < 2 ^ 31 by omega) (show τ2 < 2 ^ 31 by omega), cp_row e31 e32 (by omega) (by omega) (show ι < 2 ^ 31 by omega) (show ξ < 2 ^ 31 by omega) (show ν < 2 ^ 31 by omega), show ι + ν ≤ ν1 by omega, show ξ + ν ≤ ν2 by omega]
                                                                                      have eG : copG g (nI π) (nI θ) (nI ι) (nI ξ) (nI ν) = pCp g π θ ι ξ ν := by simp [copA, copG, copF, c1, c3, c60, c62, c63, c86, c87, c90, c92, c94, c96, c98, c100, c102, c106, c107, e01, e11, e21, e31, e41, e51, e61, e02, e12, e22, e32, e42, e52, e62, clN (show π < 2 ^ 31 by omega), clN (show θ < 2 ^ 31 by omega), clN (show ν < 2 ^ 31 by omega), clN (show ι < 2 ^ 31 by omega), clN (show ξ < 2 ^ 31 by omega), inR_nI (show π < 2 ^ 31 by omega), inR_nI (show θ < 2 ^ 31 by omega), inR_nI (show ν < 2 ^ 31 by omega), inR_nI (show ι < 2 ^ 31 by omega), inR_nI (show ξ < 2 ^ 31 by omega), show π < 8 by omega, show θ < 8 by omega, nI_eq (show τ1 < 2 ^ 31 by omega) (show τ2 < 2 ^ 31 by omega), cp_row e31 e32 (by omega) (by omega) (show ι < 2 ^ 31 by omega) (show ξ < 2 ^ 31 by omega) (show ν < 2 ^ 31 by omega), show ι + ν ≤ ν1 by omega, show ξ + ν ≤ ν2 by omega]
                                                                                      exact F.1 _ _ _ _ _ rfl rfl (dx dX7_copy 144 rfl) k8 (show some (vi (nI ν)) = some (vi (copA g (nI π) (nI θ) (nI ι) (nI ξ) (nI ν))) ∧ MilAt h8 k v ∧ MshAt h8 k (copG g (nI π) (nI θ) (nI ι) (nI ξ) (nI ν)) ∧ Kt k h h8 from by rw [eA, eG]; exact ⟨rfl, hm.fr g9 (by omega), s9, (Kt.fr g9 (by omega) (by omega))⟩))
                                                                                · first
                                                                                  | (omega; done)
                                                                              ·
                                                                                intro p hp ih h8 q8 u8 f8 k8
                                                                                refine r_iload C (dx dX7_copy 126 rfl) rfl ?_
                                                                                refine r_iload C (dx dX7_copy 127 rfl) rfl ?_
                                                                                refine rn_ge (a := p) (b := ν) (tgt := 257) C (by omega) (by omega) (dx dX7_copy 128 rfl) (by decide) (fun c108 => ?_) (fun c108 => ?_)
                                                                                · first
                                                                                  | (omega; done)
                                                                                  | (
                                                                                      have c108 : ν ≤ p := c108
                                                                                      refine r_iload C (dx dX7_copy 143 rfl) rfl ?_
                                                                                      have eA : copA g (nI π) (nI θ) (nI ι) (nI ξ) (nI ν) = nI ν := by simp [copA, copG, copF, c1, c3, c60, c62, c63, c86, c87, c90, c92, c94, c96, c98, c100, c102, c106, c108, e01, e11, e21, e31, e41, e51, e61, e02, e12, e22, e32, e42, e52, e62, clN (show π < 2 ^ 31 by omega), clN (show θ < 2 ^ 31 by omega), clN (show ν < 2 ^ 31 by omega), clN (show ι < 2 ^ 31 by omega), clN (show ξ < 2 ^ 31 by omega), inR_nI (show π < 2 ^ 31 by omega), inR_nI (show θ < 2 ^ 31 by omega), inR_nI (show ν < 2 ^ 31 by omega), inR_nI (show ι < 2 ^ 31 by omega), inR_nI (show ξ < 2 ^ 31 by omega), show π < 8 by omega, show θ < 8 by omega, nI_eq (show τ1 < 2 ^ 31 by omega) (show τ2 < 2 ^ 31 by omega), cp_row e31 e32 (by omega) (by omega) (show ι < 2 ^ 31 by omega) (show ξ < 2 ^ 31 by omega) (show ν < 2 ^ 31 by omega), show ι + ν ≤ ν1 by omega, show ξ + ν ≤ ν2 by omega]
                                                                                      have eG : copG g (nI π) (nI θ) (nI ι) (nI ξ) (nI ν) = g := by simp [copA, copG, copF, c1, c3, c60, c62, c63, c86, c87, c90, c92, c94, c96, c98, c100, c102, c106, c108, e01, e11, e21, e31, e41, e51, e61, e02, e12, e22, e32, e42, e52, e62, clN (show π < 2 ^ 31 by omega), clN (show θ < 2 ^ 31 by omega), clN (show ν < 2 ^ 31 by omega), clN (show ι < 2 ^ 31 by omega), clN (show ξ < 2 ^ 31 by omega), inR_nI (show π < 2 ^ 31 by omega), inR_nI (show θ < 2 ^ 31 by omega), inR_nI (show ν < 2 ^ 31 by omega), inR_nI (show ι < 2 ^ 31 by omega), inR_nI (show ξ < 2 ^ 31 by omega), show π < 8 by omega, show θ < 8 by omega, nI_eq (show τ1 < 2 ^ 31 by omega) (show τ2 < 2 ^ 31 by omega), cp_row e31 e32 (by omega) (by omega) (show ι < 2 ^ 31 by omega) (show ξ < 2 ^ 31 by omega) (show ν < 2 ^ 31 by omega), show ι + ν ≤ ν1 by omega, show ξ + ν ≤ ν2 by omega]
                                                                                      exact F.1 _ _ _ _ _ rfl rfl (dx dX7_copy 144 rfl) k8 (show some (vi (nI ν)) = some (vi (copA g (nI π) (nI θ) (nI ι) (nI ξ) (nI ν))) ∧ MilAt h8 k v ∧ MshAt h8 k (copG g (nI π) (nI θ) (nI ι) (nI ξ) (nI ν)) ∧ Kt k h h8 from by rw [eA, eG]; exact ⟨rfl, hm, hs, Kt.rf⟩))
                                                                                · first
                                                                                  | (omega; done)
                                                                                  | (
                                                                                      have c108 : p < ν := c108
                                                                                      refine r_aload_n C (dx dX7_copy 129 rfl) rfl ?_
                                                                                      refine g_X7_21 C (dx dX7_copy 130 rfl) ?_
                                                                                      refine r_iload_n C (dx dX7_copy 131 rfl) rfl ?_
                                                                                      refine r_aald5 (j := θ) C rfl rfl (by decide) rfl (by omega) (dx dX7_copy 132 rfl) ?_
                                                                                      refine r_iload C (dx dX7_copy 133 rfl) rfl ?_
                                                                                      refine r_iload C (dx dX7_copy 134 rfl) rfl ?_
                                                                                      refine rn_iadd (a := ξ) (b := p) C (dx dX7_copy 135 rfl) ?_
                                                                                      refine r_aload_n C (dx dX7_copy 136 rfl) rfl ?_
                                                                                      refine g_X7_24 C (dx dX7_copy 137 rfl) ?_
                                                                                      refine r_iload C (dx dX7_copy 138 rfl) rfl ?_
                                                                                      refine r_lald (j := p) (x := gE g π (ι + p)) C rfl rfl (by decide) rfl (by omega) (dx dX7_copy 139 rfl) (u8 _ (by omega)) ?_
                                                                                      refine r_last (j := ξ + p) C rfl rfl (by decide) rfl (by omega) (dx dX7_copy 140 rfl) ?_
                                                                                      refine rn_iinc (a := p) (k := 1) (ls' := [(0, vr 7 k), (1, vi (nI π)), (2, vi (nI θ)), (3, vi (nI ι)), (4, vi (nI ξ)), (5, vi (nI ν)), (6, vi (nI (p + 1)))]) C (dx dX7_copy 141 rfl) rfl rfl (by decide) [1, 2, 3, 4, 5, 6, 0] rfl ?_
                                                                                      refine r_goto (tgt := 225) C (dx dX7_copy 142 rfl) (by decide) ?_
                                                                                      exact ih _ (fun i hi => by rw [sL_at]; exact cp2_step q8 i hi) (fun t ht => by rw [sL_ne (by omega)]; exact u8 t ht) (f8.tr (Fr.sL (by omega) (by omega))) k8))
                                                                        · first
                                                                          | (omega; done)
                                                                          | (
                                                                              have c106 : p < ν := c106
                                                                              refine r_aload_n C (dx dX7_copy 110 rfl) rfl ?_
                                                                              refine g_X7_24 C (dx dX7_copy 111 rfl) ?_
                                                                              refine r_iload C (dx dX7_copy 112 rfl) rfl ?_
                                                                              refine r_aload_n C (dx dX7_copy 113 rfl) rfl ?_
                                                                              refine g_X7_21 C (dx dX7_copy 114 rfl) ?_
                                                                              refine r_iload_n C (dx dX7_copy 115 rfl) rfl ?_
                                                                              refine r_aald5 (j := π) C rfl rfl (by decide) rfl (by omega) (dx dX7_copy 116 rfl) ?_
                                                                              refine r_iload_n C (dx dX7_copy 117 rfl) rfl ?_
                                                                              refine r_iload C (dx dX7_copy 118 rfl) rfl ?_
                                                                              refine rn_iadd (a := ι) (b := p) C (dx dX7_copy 119 rfl) ?_
                                                                              refine r_lald (j := ι + p) (x := gE g π (ι + p)) C rfl rfl (by decide) rfl (by omega) (dx dX7_copy 120 rfl) ((f9.L (by omega) _).trans (a81 _ (by omega))) ?_
                                                                              refine r_last (j := p) C rfl rfl (by decide) rfl (by omega) (dx dX7_copy 121 rfl) ?_
                                                                              refine rn_iinc (a := p) (k := 1) (ls' := [(0, vr 7 k), (1, vi (nI π)), (2, vi (nI θ)), (3, vi (nI ι)), (4, vi (nI ξ)), (5, vi (nI ν)), (6, vi (nI (p + 1)))]) C (dx dX7_copy 122 rfl) rfl rfl (by decide) [1, 2, 3, 4, 5, 6, 0] rfl ?_
                                                                              refine r_goto (tgt := 191) C (dx dX7_copy 123 rfl) (by decide) ?_
                                                                              exact ih _ (fun t ht => by rw [sL_at]; split; (next e => rw [e]); exact q9 t (by omega)) (f9.tr (Fr.sL (by omega) (by omega))) k9))
                                                                · first
                                                                  | (omega; done)
                                                                  | (
                                                                      have c102 : ν2 - ν < ξ := c102
                                                                      refine r_aload_n C (dx dX7_copy 101 rfl) rfl ?_
                                                                      refine r_bipush (v := -2) C (dx dX7_copy 102 rfl) rfl ?_
                                                                      refine r_cv (as := [vi (-2)]) (st := []) C X I_X7_refuse l_X7_83 (e_refuse hm (x := -2) (j := 2) (by decide) (by decide)) (by decide) (Nat.le_of_ble_eq_true rfl) List.prefix_rfl List.prefix_rfl rfl rfl (Nat.le_of_ble_eq_true rfl) rfl (dx dX7_copy 103 rfl) ?_
                                                                      rintro _ h109 ⟨rfl, m9h109, qh109⟩ kkh109
                                                                      have mh109 : MilAt h109 k v := m9h109
                                                                      have ph109 : Kp k h h109 := qh109
                                                                      have kh109 : xK h109 = xK h := kkh109
                                                                      have eA : copA g (nI π) (nI θ) (nI ι) (nI ξ) (nI ν) = -2 := by (have hq : ¬ (ι + ν ≤ ν1 ∧ ξ + ν ≤ ν2) := by omega); (have hq2 := cp_row e31 e32 (i := ι) (j := ξ) (n := ν) (by omega) (by omega) (by omega) (by omega) (by omega)); rw [decide_eq_false hq] at hq2; simp [copA, copG, copF, c1, c3, c60, c62, c63, c86, c87, c90, c92, c94, c96, c98, c100, c102, e01, e11, e21, e31, e41, e51, e61, e02, e12, e22, e32, e42, e52, e62, clN (show π < 2 ^ 31 by omega), clN (show θ < 2 ^ 31 by omega), clN (show ν < 2 ^ 31 by omega), clN (show ι < 2 ^ 31 by omega), clN (show ξ < 2 ^ 31 by omega), inR_nI (show π < 2 ^ 31 by omega), inR_nI (show θ < 2 ^ 31 by omega), inR_nI (show ν < 2 ^ 31 by omega), inR_nI (show ι < 2 ^ 31 by omega), inR_nI (show ξ < 2 ^ 31 by omega), hq2, show π < 8 by omega, show θ < 8 by omega, nI_eq (show τ1 < 2 ^ 31 by omega) (show τ2 < 2 ^ 31 by omega)]
                                                                      have eG : copG g (nI π) (nI θ) (nI ι) (nI ξ) (nI ν) = g := by (have hq : ¬ (ι + ν ≤ ν1 ∧ ξ + ν ≤ ν2) := by omega); (have hq2 := cp_row e31 e32 (i := ι) (j := ξ) (n := ν) (by omega) (by omega) (by omega) (by omega) (by omega)); rw [decide_eq_false hq] at hq2; simp [copA, copG, copF, c1, c3, c60, c62, c63, c86, c87, c90, c92, c94, c96, c98, c100, c102, e01, e11, e21, e31, e41, e51, e61, e02, e12, e22, e32, e42, e52, e62, clN (show π < 2 ^ 31 by omega), clN (show θ < 2 ^ 31 by omega), clN (show ν < 2 ^ 31 by omega), clN (show ι < 2 ^ 31 by omega), clN (show ξ < 2 ^ 31 by omega), inR_nI (show π < 2 ^ 31 by omega), inR_nI (show θ < 2 ^ 31 by omega), inR_nI (show ν < 2 ^ 31 by omega), inR_nI (show ι < 2 ^ 31 by omega), inR_nI (show ξ < 2 ^ 31 by omega), hq2, show π < 8 by omega, show θ < 8 by omega, nI_eq (show τ1 < 2 ^ 31 by omega) (show τ2 < 2 ^ 31 by omega)]
                                                                      exact F.1 _ _ _ _ _ rfl rfl (dx dX7_copy 104 rfl) kh109 (show some (vi (-2)) = some (vi (copA g (nI π) (nI θ) (nI ι) (nI ξ) (nI ν))) ∧ MilAt h109 k v ∧ MshAt h109 k (copG g (nI π) (nI θ) (nI ι) (nI ξ) (nI ν)) ∧ Kt k h h109 from by rw [eA, eG]; exact ⟨rfl, mh109, hs.kp ph109, ph109.kt⟩))))))
                                  · first
                                    | (omega; done)
                                    | (
                                        have c87 : ¬ τ1 = τ2 := c87
                                        refine r_aload_n C (dx dX7_copy 49 rfl) rfl ?_
                                        refine r_bipush (v := -3) C (dx dX7_copy 50 rfl) rfl ?_
                                        refine r_cv (as := [vi (-3)]) (st := []) C X I_X7_refuse l_X7_83 (e_refuse hm (x := -3) (j := 3) (by decide) (by decide)) (by decide) (Nat.le_of_ble_eq_true rfl) List.prefix_rfl List.prefix_rfl rfl rfl (Nat.le_of_ble_eq_true rfl) rfl (dx dX7_copy 51 rfl) ?_
                                        rintro _ h110 ⟨rfl, m9h110, qh110⟩ kkh110
                                        have mh110 : MilAt h110 k v := m9h110
                                        have ph110 : Kp k h h110 := qh110
                                        have kh110 : xK h110 = xK h := kkh110
                                        have eA : copA g (nI π) (nI θ) i j n = -3 := by simp [copA, copG, copF, cpOk, c1, c3, c60, c62, c63, c86, c87, e01, e11, e21, e31, e41, e51, e61, e02, e12, e22, e32, e42, e52, e62, clN (show π < 2 ^ 31 by omega), clN (show θ < 2 ^ 31 by omega), inR_nI (show π < 2 ^ 31 by omega), inR_nI (show θ < 2 ^ 31 by omega), show π < 8 by omega, show θ < 8 by omega, nI_eq (show τ1 < 2 ^ 31 by omega) (show τ2 < 2 ^ 31 by omega)]
                                        have eG : copG g (nI π) (nI θ) i j n = g := by simp [copA, copG, copF, cpOk, c1, c3, c60, c62, c63, c86, c87, e01, e11, e21, e31, e41, e51, e61, e02, e12, e22, e32, e42, e52, e62, clN (show π < 2 ^ 31 by omega), clN (show θ < 2 ^ 31 by omega), inR_nI (show π < 2 ^ 31 by omega), inR_nI (show θ < 2 ^ 31 by omega), show π < 8 by omega, show θ < 8 by omega, nI_eq (show τ1 < 2 ^ 31 by omega) (show τ2 < 2 ^ 31 by omega)]
                                        exact F.1 _ _ _ _ _ rfl rfl (dx dX7_copy 52 rfl) kh110 (show some (vi (-3)) = some (vi (copA g (nI π) (nI θ) i j n)) ∧ MilAt h110 k v ∧ MshAt h110 k (copG g (nI π) (nI θ) i j n) ∧ Kt k h h110 from by rw [eA, eG]; exact ⟨rfl, mh110, hs.kp ph110, ph110.kt⟩))))))
        ·
          obtain ⟨e02, e12, e22, e32, e42, e52, e62, e72⟩ := sh_hold hθ a22 a72 a82
          refine r_aload_n C (dx dX7_copy 16 rfl) rfl ?_
          refine g_X7_7 C (dx dX7_copy 17 rfl) ?_
          refine r_iload_n C (dx dX7_copy 18 rfl) rfl ?_
          refine r_iald (j := π) (x := nI 1) C rfl rfl (by decide) rfl (by omega) (dx dX7_copy 19 rfl) a31 ?_
          refine r_iconst (v := nI 2) C (dx dX7_copy 20 rfl) rfl ?_
          refine rn_eq (a := 1) (b := 2) (tgt := 86) C (by omega) (by omega) (dx dX7_copy 21 rfl) (by decide) (fun c111 => ?_) (fun c111 => ?_)
          · first
            | (omega; done)
            | (
                have c111 : 1 = 2 := c111
                refine r_aload_n C (dx dX7_copy 49 rfl) rfl ?_
                refine r_bipush (v := -3) C (dx dX7_copy 50 rfl) rfl ?_
                refine r_cv (as := [vi (-3)]) (st := []) C X I_X7_refuse l_X7_83 (e_refuse hm (x := -3) (j := 3) (by decide) (by decide)) (by decide) (Nat.le_of_ble_eq_true rfl) List.prefix_rfl List.prefix_rfl rfl rfl (Nat.le_of_ble_eq_true rfl) rfl (dx dX7_copy 51 rfl) ?_
                rintro _ h112 ⟨rfl, m9h112, qh112⟩ kkh112
                have mh112 : MilAt h112 k v := m9h112
                have ph112 : Kp k h h112 := qh112
                have kh112 : xK h112 = xK h := kkh112
                have eA : copA g (nI π) (nI θ) i j n = -3 := by simp [copA, copG, copF, cpOk, c1, c3, c111, e01, e11, e21, e31, e41, e51, e61, e02, e12, e22, e32, e42, e52, e62, e72, clN (show π < 2 ^ 31 by omega), clN (show θ < 2 ^ 31 by omega), inR_nI (show π < 2 ^ 31 by omega), inR_nI (show θ < 2 ^ 31 by omega), show π < 8 by omega, show θ < 8 by omega]
                have eG : copG g (nI π) (nI θ) i j n = g := by simp [copA, copG, copF, cpOk, c1, c3, c111, e01, e11, e21, e31, e41, e51, e61, e02, e12, e22, e32, e42, e52, e62, e72, clN (show π < 2 ^ 31 by omega), clN (show θ < 2 ^ 31 by omega), inR_nI (show π < 2 ^ 31 by omega), inR_nI (show θ < 2 ^ 31 by omega), show π < 8 by omega, show θ < 8 by omega]
                exact F.1 _ _ _ _ _ rfl rfl (dx dX7_copy 52 rfl) kh112 (show some (vi (-3)) = some (vi (copA g (nI π) (nI θ) i j n)) ∧ MilAt h112 k v ∧ MshAt h112 k (copG g (nI π) (nI θ) i j n) ∧ Kt k h h112 from by rw [eA, eG]; exact ⟨rfl, mh112, hs.kp ph112, ph112.kt⟩))
          · first
            | (omega; done)
            | (
                have c111 : ¬ 1 = 2 := c111
                refine r_aload_n C (dx dX7_copy 22 rfl) rfl ?_
                refine g_X7_7 C (dx dX7_copy 23 rfl) ?_
                refine r_iload_n C (dx dX7_copy 24 rfl) rfl ?_
                refine r_iald (j := θ) (x := nI 2) C rfl rfl (by decide) rfl (by omega) (dx dX7_copy 25 rfl) a42 ?_
                refine r_iconst (v := nI 2) C (dx dX7_copy 26 rfl) rfl ?_
                refine rn_eq (a := 2) (b := 2) (tgt := 86) C (by omega) (by omega) (dx dX7_copy 27 rfl) (by decide) (fun c113 => ?_) (fun c113 => ?_)
                · first
                  | (omega; done)
                  | (
                      have c113 : 2 = 2 := c113
                      refine r_aload_n C (dx dX7_copy 49 rfl) rfl ?_
                      refine r_bipush (v := -3) C (dx dX7_copy 50 rfl) rfl ?_
                      refine r_cv (as := [vi (-3)]) (st := []) C X I_X7_refuse l_X7_83 (e_refuse hm (x := -3) (j := 3) (by decide) (by decide)) (by decide) (Nat.le_of_ble_eq_true rfl) List.prefix_rfl List.prefix_rfl rfl rfl (Nat.le_of_ble_eq_true rfl) rfl (dx dX7_copy 51 rfl) ?_
                      rintro _ h114 ⟨rfl, m9h114, qh114⟩ kkh114
                      have mh114 : MilAt h114 k v := m9h114
                      have ph114 : Kp k h h114 := qh114
                      have kh114 : xK h114 = xK h := kkh114
                      have eA : copA g (nI π) (nI θ) i j n = -3 := by simp [copA, copG, copF, cpOk, c1, c3, c111, c113, e01, e11, e21, e31, e41, e51, e61, e02, e12, e22, e32, e42, e52, e62, e72, clN (show π < 2 ^ 31 by omega), clN (show θ < 2 ^ 31 by omega), inR_nI (show π < 2 ^ 31 by omega), inR_nI (show θ < 2 ^ 31 by omega), show π < 8 by omega, show θ < 8 by omega]
                      have eG : copG g (nI π) (nI θ) i j n = g := by simp [copA, copG, copF, cpOk, c1, c3, c111, c113, e01, e11, e21, e31, e41, e51, e61, e02, e12, e22, e32, e42, e52, e62, e72, clN (show π < 2 ^ 31 by omega), clN (show θ < 2 ^ 31 by omega), inR_nI (show π < 2 ^ 31 by omega), inR_nI (show θ < 2 ^ 31 by omega), show π < 8 by omega, show θ < 8 by omega]
                      exact F.1 _ _ _ _ _ rfl rfl (dx dX7_copy 52 rfl) kh114 (show some (vi (-3)) = some (vi (copA g (nI π) (nI θ) i j n)) ∧ MilAt h114 k v ∧ MshAt h114 k (copG g (nI π) (nI θ) i j n) ∧ Kt k h h114 from by rw [eA, eG]; exact ⟨rfl, mh114, hs.kp ph114, ph114.kt⟩))
                · first
                  | (omega; done)
                  | (
                      have c113 : ¬ 2 = 2 := c113
                      refine r_aload_n C (dx dX7_copy 28 rfl) rfl ?_
                      refine g_X7_7 C (dx dX7_copy 29 rfl) ?_
                      refine r_iload_n C (dx dX7_copy 30 rfl) rfl ?_
                      refine r_iald (j := π) (x := nI 1) C rfl rfl (by decide) rfl (by omega) (dx dX7_copy 31 rfl) a31 ?_
                      refine r_iconst (v := nI 1) C (dx dX7_copy 32 rfl) rfl ?_
                      refine rn_ne (a := 1) (b := 1) (tgt := 93) C (by omega) (by omega) (dx dX7_copy 33 rfl) (by decide) (fun c115 => ?_) (fun c115 => ?_)
                      · first
                        | (omega; done)
                        | (
                            have c115 : ¬ 1 = 1 := c115
                            refine r_aload_n C (dx dX7_copy 53 rfl) rfl ?_
                            refine g_X7_7 C (dx dX7_copy 54 rfl) ?_
                            refine r_iload_n C (dx dX7_copy 55 rfl) rfl ?_
                            refine r_iald (j := π) (x := nI 1) C rfl rfl (by decide) rfl (by omega) (dx dX7_copy 56 rfl) a31 ?_
                            refine r_if_eq (tgt := 111) C (dx dX7_copy 57 rfl) (by decide) (fun c116 => (show False from by revert c116; decide).elim) (fun _ => ?_)
                            refine r_aload_n C (dx dX7_copy 58 rfl) rfl ?_
                            refine g_X7_7 C (dx dX7_copy 59 rfl) ?_
                            refine r_iload_n C (dx dX7_copy 60 rfl) rfl ?_
                            refine r_iald (j := θ) (x := nI 2) C rfl rfl (by decide) rfl (by omega) (dx dX7_copy 61 rfl) a42 ?_
                            refine r_if_ne (tgt := 118) C (dx dX7_copy 62 rfl) (by decide) (fun _ => ?_) (fun c117 => (show False from by revert c117; decide).elim)
                            refine r_iload C (dx dX7_copy 67 rfl) rfl ?_
                            refine r_if_lt (tgt := 181) C (dx dX7_copy 68 rfl) (by decide) (fun c118 => ?_) (fun c118 => ?_)
                            ·
                              have c118 : n < 0 := c118
                              refine r_aload_n C (dx dX7_copy 101 rfl) rfl ?_
                              refine r_bipush (v := -2) C (dx dX7_copy 102 rfl) rfl ?_
                              refine r_cv (as := [vi (-2)]) (st := []) C X I_X7_refuse l_X7_83 (e_refuse hm (x := -2) (j := 2) (by decide) (by decide)) (by decide) (Nat.le_of_ble_eq_true rfl) List.prefix_rfl List.prefix_rfl rfl rfl (Nat.le_of_ble_eq_true rfl) rfl (dx dX7_copy 103 rfl) ?_
                              rintro _ h119 ⟨rfl, m9h119, qh119⟩ kkh119
                              have mh119 : MilAt h119 k v := m9h119
                              have ph119 : Kp k h h119 := qh119
                              have kh119 : xK h119 = xK h := kkh119
                              have eA : copA g (nI π) (nI θ) i j n = -2 := by simp [copA, copG, copF, cpOk, c1, c3, c111, c113, c115, (fun n9 => inR_neg (n := n9) c118 : ∀ n9, inR n n9 = false), c118, e01, e11, e21, e31, e41, e51, e61, e02, e12, e22, e32, e42, e52, e62, e72, clN (show π < 2 ^ 31 by omega), clN (show θ < 2 ^ 31 by omega), inR_nI (show π < 2 ^ 31 by omega), inR_nI (show θ < 2 ^ 31 by omega), show π < 8 by omega, show θ < 8 by omega]
                              have eG : copG g (nI π) (nI θ) i j n = g := by simp [copA, copG, copF, cpOk, c1, c3, c111, c113, c115, (fun n9 => inR_neg (n := n9) c118 : ∀ n9, inR n n9 = false), c118, e01, e11, e21, e31, e41, e51, e61, e02, e12, e22, e32, e42, e52, e62, e72, clN (show π < 2 ^ 31 by omega), clN (show θ < 2 ^ 31 by omega), inR_nI (show π < 2 ^ 31 by omega), inR_nI (show θ < 2 ^ 31 by omega), show π < 8 by omega, show θ < 8 by omega]
                              exact F.1 _ _ _ _ _ rfl rfl (dx dX7_copy 104 rfl) kh119 (show some (vi (-2)) = some (vi (copA g (nI π) (nI θ) i j n)) ∧ MilAt h119 k v ∧ MshAt h119 k (copG g (nI π) (nI θ) i j n) ∧ Kt k h h119 from by rw [eA, eG]; exact ⟨rfl, mh119, hs.kp ph119, ph119.kt⟩)
                            ·
                              have c118 : ¬ n < 0 := c118
                              obtain ⟨ν, hν, rfl⟩ := nI_of c118
                              refine r_iload_n C (dx dX7_copy 69 rfl) rfl ?_
                              refine r_if_lt (tgt := 181) C (dx dX7_copy 70 rfl) (by decide) (fun c120 => ?_) (fun c120 => ?_)
                              ·
                                have c120 : i < 0 := c120
                                refine r_aload_n C (dx dX7_copy 101 rfl) rfl ?_
                                refine r_bipush (v := -2) C (dx dX7_copy 102 rfl) rfl ?_
                                refine r_cv (as := [vi (-2)]) (st := []) C X I_X7_refuse l_X7_83 (e_refuse hm (x := -2) (j := 2) (by decide) (by decide)) (by decide) (Nat.le_of_ble_eq_true rfl) List.prefix_rfl List.prefix_rfl rfl rfl (Nat.le_of_ble_eq_true rfl) rfl (dx dX7_copy 103 rfl) ?_
                                rintro _ h121 ⟨rfl, m9h121, qh121⟩ kkh121
                                have mh121 : MilAt h121 k v := m9h121
                                have ph121 : Kp k h h121 := qh121
                                have kh121 : xK h121 = xK h := kkh121
                                have eA : copA g (nI π) (nI θ) i j (nI ν) = -2 := by simp [copA, copG, copF, cpOk, c1, c3, c111, c113, c115, c118, (fun n9 => inR_neg (n := n9) c120 : ∀ n9, inR i n9 = false), c120, e01, e11, e21, e31, e41, e51, e61, e02, e12, e22, e32, e42, e52, e62, e72, clN (show π < 2 ^ 31 by omega), clN (show θ < 2 ^ 31 by omega), clN (show ν < 2 ^ 31 by omega), inR_nI (show π < 2 ^ 31 by omega), inR_nI (show θ < 2 ^ 31 by omega), inR_nI (show ν < 2 ^ 31 by omega), show π < 8 by omega, show θ < 8 by omega]
                                have eG : copG g (nI π) (nI θ) i j (nI ν) = g := by simp [copA, copG, copF, cpOk, c1, c3, c111, c113, c115, c118, (fun n9 => inR_neg (n := n9) c120 : ∀ n9, inR i n9 = false), c120, e01, e11, e21, e31, e41, e51, e61, e02, e12, e22, e32, e42, e52, e62, e72, clN (show π < 2 ^ 31 by omega), clN (show θ < 2 ^ 31 by omega), clN (show ν < 2 ^ 31 by omega), inR_nI (show π < 2 ^ 31 by omega), inR_nI (show θ < 2 ^ 31 by omega), inR_nI (show ν < 2 ^ 31 by omega), show π < 8 by omega, show θ < 8 by omega]
                                exact F.1 _ _ _ _ _ rfl rfl (dx dX7_copy 104 rfl) kh121 (show some (vi (-2)) = some (vi (copA g (nI π) (nI θ) i j (nI ν))) ∧ MilAt h121 k v ∧ MshAt h121 k (copG g (nI π) (nI θ) i j (nI ν)) ∧ Kt k h h121 from by rw [eA, eG]; exact ⟨rfl, mh121, hs.kp ph121, ph121.kt⟩)
                              ·
                                have c120 : ¬ i < 0 := c120
                                obtain ⟨ι, hι, rfl⟩ := nI_of c120
                                refine r_iload C (dx dX7_copy 71 rfl) rfl ?_
                                refine r_if_lt (tgt := 181) C (dx dX7_copy 72 rfl) (by decide) (fun c122 => ?_) (fun c122 => ?_)
                                ·
                                  have c122 : j < 0 := c122
                                  refine r_aload_n C (dx dX7_copy 101 rfl) rfl ?_
                                  refine r_bipush (v := -2) C (dx dX7_copy 102 rfl) rfl ?_
                                  refine r_cv (as := [vi (-2)]) (st := []) C X I_X7_refuse l_X7_83 (e_refuse hm (x := -2) (j := 2) (by decide) (by decide)) (by decide) (Nat.le_of_ble_eq_true rfl) List.prefix_rfl List.prefix_rfl rfl rfl (Nat.le_of_ble_eq_true rfl) rfl (dx dX7_copy 103 rfl) ?_
                                  rintro _ h123 ⟨rfl, m9h123, qh123⟩ kkh123
                                  have mh123 : MilAt h123 k v := m9h123
                                  have ph123 : Kp k h h123 := qh123
                                  have kh123 : xK h123 = xK h := kkh123
                                  have eA : copA g (nI π) (nI θ) (nI ι) j (nI ν) = -2 := by simp [copA, copG, copF, cpOk, c1, c3, c111, c113, c115, c118, c120, (fun n9 => inR_neg (n := n9) c122 : ∀ n9, inR j n9 = false), c122, e01, e11, e21, e31, e41, e51, e61, e02, e12, e22, e32, e42, e52, e62, e72, clN (show π < 2 ^ 31 by omega), clN (show θ < 2 ^ 31 by omega), clN (show ν < 2 ^ 31 by omega), clN (show ι < 2 ^ 31 by omega), inR_nI (show π < 2 ^ 31 by omega), inR_nI (show θ < 2 ^ 31 by omega), inR_nI (show ν < 2 ^ 31 by omega), inR_nI (show ι < 2 ^ 31 by omega), show π < 8 by omega, show θ < 8 by omega]
                                  have eG : copG g (nI π) (nI θ) (nI ι) j (nI ν) = g := by simp [copA, copG, copF, cpOk, c1, c3, c111, c113, c115, c118, c120, (fun n9 => inR_neg (n := n9) c122 : ∀ n9, inR j n9 = false), c122, e01, e11, e21, e31, e41, e51, e61, e02, e12, e22, e32, e42, e52, e62, e72, clN (show π < 2 ^ 31 by omega), clN (show θ < 2 ^ 31 by omega), clN (show ν < 2 ^ 31 by omega), clN (show ι < 2 ^ 31 by omega), inR_nI (show π < 2 ^ 31 by omega), inR_nI (show θ < 2 ^ 31 by omega), inR_nI (show ν < 2 ^ 31 by omega), inR_nI (show ι < 2 ^ 31 by omega), show π < 8 by omega, show θ < 8 by omega]
                                  exact F.1 _ _ _ _ _ rfl rfl (dx dX7_copy 104 rfl) kh123 (show some (vi (-2)) = some (vi (copA g (nI π) (nI θ) (nI ι) j (nI ν))) ∧ MilAt h123 k v ∧ MshAt h123 k (copG g (nI π) (nI θ) (nI ι) j (nI ν)) ∧ Kt k h h123 from by rw [eA, eG]; exact ⟨rfl, mh123, hs.kp ph123, ph123.kt⟩)
                                ·
                                  have c122 : ¬ j < 0 := c122
                                  obtain ⟨ξ, hξ, rfl⟩ := nI_of c122
                                  refine r_iload C (dx dX7_copy 73 rfl) rfl ?_
                                  refine r_aload_n C (dx dX7_copy 74 rfl) rfl ?_
                                  refine g_X7_16 C (dx dX7_copy 75 rfl) ?_
                                  refine r_iload_n C (dx dX7_copy 76 rfl) rfl ?_
                                  refine r_iald (j := π) (x := nI ν1) C rfl rfl (by decide) rfl (by omega) (dx dX7_copy 77 rfl) a51 ?_
                                  refine rn_gt (a := ν) (b := ν1) (tgt := 181) C (by omega) (by omega) (dx dX7_copy 78 rfl) (by decide) (fun c124 => ?_) (fun c124 => ?_)
                                  · first
                                    | (omega; done)
                                    | (
                                        have c124 : ν1 < ν := c124
                                        refine r_aload_n C (dx dX7_copy 101 rfl) rfl ?_
                                        refine r_bipush (v := -2) C (dx dX7_copy 102 rfl) rfl ?_
                                        refine r_cv (as := [vi (-2)]) (st := []) C X I_X7_refuse l_X7_83 (e_refuse hm (x := -2) (j := 2) (by decide) (by decide)) (by decide) (Nat.le_of_ble_eq_true rfl) List.prefix_rfl List.prefix_rfl rfl rfl (Nat.le_of_ble_eq_true rfl) rfl (dx dX7_copy 103 rfl) ?_
                                        rintro _ h125 ⟨rfl, m9h125, qh125⟩ kkh125
                                        have mh125 : MilAt h125 k v := m9h125
                                        have ph125 : Kp k h h125 := qh125
                                        have kh125 : xK h125 = xK h := kkh125
                                        have eA : copA g (nI π) (nI θ) (nI ι) (nI ξ) (nI ν) = -2 := by (have hq : ¬ (ι + ν ≤ ν1 ∧ ξ + ν ≤ ν2) := by omega); (have hq2 := cp_row e31 e32 (i := ι) (j := ξ) (n := ν) (by omega) (by omega) (by omega) (by omega) (by omega)); rw [decide_eq_false hq] at hq2; simp [copA, copG, copF, c1, c3, c111, c113, c115, c118, c120, c122, c124, e01, e11, e21, e31, e41, e51, e61, e02, e12, e22, e32, e42, e52, e62, e72, clN (show π < 2 ^ 31 by omega), clN (show θ < 2 ^ 31 by omega), clN (show ν < 2 ^ 31 by omega), clN (show ι < 2 ^ 31 by omega), clN (show ξ < 2 ^ 31 by omega), inR_nI (show π < 2 ^ 31 by omega), inR_nI (show θ < 2 ^ 31 by omega), inR_nI (show ν < 2 ^ 31 by omega), inR_nI (show ι < 2 ^ 31 by omega), inR_nI (show ξ < 2 ^ 31 by omega), hq2, show π < 8 by omega, show θ < 8 by omega]
                                        have eG : copG g (nI π) (nI θ) (nI ι) (nI ξ) (nI ν) = g := by (have hq : ¬ (ι + ν ≤ ν1 ∧ ξ + ν ≤ ν2) := by omega); (have hq2 := cp_row e31 e32 (i := ι) (j := ξ) (n := ν) (by omega) (by omega) (by omega) (by omega) (by omega)); rw [decide_eq_false hq] at hq2; simp [copA, copG, copF, c1, c3, c111, c113, c115, c118, c120, c122, c124, e01, e11, e21, e31, e41, e51, e61, e02, e12, e22, e32, e42, e52, e62, e72, clN (show π < 2 ^ 31 by omega), clN (show θ < 2 ^ 31 by omega), clN (show ν < 2 ^ 31 by omega), clN (show ι < 2 ^ 31 by omega), clN (show ξ < 2 ^ 31 by omega), inR_nI (show π < 2 ^ 31 by omega), inR_nI (show θ < 2 ^ 31 by omega), inR_nI (show ν < 2 ^ 31 by omega), inR_nI (show ι < 2 ^ 31 by omega), inR_nI (show ξ < 2 ^ 31 by omega), hq2, show π < 8 by omega, show θ < 8 by omega]
                                        exact F.1 _ _ _ _ _ rfl rfl (dx dX7_copy 104 rfl) kh125 (show some (vi (-2)) = some (vi (copA g (nI π) (nI θ) (nI ι) (nI ξ) (nI ν))) ∧ MilAt h125 k v ∧ MshAt h125 k (copG g (nI π) (nI θ) (nI ι) (nI ξ) (nI ν)) ∧ Kt k h h125 from by rw [eA, eG]; exact ⟨rfl, mh125, hs.kp ph125, ph125.kt⟩))
                                  · first
                                    | (omega; done)
                                    | (
                                        have c124 : ν ≤ ν1 := c124
                                        refine r_iload C (dx dX7_copy 79 rfl) rfl ?_
                                        refine r_aload_n C (dx dX7_copy 80 rfl) rfl ?_
                                        refine g_X7_16 C (dx dX7_copy 81 rfl) ?_
                                        refine r_iload_n C (dx dX7_copy 82 rfl) rfl ?_
                                        refine r_iald (j := θ) (x := xI h (k + 3) θ) C rfl rfl (by decide) rfl (by omega) (dx dX7_copy 83 rfl) rfl ?_
                                        refine r_icmp_gt (tgt := 181) C (dx dX7_copy 84 rfl) (by decide) (fun c126 => ?_) (fun c126 => ?_)
                                        ·
                                          have c126 : xI h (k + 3) θ < nI ν := c126
                                          refine r_aload_n C (dx dX7_copy 101 rfl) rfl ?_
                                          refine r_bipush (v := -2) C (dx dX7_copy 102 rfl) rfl ?_
                                          refine r_cv (as := [vi (-2)]) (st := []) C X I_X7_refuse l_X7_83 (e_refuse hm (x := -2) (j := 2) (by decide) (by decide)) (by decide) (Nat.le_of_ble_eq_true rfl) List.prefix_rfl List.prefix_rfl rfl rfl (Nat.le_of_ble_eq_true rfl) rfl (dx dX7_copy 103 rfl) ?_
                                          rintro _ h127 ⟨rfl, m9h127, qh127⟩ kkh127
                                          have mh127 : MilAt h127 k v := m9h127
                                          have ph127 : Kp k h h127 := qh127
                                          have kh127 : xK h127 = xK h := kkh127
                                          have eA : copA g (nI π) (nI θ) (nI ι) (nI ξ) (nI ν) = -2 := by (have hq : ¬ (ι + ν ≤ ν1 ∧ ξ + ν ≤ ν2) := by omega); (have hq2 := cp_row e31 e32 (i := ι) (j := ξ) (n := ν) (by omega) (by omega) (by omega) (by omega) (by omega)); rw [decide_eq_false hq] at hq2; simp [copA, copG, copF, c1, c3, c111, c113, c115, c118, c120, c122, c124, c126, e01, e11, e21, e31, e41, e51, e61, e02, e12, e22, e32, e42, e52, e62, e72, clN (show π < 2 ^ 31 by omega), clN (show θ < 2 ^ 31 by omega), clN (show ν < 2 ^ 31 by omega), clN (show ι < 2 ^ 31 by omega), clN (show ξ < 2 ^ 31 by omega), inR_nI (show π < 2 ^ 31 by omega), inR_nI (show θ < 2 ^ 31 by omega), inR_nI (show ν < 2 ^ 31 by omega), inR_nI (show ι < 2 ^ 31 by omega), inR_nI (show ξ < 2 ^ 31 by omega), hq2, show π < 8 by omega, show θ < 8 by omega]
                                          have eG : copG g (nI π) (nI θ) (nI ι) (nI ξ) (nI ν) = g := by (have hq : ¬ (ι + ν ≤ ν1 ∧ ξ + ν ≤ ν2) := by omega); (have hq2 := cp_row e31 e32 (i := ι) (j := ξ) (n := ν) (by omega) (by omega) (by omega) (by omega) (by omega)); rw [decide_eq_false hq] at hq2; simp [copA, copG, copF, c1, c3, c111, c113, c115, c118, c120, c122, c124, c126, e01, e11, e21, e31, e41, e51, e61, e02, e12, e22, e32, e42, e52, e62, e72, clN (show π < 2 ^ 31 by omega), clN (show θ < 2 ^ 31 by omega), clN (show ν < 2 ^ 31 by omega), clN (show ι < 2 ^ 31 by omega), clN (show ξ < 2 ^ 31 by omega), inR_nI (show π < 2 ^ 31 by omega), inR_nI (show θ < 2 ^ 31 by omega), inR_nI (show ν < 2 ^ 31 by omega), inR_nI (show ι < 2 ^ 31 by omega), inR_nI (show ξ < 2 ^ 31 by omega), hq2, show π < 8 by omega, show θ < 8 by omega]
                                          exact F.1 _ _ _ _ _ rfl rfl (dx dX7_copy 104 rfl) kh127 (show some (vi (-2)) = some (vi (copA g (nI π) (nI θ) (nI ι) (nI ξ) (nI ν))) ∧ MilAt h127 k v ∧ MshAt h127 k (copG g (nI π) (nI θ) (nI ι) (nI ξ) (nI ν)) ∧ Kt k h h127 from by rw [eA, eG]; exact ⟨rfl, mh127, hs.kp ph127, ph127.kt⟩)
                                        ·
                                          have c126 : ¬ xI h (k + 3) θ < nI ν := c126
                                          refine r_iload_n C (dx dX7_copy 85 rfl) rfl ?_
                                          refine r_aload_n C (dx dX7_copy 86 rfl) rfl ?_
                                          refine g_X7_16 C (dx dX7_copy 87 rfl) ?_
                                          refine r_iload_n C (dx dX7_copy 88 rfl) rfl ?_
                                          refine r_iald (j := π) (x := nI ν1) C rfl rfl (by decide) rfl (by omega) (dx dX7_copy 89 rfl) a51 ?_
                                          refine r_iload C (dx dX7_copy 90 rfl) rfl ?_
                                          refine rn_isub (a := ν1) (b := ν) C (by omega) (dx dX7_copy 91 rfl) ?_
                                          refine rn_gt (a := ι) (b := ν1 - ν) (tgt := 181) C (by omega) (by omega) (dx dX7_copy 92 rfl) (by decide) (fun c128 => ?_) (fun c128 => ?_)
                                          · first
                                            | (omega; done)
                                            | (
                                                have c128 : ν1 - ν < ι := c128
                                                refine r_aload_n C (dx dX7_copy 101 rfl) rfl ?_
                                                refine r_bipush (v := -2) C (dx dX7_copy 102 rfl) rfl ?_
                                                refine r_cv (as := [vi (-2)]) (st := []) C X I_X7_refuse l_X7_83 (e_refuse hm (x := -2) (j := 2) (by decide) (by decide)) (by decide) (Nat.le_of_ble_eq_true rfl) List.prefix_rfl List.prefix_rfl rfl rfl (Nat.le_of_ble_eq_true rfl) rfl (dx dX7_copy 103 rfl) ?_
                                                rintro _ h129 ⟨rfl, m9h129, qh129⟩ kkh129
                                                have mh129 : MilAt h129 k v := m9h129
                                                have ph129 : Kp k h h129 := qh129
                                                have kh129 : xK h129 = xK h := kkh129
                                                have eA : copA g (nI π) (nI θ) (nI ι) (nI ξ) (nI ν) = -2 := by (have hq : ¬ (ι + ν ≤ ν1 ∧ ξ + ν ≤ ν2) := by omega); (have hq2 := cp_row e31 e32 (i := ι) (j := ξ) (n := ν) (by omega) (by omega) (by omega) (by omega) (by omega)); rw [decide_eq_false hq] at hq2; simp [copA, copG, copF, c1, c3, c111, c113, c115, c118, c120, c122, c124, c126, c128, e01, e11, e21, e31, e41, e51, e61, e02, e12, e22, e32, e42, e52, e62, e72, clN (show π < 2 ^ 31 by omega), clN (show θ < 2 ^ 31 by omega), clN (show ν < 2 ^ 31 by omega), clN (show ι < 2 ^ 31 by omega), clN (show ξ < 2 ^ 31 by omega), inR_nI (show π < 2 ^ 31 by omega), inR_nI (show θ < 2 ^ 31 by omega), inR_nI (show ν < 2 ^ 31 by omega), inR_nI (show ι < 2 ^ 31 by omega), inR_nI (show ξ < 2 ^ 31 by omega), hq2, show π < 8 by omega, show θ < 8 by omega]
                                                have eG : copG g (nI π) (nI θ) (nI ι) (nI ξ) (nI ν) = g := by (have hq : ¬ (ι + ν ≤ ν1 ∧ ξ + ν ≤ ν2) := by omega); (have hq2 := cp_row e31 e32 (i := ι) (j := ξ) (n := ν) (by omega) (by omega) (by omega) (by omega) (by omega)); rw [decide_eq_false hq] at hq2; simp [copA, copG, copF, c1, c3, c111, c113, c115, c118, c120, c122, c124, c126, c128, e01, e11, e21, e31, e41, e51, e61, e02, e12, e22, e32, e42, e52, e62, e72, clN (show π < 2 ^ 31 by omega), clN (show θ < 2 ^ 31 by omega), clN (show ν < 2 ^ 31 by omega), clN (show ι < 2 ^ 31 by omega), clN (show ξ < 2 ^ 31 by omega), inR_nI (show π < 2 ^ 31 by omega), inR_nI (show θ < 2 ^ 31 by omega), inR_nI (show ν < 2 ^ 31 by omega), inR_nI (show ι < 2 ^ 31 by omega), inR_nI (show ξ < 2 ^ 31 by omega), hq2, show π < 8 by omega, show θ < 8 by omega]
                                                exact F.1 _ _ _ _ _ rfl rfl (dx dX7_copy 104 rfl) kh129 (show some (vi (-2)) = some (vi (copA g (nI π) (nI θ) (nI ι) (nI ξ) (nI ν))) ∧ MilAt h129 k v ∧ MshAt h129 k (copG g (nI π) (nI θ) (nI ι) (nI ξ) (nI ν)) ∧ Kt k h h129 from by rw [eA, eG]; exact ⟨rfl, mh129, hs.kp ph129, ph129.kt⟩))
                                          · first
                                            | (omega; done)
                                            | (
                                                have c128 : ι ≤ ν1 - ν := c128
                                                refine r_iload C (dx dX7_copy 93 rfl) rfl ?_
                                                refine r_aload_n C (dx dX7_copy 94 rfl) rfl ?_
                                                refine g_X7_16 C (dx dX7_copy 95 rfl) ?_
                                                refine r_iload_n C (dx dX7_copy 96 rfl) rfl ?_
                                                refine r_iald (j := θ) (x := xI h (k + 3) θ) C rfl rfl (by decide) rfl (by omega) (dx dX7_copy 97 rfl) rfl ?_
                                                refine r_iload C (dx dX7_copy 98 rfl) rfl ?_
                                                refine r_isub C (dx dX7_copy 99 rfl) ?_
                                                refine r_icmp_le (tgt := 188) C (dx dX7_copy 100 rfl) (by decide) (fun c130 => ?_) (fun c130 => ?_)
                                                ·
                                                  have c130 : nI ξ ≤ (xI h (k + 3) θ) - (nI ν) := c130
                                                  refine r_iconst (v := nI 0) C (dx dX7_copy 105 rfl) rfl ?_
                                                  refine r_istore (ls' := [(0, vr 7 k), (1, vi (nI π)), (2, vi (nI θ)), (3, vi (nI ι)), (4, vi (nI ξ)), (5, vi (nI ν)), (6, vi (nI 0))]) C (dx dX7_copy 106 rfl) (by decide) [1, 2, 3, 4, 5, 6, 0] rfl ?_
                                                  refine loopU (Φ := fun p => ∀ h9, (∀ t, t < p → xL h9 (k + 13) t = gE g π (ι + t)) → Fr (k + 13) (k + 14) h h9 → xK h9 = xK h → Rr G 191 [(0, vr 7 k), (1, vi (nI π)), (2, vi (nI θ)), (3, vi (nI ι)), (4, vi (nI ξ)), (5, vi (nI ν)), (6, vi (nI p))] [] h9) (N := ν) ?_ ?_ 0 (by omega) _ (fun i hi => absurd hi (by omega)) Fr.rf rfl
                                                  ·
                                                    intro h9 q9 f9 k9
                                                    refine r_iload C (dx dX7_copy 107 rfl) rfl ?_
                                                    refine r_iload C (dx dX7_copy 108 rfl) rfl ?_
                                                    refine rn_ge (a := ν) (b := ν) (tgt := 222) C (by omega) (by omega) (dx dX7_copy 109 rfl) (by decide) (fun c131 => ?_) (fun c131 => ?_)
                                                    · first
                                                      | (omega; done)
                                                      | (
                                                          have c131 : ν ≤ ν := c131
                                                          refine r_iconst (v := nI 0) C (dx dX7_copy 124 rfl) rfl ?_
                                                          refine r_istore (ls' := [(0, vr 7 k), (1, vi (nI π)), (2, vi (nI θ)), (3, vi (nI ι)), (4, vi (nI ξ)), (5, vi (nI ν)), (6, vi (nI 0))]) C (dx dX7_copy 125 rfl) (by decide) [1, 2, 3, 4, 5, 6, 0] rfl ?_
                                                          have r9 := MsR.fr (show MsR h k g θ from ⟨_, _, a12, a22, a32, a42, a52, a62, a72, a82⟩) hθ f9
                                                          refine loopU (Φ := fun p => ∀ h8, (∀ i, i < 40 → xL h8 (k + 5 + θ) i = if ξ ≤ i ∧ i < ξ + p then gE g π (ι + (i - ξ)) else gE g θ i) → (∀ t, t < ν → xL h8 (k + 13) t = gE g π (ι + t)) → Fr (k + 5 + θ) (k + 5 + θ + 1) h9 h8 → xK h8 = xK h → Rr G 225 [(0, vr 7 k), (1, vi (nI π)), (2, vi (nI θ)), (3, vi (nI ι)), (4, vi (nI ξ)), (5, vi (nI ν)), (6, vi (nI p))] [] h8) (N := ν) ?_ ?_ 0 (by omega) _ (fun i hi => by rw [if_neg (by omega), f9.L (by omega)]; exact a82 i hi) q9 Fr.rf k9
                                                          ·
                                                            intro h8 q8 u8 f8 k8
                                                            have s9 : MshAt h8 k (pCp g π θ ι ξ ν) := msh_els (hs.mv f9) hθ r9 f8 (fun i hi => by rw [q8 i hi]; rfl)
                                                            have g9 : Fr (k + 1) (k + 16) h h8 := (f9.mono (by omega) (by omega)).tr (f8.mono (by omega) (by omega))
                                                            refine r_iload C (dx dX7_copy 126 rfl) rfl ?_
                                                            refine r_iload C (dx dX7_copy 127 rfl) rfl ?_
                                                            refine rn_ge (a := ν) (b := ν) (tgt := 257) C (by omega) (by omega) (dx dX7_copy 128 rfl) (by decide) (fun c132 => ?_) (fun c132 => ?_)
                                                            · first
                                                              | (omega; done)
                                                              | (
                                                                  have c132 : ν ≤ ν := c132
                                                                  refine r_iload C (dx dX7_copy 143 rfl) rfl ?_
                                                                  have eA : copA g (nI π) (nI θ) (nI ι) (nI ξ) (nI ν) = nI ν := by simp [copA, copG, copF, c1, c3, c111, c113, c115, c118, c120, c122, c124, c126, c128, c130, c131, c132, e01, e11, e21, e31, e41, e51, e61, e02, e12, e22, e32, e42, e52, e62, e72, clN (show π < 2 ^ 31 by omega), clN (show θ < 2 ^ 31 by omega), clN (show ν < 2 ^ 31 by omega), clN (show ι < 2 ^ 31 by omega), clN (show ξ < 2 ^ 31 by omega), inR_nI (show π < 2 ^ 31 by omega), inR_nI (show θ < 2 ^ 31 by omega), inR_nI (show ν < 2 ^ 31 by omega), inR_nI (show ι < 2 ^ 31 by omega), inR_nI (show ξ < 2 ^ 31 by omega), show π < 8 by omega, show θ < 8 by omega, cp_row e31 e32 (by omega) (by omega) (show ι < 2 ^ 31 by omega) (show ξ < 2 ^ 31 by omega) (show ν < 2 ^ 31 by omega), show ι + ν ≤ ν1 by omega, show ξ + ν ≤ ν2 by omega]
                                                                  have eG : copG g (nI π) (nI θ) (nI ι) (nI ξ) (nI ν) = pCp g π θ ι ξ ν := by simp [copA, copG, copF, c1, c3, c111, c113, c115, c118, c120, c122, c124, c126, c128, c130, c131, c132, e01, e11, e21, e31, e41, e51, e61, e02, e12, e22, e32, e42, e52, e62, e72, clN (show π < 2 ^ 31 by omega), clN (show θ < 2 ^ 31 by omega), clN (show ν < 2 ^ 31 by omega), clN (show ι < 2 ^ 31 by omega), clN (show ξ < 2 ^ 31 by omega), inR_nI (show π < 2 ^ 31 by omega), inR_nI (show θ < 2 ^ 31 by omega), inR_nI (show ν < 2 ^ 31 by omega), inR_nI (show ι < 2 ^ 31 by omega), inR_nI (show ξ < 2 ^ 31 by omega), show π < 8 by omega, show θ < 8 by omega, cp_row e31 e32 (by omega) (by omega) (show ι < 2 ^ 31 by omega) (show ξ < 2 ^ 31 by omega) (show ν < 2 ^ 31 by omega), show ι + ν ≤ ν1 by omega, show ξ + ν ≤ ν2 by omega]
                                                                  exact F.1 _ _ _ _ _ rfl rfl (dx dX7_copy 144 rfl) k8 (show some (vi (nI ν)) = some (vi (copA g (nI π) (nI θ) (nI ι) (nI ξ) (nI ν))) ∧ MilAt h8 k v ∧ MshAt h8 k (copG g (nI π) (nI θ) (nI ι) (nI ξ) (nI ν)) ∧ Kt k h h8 from by rw [eA, eG]; exact ⟨rfl, hm.fr g9 (by omega), s9, (Kt.fr g9 (by omega) (by omega))⟩))
                                                            · first
                                                              | (omega; done)
                                                          ·
                                                            intro p hp ih h8 q8 u8 f8 k8
                                                            refine r_iload C (dx dX7_copy 126 rfl) rfl ?_
                                                            refine r_iload C (dx dX7_copy 127 rfl) rfl ?_
                                                            refine rn_ge (a := p) (b := ν) (tgt := 257) C (by omega) (by omega) (dx dX7_copy 128 rfl) (by decide) (fun c133 => ?_) (fun c133 => ?_)
                                                            · first
                                                              | (omega; done)
                                                              | (
                                                                  have c133 : ν ≤ p := c133
                                                                  refine r_iload C (dx dX7_copy 143 rfl) rfl ?_
                                                                  have eA : copA g (nI π) (nI θ) (nI ι) (nI ξ) (nI ν) = nI ν := by simp [copA, copG, copF, c1, c3, c111, c113, c115, c118, c120, c122, c124, c126, c128, c130, c131, c133, e01, e11, e21, e31, e41, e51, e61, e02, e12, e22, e32, e42, e52, e62, e72, clN (show π < 2 ^ 31 by omega), clN (show θ < 2 ^ 31 by omega), clN (show ν < 2 ^ 31 by omega), clN (show ι < 2 ^ 31 by omega), clN (show ξ < 2 ^ 31 by omega), inR_nI (show π < 2 ^ 31 by omega), inR_nI (show θ < 2 ^ 31 by omega), inR_nI (show ν < 2 ^ 31 by omega), inR_nI (show ι < 2 ^ 31 by omega), inR_nI (show ξ < 2 ^ 31 by omega), show π < 8 by omega, show θ < 8 by omega, cp_row e31 e32 (by omega) (by omega) (show ι < 2 ^ 31 by omega) (show ξ < 2 ^ 31 by omega) (show ν < 2 ^ 31 by omega), show ι + ν ≤ ν1 by omega, show ξ + ν ≤ ν2 by omega]
                                                                  have eG : copG g (nI π) (nI θ) (nI ι) (nI ξ) (nI ν) = g := by simp [copA, copG, copF, c1, c3, c111, c113, c115, c118, c120, c122, c124, c126, c128, c130, c131, c133, e01, e11, e21, e31, e41, e51, e61, e02, e12, e22, e32, e42, e52, e62, e72, clN (show π < 2 ^ 31 by omega), clN (show θ < 2 ^ 31 by omega), clN (show ν < 2 ^ 31 by omega), clN (show ι < 2 ^ 31 by omega), clN (show ξ < 2 ^ 31 by omega), inR_nI (show π < 2 ^ 31 by omega), inR_nI (show θ < 2 ^ 31 by omega), inR_nI (show ν < 2 ^ 31 by omega), inR_nI (show ι < 2 ^ 31 by omega), inR_nI (show ξ < 2 ^ 31 by omega), show π < 8 by omega, show θ < 8 by omega, cp_row e31 e32 (by omega) (by omega) (show ι < 2 ^ 31 by omega) (show ξ < 2 ^ 31 by omega) (show ν < 2 ^ 31 by omega), show ι + ν ≤ ν1 by omega, show ξ + ν ≤ ν2 by omega]
                                                                  exact F.1 _ _ _ _ _ rfl rfl (dx dX7_copy 144 rfl) k8 (show some (vi (nI ν)) = some (vi (copA g (nI π) (nI θ) (nI ι) (nI ξ) (nI ν))) ∧ MilAt h8 k v ∧ MshAt h8 k (copG g (nI π) (nI θ) (nI ι) (nI ξ) (nI ν)) ∧ Kt k h h8 from by rw [eA, eG]; exact ⟨rfl, hm, hs, Kt.rf⟩))
                                                            · first
                                                              | (omega; done)
                                                              | (
                                                                  have c133 : p < ν := c133
                                                                  refine r_aload_n C (dx dX7_copy 129 rfl) rfl ?_
                                                                  refine g_X7_21 C (dx dX7_copy 130 rfl) ?_
                                                                  refine r_iload_n C (dx dX7_copy 131 rfl) rfl ?_
                                                                  refine r_aald5 (j := θ) C rfl rfl (by decide) rfl (by omega) (dx dX7_copy 132 rfl) ?_
                                                                  refine r_iload C (dx dX7_copy 133 rfl) rfl ?_
                                                                  refine r_iload C (dx dX7_copy 134 rfl) rfl ?_
                                                                  refine rn_iadd (a := ξ) (b := p) C (dx dX7_copy 135 rfl) ?_
                                                                  refine r_aload_n C (dx dX7_copy 136 rfl) rfl ?_
                                                                  refine g_X7_24 C (dx dX7_copy 137 rfl) ?_
                                                                  refine r_iload C (dx dX7_copy 138 rfl) rfl ?_
                                                                  refine r_lald (j := p) (x := gE g π (ι + p)) C rfl rfl (by decide) rfl (by omega) (dx dX7_copy 139 rfl) (u8 _ (by omega)) ?_
                                                                  refine r_last (j := ξ + p) C rfl rfl (by decide) rfl (by omega) (dx dX7_copy 140 rfl) ?_
                                                                  refine rn_iinc (a := p) (k := 1) (ls' := [(0, vr 7 k), (1, vi (nI π)), (2, vi (nI θ)), (3, vi (nI ι)), (4, vi (nI ξ)), (5, vi (nI ν)), (6, vi (nI (p + 1)))]) C (dx dX7_copy 141 rfl) rfl rfl (by decide) [1, 2, 3, 4, 5, 6, 0] rfl ?_
                                                                  refine r_goto (tgt := 225) C (dx dX7_copy 142 rfl) (by decide) ?_
                                                                  exact ih _ (fun i hi => by rw [sL_at]; exact cp2_step q8 i hi) (fun t ht => by rw [sL_ne (by omega)]; exact u8 t ht) (f8.tr (Fr.sL (by omega) (by omega))) k8))
                                                    · first
                                                      | (omega; done)
                                                  ·
                                                    intro p hp ih h9 q9 f9 k9
                                                    refine r_iload C (dx dX7_copy 107 rfl) rfl ?_
                                                    refine r_iload C (dx dX7_copy 108 rfl) rfl ?_
                                                    refine rn_ge (a := p) (b := ν) (tgt := 222) C (by omega) (by omega) (dx dX7_copy 109 rfl) (by decide) (fun c134 => ?_) (fun c134 => ?_)
                                                    · first
                                                      | (omega; done)
                                                      | (
                                                          have c134 : ν ≤ p := c134
                                                          refine r_iconst (v := nI 0) C (dx dX7_copy 124 rfl) rfl ?_
                                                          refine r_istore (ls' := [(0, vr 7 k), (1, vi (nI π)), (2, vi (nI θ)), (3, vi (nI ι)), (4, vi (nI ξ)), (5, vi (nI ν)), (6, vi (nI 0))]) C (dx dX7_copy 125 rfl) (by decide) [1, 2, 3, 4, 5, 6, 0] rfl ?_
                                                          have r9 := MsR.fr (show MsR h k g θ from ⟨_, _, a12, a22, a32, a42, a52, a62, a72, a82⟩) hθ f9
                                                          refine loopU (Φ := fun p => ∀ h8, (∀ i, i < 40 → xL h8 (k + 5 + θ) i = if ξ ≤ i ∧ i < ξ + p then gE g π (ι + (i - ξ)) else gE g θ i) → (∀ t, t < ν → xL h8 (k + 13) t = gE g π (ι + t)) → Fr (k + 5 + θ) (k + 5 + θ + 1) h9 h8 → xK h8 = xK h → Rr G 225 [(0, vr 7 k), (1, vi (nI π)), (2, vi (nI θ)), (3, vi (nI ι)), (4, vi (nI ξ)), (5, vi (nI ν)), (6, vi (nI p))] [] h8) (N := ν) ?_ ?_ 0 (by omega) _ (fun i hi => by rw [if_neg (by omega), f9.L (by omega)]; exact a82 i hi) q9 Fr.rf k9
                                                          ·
                                                            intro h8 q8 u8 f8 k8
                                                            have s9 : MshAt h8 k (pCp g π θ ι ξ ν) := msh_els (hs.mv f9) hθ r9 f8 (fun i hi => by rw [q8 i hi]; rfl)
                                                            have g9 : Fr (k + 1) (k + 16) h h8 := (f9.mono (by omega) (by omega)).tr (f8.mono (by omega) (by omega))
                                                            refine r_iload C (dx dX7_copy 126 rfl) rfl ?_
                                                            refine r_iload C (dx dX7_copy 127 rfl) rfl ?_
                                                            refine rn_ge (a := ν) (b := ν) (tgt := 257) C (by omega) (by omega) (dx dX7_copy 128 rfl) (by decide) (fun c135 => ?_) (fun c135 => ?_)
                                                            · first
                                                              | (omega; done)
                                                              | (
                                                                  have c135 : ν ≤ ν := c135
                                                                  refine r_iload C (dx dX7_copy 143 rfl) rfl ?_
                                                                  have eA : copA g (nI π) (nI θ) (nI ι) (nI ξ) (nI ν) = nI ν := by simp [copA, copG, copF, c1, c3, c111, c113, c115, c118, c120, c122, c124, c126, c128, c130, c134, c135, e01, e11, e21, e31, e41, e51, e61, e02, e12, e22, e32, e42, e52, e62, e72, clN (show π < 2 ^ 31 by omega), clN (show θ < 2 ^ 31 by omega), clN (show ν < 2 ^ 31 by omega), clN (show ι < 2 ^ 31 by omega), clN (show ξ < 2 ^ 31 by omega), inR_nI (show π < 2 ^ 31 by omega), inR_nI (show θ < 2 ^ 31 by omega), inR_nI (show ν < 2 ^ 31 by omega), inR_nI (show ι < 2 ^ 31 by omega), inR_nI (show ξ < 2 ^ 31 by omega), show π < 8 by omega, show θ < 8 by omega, cp_row e31 e32 (by omega) (by omega) (show ι < 2 ^ 31 by omega) (show ξ < 2 ^ 31 by omega) (show ν < 2 ^ 31 by omega), show ι + ν ≤ ν1 by omega, show ξ + ν ≤ ν2 by omega]
                                                                  have eG : copG g (nI π) (nI θ) (nI ι) (nI ξ) (nI ν) = pCp g π θ ι ξ ν := by simp [copA, copG, copF, c1, c3, c111, c113, c115, c118, c120, c122, c124, c126, c128, c130, c134, c135, e01, e11, e21, e31, e41, e51, e61, e02, e12, e22, e32, e42, e52, e62, e72, clN (show π < 2 ^ 31 by omega), clN (show θ < 2 ^ 31 by omega), clN (show ν < 2 ^ 31 by omega), clN (show ι < 2 ^ 31 by omega), clN (show ξ < 2 ^ 31 by omega), inR_nI (show π < 2 ^ 31 by omega), inR_nI (show θ < 2 ^ 31 by omega), inR_nI (show ν < 2 ^ 31 by omega), inR_nI (show ι < 2 ^ 31 by omega), inR_nI (show ξ < 2 ^ 31 by omega), show π < 8 by omega, show θ < 8 by omega, cp_row e31 e32 (by omega) (by omega) (show ι < 2 ^ 31 by omega) (show ξ < 2 ^ 31 by omega) (show ν < 2 ^ 31 by omega), show ι + ν ≤ ν1 by omega, show ξ + ν ≤ ν2 by omega]
                                                                  exact F.1 _ _ _ _ _ rfl rfl (dx dX7_copy 144 rfl) k8 (show some (vi (nI ν)) = some (vi (copA g (nI π) (nI θ) (nI ι) (nI ξ) (nI ν))) ∧ MilAt h8 k v ∧ MshAt h8 k (copG g (nI π) (nI θ) (nI ι) (nI ξ) (nI ν)) ∧ Kt k h h8 from by rw [eA, eG]; exact ⟨rfl, hm.fr g9 (by omega), s9, (Kt.fr g9 (by omega) (by omega))⟩))
                                                            · first
                                                              | (omega; done)
                                                          ·
                                                            intro p hp ih h8 q8 u8 f8 k8
                                                            refine r_iload C (dx dX7_copy 126 rfl) rfl ?_
                                                            refine r_iload C (dx dX7_copy 127 rfl) rfl ?_
                                                            refine rn_ge (a := p) (b := ν) (tgt := 257) C (by omega) (by omega) (dx dX7_copy 128 rfl) (by decide) (fun c136 => ?_) (fun c136 => ?_)
                                                            · first
                                                              | (omega; done)
                                                              | (
                                                                  have c136 : ν ≤ p := c136
                                                                  refine r_iload C (dx dX7_copy 143 rfl) rfl ?_
                                                                  have eA : copA g (nI π) (nI θ) (nI ι) (nI ξ) (nI ν) = nI ν := by simp [copA, copG, copF, c1, c3, c111, c113, c115, c118, c120, c122, c124, c126, c128, c130, c134, c136, e01, e11, e21, e31, e41, e51, e61, e02, e12, e22, e32, e42, e52, e62, e72, clN (show π < 2 ^ 31 by omega), clN (show θ < 2 ^ 31 by omega), clN (show ν < 2 ^ 31 by omega), clN (show ι < 2 ^ 31 by omega), clN (show ξ < 2 ^ 31 by omega), inR_nI (show π < 2 ^ 31 by omega), inR_nI (show θ < 2 ^ 31 by omega), inR_nI (show ν < 2 ^ 31 by omega), inR_nI (show ι < 2 ^ 31 by omega), inR_nI (show ξ < 2 ^ 31 by omega), show π < 8 by omega, show θ < 8 by omega, cp_row e31 e32 (by omega) (by omega) (show ι < 2 ^ 31 by omega) (show ξ < 2 ^ 31 by omega) (show ν < 2 ^ 31 by omega), show ι + ν ≤ ν1 by omega, show ξ + ν ≤ ν2 by omega]
                                                                  have eG : copG g (nI π) (nI θ) (nI ι) (nI ξ) (nI ν) = g := by simp [copA, copG, copF, c1, c3, c111, c113, c115, c118, c120, c122, c124, c126, c128, c130, c134, c136, e01, e11, e21, e31, e41, e51, e61, e02, e12, e22, e32, e42, e52, e62, e72, clN (show π < 2 ^ 31 by omega), clN (show θ < 2 ^ 31 by omega), clN (show ν < 2 ^ 31 by omega), clN (show ι < 2 ^ 31 by omega), clN (show ξ < 2 ^ 31 by omega), inR_nI (show π < 2 ^ 31 by omega), inR_nI (show θ < 2 ^ 31 by omega), inR_nI (show ν < 2 ^ 31 by omega), inR_nI (show ι < 2 ^ 31 by omega), inR_nI (show ξ < 2 ^ 31 by omega), show π < 8 by omega, show θ < 8 by omega, cp_row e31 e32 (by omega) (by omega) (show ι < 2 ^ 31 by omega) (show ξ < 2 ^ 31 by omega) (show ν < 2 ^ 31 by omega), show ι + ν ≤ ν1 by omega, show ξ + ν ≤ ν2 by omega]
                                                                  exact F.1 _ _ _ _ _ rfl rfl (dx dX7_copy 144 rfl) k8 (show some (vi (nI ν)) = some (vi (copA g (nI π) (nI θ) (nI ι) (nI ξ) (nI ν))) ∧ MilAt h8 k v ∧ MshAt h8 k (copG g (nI π) (nI θ) (nI ι) (nI ξ) (nI ν)) ∧ Kt k h h8 from by rw [eA, eG]; exact ⟨rfl, hm, hs, Kt.rf⟩))
                                                            · first
                                                              | (omega; done)
                                                              | (
                                                                  have c136 : p < ν := c136
                                                                  refine r_aload_n C (dx dX7_copy 129 rfl) rfl ?_
                                                                  refine g_X7_21 C (dx dX7_copy 130 rfl) ?_
                                                                  refine r_iload_n C (dx dX7_copy 131 rfl) rfl ?_
                                                                  refine r_aald5 (j := θ) C rfl rfl (by decide) rfl (by omega) (dx dX7_copy 132 rfl) ?_
                                                                  refine r_iload C (dx dX7_copy 133 rfl) rfl ?_
                                                                  refine r_iload C (dx dX7_copy 134 rfl) rfl ?_
                                                                  refine rn_iadd (a := ξ) (b := p) C (dx dX7_copy 135 rfl) ?_
                                                                  refine r_aload_n C (dx dX7_copy 136 rfl) rfl ?_
                                                                  refine g_X7_24 C (dx dX7_copy 137 rfl) ?_
                                                                  refine r_iload C (dx dX7_copy 138 rfl) rfl ?_
                                                                  refine r_lald (j := p) (x := gE g π (ι + p)) C rfl rfl (by decide) rfl (by omega) (dx dX7_copy 139 rfl) (u8 _ (by omega)) ?_
                                                                  refine r_last (j := ξ + p) C rfl rfl (by decide) rfl (by omega) (dx dX7_copy 140 rfl) ?_
                                                                  refine rn_iinc (a := p) (k := 1) (ls' := [(0, vr 7 k), (1, vi (nI π)), (2, vi (nI θ)), (3, vi (nI ι)), (4, vi (nI ξ)), (5, vi (nI ν)), (6, vi (nI (p + 1)))]) C (dx dX7_copy 141 rfl) rfl rfl (by decide) [1, 2, 3, 4, 5, 6, 0] rfl ?_
                                                                  refine r_goto (tgt := 225) C (dx dX7_copy 142 rfl) (by decide) ?_
                                                                  exact ih _ (fun i hi => by rw [sL_at]; exact cp2_step q8 i hi) (fun t ht => by rw [sL_ne (by omega)]; exact u8 t ht) (f8.tr (Fr.sL (by omega) (by omega))) k8))
                                                    · first
                                                      | (omega; done)
                                                      | (
                                                          have c134 : p < ν := c134
                                                          refine r_aload_n C (dx dX7_copy 110 rfl) rfl ?_
                                                          refine g_X7_24 C (dx dX7_copy 111 rfl) ?_
                                                          refine r_iload C (dx dX7_copy 112 rfl) rfl ?_
                                                          refine r_aload_n C (dx dX7_copy 113 rfl) rfl ?_
                                                          refine g_X7_21 C (dx dX7_copy 114 rfl) ?_
                                                          refine r_iload_n C (dx dX7_copy 115 rfl) rfl ?_
                                                          refine r_aald5 (j := π) C rfl rfl (by decide) rfl (by omega) (dx dX7_copy 116 rfl) ?_
                                                          refine r_iload_n C (dx dX7_copy 117 rfl) rfl ?_
                                                          refine r_iload C (dx dX7_copy 118 rfl) rfl ?_
                                                          refine rn_iadd (a := ι) (b := p) C (dx dX7_copy 119 rfl) ?_
                                                          refine r_lald (j := ι + p) (x := gE g π (ι + p)) C rfl rfl (by decide) rfl (by omega) (dx dX7_copy 120 rfl) ((f9.L (by omega) _).trans (a81 _ (by omega))) ?_
                                                          refine r_last (j := p) C rfl rfl (by decide) rfl (by omega) (dx dX7_copy 121 rfl) ?_
                                                          refine rn_iinc (a := p) (k := 1) (ls' := [(0, vr 7 k), (1, vi (nI π)), (2, vi (nI θ)), (3, vi (nI ι)), (4, vi (nI ξ)), (5, vi (nI ν)), (6, vi (nI (p + 1)))]) C (dx dX7_copy 122 rfl) rfl rfl (by decide) [1, 2, 3, 4, 5, 6, 0] rfl ?_
                                                          refine r_goto (tgt := 191) C (dx dX7_copy 123 rfl) (by decide) ?_
                                                          exact ih _ (fun t ht => by rw [sL_at]; split; (next e => rw [e]); exact q9 t (by omega)) (f9.tr (Fr.sL (by omega) (by omega))) k9)
                                                ·
                                                  have c130 : ¬ nI ξ ≤ (xI h (k + 3) θ) - (nI ν) := c130
                                                  refine r_aload_n C (dx dX7_copy 101 rfl) rfl ?_
                                                  refine r_bipush (v := -2) C (dx dX7_copy 102 rfl) rfl ?_
                                                  refine r_cv (as := [vi (-2)]) (st := []) C X I_X7_refuse l_X7_83 (e_refuse hm (x := -2) (j := 2) (by decide) (by decide)) (by decide) (Nat.le_of_ble_eq_true rfl) List.prefix_rfl List.prefix_rfl rfl rfl (Nat.le_of_ble_eq_true rfl) rfl (dx dX7_copy 103 rfl) ?_
                                                  rintro _ h137 ⟨rfl, m9h137, qh137⟩ kkh137
                                                  have mh137 : MilAt h137 k v := m9h137
                                                  have ph137 : Kp k h h137 := qh137
                                                  have kh137 : xK h137 = xK h := kkh137
                                                  have eA : copA g (nI π) (nI θ) (nI ι) (nI ξ) (nI ν) = -2 := by (have hq : ¬ (ι + ν ≤ ν1 ∧ ξ + ν ≤ ν2) := by omega); (have hq2 := cp_row e31 e32 (i := ι) (j := ξ) (n := ν) (by omega) (by omega) (by omega) (by omega) (by omega)); rw [decide_eq_false hq] at hq2; simp [copA, copG, copF, c1, c3, c111, c113, c115, c118, c120, c122, c124, c126, c128, c130, e01, e11, e21, e31, e41, e51, e61, e02, e12, e22, e32, e42, e52, e62, e72, clN (show π < 2 ^ 31 by omega), clN (show θ < 2 ^ 31 by omega), clN (show ν < 2 ^ 31 by omega), clN (show ι < 2 ^ 31 by omega), clN (show ξ < 2 ^ 31 by omega), inR_nI (show π < 2 ^ 31 by omega), inR_nI (show θ < 2 ^ 31 by omega), inR_nI (show ν < 2 ^ 31 by omega), inR_nI (show ι < 2 ^ 31 by omega), inR_nI (show ξ < 2 ^ 31 by omega), hq2, show π < 8 by omega, show θ < 8 by omega]
                                                  have eG : copG g (nI π) (nI θ) (nI ι) (nI ξ) (nI ν) = g := by (have hq : ¬ (ι + ν ≤ ν1 ∧ ξ + ν ≤ ν2) := by omega); (have hq2 := cp_row e31 e32 (i := ι) (j := ξ) (n := ν) (by omega) (by omega) (by omega) (by omega) (by omega)); rw [decide_eq_false hq] at hq2; simp [copA, copG, copF, c1, c3, c111, c113, c115, c118, c120, c122, c124, c126, c128, c130, e01, e11, e21, e31, e41, e51, e61, e02, e12, e22, e32, e42, e52, e62, e72, clN (show π < 2 ^ 31 by omega), clN (show θ < 2 ^ 31 by omega), clN (show ν < 2 ^ 31 by omega), clN (show ι < 2 ^ 31 by omega), clN (show ξ < 2 ^ 31 by omega), inR_nI (show π < 2 ^ 31 by omega), inR_nI (show θ < 2 ^ 31 by omega), inR_nI (show ν < 2 ^ 31 by omega), inR_nI (show ι < 2 ^ 31 by omega), inR_nI (show ξ < 2 ^ 31 by omega), hq2, show π < 8 by omega, show θ < 8 by omega]
                                                  exact F.1 _ _ _ _ _ rfl rfl (dx dX7_copy 104 rfl) kh137 (show some (vi (-2)) = some (vi (copA g (nI π) (nI θ) (nI ι) (nI ξ) (nI ν))) ∧ MilAt h137 k v ∧ MshAt h137 k (copG g (nI π) (nI θ) (nI ι) (nI ξ) (nI ν)) ∧ Kt k h h137 from by rw [eA, eG]; exact ⟨rfl, mh137, hs.kp ph137, ph137.kt⟩))))
                      · first
                        | (omega; done)
                        | (
                            have c115 : 1 = 1 := c115
                            refine r_aload_n C (dx dX7_copy 34 rfl) rfl ?_
                            refine g_X7_7 C (dx dX7_copy 35 rfl) ?_
                            refine r_iload_n C (dx dX7_copy 36 rfl) rfl ?_
                            refine r_iald (j := θ) (x := nI 2) C rfl rfl (by decide) rfl (by omega) (dx dX7_copy 37 rfl) a42 ?_
                            refine r_iconst (v := nI 1) C (dx dX7_copy 38 rfl) rfl ?_
                            refine rn_ne (a := 2) (b := 1) (tgt := 93) C (by omega) (by omega) (dx dX7_copy 39 rfl) (by decide) (fun c138 => ?_) (fun c138 => ?_)
                            · first
                              | (omega; done)
                              | (
                                  have c138 : ¬ 2 = 1 := c138
                                  refine r_aload_n C (dx dX7_copy 53 rfl) rfl ?_
                                  refine g_X7_7 C (dx dX7_copy 54 rfl) ?_
                                  refine r_iload_n C (dx dX7_copy 55 rfl) rfl ?_
                                  refine r_iald (j := π) (x := nI 1) C rfl rfl (by decide) rfl (by omega) (dx dX7_copy 56 rfl) a31 ?_
                                  refine r_if_eq (tgt := 111) C (dx dX7_copy 57 rfl) (by decide) (fun c139 => (show False from by revert c139; decide).elim) (fun _ => ?_)
                                  refine r_aload_n C (dx dX7_copy 58 rfl) rfl ?_
                                  refine g_X7_7 C (dx dX7_copy 59 rfl) ?_
                                  refine r_iload_n C (dx dX7_copy 60 rfl) rfl ?_
                                  refine r_iald (j := θ) (x := nI 2) C rfl rfl (by decide) rfl (by omega) (dx dX7_copy 61 rfl) a42 ?_
                                  refine r_if_ne (tgt := 118) C (dx dX7_copy 62 rfl) (by decide) (fun _ => ?_) (fun c140 => (show False from by revert c140; decide).elim)
                                  refine r_iload C (dx dX7_copy 67 rfl) rfl ?_
                                  refine r_if_lt (tgt := 181) C (dx dX7_copy 68 rfl) (by decide) (fun c141 => ?_) (fun c141 => ?_)
                                  ·
                                    have c141 : n < 0 := c141
                                    refine r_aload_n C (dx dX7_copy 101 rfl) rfl ?_
                                    refine r_bipush (v := -2) C (dx dX7_copy 102 rfl) rfl ?_
                                    refine r_cv (as := [vi (-2)]) (st := []) C X I_X7_refuse l_X7_83 (e_refuse hm (x := -2) (j := 2) (by decide) (by decide)) (by decide) (Nat.le_of_ble_eq_true rfl) List.prefix_rfl List.prefix_rfl rfl rfl (Nat.le_of_ble_eq_true rfl) rfl (dx dX7_copy 103 rfl) ?_
                                    rintro _ h142 ⟨rfl, m9h142, qh142⟩ kkh142
                                    have mh142 : MilAt h142 k v := m9h142
                                    have ph142 : Kp k h h142 := qh142
                                    have kh142 : xK h142 = xK h := kkh142
                                    have eA : copA g (nI π) (nI θ) i j n = -2 := by simp [copA, copG, copF, cpOk, c1, c3, c111, c113, c115, c138, (fun n9 => inR_neg (n := n9) c141 : ∀ n9, inR n n9 = false), c141, e01, e11, e21, e31, e41, e51, e61, e02, e12, e22, e32, e42, e52, e62, e72, clN (show π < 2 ^ 31 by omega), clN (show θ < 2 ^ 31 by omega), inR_nI (show π < 2 ^ 31 by omega), inR_nI (show θ < 2 ^ 31 by omega), show π < 8 by omega, show θ < 8 by omega]
                                    have eG : copG g (nI π) (nI θ) i j n = g := by simp [copA, copG, copF, cpOk, c1, c3, c111, c113, c115, c138, (fun n9 => inR_neg (n := n9) c141 : ∀ n9, inR n n9 = false), c141, e01, e11, e21, e31, e41, e51, e61, e02, e12, e22, e32, e42, e52, e62, e72, clN (show π < 2 ^ 31 by omega), clN (show θ < 2 ^ 31 by omega), inR_nI (show π < 2 ^ 31 by omega), inR_nI (show θ < 2 ^ 31 by omega), show π < 8 by omega, show θ < 8 by omega]
                                    exact F.1 _ _ _ _ _ rfl rfl (dx dX7_copy 104 rfl) kh142 (show some (vi (-2)) = some (vi (copA g (nI π) (nI θ) i j n)) ∧ MilAt h142 k v ∧ MshAt h142 k (copG g (nI π) (nI θ) i j n) ∧ Kt k h h142 from by rw [eA, eG]; exact ⟨rfl, mh142, hs.kp ph142, ph142.kt⟩)
                                  ·
                                    have c141 : ¬ n < 0 := c141
                                    obtain ⟨ν, hν, rfl⟩ := nI_of c141
                                    refine r_iload_n C (dx dX7_copy 69 rfl) rfl ?_
                                    refine r_if_lt (tgt := 181) C (dx dX7_copy 70 rfl) (by decide) (fun c143 => ?_) (fun c143 => ?_)
                                    ·
                                      have c143 : i < 0 := c143
                                      refine r_aload_n C (dx dX7_copy 101 rfl) rfl ?_
                                      refine r_bipush (v := -2) C (dx dX7_copy 102 rfl) rfl ?_
                                      refine r_cv (as := [vi (-2)]) (st := []) C X I_X7_refuse l_X7_83 (e_refuse hm (x := -2) (j := 2) (by decide) (by decide)) (by decide) (Nat.le_of_ble_eq_true rfl) List.prefix_rfl List.prefix_rfl rfl rfl (Nat.le_of_ble_eq_true rfl) rfl (dx dX7_copy 103 rfl) ?_
                                      rintro _ h144 ⟨rfl, m9h144, qh144⟩ kkh144
                                      have mh144 : MilAt h144 k v := m9h144
                                      have ph144 : Kp k h h144 := qh144
                                      have kh144 : xK h144 = xK h := kkh144
                                      have eA : copA g (nI π) (nI θ) i j (nI ν) = -2 := by simp [copA, copG, copF, cpOk, c1, c3, c111, c113, c115, c138, c141, (fun n9 => inR_neg (n := n9) c143 : ∀ n9, inR i n9 = false), c143, e01, e11, e21, e31, e41, e51, e61, e02, e12, e22, e32, e42, e52, e62, e72, clN (show π < 2 ^ 31 by omega), clN (show θ < 2 ^ 31 by omega), clN (show ν < 2 ^ 31 by omega), inR_nI (show π < 2 ^ 31 by omega), inR_nI (show θ < 2 ^ 31 by omega), inR_nI (show ν < 2 ^ 31 by omega), show π < 8 by omega, show θ < 8 by omega]
                                      have eG : copG g (nI π) (nI θ) i j (nI ν) = g := by simp [copA, copG, copF, cpOk, c1, c3, c111, c113, c115, c138, c141, (fun n9 => inR_neg (n := n9) c143 : ∀ n9, inR i n9 = false), c143, e01, e11, e21, e31, e41, e51, e61, e02, e12, e22, e32, e42, e52, e62, e72, clN (show π < 2 ^ 31 by omega), clN (show θ < 2 ^ 31 by omega), clN (show ν < 2 ^ 31 by omega), inR_nI (show π < 2 ^ 31 by omega), inR_nI (show θ < 2 ^ 31 by omega), inR_nI (show ν < 2 ^ 31 by omega), show π < 8 by omega, show θ < 8 by omega]
                                      exact F.1 _ _ _ _ _ rfl rfl (dx dX7_copy 104 rfl) kh144 (show some (vi (-2)) = some (vi (copA g (nI π) (nI θ) i j (nI ν))) ∧ MilAt h144 k v ∧ MshAt h144 k (copG g (nI π) (nI θ) i j (nI ν)) ∧ Kt k h h144 from by rw [eA, eG]; exact ⟨rfl, mh144, hs.kp ph144, ph144.kt⟩)
                                    ·
                                      have c143 : ¬ i < 0 := c143
                                      obtain ⟨ι, hι, rfl⟩ := nI_of c143
                                      refine r_iload C (dx dX7_copy 71 rfl) rfl ?_
                                      refine r_if_lt (tgt := 181) C (dx dX7_copy 72 rfl) (by decide) (fun c145 => ?_) (fun c145 => ?_)
                                      ·
                                        have c145 : j < 0 := c145
                                        refine r_aload_n C (dx dX7_copy 101 rfl) rfl ?_
                                        refine r_bipush (v := -2) C (dx dX7_copy 102 rfl) rfl ?_
                                        refine r_cv (as := [vi (-2)]) (st := []) C X I_X7_refuse l_X7_83 (e_refuse hm (x := -2) (j := 2) (by decide) (by decide)) (by decide) (Nat.le_of_ble_eq_true rfl) List.prefix_rfl List.prefix_rfl rfl rfl (Nat.le_of_ble_eq_true rfl) rfl (dx dX7_copy 103 rfl) ?_
                                        rintro _ h146 ⟨rfl, m9h146, qh146⟩ kkh146
                                        have mh146 : MilAt h146 k v := m9h146
                                        have ph146 : Kp k h h146 := qh146
                                        have kh146 : xK h146 = xK h := kkh146
                                        have eA : copA g (nI π) (nI θ) (nI ι) j (nI ν) = -2 := by simp [copA, copG, copF, cpOk, c1, c3, c111, c113, c115, c138, c141, c143, (fun n9 => inR_neg (n := n9) c145 : ∀ n9, inR j n9 = false), c145, e01, e11, e21, e31, e41, e51, e61, e02, e12, e22, e32, e42, e52, e62, e72, clN (show π < 2 ^ 31 by omega), clN (show θ < 2 ^ 31 by omega), clN (show ν < 2 ^ 31 by omega), clN (show ι < 2 ^ 31 by omega), inR_nI (show π < 2 ^ 31 by omega), inR_nI (show θ < 2 ^ 31 by omega), inR_nI (show ν < 2 ^ 31 by omega), inR_nI (show ι < 2 ^ 31 by omega), show π < 8 by omega, show θ < 8 by omega]
                                        have eG : copG g (nI π) (nI θ) (nI ι) j (nI ν) = g := by simp [copA, copG, copF, cpOk, c1, c3, c111, c113, c115, c138, c141, c143, (fun n9 => inR_neg (n := n9) c145 : ∀ n9, inR j n9 = false), c145, e01, e11, e21, e31, e41, e51, e61, e02, e12, e22, e32, e42, e52, e62, e72, clN (show π < 2 ^ 31 by omega), clN (show θ < 2 ^ 31 by omega), clN (show ν < 2 ^ 31 by omega), clN (show ι < 2 ^ 31 by omega), inR_nI (show π < 2 ^ 31 by omega), inR_nI (show θ < 2 ^ 31 by omega), inR_nI (show ν < 2 ^ 31 by omega), inR_nI (show ι < 2 ^ 31 by omega), show π < 8 by omega, show θ < 8 by omega]
                                        exact F.1 _ _ _ _ _ rfl rfl (dx dX7_copy 104 rfl) kh146 (show some (vi (-2)) = some (vi (copA g (nI π) (nI θ) (nI ι) j (nI ν))) ∧ MilAt h146 k v ∧ MshAt h146 k (copG g (nI π) (nI θ) (nI ι) j (nI ν)) ∧ Kt k h h146 from by rw [eA, eG]; exact ⟨rfl, mh146, hs.kp ph146, ph146.kt⟩)
                                      ·
                                        have c145 : ¬ j < 0 := c145
                                        obtain ⟨ξ, hξ, rfl⟩ := nI_of c145
                                        refine r_iload C (dx dX7_copy 73 rfl) rfl ?_
                                        refine r_aload_n C (dx dX7_copy 74 rfl) rfl ?_
                                        refine g_X7_16 C (dx dX7_copy 75 rfl) ?_
                                        refine r_iload_n C (dx dX7_copy 76 rfl) rfl ?_
                                        refine r_iald (j := π) (x := nI ν1) C rfl rfl (by decide) rfl (by omega) (dx dX7_copy 77 rfl) a51 ?_
                                        refine rn_gt (a := ν) (b := ν1) (tgt := 181) C (by omega) (by omega) (dx dX7_copy 78 rfl) (by decide) (fun c147 => ?_) (fun c147 => ?_)
                                        · first
                                          | (omega; done)
                                          | (
                                              have c147 : ν1 < ν := c147
                                              refine r_aload_n C (dx dX7_copy 101 rfl) rfl ?_
                                              refine r_bipush (v := -2) C (dx dX7_copy 102 rfl) rfl ?_
                                              refine r_cv (as := [vi (-2)]) (st := []) C X I_X7_refuse l_X7_83 (e_refuse hm (x := -2) (j := 2) (by decide) (by decide)) (by decide) (Nat.le_of_ble_eq_true rfl) List.prefix_rfl List.prefix_rfl rfl rfl (Nat.le_of_ble_eq_true rfl) rfl (dx dX7_copy 103 rfl) ?_
                                              rintro _ h148 ⟨rfl, m9h148, qh148⟩ kkh148
                                              have mh148 : MilAt h148 k v := m9h148
                                              have ph148 : Kp k h h148 := qh148
                                              have kh148 : xK h148 = xK h := kkh148
                                              have eA : copA g (nI π) (nI θ) (nI ι) (nI ξ) (nI ν) = -2 := by (have hq : ¬ (ι + ν ≤ ν1 ∧ ξ + ν ≤ ν2) := by omega); (have hq2 := cp_row e31 e32 (i := ι) (j := ξ) (n := ν) (by omega) (by omega) (by omega) (by omega) (by omega)); rw [decide_eq_false hq] at hq2; simp [copA, copG, copF, c1, c3, c111, c113, c115, c138, c141, c143, c145, c147, e01, e11, e21, e31, e41, e51, e61, e02, e12, e22, e32, e42, e52, e62, e72, clN (show π < 2 ^ 31 by omega), clN (show θ < 2 ^ 31 by omega), clN (show ν < 2 ^ 31 by omega), clN (show ι < 2 ^ 31 by omega), clN (show ξ < 2 ^ 31 by omega), inR_nI (show π < 2 ^ 31 by omega), inR_nI (show θ < 2 ^ 31 by omega), inR_nI (show ν < 2 ^ 31 by omega), inR_nI (show ι < 2 ^ 31 by omega), inR_nI (show ξ < 2 ^ 31 by omega), hq2, show π < 8 by omega, show θ < 8 by omega]
                                              have eG : copG g (nI π) (nI θ) (nI ι) (nI ξ) (nI ν) = g := by (have hq : ¬ (ι + ν ≤ ν1 ∧ ξ + ν ≤ ν2) := by omega); (have hq2 := cp_row e31 e32 (i := ι) (j := ξ) (n := ν) (by omega) (by omega) (by omega) (by omega) (by omega)); rw [decide_eq_false hq] at hq2; simp [copA, copG, copF, c1, c3, c111, c113, c115, c138, c141, c143, c145, c147, e01, e11, e21, e31, e41, e51, e61, e02, e12, e22, e32, e42, e52, e62, e72, clN (show π < 2 ^ 31 by omega), clN (show θ < 2 ^ 31 by omega), clN (show ν < 2 ^ 31 by omega), clN (show ι < 2 ^ 31 by omega), clN (show ξ < 2 ^ 31 by omega), inR_nI (show π < 2 ^ 31 by omega), inR_nI (show θ < 2 ^ 31 by omega), inR_nI (show ν < 2 ^ 31 by omega), inR_nI (show ι < 2 ^ 31 by omega), inR_nI (show ξ < 2 ^ 31 by omega), hq2, show π < 8 by omega, show θ < 8 by omega]
                                              exact F.1 _ _ _ _ _ rfl rfl (dx dX7_copy 104 rfl) kh148 (show some (vi (-2)) = some (vi (copA g (nI π) (nI θ) (nI ι) (nI ξ) (nI ν))) ∧ MilAt h148 k v ∧ MshAt h148 k (copG g (nI π) (nI θ) (nI ι) (nI ξ) (nI ν)) ∧ Kt k h h148 from by rw [eA, eG]; exact ⟨rfl, mh148, hs.kp ph148, ph148.kt⟩))
                                        · first
                                          | (omega; done)
                                          | (
                                              have c147 : ν ≤ ν1 := c147
                                              refine r_iload C (dx dX7_copy 79 rfl) rfl ?_
                                              refine r_aload_n C (dx dX7_copy 80 rfl) rfl ?_
                                              refine g_X7_16 C (dx dX7_copy 81 rfl) ?_
                                              refine r_iload_n C (dx dX7_copy 82 rfl) rfl ?_
                                              refine r_iald (j := θ) (x := xI h (k + 3) θ) C rfl rfl (by decide) rfl (by omega) (dx dX7_copy 83 rfl) rfl ?_
                                              refine r_icmp_gt (tgt := 181) C (dx dX7_copy 84 rfl) (by decide) (fun c149 => ?_) (fun c149 => ?_)
                                              ·
                                                have c149 : xI h (k + 3) θ < nI ν := c149
                                                refine r_aload_n C (dx dX7_copy 101 rfl) rfl ?_
                                                refine r_bipush (v := -2) C (dx dX7_copy 102 rfl) rfl ?_
                                                refine r_cv (as := [vi (-2)]) (st := []) C X I_X7_refuse l_X7_83 (e_refuse hm (x := -2) (j := 2) (by decide) (by decide)) (by decide) (Nat.le_of_ble_eq_true rfl) List.prefix_rfl List.prefix_rfl rfl rfl (Nat.le_of_ble_eq_true rfl) rfl (dx dX7_copy 103 rfl) ?_
                                                rintro _ h150 ⟨rfl, m9h150, qh150⟩ kkh150
                                                have mh150 : MilAt h150 k v := m9h150
                                                have ph150 : Kp k h h150 := qh150
                                                have kh150 : xK h150 = xK h := kkh150
                                                have eA : copA g (nI π) (nI θ) (nI ι) (nI ξ) (nI ν) = -2 := by (have hq : ¬ (ι + ν ≤ ν1 ∧ ξ + ν ≤ ν2) := by omega); (have hq2 := cp_row e31 e32 (i := ι) (j := ξ) (n := ν) (by omega) (by omega) (by omega) (by omega) (by omega)); rw [decide_eq_false hq] at hq2; simp [copA, copG, copF, c1, c3, c111, c113, c115, c138, c141, c143, c145, c147, c149, e01, e11, e21, e31, e41, e51, e61, e02, e12, e22, e32, e42, e52, e62, e72, clN (show π < 2 ^ 31 by omega), clN (show θ < 2 ^ 31 by omega), clN (show ν < 2 ^ 31 by omega), clN (show ι < 2 ^ 31 by omega), clN (show ξ < 2 ^ 31 by omega), inR_nI (show π < 2 ^ 31 by omega), inR_nI (show θ < 2 ^ 31 by omega), inR_nI (show ν < 2 ^ 31 by omega), inR_nI (show ι < 2 ^ 31 by omega), inR_nI (show ξ < 2 ^ 31 by omega), hq2, show π < 8 by omega, show θ < 8 by omega]
                                                have eG : copG g (nI π) (nI θ) (nI ι) (nI ξ) (nI ν) = g := by (have hq : ¬ (ι + ν ≤ ν1 ∧ ξ + ν ≤ ν2) := by omega); (have hq2 := cp_row e31 e32 (i := ι) (j := ξ) (n := ν) (by omega) (by omega) (by omega) (by omega) (by omega)); rw [decide_eq_false hq] at hq2; simp [copA, copG, copF, c1, c3, c111, c113, c115, c138, c141, c143, c145, c147, c149, e01, e11, e21, e31, e41, e51, e61, e02, e12, e22, e32, e42, e52, e62, e72, clN (show π < 2 ^ 31 by omega), clN (show θ < 2 ^ 31 by omega), clN (show ν < 2 ^ 31 by omega), clN (show ι < 2 ^ 31 by omega), clN (show ξ < 2 ^ 31 by omega), inR_nI (show π < 2 ^ 31 by omega), inR_nI (show θ < 2 ^ 31 by omega), inR_nI (show ν < 2 ^ 31 by omega), inR_nI (show ι < 2 ^ 31 by omega), inR_nI (show ξ < 2 ^ 31 by omega), hq2, show π < 8 by omega, show θ < 8 by omega]
                                                exact F.1 _ _ _ _ _ rfl rfl (dx dX7_copy 104 rfl) kh150 (show some (vi (-2)) = some (vi (copA g (nI π) (nI θ) (nI ι) (nI ξ) (nI ν))) ∧ MilAt h150 k v ∧ MshAt h150 k (copG g (nI π) (nI θ) (nI ι) (nI ξ) (nI ν)) ∧ Kt k h h150 from by rw [eA, eG]; exact ⟨rfl, mh150, hs.kp ph150, ph150.kt⟩)
                                              ·
                                                have c149 : ¬ xI h (k + 3) θ < nI ν := c149
                                                refine r_iload_n C (dx dX7_copy 85 rfl) rfl ?_
                                                refine r_aload_n C (dx dX7_copy 86 rfl) rfl ?_
                                                refine g_X7_16 C (dx dX7_copy 87 rfl) ?_
                                                refine r_iload_n C (dx dX7_copy 88 rfl) rfl ?_
                                                refine r_iald (j := π) (x := nI ν1) C rfl rfl (by decide) rfl (by omega) (dx dX7_copy 89 rfl) a51 ?_
                                                refine r_iload C (dx dX7_copy 90 rfl) rfl ?_
                                                refine rn_isub (a := ν1) (b := ν) C (by omega) (dx dX7_copy 91 rfl) ?_
                                                refine rn_gt (a := ι) (b := ν1 - ν) (tgt := 181) C (by omega) (by omega) (dx dX7_copy 92 rfl) (by decide) (fun c151 => ?_) (fun c151 => ?_)
                                                · first
                                                  | (omega; done)
                                                  | (
                                                      have c151 : ν1 - ν < ι := c151
                                                      refine r_aload_n C (dx dX7_copy 101 rfl) rfl ?_
                                                      refine r_bipush (v := -2) C (dx dX7_copy 102 rfl) rfl ?_
                                                      refine r_cv (as := [vi (-2)]) (st := []) C X I_X7_refuse l_X7_83 (e_refuse hm (x := -2) (j := 2) (by decide) (by decide)) (by decide) (Nat.le_of_ble_eq_true rfl) List.prefix_rfl List.prefix_rfl rfl rfl (Nat.le_of_ble_eq_true rfl) rfl (dx dX7_copy 103 rfl) ?_
                                                      rintro _ h152 ⟨rfl, m9h152, qh152⟩ kkh152
                                                      have mh152 : MilAt h152 k v := m9h152
                                                      have ph152 : Kp k h h152 := qh152
                                                      have kh152 : xK h152 = xK h := kkh152
                                                      have eA : copA g (nI π) (nI θ) (nI ι) (nI ξ) (nI ν) = -2 := by (have hq : ¬ (ι + ν ≤ ν1 ∧ ξ + ν ≤ ν2) := by omega); (have hq2 := cp_row e31 e32 (i := ι) (j := ξ) (n := ν) (by omega) (by omega) (by omega) (by omega) (by omega)); rw [decide_eq_false hq] at hq2; simp [copA, copG, copF, c1, c3, c111, c113, c115, c138, c141, c143, c145, c147, c149, c151, e01, e11, e21, e31, e41, e51, e61, e02, e12, e22, e32, e42, e52, e62, e72, clN (show π < 2 ^ 31 by omega), clN (show θ < 2 ^ 31 by omega), clN (show ν < 2 ^ 31 by omega), clN (show ι < 2 ^ 31 by omega), clN (show ξ < 2 ^ 31 by omega), inR_nI (show π < 2 ^ 31 by omega), inR_nI (show θ < 2 ^ 31 by omega), inR_nI (show ν < 2 ^ 31 by omega), inR_nI (show ι < 2 ^ 31 by omega), inR_nI (show ξ < 2 ^ 31 by omega), hq2, show π < 8 by omega, show θ < 8 by omega]
                                                      have eG : copG g (nI π) (nI θ) (nI ι) (nI ξ) (nI ν) = g := by (have hq : ¬ (ι + ν ≤ ν1 ∧ ξ + ν ≤ ν2) := by omega); (have hq2 := cp_row e31 e32 (i := ι) (j := ξ) (n := ν) (by omega) (by omega) (by omega) (by omega) (by omega)); rw [decide_eq_false hq] at hq2; simp [copA, copG, copF, c1, c3, c111, c113, c115, c138, c141, c143, c145, c147, c149, c151, e01, e11, e21, e31, e41, e51, e61, e02, e12, e22, e32, e42, e52, e62, e72, clN (show π < 2 ^ 31 by omega), clN (show θ < 2 ^ 31 by omega), clN (show ν < 2 ^ 31 by omega), clN (show ι < 2 ^ 31 by omega), clN (show ξ < 2 ^ 31 by omega), inR_nI (show π < 2 ^ 31 by omega), inR_nI (show θ < 2 ^ 31 by omega), inR_nI (show ν < 2 ^ 31 by omega), inR_nI (show ι < 2 ^ 31 by omega), inR_nI (show ξ < 2 ^ 31 by omega), hq2, show π < 8 by omega, show θ < 8 by omega]
                                                      exact F.1 _ _ _ _ _ rfl rfl (dx dX7_copy 104 rfl) kh152 (show some (vi (-2)) = some (vi (copA g (nI π) (nI θ) (nI ι) (nI ξ) (nI ν))) ∧ MilAt h152 k v ∧ MshAt h152 k (copG g (nI π) (nI θ) (nI ι) (nI ξ) (nI ν)) ∧ Kt k h h152 from by rw [eA, eG]; exact ⟨rfl, mh152, hs.kp ph152, ph152.kt⟩))
                                                · first
                                                  | (omega; done)
                                                  | (
                                                      have c151 : ι ≤ ν1 - ν := c151
                                                      refine r_iload C (dx dX7_copy 93 rfl) rfl ?_
                                                      refine r_aload_n C (dx dX7_copy 94 rfl) rfl ?_
                                                      refine g_X7_16 C (dx dX7_copy 95 rfl) ?_
                                                      refine r_iload_n C (dx dX7_copy 96 rfl) rfl ?_
                                                      refine r_iald (j := θ) (x := xI h (k + 3) θ) C rfl rfl (by decide) rfl (by omega) (dx dX7_copy 97 rfl) rfl ?_
                                                      refine r_iload C (dx dX7_copy 98 rfl) rfl ?_
                                                      refine r_isub C (dx dX7_copy 99 rfl) ?_
                                                      refine r_icmp_le (tgt := 188) C (dx dX7_copy 100 rfl) (by decide) (fun c153 => ?_) (fun c153 => ?_)
                                                      ·
                                                        have c153 : nI ξ ≤ (xI h (k + 3) θ) - (nI ν) := c153
                                                        refine r_iconst (v := nI 0) C (dx dX7_copy 105 rfl) rfl ?_
                                                        refine r_istore (ls' := [(0, vr 7 k), (1, vi (nI π)), (2, vi (nI θ)), (3, vi (nI ι)), (4, vi (nI ξ)), (5, vi (nI ν)), (6, vi (nI 0))]) C (dx dX7_copy 106 rfl) (by decide) [1, 2, 3, 4, 5, 6, 0] rfl ?_
                                                        refine loopU (Φ := fun p => ∀ h9, (∀ t, t < p → xL h9 (k + 13) t = gE g π (ι + t)) → Fr (k + 13) (k + 14) h h9 → xK h9 = xK h → Rr G 191 [(0, vr 7 k), (1, vi (nI π)), (2, vi (nI θ)), (3, vi (nI ι)), (4, vi (nI ξ)), (5, vi (nI ν)), (6, vi (nI p))] [] h9) (N := ν) ?_ ?_ 0 (by omega) _ (fun i hi => absurd hi (by omega)) Fr.rf rfl
                                                        ·
                                                          intro h9 q9 f9 k9
                                                          refine r_iload C (dx dX7_copy 107 rfl) rfl ?_
                                                          refine r_iload C (dx dX7_copy 108 rfl) rfl ?_
                                                          refine rn_ge (a := ν) (b := ν) (tgt := 222) C (by omega) (by omega) (dx dX7_copy 109 rfl) (by decide) (fun c154 => ?_) (fun c154 => ?_)
                                                          · first
                                                            | (omega; done)
                                                            | (
                                                                have c154 : ν ≤ ν := c154
                                                                refine r_iconst (v := nI 0) C (dx dX7_copy 124 rfl) rfl ?_
                                                                refine r_istore (ls' := [(0, vr 7 k), (1, vi (nI π)), (2, vi (nI θ)), (3, vi (nI ι)), (4, vi (nI ξ)), (5, vi (nI ν)), (6, vi (nI 0))]) C (dx dX7_copy 125 rfl) (by decide) [1, 2, 3, 4, 5, 6, 0] rfl ?_
                                                                have r9 := MsR.fr (show MsR h k g θ from ⟨_, _, a12, a22, a32, a42, a52, a62, a72, a82⟩) hθ f9
                                                                refine loopU (Φ := fun p => ∀ h8, (∀ i, i < 40 → xL h8 (k + 5 + θ) i = if ξ ≤ i ∧ i < ξ + p then gE g π (ι + (i - ξ)) else gE g θ i) → (∀ t, t < ν → xL h8 (k + 13) t = gE g π (ι + t)) → Fr (k + 5 + θ) (k + 5 + θ + 1) h9 h8 → xK h8 = xK h → Rr G 225 [(0, vr 7 k), (1, vi (nI π)), (2, vi (nI θ)), (3, vi (nI ι)), (4, vi (nI ξ)), (5, vi (nI ν)), (6, vi (nI p))] [] h8) (N := ν) ?_ ?_ 0 (by omega) _ (fun i hi => by rw [if_neg (by omega), f9.L (by omega)]; exact a82 i hi) q9 Fr.rf k9
                                                                ·
                                                                  intro h8 q8 u8 f8 k8
                                                                  have s9 : MshAt h8 k (pCp g π θ ι ξ ν) := msh_els (hs.mv f9) hθ r9 f8 (fun i hi => by rw [q8 i hi]; rfl)
                                                                  have g9 : Fr (k + 1) (k + 16) h h8 := (f9.mono (by omega) (by omega)).tr (f8.mono (by omega) (by omega))
                                                                  refine r_iload C (dx dX7_copy 126 rfl) rfl ?_
                                                                  refine r_iload C (dx dX7_copy 127 rfl) rfl ?_
                                                                  refine rn_ge (a := ν) (b := ν) (tgt := 257) C (by omega) (by omega) (dx dX7_copy 128 rfl) (by decide) (fun c155 => ?_) (fun c155 => ?_)
                                                                  · first
                                                                    | (omega; done)
                                                                    | (
                                                                        have c155 : ν ≤ ν := c155
                                                                        refine r_iload C (dx dX7_copy 143 rfl) rfl ?_
                                                                        have eA : copA g (nI π) (nI θ) (nI ι) (nI ξ) (nI ν) = nI ν := by simp [copA, copG, copF, c1, c3, c111, c113, c115, c138, c141, c143, c145, c147, c149, c151, c153, c154, c155, e01, e11, e21, e31, e41, e51, e61, e02, e12, e22, e32, e42, e52, e62, e72, clN (show π < 2 ^ 31 by omega), clN (show θ < 2 ^ 31 by omega), clN (show ν < 2 ^ 31 by omega), clN (show ι < 2 ^ 31 by omega), clN (show ξ < 2 ^ 31 by omega), inR_nI (show π < 2 ^ 31 by omega), inR_nI (show θ < 2 ^ 31 by omega), inR_nI (show ν < 2 ^ 31 by omega), inR_nI (show ι < 2 ^ 31 by omega), inR_nI (show ξ < 2 ^ 31 by omega), show π < 8 by omega, show θ < 8 by omega, cp_row e31 e32 (by omega) (by omega) (show ι < 2 ^ 31 by omega) (show ξ < 2 ^ 31 by omega) (show ν < 2 ^ 31 by omega), show ι + ν ≤ ν1 by omega, show ξ + ν ≤ ν2 by omega]
                                                                        have eG : copG g (nI π) (nI θ) (nI ι) (nI ξ) (nI ν) = pCp g π θ ι ξ ν := by simp [copA, copG, copF, c1, c3, c111, c113, c115, c138, c141, c143, c145, c147, c149, c151, c153, c154, c155, e01, e11, e21, e31, e41, e51, e61, e02, e12, e22, e32, e42, e52, e62, e72, clN (show π < 2 ^ 31 by omega), clN (show θ < 2 ^ 31 by omega), clN (show ν < 2 ^ 31 by omega), clN (show ι < 2 ^ 31 by omega), clN (show ξ < 2 ^ 31 by omega), inR_nI (show π < 2 ^ 31 by omega), inR_nI (show θ < 2 ^ 31 by omega), inR_nI (show ν < 2 ^ 31 by omega), inR_nI (show ι < 2 ^ 31 by omega), inR_nI (show ξ < 2 ^ 31 by omega), show π < 8 by omega, show θ < 8 by omega, cp_row e31 e32 (by omega) (by omega) (show ι < 2 ^ 31 by omega) (show ξ < 2 ^ 31 by omega) (show ν < 2 ^ 31 by omega), show ι + ν ≤ ν1 by omega, show ξ + ν ≤ ν2 by omega]
                                                                        exact F.1 _ _ _ _ _ rfl rfl (dx dX7_copy 144 rfl) k8 (show some (vi (nI ν)) = some (vi (copA g (nI π) (nI θ) (nI ι) (nI ξ) (nI ν))) ∧ MilAt h8 k v ∧ MshAt h8 k (copG g (nI π) (nI θ) (nI ι) (nI ξ) (nI ν)) ∧ Kt k h h8 from by rw [eA, eG]; exact ⟨rfl, hm.fr g9 (by omega), s9, (Kt.fr g9 (by omega) (by omega))⟩))
                                                                  · first
                                                                    | (omega; done)
                                                                ·
                                                                  intro p hp ih h8 q8 u8 f8 k8
                                                                  refine r_iload C (dx dX7_copy 126 rfl) rfl ?_
                                                                  refine r_iload C (dx dX7_copy 127 rfl) rfl ?_
                                                                  refine rn_ge (a := p) (b := ν) (tgt := 257) C (by omega) (by omega) (dx dX7_copy 128 rfl) (by decide) (fun c156 => ?_) (fun c156 => ?_)
                                                                  · first
                                                                    | (omega; done)
                                                                    | (
                                                                        have c156 : ν ≤ p := c156
                                                                        refine r_iload C (dx dX7_copy 143 rfl) rfl ?_
                                                                        have eA : copA g (nI π) (nI θ) (nI ι) (nI ξ) (nI ν) = nI ν := by simp [copA, copG, copF, c1, c3, c111, c113, c115, c138, c141, c143, c145, c147, c149, c151, c153, c154, c156, e01, e11, e21, e31, e41, e51, e61, e02, e12, e22, e32, e42, e52, e62, e72, clN (show π < 2 ^ 31 by omega), clN (show θ < 2 ^ 31 by omega), clN (show ν < 2 ^ 31 by omega), clN (show ι < 2 ^ 31 by omega), clN (show ξ < 2 ^ 31 by omega), inR_nI (show π < 2 ^ 31 by omega), inR_nI (show θ < 2 ^ 31 by omega), inR_nI (show ν < 2 ^ 31 by omega), inR_nI (show ι < 2 ^ 31 by omega), inR_nI (show ξ < 2 ^ 31 by omega), show π < 8 by omega, show θ < 8 by omega, cp_row e31 e32 (by omega) (by omega) (show ι < 2 ^ 31 by omega) (show ξ < 2 ^ 31 by omega) (show ν < 2 ^ 31 by omega), show ι + ν ≤ ν1 by omega, show ξ + ν ≤ ν2 by omega]
                                                                        have eG : copG g (nI π) (nI θ) (nI ι) (nI ξ) (nI ν) = g := by simp [copA, copG, copF, c1, c3, c111, c113, c115, c138, c141, c143, c145, c147, c149, c151, c153, c154, c156, e01, e11, e21, e31, e41, e51, e61, e02, e12, e22, e32, e42, e52, e62, e72, clN (show π < 2 ^ 31 by omega), clN (show θ < 2 ^ 31 by omega), clN (show ν < 2 ^ 31 by omega), clN (show ι < 2 ^ 31 by omega), clN (show ξ < 2 ^ 31 by omega), inR_nI (show π < 2 ^ 31 by omega), inR_nI (show θ < 2 ^ 31 by omega), inR_nI (show ν < 2 ^ 31 by omega), inR_nI (show ι < 2 ^ 31 by omega), inR_nI (show ξ < 2 ^ 31 by omega), show π < 8 by omega, show θ < 8 by omega, cp_row e31 e32 (by omega) (by omega) (show ι < 2 ^ 31 by omega) (show ξ < 2 ^ 31 by omega) (show ν < 2 ^ 31 by omega), show ι + ν ≤ ν1 by omega, show ξ + ν ≤ ν2 by omega]
                                                                        exact F.1 _ _ _ _ _ rfl rfl (dx dX7_copy 144 rfl) k8 (show some (vi (nI ν)) = some (vi (copA g (nI π) (nI θ) (nI ι) (nI ξ) (nI ν))) ∧ MilAt h8 k v ∧ MshAt h8 k (copG g (nI π) (nI θ) (nI ι) (nI ξ) (nI ν)) ∧ Kt k h h8 from by rw [eA, eG]; exact ⟨rfl, hm, hs, Kt.rf⟩))
                                                                  · first
                                                                    | (omega; done)
                                                                    | (
                                                                        have c156 : p < ν := c156
                                                                        refine r_aload_n C (dx dX7_copy 129 rfl) rfl ?_
                                                                        refine g_X7_21 C (dx dX7_copy 130 rfl) ?_
                                                                        refine r_iload_n C (dx dX7_copy 131 rfl) rfl ?_
                                                                        refine r_aald5 (j := θ) C rfl rfl (by decide) rfl (by omega) (dx dX7_copy 132 rfl) ?_
                                                                        refine r_iload C (dx dX7_copy 133 rfl) rfl ?_
                                                                        refine r_iload C (dx dX7_copy 134 rfl) rfl ?_
                                                                        refine rn_iadd (a := ξ) (b := p) C (dx dX7_copy 135 rfl) ?_
                                                                        refine r_aload_n C (dx dX7_copy 136 rfl) rfl ?_
                                                                        refine g_X7_24 C (dx dX7_copy 137 rfl) ?_
                                                                        refine r_iload C (dx dX7_copy 138 rfl) rfl ?_
                                                                        refine r_lald (j := p) (x := gE g π (ι + p)) C rfl rfl (by decide) rfl (by omega) (dx dX7_copy 139 rfl) (u8 _ (by omega)) ?_
                                                                        refine r_last (j := ξ + p) C rfl rfl (by decide) rfl (by omega) (dx dX7_copy 140 rfl) ?_
                                                                        refine rn_iinc (a := p) (k := 1) (ls' := [(0, vr 7 k), (1, vi (nI π)), (2, vi (nI θ)), (3, vi (nI ι)), (4, vi (nI ξ)), (5, vi (nI ν)), (6, vi (nI (p + 1)))]) C (dx dX7_copy 141 rfl) rfl rfl (by decide) [1, 2, 3, 4, 5, 6, 0] rfl ?_
                                                                        refine r_goto (tgt := 225) C (dx dX7_copy 142 rfl) (by decide) ?_
                                                                        exact ih _ (fun i hi => by rw [sL_at]; exact cp2_step q8 i hi) (fun t ht => by rw [sL_ne (by omega)]; exact u8 t ht) (f8.tr (Fr.sL (by omega) (by omega))) k8))
                                                          · first
                                                            | (omega; done)
                                                        ·
                                                          intro p hp ih h9 q9 f9 k9
                                                          refine r_iload C (dx dX7_copy 107 rfl) rfl ?_
                                                          refine r_iload C (dx dX7_copy 108 rfl) rfl ?_
                                                          refine rn_ge (a := p) (b := ν) (tgt := 222) C (by omega) (by omega) (dx dX7_copy 109 rfl) (by decide) (fun c157 => ?_) (fun c157 => ?_)
                                                          · first
                                                            | (omega; done)
                                                            | (
                                                                have c157 : ν ≤ p := c157
                                                                refine r_iconst (v := nI 0) C (dx dX7_copy 124 rfl) rfl ?_
                                                                refine r_istore (ls' := [(0, vr 7 k), (1, vi (nI π)), (2, vi (nI θ)), (3, vi (nI ι)), (4, vi (nI ξ)), (5, vi (nI ν)), (6, vi (nI 0))]) C (dx dX7_copy 125 rfl) (by decide) [1, 2, 3, 4, 5, 6, 0] rfl ?_
                                                                have r9 := MsR.fr (show MsR h k g θ from ⟨_, _, a12, a22, a32, a42, a52, a62, a72, a82⟩) hθ f9
                                                                refine loopU (Φ := fun p => ∀ h8, (∀ i, i < 40 → xL h8 (k + 5 + θ) i = if ξ ≤ i ∧ i < ξ + p then gE g π (ι + (i - ξ)) else gE g θ i) → (∀ t, t < ν → xL h8 (k + 13) t = gE g π (ι + t)) → Fr (k + 5 + θ) (k + 5 + θ + 1) h9 h8 → xK h8 = xK h → Rr G 225 [(0, vr 7 k), (1, vi (nI π)), (2, vi (nI θ)), (3, vi (nI ι)), (4, vi (nI ξ)), (5, vi (nI ν)), (6, vi (nI p))] [] h8) (N := ν) ?_ ?_ 0 (by omega) _ (fun i hi => by rw [if_neg (by omega), f9.L (by omega)]; exact a82 i hi) q9 Fr.rf k9
                                                                ·
                                                                  intro h8 q8 u8 f8 k8
                                                                  have s9 : MshAt h8 k (pCp g π θ ι ξ ν) := msh_els (hs.mv f9) hθ r9 f8 (fun i hi => by rw [q8 i hi]; rfl)
                                                                  have g9 : Fr (k + 1) (k + 16) h h8 := (f9.mono (by omega) (by omega)).tr (f8.mono (by omega) (by omega))
                                                                  refine r_iload C (dx dX7_copy 126 rfl) rfl ?_
                                                                  refine r_iload C (dx dX7_copy 127 rfl) rfl ?_
                                                                  refine rn_ge (a := ν) (b := ν) (tgt := 257) C (by omega) (by omega) (dx dX7_copy 128 rfl) (by decide) (fun c158 => ?_) (fun c158 => ?_)
                                                                  · first
                                                                    | (omega; done)
                                                                    | (
                                                                        have c158 : ν ≤ ν := c158
                                                                        refine r_iload C (dx dX7_copy 143 rfl) rfl ?_
                                                                        have eA : copA g (nI π) (nI θ) (nI ι) (nI ξ) (nI ν) = nI ν := by simp [copA, copG, copF, c1, c3, c111, c113, c115, c138, c141, c143, c145, c147, c149, c151, c153, c157, c158, e01, e11, e21, e31, e41, e51, e61, e02, e12, e22, e32, e42, e52, e62, e72, clN (show π < 2 ^ 31 by omega), clN (show θ < 2 ^ 31 by omega), clN (show ν < 2 ^ 31 by omega), clN (show ι < 2 ^ 31 by omega), clN (show ξ < 2 ^ 31 by omega), inR_nI (show π < 2 ^ 31 by omega), inR_nI (show θ < 2 ^ 31 by omega), inR_nI (show ν < 2 ^ 31 by omega), inR_nI (show ι < 2 ^ 31 by omega), inR_nI (show ξ < 2 ^ 31 by omega), show π < 8 by omega, show θ < 8 by omega, cp_row e31 e32 (by omega) (by omega) (show ι < 2 ^ 31 by omega) (show ξ < 2 ^ 31 by omega) (show ν < 2 ^ 31 by omega), show ι + ν ≤ ν1 by omega, show ξ + ν ≤ ν2 by omega]
                                                                        have eG : copG g (nI π) (nI θ) (nI ι) (nI ξ) (nI ν) = pCp g π θ ι ξ ν := by simp [copA, copG, copF, c1, c3, c111, c113, c115, c138, c141, c143, c145, c147, c149, c151, c153, c157, c158, e01, e11, e21, e31, e41, e51, e61, e02, e12, e22, e32, e42, e52, e62, e72, clN (show π < 2 ^ 31 by omega), clN (show θ < 2 ^ 31 by omega), clN (show ν < 2 ^ 31 by omega), clN (show ι < 2 ^ 31 by omega), clN (show ξ < 2 ^ 31 by omega), inR_nI (show π < 2 ^ 31 by omega), inR_nI (show θ < 2 ^ 31 by omega), inR_nI (show ν < 2 ^ 31 by omega), inR_nI (show ι < 2 ^ 31 by omega), inR_nI (show ξ < 2 ^ 31 by omega), show π < 8 by omega, show θ < 8 by omega, cp_row e31 e32 (by omega) (by omega) (show ι < 2 ^ 31 by omega) (show ξ < 2 ^ 31 by omega) (show ν < 2 ^ 31 by omega), show ι + ν ≤ ν1 by omega, show ξ + ν ≤ ν2 by omega]
                                                                        exact F.1 _ _ _ _ _ rfl rfl (dx dX7_copy 144 rfl) k8 (show some (vi (nI ν)) = some (vi (copA g (nI π) (nI θ) (nI ι) (nI ξ) (nI ν))) ∧ MilAt h8 k v ∧ MshAt h8 k (copG g (nI π) (nI θ) (nI ι) (nI ξ) (nI ν)) ∧ Kt k h h8 from by rw [eA, eG]; exact ⟨rfl, hm.fr g9 (by omega), s9, (Kt.fr g9 (by omega) (by omega))⟩))
                                                                  · first
                                                                    | (omega; done)
                                                                ·
                                                                  intro p hp ih h8 q8 u8 f8 k8
                                                                  refine r_iload C (dx dX7_copy 126 rfl) rfl ?_
                                                                  refine r_iload C (dx dX7_copy 127 rfl) rfl ?_
                                                                  refine rn_ge (a := p) (b := ν) (tgt := 257) C (by omega) (by omega) (dx dX7_copy 128 rfl) (by decide) (fun c159 => ?_) (fun c159 => ?_)
                                                                  · first
                                                                    | (omega; done)
                                                                    | (
                                                                        have c159 : ν ≤ p := c159
                                                                        refine r_iload C (dx dX7_copy 143 rfl) rfl ?_
                                                                        have eA : copA g (nI π) (nI θ) (nI ι) (nI ξ) (nI ν) = nI ν := by simp [copA, copG, copF, c1, c3, c111, c113, c115, c138, c141, c143, c145, c147, c149, c151, c153, c157, c159, e01, e11, e21, e31, e41, e51, e61, e02, e12, e22, e32, e42, e52, e62, e72, clN (show π < 2 ^ 31 by omega), clN (show θ < 2 ^ 31 by omega), clN (show ν < 2 ^ 31 by omega), clN (show ι < 2 ^ 31 by omega), clN (show ξ < 2 ^ 31 by omega), inR_nI (show π < 2 ^ 31 by omega), inR_nI (show θ < 2 ^ 31 by omega), inR_nI (show ν < 2 ^ 31 by omega), inR_nI (show ι < 2 ^ 31 by omega), inR_nI (show ξ < 2 ^ 31 by omega), show π < 8 by omega, show θ < 8 by omega, cp_row e31 e32 (by omega) (by omega) (show ι < 2 ^ 31 by omega) (show ξ < 2 ^ 31 by omega) (show ν < 2 ^ 31 by omega), show ι + ν ≤ ν1 by omega, show ξ + ν ≤ ν2 by omega]
                                                                        have eG : copG g (nI π) (nI θ) (nI ι) (nI ξ) (nI ν) = g := by simp [copA, copG, copF, c1, c3, c111, c113, c115, c138, c141, c143, c145, c147, c149, c151, c153, c157, c159, e01, e11, e21, e31, e41, e51, e61, e02, e12, e22, e32, e42, e52, e62, e72, clN (show π < 2 ^ 31 by omega), clN (show θ < 2 ^ 31 by omega), clN (show ν < 2 ^ 31 by omega), clN (show ι < 2 ^ 31 by omega), clN (show ξ < 2 ^ 31 by omega), inR_nI (show π < 2 ^ 31 by omega), inR_nI (show θ < 2 ^ 31 by omega), inR_nI (show ν < 2 ^ 31 by omega), inR_nI (show ι < 2 ^ 31 by omega), inR_nI (show ξ < 2 ^ 31 by omega), show π < 8 by omega, show θ < 8 by omega, cp_row e31 e32 (by omega) (by omega) (show ι < 2 ^ 31 by omega) (show ξ < 2 ^ 31 by omega) (show ν < 2 ^ 31 by omega), show ι + ν ≤ ν1 by omega, show ξ + ν ≤ ν2 by omega]
                                                                        exact F.1 _ _ _ _ _ rfl rfl (dx dX7_copy 144 rfl) k8 (show some (vi (nI ν)) = some (vi (copA g (nI π) (nI θ) (nI ι) (nI ξ) (nI ν))) ∧ MilAt h8 k v ∧ MshAt h8 k (copG g (nI π) (nI θ) (nI ι) (nI ξ) (nI ν)) ∧ Kt k h h8 from by rw [eA, eG]; exact ⟨rfl, hm, hs, Kt.rf⟩))
                                                                  · first
                                                                    | (omega; done)
                                                                    | (
                                                                        have c159 : p < ν := c159
                                                                        refine r_aload_n C (dx dX7_copy 129 rfl) rfl ?_
                                                                        refine g_X7_21 C (dx dX7_copy 130 rfl) ?_
                                                                        refine r_iload_n C (dx dX7_copy 131 rfl) rfl ?_
                                                                        refine r_aald5 (j := θ) C rfl rfl (by decide) rfl (by omega) (dx dX7_copy 132 rfl) ?_
                                                                        refine r_iload C (dx dX7_copy 133 rfl) rfl ?_
                                                                        refine r_iload C (dx dX7_copy 134 rfl) rfl ?_
                                                                        refine rn_iadd (a := ξ) (b := p) C (dx dX7_copy 135 rfl) ?_
                                                                        refine r_aload_n C (dx dX7_copy 136 rfl) rfl ?_
                                                                        refine g_X7_24 C (dx dX7_copy 137 rfl) ?_
                                                                        refine r_iload C (dx dX7_copy 138 rfl) rfl ?_
                                                                        refine r_lald (j := p) (x := gE g π (ι + p)) C rfl rfl (by decide) rfl (by omega) (dx dX7_copy 139 rfl) (u8 _ (by omega)) ?_
                                                                        refine r_last (j := ξ + p) C rfl rfl (by decide) rfl (by omega) (dx dX7_copy 140 rfl) ?_
                                                                        refine rn_iinc (a := p) (k := 1) (ls' := [(0, vr 7 k), (1, vi (nI π)), (2, vi (nI θ)), (3, vi (nI ι)), (4, vi (nI ξ)), (5, vi (nI ν)), (6, vi (nI (p + 1)))]) C (dx dX7_copy 141 rfl) rfl rfl (by decide) [1, 2, 3, 4, 5, 6, 0] rfl ?_
                                                                        refine r_goto (tgt := 225) C (dx dX7_copy 142 rfl) (by decide) ?_
                                                                        exact ih _ (fun i hi => by rw [sL_at]; exact cp2_step q8 i hi) (fun t ht => by rw [sL_ne (by omega)]; exact u8 t ht) (f8.tr (Fr.sL (by omega) (by omega))) k8))
                                                          · first
                                                            | (omega; done)
                                                            | (
                                                                have c157 : p < ν := c157
                                                                refine r_aload_n C (dx dX7_copy 110 rfl) rfl ?_
                                                                refine g_X7_24 C (dx dX7_copy 111 rfl) ?_
                                                                refine r_iload C (dx dX7_copy 112 rfl) rfl ?_
                                                                refine r_aload_n C (dx dX7_copy 113 rfl) rfl ?_
                                                                refine g_X7_21 C (dx dX7_copy 114 rfl) ?_
                                                                refine r_iload_n C (dx dX7_copy 115 rfl) rfl ?_
                                                                refine r_aald5 (j := π) C rfl rfl (by decide) rfl (by omega) (dx dX7_copy 116 rfl) ?_
                                                                refine r_iload_n C (dx dX7_copy 117 rfl) rfl ?_
                                                                refine r_iload C (dx dX7_copy 118 rfl) rfl ?_
                                                                refine rn_iadd (a := ι) (b := p) C (dx dX7_copy 119 rfl) ?_
                                                                refine r_lald (j := ι + p) (x := gE g π (ι + p)) C rfl rfl (by decide) rfl (by omega) (dx dX7_copy 120 rfl) ((f9.L (by omega) _).trans (a81 _ (by omega))) ?_
                                                                refine r_last (j := p) C rfl rfl (by decide) rfl (by omega) (dx dX7_copy 121 rfl) ?_
                                                                refine rn_iinc (a := p) (k := 1) (ls' := [(0, vr 7 k), (1, vi (nI π)), (2, vi (nI θ)), (3, vi (nI ι)), (4, vi (nI ξ)), (5, vi (nI ν)), (6, vi (nI (p + 1)))]) C (dx dX7_copy 122 rfl) rfl rfl (by decide) [1, 2, 3, 4, 5, 6, 0] rfl ?_
                                                                refine r_goto (tgt := 191) C (dx dX7_copy 123 rfl) (by decide) ?_
                                                                exact ih _ (fun t ht => by rw [sL_at]; split; (next e => rw [e]); exact q9 t (by omega)) (f9.tr (Fr.sL (by omega) (by omega))) k9)
                                                      ·
                                                        have c153 : ¬ nI ξ ≤ (xI h (k + 3) θ) - (nI ν) := c153
                                                        refine r_aload_n C (dx dX7_copy 101 rfl) rfl ?_
                                                        refine r_bipush (v := -2) C (dx dX7_copy 102 rfl) rfl ?_
                                                        refine r_cv (as := [vi (-2)]) (st := []) C X I_X7_refuse l_X7_83 (e_refuse hm (x := -2) (j := 2) (by decide) (by decide)) (by decide) (Nat.le_of_ble_eq_true rfl) List.prefix_rfl List.prefix_rfl rfl rfl (Nat.le_of_ble_eq_true rfl) rfl (dx dX7_copy 103 rfl) ?_
                                                        rintro _ h160 ⟨rfl, m9h160, qh160⟩ kkh160
                                                        have mh160 : MilAt h160 k v := m9h160
                                                        have ph160 : Kp k h h160 := qh160
                                                        have kh160 : xK h160 = xK h := kkh160
                                                        have eA : copA g (nI π) (nI θ) (nI ι) (nI ξ) (nI ν) = -2 := by (have hq : ¬ (ι + ν ≤ ν1 ∧ ξ + ν ≤ ν2) := by omega); (have hq2 := cp_row e31 e32 (i := ι) (j := ξ) (n := ν) (by omega) (by omega) (by omega) (by omega) (by omega)); rw [decide_eq_false hq] at hq2; simp [copA, copG, copF, c1, c3, c111, c113, c115, c138, c141, c143, c145, c147, c149, c151, c153, e01, e11, e21, e31, e41, e51, e61, e02, e12, e22, e32, e42, e52, e62, e72, clN (show π < 2 ^ 31 by omega), clN (show θ < 2 ^ 31 by omega), clN (show ν < 2 ^ 31 by omega), clN (show ι < 2 ^ 31 by omega), clN (show ξ < 2 ^ 31 by omega), inR_nI (show π < 2 ^ 31 by omega), inR_nI (show θ < 2 ^ 31 by omega), inR_nI (show ν < 2 ^ 31 by omega), inR_nI (show ι < 2 ^ 31 by omega), inR_nI (show ξ < 2 ^ 31 by omega), hq2, show π < 8 by omega, show θ < 8 by omega]
                                                        have eG : copG g (nI π) (nI θ) (nI ι) (nI ξ) (nI ν) = g := by (have hq : ¬ (ι + ν ≤ ν1 ∧ ξ + ν ≤ ν2) := by omega); (have hq2 := cp_row e31 e32 (i := ι) (j := ξ) (n := ν) (by omega) (by omega) (by omega) (by omega) (by omega)); rw [decide_eq_false hq] at hq2; simp [copA, copG, copF, c1, c3, c111, c113, c115, c138, c141, c143, c145, c147, c149, c151, c153, e01, e11, e21, e31, e41, e51, e61, e02, e12, e22, e32, e42, e52, e62, e72, clN (show π < 2 ^ 31 by omega), clN (show θ < 2 ^ 31 by omega), clN (show ν < 2 ^ 31 by omega), clN (show ι < 2 ^ 31 by omega), clN (show ξ < 2 ^ 31 by omega), inR_nI (show π < 2 ^ 31 by omega), inR_nI (show θ < 2 ^ 31 by omega), inR_nI (show ν < 2 ^ 31 by omega), inR_nI (show ι < 2 ^ 31 by omega), inR_nI (show ξ < 2 ^ 31 by omega), hq2, show π < 8 by omega, show θ < 8 by omega]
                                                        exact F.1 _ _ _ _ _ rfl rfl (dx dX7_copy 104 rfl) kh160 (show some (vi (-2)) = some (vi (copA g (nI π) (nI θ) (nI ι) (nI ξ) (nI ν))) ∧ MilAt h160 k v ∧ MshAt h160 k (copG g (nI π) (nI θ) (nI ι) (nI ξ) (nI ν)) ∧ Kt k h h160 from by rw [eA, eG]; exact ⟨rfl, mh160, hs.kp ph160, ph160.kt⟩))))
                            · first
                              | (omega; done)
                              | (
                                  have c138 : 2 = 1 := c138
                                  refine r_aload_n C (dx dX7_copy 40 rfl) rfl ?_
                                  refine g_X7_13 C (dx dX7_copy 41 rfl) ?_
                                  refine r_iload_n C (dx dX7_copy 42 rfl) rfl ?_
                                  refine r_iald (j := π) (x := nI τ1) C rfl rfl (by decide) rfl (by omega) (dx dX7_copy 43 rfl) a41 ?_
                                  refine r_aload_n C (dx dX7_copy 44 rfl) rfl ?_
                                  refine g_X7_13 C (dx dX7_copy 45 rfl) ?_
                                  refine r_iload_n C (dx dX7_copy 46 rfl) rfl ?_
                                  refine r_iald (j := θ) (x := xI h (k + 2) θ) C rfl rfl (by decide) rfl (by omega) (dx dX7_copy 47 rfl) rfl ?_
                                  refine r_icmp_eq (tgt := 93) C (dx dX7_copy 48 rfl) (by decide) (fun c161 => ?_) (fun c161 => ?_)
                                  ·
                                    have c161 : nI τ1 = xI h (k + 2) θ := c161
                                    refine r_aload_n C (dx dX7_copy 53 rfl) rfl ?_
                                    refine g_X7_7 C (dx dX7_copy 54 rfl) ?_
                                    refine r_iload_n C (dx dX7_copy 55 rfl) rfl ?_
                                    refine r_iald (j := π) (x := nI 1) C rfl rfl (by decide) rfl (by omega) (dx dX7_copy 56 rfl) a31 ?_
                                    refine r_if_eq (tgt := 111) C (dx dX7_copy 57 rfl) (by decide) (fun c162 => (show False from by revert c162; decide).elim) (fun _ => ?_)
                                    refine r_aload_n C (dx dX7_copy 58 rfl) rfl ?_
                                    refine g_X7_7 C (dx dX7_copy 59 rfl) ?_
                                    refine r_iload_n C (dx dX7_copy 60 rfl) rfl ?_
                                    refine r_iald (j := θ) (x := nI 2) C rfl rfl (by decide) rfl (by omega) (dx dX7_copy 61 rfl) a42 ?_
                                    refine r_if_ne (tgt := 118) C (dx dX7_copy 62 rfl) (by decide) (fun _ => ?_) (fun c163 => (show False from by revert c163; decide).elim)
                                    refine r_iload C (dx dX7_copy 67 rfl) rfl ?_
                                    refine r_if_lt (tgt := 181) C (dx dX7_copy 68 rfl) (by decide) (fun c164 => ?_) (fun c164 => ?_)
                                    ·
                                      have c164 : n < 0 := c164
                                      refine r_aload_n C (dx dX7_copy 101 rfl) rfl ?_
                                      refine r_bipush (v := -2) C (dx dX7_copy 102 rfl) rfl ?_
                                      refine r_cv (as := [vi (-2)]) (st := []) C X I_X7_refuse l_X7_83 (e_refuse hm (x := -2) (j := 2) (by decide) (by decide)) (by decide) (Nat.le_of_ble_eq_true rfl) List.prefix_rfl List.prefix_rfl rfl rfl (Nat.le_of_ble_eq_true rfl) rfl (dx dX7_copy 103 rfl) ?_
                                      rintro _ h165 ⟨rfl, m9h165, qh165⟩ kkh165
                                      have mh165 : MilAt h165 k v := m9h165
                                      have ph165 : Kp k h h165 := qh165
                                      have kh165 : xK h165 = xK h := kkh165
                                      have eA : copA g (nI π) (nI θ) i j n = -2 := by simp [copA, copG, copF, cpOk, c1, c3, c111, c113, c115, c138, c161, (fun n9 => inR_neg (n := n9) c164 : ∀ n9, inR n n9 = false), c164, e01, e11, e21, e31, e41, e51, e61, e02, e12, e22, e32, e42, e52, e62, e72, clN (show π < 2 ^ 31 by omega), clN (show θ < 2 ^ 31 by omega), inR_nI (show π < 2 ^ 31 by omega), inR_nI (show θ < 2 ^ 31 by omega), show π < 8 by omega, show θ < 8 by omega]
                                      have eG : copG g (nI π) (nI θ) i j n = g := by simp [copA, copG, copF, cpOk, c1, c3, c111, c113, c115, c138, c161, (fun n9 => inR_neg (n := n9) c164 : ∀ n9, inR n n9 = false), c164, e01, e11, e21, e31, e41, e51, e61, e02, e12, e22, e32, e42, e52, e62, e72, clN (show π < 2 ^ 31 by omega), clN (show θ < 2 ^ 31 by omega), inR_nI (show π < 2 ^ 31 by omega), inR_nI (show θ < 2 ^ 31 by omega), show π < 8 by omega, show θ < 8 by omega]
                                      exact F.1 _ _ _ _ _ rfl rfl (dx dX7_copy 104 rfl) kh165 (show some (vi (-2)) = some (vi (copA g (nI π) (nI θ) i j n)) ∧ MilAt h165 k v ∧ MshAt h165 k (copG g (nI π) (nI θ) i j n) ∧ Kt k h h165 from by rw [eA, eG]; exact ⟨rfl, mh165, hs.kp ph165, ph165.kt⟩)
                                    ·
                                      have c164 : ¬ n < 0 := c164
                                      obtain ⟨ν, hν, rfl⟩ := nI_of c164
                                      refine r_iload_n C (dx dX7_copy 69 rfl) rfl ?_
                                      refine r_if_lt (tgt := 181) C (dx dX7_copy 70 rfl) (by decide) (fun c166 => ?_) (fun c166 => ?_)
                                      ·
                                        have c166 : i < 0 := c166
                                        refine r_aload_n C (dx dX7_copy 101 rfl) rfl ?_
                                        refine r_bipush (v := -2) C (dx dX7_copy 102 rfl) rfl ?_
                                        refine r_cv (as := [vi (-2)]) (st := []) C X I_X7_refuse l_X7_83 (e_refuse hm (x := -2) (j := 2) (by decide) (by decide)) (by decide) (Nat.le_of_ble_eq_true rfl) List.prefix_rfl List.prefix_rfl rfl rfl (Nat.le_of_ble_eq_true rfl) rfl (dx dX7_copy 103 rfl) ?_
                                        rintro _ h167 ⟨rfl, m9h167, qh167⟩ kkh167
                                        have mh167 : MilAt h167 k v := m9h167
                                        have ph167 : Kp k h h167 := qh167
                                        have kh167 : xK h167 = xK h := kkh167
                                        have eA : copA g (nI π) (nI θ) i j (nI ν) = -2 := by simp [copA, copG, copF, cpOk, c1, c3, c111, c113, c115, c138, c161, c164, (fun n9 => inR_neg (n := n9) c166 : ∀ n9, inR i n9 = false), c166, e01, e11, e21, e31, e41, e51, e61, e02, e12, e22, e32, e42, e52, e62, e72, clN (show π < 2 ^ 31 by omega), clN (show θ < 2 ^ 31 by omega), clN (show ν < 2 ^ 31 by omega), inR_nI (show π < 2 ^ 31 by omega), inR_nI (show θ < 2 ^ 31 by omega), inR_nI (show ν < 2 ^ 31 by omega), show π < 8 by omega, show θ < 8 by omega]
                                        have eG : copG g (nI π) (nI θ) i j (nI ν) = g := by simp [copA, copG, copF, cpOk, c1, c3, c111, c113, c115, c138, c161, c164, (fun n9 => inR_neg (n := n9) c166 : ∀ n9, inR i n9 = false), c166, e01, e11, e21, e31, e41, e51, e61, e02, e12, e22, e32, e42, e52, e62, e72, clN (show π < 2 ^ 31 by omega), clN (show θ < 2 ^ 31 by omega), clN (show ν < 2 ^ 31 by omega), inR_nI (show π < 2 ^ 31 by omega), inR_nI (show θ < 2 ^ 31 by omega), inR_nI (show ν < 2 ^ 31 by omega), show π < 8 by omega, show θ < 8 by omega]
                                        exact F.1 _ _ _ _ _ rfl rfl (dx dX7_copy 104 rfl) kh167 (show some (vi (-2)) = some (vi (copA g (nI π) (nI θ) i j (nI ν))) ∧ MilAt h167 k v ∧ MshAt h167 k (copG g (nI π) (nI θ) i j (nI ν)) ∧ Kt k h h167 from by rw [eA, eG]; exact ⟨rfl, mh167, hs.kp ph167, ph167.kt⟩)
                                      ·
                                        have c166 : ¬ i < 0 := c166
                                        obtain ⟨ι, hι, rfl⟩ := nI_of c166
                                        refine r_iload C (dx dX7_copy 71 rfl) rfl ?_
                                        refine r_if_lt (tgt := 181) C (dx dX7_copy 72 rfl) (by decide) (fun c168 => ?_) (fun c168 => ?_)
                                        ·
                                          have c168 : j < 0 := c168
                                          refine r_aload_n C (dx dX7_copy 101 rfl) rfl ?_
                                          refine r_bipush (v := -2) C (dx dX7_copy 102 rfl) rfl ?_
                                          refine r_cv (as := [vi (-2)]) (st := []) C X I_X7_refuse l_X7_83 (e_refuse hm (x := -2) (j := 2) (by decide) (by decide)) (by decide) (Nat.le_of_ble_eq_true rfl) List.prefix_rfl List.prefix_rfl rfl rfl (Nat.le_of_ble_eq_true rfl) rfl (dx dX7_copy 103 rfl) ?_
                                          rintro _ h169 ⟨rfl, m9h169, qh169⟩ kkh169
                                          have mh169 : MilAt h169 k v := m9h169
                                          have ph169 : Kp k h h169 := qh169
                                          have kh169 : xK h169 = xK h := kkh169
                                          have eA : copA g (nI π) (nI θ) (nI ι) j (nI ν) = -2 := by simp [copA, copG, copF, cpOk, c1, c3, c111, c113, c115, c138, c161, c164, c166, (fun n9 => inR_neg (n := n9) c168 : ∀ n9, inR j n9 = false), c168, e01, e11, e21, e31, e41, e51, e61, e02, e12, e22, e32, e42, e52, e62, e72, clN (show π < 2 ^ 31 by omega), clN (show θ < 2 ^ 31 by omega), clN (show ν < 2 ^ 31 by omega), clN (show ι < 2 ^ 31 by omega), inR_nI (show π < 2 ^ 31 by omega), inR_nI (show θ < 2 ^ 31 by omega), inR_nI (show ν < 2 ^ 31 by omega), inR_nI (show ι < 2 ^ 31 by omega), show π < 8 by omega, show θ < 8 by omega]
                                          have eG : copG g (nI π) (nI θ) (nI ι) j (nI ν) = g := by simp [copA, copG, copF, cpOk, c1, c3, c111, c113, c115, c138, c161, c164, c166, (fun n9 => inR_neg (n := n9) c168 : ∀ n9, inR j n9 = false), c168, e01, e11, e21, e31, e41, e51, e61, e02, e12, e22, e32, e42, e52, e62, e72, clN (show π < 2 ^ 31 by omega), clN (show θ < 2 ^ 31 by omega), clN (show ν < 2 ^ 31 by omega), clN (show ι < 2 ^ 31 by omega), inR_nI (show π < 2 ^ 31 by omega), inR_nI (show θ < 2 ^ 31 by omega), inR_nI (show ν < 2 ^ 31 by omega), inR_nI (show ι < 2 ^ 31 by omega), show π < 8 by omega, show θ < 8 by omega]
                                          exact F.1 _ _ _ _ _ rfl rfl (dx dX7_copy 104 rfl) kh169 (show some (vi (-2)) = some (vi (copA g (nI π) (nI θ) (nI ι) j (nI ν))) ∧ MilAt h169 k v ∧ MshAt h169 k (copG g (nI π) (nI θ) (nI ι) j (nI ν)) ∧ Kt k h h169 from by rw [eA, eG]; exact ⟨rfl, mh169, hs.kp ph169, ph169.kt⟩)
                                        ·
                                          have c168 : ¬ j < 0 := c168
                                          obtain ⟨ξ, hξ, rfl⟩ := nI_of c168
                                          refine r_iload C (dx dX7_copy 73 rfl) rfl ?_
                                          refine r_aload_n C (dx dX7_copy 74 rfl) rfl ?_
                                          refine g_X7_16 C (dx dX7_copy 75 rfl) ?_
                                          refine r_iload_n C (dx dX7_copy 76 rfl) rfl ?_
                                          refine r_iald (j := π) (x := nI ν1) C rfl rfl (by decide) rfl (by omega) (dx dX7_copy 77 rfl) a51 ?_
                                          refine rn_gt (a := ν) (b := ν1) (tgt := 181) C (by omega) (by omega) (dx dX7_copy 78 rfl) (by decide) (fun c170 => ?_) (fun c170 => ?_)
                                          · first
                                            | (omega; done)
                                            | (
                                                have c170 : ν1 < ν := c170
                                                refine r_aload_n C (dx dX7_copy 101 rfl) rfl ?_
                                                refine r_bipush (v := -2) C (dx dX7_copy 102 rfl) rfl ?_
                                                refine r_cv (as := [vi (-2)]) (st := []) C X I_X7_refuse l_X7_83 (e_refuse hm (x := -2) (j := 2) (by decide) (by decide)) (by decide) (Nat.le_of_ble_eq_true rfl) List.prefix_rfl List.prefix_rfl rfl rfl (Nat.le_of_ble_eq_true rfl) rfl (dx dX7_copy 103 rfl) ?_
                                                rintro _ h171 ⟨rfl, m9h171, qh171⟩ kkh171
                                                have mh171 : MilAt h171 k v := m9h171
                                                have ph171 : Kp k h h171 := qh171
                                                have kh171 : xK h171 = xK h := kkh171
                                                have eA : copA g (nI π) (nI θ) (nI ι) (nI ξ) (nI ν) = -2 := by (have hq : ¬ (ι + ν ≤ ν1 ∧ ξ + ν ≤ ν2) := by omega); (have hq2 := cp_row e31 e32 (i := ι) (j := ξ) (n := ν) (by omega) (by omega) (by omega) (by omega) (by omega)); rw [decide_eq_false hq] at hq2; simp [copA, copG, copF, c1, c3, c111, c113, c115, c138, c161, c164, c166, c168, c170, e01, e11, e21, e31, e41, e51, e61, e02, e12, e22, e32, e42, e52, e62, e72, clN (show π < 2 ^ 31 by omega), clN (show θ < 2 ^ 31 by omega), clN (show ν < 2 ^ 31 by omega), clN (show ι < 2 ^ 31 by omega), clN (show ξ < 2 ^ 31 by omega), inR_nI (show π < 2 ^ 31 by omega), inR_nI (show θ < 2 ^ 31 by omega), inR_nI (show ν < 2 ^ 31 by omega), inR_nI (show ι < 2 ^ 31 by omega), inR_nI (show ξ < 2 ^ 31 by omega), hq2, show π < 8 by omega, show θ < 8 by omega]
                                                have eG : copG g (nI π) (nI θ) (nI ι) (nI ξ) (nI ν) = g := by (have hq : ¬ (ι + ν ≤ ν1 ∧ ξ + ν ≤ ν2) := by omega); (have hq2 := cp_row e31 e32 (i := ι) (j := ξ) (n := ν) (by omega) (by omega) (by omega) (by omega) (by omega)); rw [decide_eq_false hq] at hq2; simp [copA, copG, copF, c1, c3, c111, c113, c115, c138, c161, c164, c166, c168, c170, e01, e11, e21, e31, e41, e51, e61, e02, e12, e22, e32, e42, e52, e62, e72, clN (show π < 2 ^ 31 by omega), clN (show θ < 2 ^ 31 by omega), clN (show ν < 2 ^ 31 by omega), clN (show ι < 2 ^ 31 by omega), clN (show ξ < 2 ^ 31 by omega), inR_nI (show π < 2 ^ 31 by omega), inR_nI (show θ < 2 ^ 31 by omega), inR_nI (show ν < 2 ^ 31 by omega), inR_nI (show ι < 2 ^ 31 by omega), inR_nI (show ξ < 2 ^ 31 by omega), hq2, show π < 8 by omega, show θ < 8 by omega]
                                                exact F.1 _ _ _ _ _ rfl rfl (dx dX7_copy 104 rfl) kh171 (show some (vi (-2)) = some (vi (copA g (nI π) (nI θ) (nI ι) (nI ξ) (nI ν))) ∧ MilAt h171 k v ∧ MshAt h171 k (copG g (nI π) (nI θ) (nI ι) (nI ξ) (nI ν)) ∧ Kt k h h171 from by rw [eA, eG]; exact ⟨rfl, mh171, hs.kp ph171, ph171.kt⟩))
                                          · first
                                            | (omega; done)
                                            | (
                                                have c170 : ν ≤ ν1 := c170
                                                refine r_iload C (dx dX7_copy 79 rfl) rfl ?_
                                                refine r_aload_n C (dx dX7_copy 80 rfl) rfl ?_
                                                refine g_X7_16 C (dx dX7_copy 81 rfl) ?_
                                                refine r_iload_n C (dx dX7_copy 82 rfl) rfl ?_
                                                refine r_iald (j := θ) (x := xI h (k + 3) θ) C rfl rfl (by decide) rfl (by omega) (dx dX7_copy 83 rfl) rfl ?_
                                                refine r_icmp_gt (tgt := 181) C (dx dX7_copy 84 rfl) (by decide) (fun c172 => ?_) (fun c172 => ?_)
                                                ·
                                                  have c172 : xI h (k + 3) θ < nI ν := c172
                                                  refine r_aload_n C (dx dX7_copy 101 rfl) rfl ?_
                                                  refine r_bipush (v := -2) C (dx dX7_copy 102 rfl) rfl ?_
                                                  refine r_cv (as := [vi (-2)]) (st := []) C X I_X7_refuse l_X7_83 (e_refuse hm (x := -2) (j := 2) (by decide) (by decide)) (by decide) (Nat.le_of_ble_eq_true rfl) List.prefix_rfl List.prefix_rfl rfl rfl (Nat.le_of_ble_eq_true rfl) rfl (dx dX7_copy 103 rfl) ?_
                                                  rintro _ h173 ⟨rfl, m9h173, qh173⟩ kkh173
                                                  have mh173 : MilAt h173 k v := m9h173
                                                  have ph173 : Kp k h h173 := qh173
                                                  have kh173 : xK h173 = xK h := kkh173
                                                  have eA : copA g (nI π) (nI θ) (nI ι) (nI ξ) (nI ν) = -2 := by (have hq : ¬ (ι + ν ≤ ν1 ∧ ξ + ν ≤ ν2) := by omega); (have hq2 := cp_row e31 e32 (i := ι) (j := ξ) (n := ν) (by omega) (by omega) (by omega) (by omega) (by omega)); rw [decide_eq_false hq] at hq2; simp [copA, copG, copF, c1, c3, c111, c113, c115, c138, c161, c164, c166, c168, c170, c172, e01, e11, e21, e31, e41, e51, e61, e02, e12, e22, e32, e42, e52, e62, e72, clN (show π < 2 ^ 31 by omega), clN (show θ < 2 ^ 31 by omega), clN (show ν < 2 ^ 31 by omega), clN (show ι < 2 ^ 31 by omega), clN (show ξ < 2 ^ 31 by omega), inR_nI (show π < 2 ^ 31 by omega), inR_nI (show θ < 2 ^ 31 by omega), inR_nI (show ν < 2 ^ 31 by omega), inR_nI (show ι < 2 ^ 31 by omega), inR_nI (show ξ < 2 ^ 31 by omega), hq2, show π < 8 by omega, show θ < 8 by omega]
                                                  have eG : copG g (nI π) (nI θ) (nI ι) (nI ξ) (nI ν) = g := by (have hq : ¬ (ι + ν ≤ ν1 ∧ ξ + ν ≤ ν2) := by omega); (have hq2 := cp_row e31 e32 (i := ι) (j := ξ) (n := ν) (by omega) (by omega) (by omega) (by omega) (by omega)); rw [decide_eq_false hq] at hq2; simp [copA, copG, copF, c1, c3, c111, c113, c115, c138, c161, c164, c166, c168, c170, c172, e01, e11, e21, e31, e41, e51, e61, e02, e12, e22, e32, e42, e52, e62, e72, clN (show π < 2 ^ 31 by omega), clN (show θ < 2 ^ 31 by omega), clN (show ν < 2 ^ 31 by omega), clN (show ι < 2 ^ 31 by omega), clN (show ξ < 2 ^ 31 by omega), inR_nI (show π < 2 ^ 31 by omega), inR_nI (show θ < 2 ^ 31 by omega), inR_nI (show ν < 2 ^ 31 by omega), inR_nI (show ι < 2 ^ 31 by omega), inR_nI (show ξ < 2 ^ 31 by omega), hq2, show π < 8 by omega, show θ < 8 by omega]
                                                  exact F.1 _ _ _ _ _ rfl rfl (dx dX7_copy 104 rfl) kh173 (show some (vi (-2)) = some (vi (copA g (nI π) (nI θ) (nI ι) (nI ξ) (nI ν))) ∧ MilAt h173 k v ∧ MshAt h173 k (copG g (nI π) (nI θ) (nI ι) (nI ξ) (nI ν)) ∧ Kt k h h173 from by rw [eA, eG]; exact ⟨rfl, mh173, hs.kp ph173, ph173.kt⟩)
                                                ·
                                                  have c172 : ¬ xI h (k + 3) θ < nI ν := c172
                                                  refine r_iload_n C (dx dX7_copy 85 rfl) rfl ?_
                                                  refine r_aload_n C (dx dX7_copy 86 rfl) rfl ?_
                                                  refine g_X7_16 C (dx dX7_copy 87 rfl) ?_
                                                  refine r_iload_n C (dx dX7_copy 88 rfl) rfl ?_
                                                  refine r_iald (j := π) (x := nI ν1) C rfl rfl (by decide) rfl (by omega) (dx dX7_copy 89 rfl) a51 ?_
                                                  refine r_iload C (dx dX7_copy 90 rfl) rfl ?_
                                                  refine rn_isub (a := ν1) (b := ν) C (by omega) (dx dX7_copy 91 rfl) ?_
                                                  refine rn_gt (a := ι) (b := ν1 - ν) (tgt := 181) C (by omega) (by omega) (dx dX7_copy 92 rfl) (by decide) (fun c174 => ?_) (fun c174 => ?_)
                                                  · first
                                                    | (omega; done)
                                                    | (
                                                        have c174 : ν1 - ν < ι := c174
                                                        refine r_aload_n C (dx dX7_copy 101 rfl) rfl ?_
                                                        refine r_bipush (v := -2) C (dx dX7_copy 102 rfl) rfl ?_
                                                        refine r_cv (as := [vi (-2)]) (st := []) C X I_X7_refuse l_X7_83 (e_refuse hm (x := -2) (j := 2) (by decide) (by decide)) (by decide) (Nat.le_of_ble_eq_true rfl) List.prefix_rfl List.prefix_rfl rfl rfl (Nat.le_of_ble_eq_true rfl) rfl (dx dX7_copy 103 rfl) ?_
                                                        rintro _ h175 ⟨rfl, m9h175, qh175⟩ kkh175
                                                        have mh175 : MilAt h175 k v := m9h175
                                                        have ph175 : Kp k h h175 := qh175
                                                        have kh175 : xK h175 = xK h := kkh175
                                                        have eA : copA g (nI π) (nI θ) (nI ι) (nI ξ) (nI ν) = -2 := by (have hq : ¬ (ι + ν ≤ ν1 ∧ ξ + ν ≤ ν2) := by omega); (have hq2 := cp_row e31 e32 (i := ι) (j := ξ) (n := ν) (by omega) (by omega) (by omega) (by omega) (by omega)); rw [decide_eq_false hq] at hq2; simp [copA, copG, copF, c1, c3, c111, c113, c115, c138, c161, c164, c166, c168, c170, c172, c174, e01, e11, e21, e31, e41, e51, e61, e02, e12, e22, e32, e42, e52, e62, e72, clN (show π < 2 ^ 31 by omega), clN (show θ < 2 ^ 31 by omega), clN (show ν < 2 ^ 31 by omega), clN (show ι < 2 ^ 31 by omega), clN (show ξ < 2 ^ 31 by omega), inR_nI (show π < 2 ^ 31 by omega), inR_nI (show θ < 2 ^ 31 by omega), inR_nI (show ν < 2 ^ 31 by omega), inR_nI (show ι < 2 ^ 31 by omega), inR_nI (show ξ < 2 ^ 31 by omega), hq2, show π < 8 by omega, show θ < 8 by omega]
                                                        have eG : copG g (nI π) (nI θ) (nI ι) (nI ξ) (nI ν) = g := by (have hq : ¬ (ι + ν ≤ ν1 ∧ ξ + ν ≤ ν2) := by omega); (have hq2 := cp_row e31 e32 (i := ι) (j := ξ) (n := ν) (by omega) (by omega) (by omega) (by omega) (by omega)); rw [decide_eq_false hq] at hq2; simp [copA, copG, copF, c1, c3, c111, c113, c115, c138, c161, c164, c166, c168, c170, c172, c174, e01, e11, e21, e31, e41, e51, e61, e02, e12, e22, e32, e42, e52, e62, e72, clN (show π < 2 ^ 31 by omega), clN (show θ < 2 ^ 31 by omega), clN (show ν < 2 ^ 31 by omega), clN (show ι < 2 ^ 31 by omega), clN (show ξ < 2 ^ 31 by omega), inR_nI (show π < 2 ^ 31 by omega), inR_nI (show θ < 2 ^ 31 by omega), inR_nI (show ν < 2 ^ 31 by omega), inR_nI (show ι < 2 ^ 31 by omega), inR_nI (show ξ < 2 ^ 31 by omega), hq2, show π < 8 by omega, show θ < 8 by omega]
                                                        exact F.1 _ _ _ _ _ rfl rfl (dx dX7_copy 104 rfl) kh175 (show some (vi (-2)) = some (vi (copA g (nI π) (nI θ) (nI ι) (nI ξ) (nI ν))) ∧ MilAt h175 k v ∧ MshAt h175 k (copG g (nI π) (nI θ) (nI ι) (nI ξ) (nI ν)) ∧ Kt k h h175 from by rw [eA, eG]; exact ⟨rfl, mh175, hs.kp ph175, ph175.kt⟩))
                                                  · first
                                                    | (omega; done)
                                                    | (
                                                        have c174 : ι ≤ ν1 - ν := c174
                                                        refine r_iload C (dx dX7_copy 93 rfl) rfl ?_
                                                        refine r_aload_n C (dx dX7_copy 94 rfl) rfl ?_
                                                        refine g_X7_16 C (dx dX7_copy 95 rfl) ?_
                                                        refine r_iload_n C (dx dX7_copy 96 rfl) rfl ?_
                                                        refine r_iald (j := θ) (x := xI h (k + 3) θ) C rfl rfl (by decide) rfl (by omega) (dx dX7_copy 97 rfl) rfl ?_
                                                        refine r_iload C (dx dX7_copy 98 rfl) rfl ?_
                                                        refine r_isub C (dx dX7_copy 99 rfl) ?_
                                                        refine r_icmp_le (tgt := 188) C (dx dX7_copy 100 rfl) (by decide) (fun c176 => ?_) (fun c176 => ?_)
                                                        ·
                                                          have c176 : nI ξ ≤ (xI h (k + 3) θ) - (nI ν) := c176
                                                          refine r_iconst (v := nI 0) C (dx dX7_copy 105 rfl) rfl ?_
                                                          refine r_istore (ls' := [(0, vr 7 k), (1, vi (nI π)), (2, vi (nI θ)), (3, vi (nI ι)), (4, vi (nI ξ)), (5, vi (nI ν)), (6, vi (nI 0))]) C (dx dX7_copy 106 rfl) (by decide) [1, 2, 3, 4, 5, 6, 0] rfl ?_
                                                          refine loopU (Φ := fun p => ∀ h9, (∀ t, t < p → xL h9 (k + 13) t = gE g π (ι + t)) → Fr (k + 13) (k + 14) h h9 → xK h9 = xK h → Rr G 191 [(0, vr 7 k), (1, vi (nI π)), (2, vi (nI θ)), (3, vi (nI ι)), (4, vi (nI ξ)), (5, vi (nI ν)), (6, vi (nI p))] [] h9) (N := ν) ?_ ?_ 0 (by omega) _ (fun i hi => absurd hi (by omega)) Fr.rf rfl
                                                          ·
                                                            intro h9 q9 f9 k9
                                                            refine r_iload C (dx dX7_copy 107 rfl) rfl ?_
                                                            refine r_iload C (dx dX7_copy 108 rfl) rfl ?_
                                                            refine rn_ge (a := ν) (b := ν) (tgt := 222) C (by omega) (by omega) (dx dX7_copy 109 rfl) (by decide) (fun c177 => ?_) (fun c177 => ?_)
                                                            · first
                                                              | (omega; done)
                                                              | (
                                                                  have c177 : ν ≤ ν := c177
                                                                  refine r_iconst (v := nI 0) C (dx dX7_copy 124 rfl) rfl ?_
                                                                  refine r_istore (ls' := [(0, vr 7 k), (1, vi (nI π)), (2, vi (nI θ)), (3, vi (nI ι)), (4, vi (nI ξ)), (5, vi (nI ν)), (6, vi (nI 0))]) C (dx dX7_copy 125 rfl) (by decide) [1, 2, 3, 4, 5, 6, 0] rfl ?_
                                                                  have r9 := MsR.fr (show MsR h k g θ from ⟨_, _, a12, a22, a32, a42, a52, a62, a72, a82⟩) hθ f9
                                                                  refine loopU (Φ := fun p => ∀ h8, (∀ i, i < 40 → xL h8 (k + 5 + θ) i = if ξ ≤ i ∧ i < ξ + p then gE g π (ι + (i - ξ)) else gE g θ i) → (∀ t, t < ν → xL h8 (k + 13) t = gE g π (ι + t)) → Fr (k + 5 + θ) (k + 5 + θ + 1) h9 h8 → xK h8 = xK h → Rr G 225 [(0, vr 7 k), (1, vi (nI π)), (2, vi (nI θ)), (3, vi (nI ι)), (4, vi (nI ξ)), (5, vi (nI ν)), (6, vi (nI p))] [] h8) (N := ν) ?_ ?_ 0 (by omega) _ (fun i hi => by rw [if_neg (by omega), f9.L (by omega)]; exact a82 i hi) q9 Fr.rf k9
                                                                  ·
                                                                    intro h8 q8 u8 f8 k8
                                                                    have s9 : MshAt h8 k (pCp g π θ ι ξ ν) := msh_els (hs.mv f9) hθ r9 f8 (fun i hi => by rw [q8 i hi]; rfl)
                                                                    have g9 : Fr (k + 1) (k + 16) h h8 := (f9.mono (by omega) (by omega)).tr (f8.mono (by omega) (by omega))
                                                                    refine r_iload C (dx dX7_copy 126 rfl) rfl ?_
                                                                    refine r_iload C (dx dX7_copy 127 rfl) rfl ?_
                                                                    refine rn_ge (a := ν) (b := ν) (tgt := 257) C (by omega) (by omega) (dx dX7_copy 128 rfl) (by decide) (fun c178 => ?_) (fun c178 => ?_)
                                                                    · first
                                                                      | (omega; done)
                                                                      | (
                                                                          have c178 : ν ≤ ν := c178
                                                                          refine r_iload C (dx dX7_copy 143 rfl) rfl ?_
                                                                          have eA : copA g (nI π) (nI θ) (nI ι) (nI ξ) (nI ν) = nI ν := by simp [copA, copG, copF, c1, c3, c111, c113, c115, c138, c161, c164, c166, c168, c170, c172, c174, c176, c177, c178, e01, e11, e21, e31, e41, e51, e61, e02, e12, e22, e32, e42, e52, e62, e72, clN (show π < 2 ^ 31 by omega), clN (show θ < 2 ^ 31 by omega), clN (show ν < 2 ^ 31 by omega), clN (show ι < 2 ^ 31 by omega), clN (show ξ < 2 ^ 31 by omega), inR_nI (show π < 2 ^ 31 by omega), inR_nI (show θ < 2 ^ 31 by omega), inR_nI (show ν < 2 ^ 31 by omega), inR_nI (show ι < 2 ^ 31 by omega), inR_nI (show ξ < 2 ^ 31 by omega), show π < 8 by omega, show θ < 8 by omega, cp_row e31 e32 (by omega) (by omega) (show ι < 2 ^ 31 by omega) (show ξ < 2 ^ 31 by omega) (show ν < 2 ^ 31 by omega), show ι + ν ≤ ν1 by omega, show ξ + ν ≤ ν2 by omega]
                                                                          have eG : copG g (nI π) (nI θ) (nI ι) (nI ξ) (nI ν) = pCp g π θ ι ξ ν := by simp [copA, copG, copF, c1, c3, c111, c113, c115, c138, c161, c164, c166, c168, c170, c172, c174, c176, c177, c178, e01, e11, e21, e31, e41, e51, e61, e02, e12, e22, e32, e42, e52, e62, e72, clN (show π < 2 ^ 31 by omega), clN (show θ < 2 ^ 31 by omega), clN (show ν < 2 ^ 31 by omega), clN (show ι < 2 ^ 31 by omega), clN (show ξ < 2 ^ 31 by omega), inR_nI (show π < 2 ^ 31 by omega), inR_nI (show θ < 2 ^ 31 by omega), inR_nI (show ν < 2 ^ 31 by omega), inR_nI (show ι < 2 ^ 31 by omega), inR_nI (show ξ < 2 ^ 31 by omega), show π < 8 by omega, show θ < 8 by omega, cp_row e31 e32 (by omega) (by omega) (show ι < 2 ^ 31 by omega) (show ξ < 2 ^ 31 by omega) (show ν < 2 ^ 31 by omega), show ι + ν ≤ ν1 by omega, show ξ + ν ≤ ν2 by omega]
                                                                          exact F.1 _ _ _ _ _ rfl rfl (dx dX7_copy 144 rfl) k8 (show some (vi (nI ν)) = some (vi (copA g (nI π) (nI θ) (nI ι) (nI ξ) (nI ν))) ∧ MilAt h8 k v ∧ MshAt h8 k (copG g (nI π) (nI θ) (nI ι) (nI ξ) (nI ν)) ∧ Kt k h h8 from by rw [eA, eG]; exact ⟨rfl, hm.fr g9 (by omega), s9, (Kt.fr g9 (by omega) (by omega))⟩))
                                                                    · first
                                                                      | (omega; done)
                                                                  ·
                                                                    intro p hp ih h8 q8 u8 f8 k8
                                                                    refine r_iload C (dx dX7_copy 126 rfl) rfl ?_
                                                                    refine r_iload C (dx dX7_copy 127 rfl) rfl ?_
                                                                    refine rn_ge (a := p) (b := ν) (tgt := 257) C (by omega) (by omega) (dx dX7_copy 128 rfl) (by decide) (fun c179 => ?_) (fun c179 => ?_)
                                                                    · first
                                                                      | (omega; done)
                                                                      | (
                                                                          have c179 : ν ≤ p := c179
                                                                          refine r_iload C (dx dX7_copy 143 rfl) rfl ?_
                                                                          have eA : copA g (nI π) (nI θ) (nI ι) (nI ξ) (nI ν) = nI ν := by simp [copA, copG, copF, c1, c3, c111, c113, c115, c138, c161, c164, c166, c168, c170, c172, c174, c176, c177, c179, e01, e11, e21, e31, e41, e51, e61, e02, e12, e22, e32, e42, e52, e62, e72, clN (show π < 2 ^ 31 by omega), clN (show θ < 2 ^ 31 by omega), clN (show ν < 2 ^ 31 by omega), clN (show ι < 2 ^ 31 by omega), clN (show ξ < 2 ^ 31 by omega), inR_nI (show π < 2 ^ 31 by omega), inR_nI (show θ < 2 ^ 31 by omega), inR_nI (show ν < 2 ^ 31 by omega), inR_nI (show ι < 2 ^ 31 by omega), inR_nI (show ξ < 2 ^ 31 by omega), show π < 8 by omega, show θ < 8 by omega, cp_row e31 e32 (by omega) (by omega) (show ι < 2 ^ 31 by omega) (show ξ < 2 ^ 31 by omega) (show ν < 2 ^ 31 by omega), show ι + ν ≤ ν1 by omega, show ξ + ν ≤ ν2 by omega]
                                                                          have eG : copG g (nI π) (nI θ) (nI ι) (nI ξ) (nI ν) = g := by simp [copA, copG, copF, c1, c3, c111, c113, c115, c138, c161, c164, c166, c168, c170, c172, c174, c176, c177, c179, e01, e11, e21, e31, e41, e51, e61, e02, e12, e22, e32, e42, e52, e62, e72, clN (show π < 2 ^ 31 by omega), clN (show θ < 2 ^ 31 by omega), clN (show ν < 2 ^ 31 by omega), clN (show ι < 2 ^ 31 by omega), clN (show ξ < 2 ^ 31 by omega), inR_nI (show π < 2 ^ 31 by omega), inR_nI (show θ < 2 ^ 31 by omega), inR_nI (show ν < 2 ^ 31 by omega), inR_nI (show ι < 2 ^ 31 by omega), inR_nI (show ξ < 2 ^ 31 by omega), show π < 8 by omega, show θ < 8 by omega, cp_row e31 e32 (by omega) (by omega) (show ι < 2 ^ 31 by omega) (show ξ < 2 ^ 31 by omega) (show ν < 2 ^ 31 by omega), show ι + ν ≤ ν1 by omega, show ξ + ν ≤ ν2 by omega]
                                                                          exact F.1 _ _ _ _ _ rfl rfl (dx dX7_copy 144 rfl) k8 (show some (vi (nI ν)) = some (vi (copA g (nI π) (nI θ) (nI ι) (nI ξ) (nI ν))) ∧ MilAt h8 k v ∧ MshAt h8 k (copG g (nI π) (nI θ) (nI ι) (nI ξ) (nI ν)) ∧ Kt k h h8 from by rw [eA, eG]; exact ⟨rfl, hm, hs, Kt.rf⟩))
                                                                    · first
                                                                      | (omega; done)
                                                                      | (
                                                                          have c179 : p < ν := c179
                                                                          refine r_aload_n C (dx dX7_copy 129 rfl) rfl ?_
                                                                          refine g_X7_21 C (dx dX7_copy 130 rfl) ?_
                                                                          refine r_iload_n C (dx dX7_copy 131 rfl) rfl ?_
                                                                          refine r_aald5 (j := θ) C rfl rfl (by decide) rfl (by omega) (dx dX7_copy 132 rfl) ?_
                                                                          refine r_iload C (dx dX7_copy 133 rfl) rfl ?_
                                                                          refine r_iload C (dx dX7_copy 134 rfl) rfl ?_
                                                                          refine rn_iadd (a := ξ) (b := p) C (dx dX7_copy 135 rfl) ?_
                                                                          refine r_aload_n C (dx dX7_copy 136 rfl) rfl ?_
                                                                          refine g_X7_24 C (dx dX7_copy 137 rfl) ?_
                                                                          refine r_iload C (dx dX7_copy 138 rfl) rfl ?_
                                                                          refine r_lald (j := p) (x := gE g π (ι + p)) C rfl rfl (by decide) rfl (by omega) (dx dX7_copy 139 rfl) (u8 _ (by omega)) ?_
                                                                          refine r_last (j := ξ + p) C rfl rfl (by decide) rfl (by omega) (dx dX7_copy 140 rfl) ?_
                                                                          refine rn_iinc (a := p) (k := 1) (ls' := [(0, vr 7 k), (1, vi (nI π)), (2, vi (nI θ)), (3, vi (nI ι)), (4, vi (nI ξ)), (5, vi (nI ν)), (6, vi (nI (p + 1)))]) C (dx dX7_copy 141 rfl) rfl rfl (by decide) [1, 2, 3, 4, 5, 6, 0] rfl ?_
                                                                          refine r_goto (tgt := 225) C (dx dX7_copy 142 rfl) (by decide) ?_
                                                                          exact ih _ (fun i hi => by rw [sL_at]; exact cp2_step q8 i hi) (fun t ht => by rw [sL_ne (by omega)]; exact u8 t ht) (f8.tr (Fr.sL (by omega) (by omega))) k8))
                                                            · first
                                                              | (omega; done)
                                                          ·
                                                            intro p hp ih h9 q9 f9 k9
                                                            refine r_iload C (dx dX7_copy 107 rfl) rfl ?_
                                                            refine r_iload C (dx dX7_copy 108 rfl) rfl ?_
                                                            refine rn_ge (a := p) (b := ν) (tgt := 222) C (by omega) (by omega) (dx dX7_copy 109 rfl) (by decide) (fun c180 => ?_) (fun c180 => ?_)
                                                            · first
                                                              | (omega; done)
                                                              | (
                                                                  have c180 : ν ≤ p := c180
                                                                  refine r_iconst (v := nI 0) C (dx dX7_copy 124 rfl) rfl ?_
                                                                  refine r_istore (ls' := [(0, vr 7 k), (1, vi (nI π)), (2, vi (nI θ)), (3, vi (nI ι)), (4, vi (nI ξ)), (5, vi (nI ν)), (6, vi (nI 0))]) C (dx dX7_copy 125 rfl) (by decide) [1, 2, 3, 4, 5, 6, 0] rfl ?_
                                                                  have r9 := MsR.fr (show MsR h k g θ from ⟨_, _, a12, a22, a32, a42, a52, a62, a72, a82⟩) hθ f9
                                                                  refine loopU (Φ := fun p => ∀ h8, (∀ i, i < 40 → xL h8 (k + 5 + θ) i = if ξ ≤ i ∧ i < ξ + p then gE g π (ι + (i - ξ)) else gE g θ i) → (∀ t, t < ν → xL h8 (k + 13) t = gE g π (ι + t)) → Fr (k + 5 + θ) (k + 5 + θ + 1) h9 h8 → xK h8 = xK h → Rr G 225 [(0, vr 7 k), (1, vi (nI π)), (2, vi (nI θ)), (3, vi (nI ι)), (4, vi (nI ξ)), (5, vi (nI ν)), (6, vi (nI p))] [] h8) (N := ν) ?_ ?_ 0 (by omega) _ (fun i hi => by rw [if_neg (by omega), f9.L (by omega)]; exact a82 i hi) q9 Fr.rf k9
                                                                  ·
                                                                    intro h8 q8 u8 f8 k8
                                                                    have s9 : MshAt h8 k (pCp g π θ ι ξ ν) := msh_els (hs.mv f9) hθ r9 f8 (fun i hi => by rw [q8 i hi]; rfl)
                                                                    have g9 : Fr (k + 1) (k + 16) h h8 := (f9.mono (by omega) (by omega)).tr (f8.mono (by omega) (by omega))
                                                                    refine r_iload C (dx dX7_copy 126 rfl) rfl ?_
                                                                    refine r_iload C (dx dX7_copy 127 rfl) rfl ?_
                                                                    refine rn_ge (a := ν) (b := ν) (tgt := 257) C (by omega) (by omega) (dx dX7_copy 128 rfl) (by decide) (fun c181 => ?_) (fun c181 => ?_)
                                                                    · first
                                                                      | (omega; done)
                                                                      | (
                                                                          have c181 : ν ≤ ν := c181
                                                                          refine r_iload C (dx dX7_copy 143 rfl) rfl ?_
                                                                          have eA : copA g (nI π) (nI θ) (nI ι) (nI ξ) (nI ν) = nI ν := by simp [copA, copG, copF, c1, c3, c111, c113, c115, c138, c161, c164, c166, c168, c170, c172, c174, c176, c180, c181, e01, e11, e21, e31, e41, e51, e61, e02, e12, e22, e32, e42, e52, e62, e72, clN (show π < 2 ^ 31 by omega), clN (show θ < 2 ^ 31 by omega), clN (show ν < 2 ^ 31 by omega), clN (show ι < 2 ^ 31 by omega), clN (show ξ < 2 ^ 31 by omega), inR_nI (show π < 2 ^ 31 by omega), inR_nI (show θ < 2 ^ 31 by omega), inR_nI (show ν < 2 ^ 31 by omega), inR_nI (show ι < 2 ^ 31 by omega), inR_nI (show ξ < 2 ^ 31 by omega), show π < 8 by omega, show θ < 8 by omega, cp_row e31 e32 (by omega) (by omega) (show ι < 2 ^ 31 by omega) (show ξ < 2 ^ 31 by omega) (show ν < 2 ^ 31 by omega), show ι + ν ≤ ν1 by omega, show ξ + ν ≤ ν2 by omega]
                                                                          have eG : copG g (nI π) (nI θ) (nI ι) (nI ξ) (nI ν) = pCp g π θ ι ξ ν := by simp [copA, copG, copF, c1, c3, c111, c113, c115, c138, c161, c164, c166, c168, c170, c172, c174, c176, c180, c181, e01, e11, e21, e31, e41, e51, e61, e02, e12, e22, e32, e42, e52, e62, e72, clN (show π < 2 ^ 31 by omega), clN (show θ < 2 ^ 31 by omega), clN (show ν < 2 ^ 31 by omega), clN (show ι < 2 ^ 31 by omega), clN (show ξ < 2 ^ 31 by omega), inR_nI (show π < 2 ^ 31 by omega), inR_nI (show θ < 2 ^ 31 by omega), inR_nI (show ν < 2 ^ 31 by omega), inR_nI (show ι < 2 ^ 31 by omega), inR_nI (show ξ < 2 ^ 31 by omega), show π < 8 by omega, show θ < 8 by omega, cp_row e31 e32 (by omega) (by omega) (show ι < 2 ^ 31 by omega) (show ξ < 2 ^ 31 by omega) (show ν < 2 ^ 31 by omega), show ι + ν ≤ ν1 by omega, show ξ + ν ≤ ν2 by omega]
                                                                          exact F.1 _ _ _ _ _ rfl rfl (dx dX7_copy 144 rfl) k8 (show some (vi (nI ν)) = some (vi (copA g (nI π) (nI θ) (nI ι) (nI ξ) (nI ν))) ∧ MilAt h8 k v ∧ MshAt h8 k (copG g (nI π) (nI θ) (nI ι) (nI ξ) (nI ν)) ∧ Kt k h h8 from by rw [eA, eG]; exact ⟨rfl, hm.fr g9 (by omega), s9, (Kt.fr g9 (by omega) (by omega))⟩))
                                                                    · first
                                                                      | (omega; done)
                                                                  ·
                                                                    intro p hp ih h8 q8 u8 f8 k8
                                                                    refine r_iload C (dx dX7_copy 126 rfl) rfl ?_
                                                                    refine r_iload C (dx dX7_copy 127 rfl) rfl ?_
                                                                    refine rn_ge (a := p) (b := ν) (tgt := 257) C (by omega) (by omega) (dx dX7_copy 128 rfl) (by decide) (fun c182 => ?_) (fun c182 => ?_)
                                                                    · first
                                                                      | (omega; done)
                                                                      | (
                                                                          have c182 : ν ≤ p := c182
                                                                          refine r_iload C (dx dX7_copy 143 rfl) rfl ?_
                                                                          have eA : copA g (nI π) (nI θ) (nI ι) (nI ξ) (nI ν) = nI ν := by simp [copA, copG, copF, c1, c3, c111, c113, c115, c138, c161, c164, c166, c168, c170, c172, c174, c176, c180, c182, e01, e11, e21, e31, e41, e51, e61, e02, e12, e22, e32, e42, e52, e62, e72, clN (show π < 2 ^ 31 by omega), clN (show θ < 2 ^ 31 by omega), clN (show ν < 2 ^ 31 by omega), clN (show ι < 2 ^ 31 by omega), clN (show ξ < 2 ^ 31 by omega), inR_nI (show π < 2 ^ 31 by omega), inR_nI (show θ < 2 ^ 31 by omega), inR_nI (show ν < 2 ^ 31 by omega), inR_nI (show ι < 2 ^ 31 by omega), inR_nI (show ξ < 2 ^ 31 by omega), show π < 8 by omega, show θ < 8 by omega, cp_row e31 e32 (by omega) (by omega) (show ι < 2 ^ 31 by omega) (show ξ < 2 ^ 31 by omega) (show ν < 2 ^ 31 by omega), show ι + ν ≤ ν1 by omega, show ξ + ν ≤ ν2 by omega]
                                                                          have eG : copG g (nI π) (nI θ) (nI ι) (nI ξ) (nI ν) = g := by simp [copA, copG, copF, c1, c3, c111, c113, c115, c138, c161, c164, c166, c168, c170, c172, c174, c176, c180, c182, e01, e11, e21, e31, e41, e51, e61, e02, e12, e22, e32, e42, e52, e62, e72, clN (show π < 2 ^ 31 by omega), clN (show θ < 2 ^ 31 by omega), clN (show ν < 2 ^ 31 by omega), clN (show ι < 2 ^ 31 by omega), clN (show ξ < 2 ^ 31 by omega), inR_nI (show π < 2 ^ 31 by omega), inR_nI (show θ < 2 ^ 31 by omega), inR_nI (show ν < 2 ^ 31 by omega), inR_nI (show ι < 2 ^ 31 by omega), inR_nI (show ξ < 2 ^ 31 by omega), show π < 8 by omega, show θ < 8 by omega, cp_row e31 e32 (by omega) (by omega) (show ι < 2 ^ 31 by omega) (show ξ < 2 ^ 31 by omega) (show ν < 2 ^ 31 by omega), show ι + ν ≤ ν1 by omega, show ξ + ν ≤ ν2 by omega]
                                                                          exact F.1 _ _ _ _ _ rfl rfl (dx dX7_copy 144 rfl) k8 (show some (vi (nI ν)) = some (vi (copA g (nI π) (nI θ) (nI ι) (nI ξ) (nI ν))) ∧ MilAt h8 k v ∧ MshAt h8 k (copG g (nI π) (nI θ) (nI ι) (nI ξ) (nI ν)) ∧ Kt k h h8 from by rw [eA, eG]; exact ⟨rfl, hm, hs, Kt.rf⟩))
                                                                    · first
                                                                      | (omega; done)
                                                                      | (
                                                                          have c182 : p < ν := c182
                                                                          refine r_aload_n C (dx dX7_copy 129 rfl) rfl ?_
                                                                          refine g_X7_21 C (dx dX7_copy 130 rfl) ?_
                                                                          refine r_iload_n C (dx dX7_copy 131 rfl) rfl ?_
                                                                          refine r_aald5 (j := θ) C rfl rfl (by decide) rfl (by omega) (dx dX7_copy 132 rfl) ?_
                                                                          refine r_iload C (dx dX7_copy 133 rfl) rfl ?_
                                                                          refine r_iload C (dx dX7_copy 134 rfl) rfl ?_
                                                                          refine rn_iadd (a := ξ) (b := p) C (dx dX7_copy 135 rfl) ?_
                                                                          refine r_aload_n C (dx dX7_copy 136 rfl) rfl ?_
                                                                          refine g_X7_24 C (dx dX7_copy 137 rfl) ?_
                                                                          refine r_iload C (dx dX7_copy 138 rfl) rfl ?_
                                                                          refine r_lald (j := p) (x := gE g π (ι + p)) C rfl rfl (by decide) rfl (by omega) (dx dX7_copy 139 rfl) (u8 _ (by omega)) ?_
                                                                          refine r_last (j := ξ + p) C rfl rfl (by decide) rfl (by omega) (dx dX7_copy 140 rfl) ?_
                                                                          refine rn_iinc (a := p) (k := 1) (ls' := [(0, vr 7 k), (1, vi (nI π)), (2, vi (nI θ)), (3, vi (nI ι)), (4, vi (nI ξ)), (5, vi (nI ν)), (6, vi (nI (p + 1)))]) C (dx dX7_copy 141 rfl) rfl rfl (by decide) [1, 2, 3, 4, 5, 6, 0] rfl ?_
                                                                          refine r_goto (tgt := 225) C (dx dX7_copy 142 rfl) (by decide) ?_
                                                                          exact ih _ (fun i hi => by rw [sL_at]; exact cp2_step q8 i hi) (fun t ht => by rw [sL_ne (by omega)]; exact u8 t ht) (f8.tr (Fr.sL (by omega) (by omega))) k8))
                                                            · first
                                                              | (omega; done)
                                                              | (
                                                                  have c180 : p < ν := c180
                                                                  refine r_aload_n C (dx dX7_copy 110 rfl) rfl ?_
                                                                  refine g_X7_24 C (dx dX7_copy 111 rfl) ?_
                                                                  refine r_iload C (dx dX7_copy 112 rfl) rfl ?_
                                                                  refine r_aload_n C (dx dX7_copy 113 rfl) rfl ?_
                                                                  refine g_X7_21 C (dx dX7_copy 114 rfl) ?_
                                                                  refine r_iload_n C (dx dX7_copy 115 rfl) rfl ?_
                                                                  refine r_aald5 (j := π) C rfl rfl (by decide) rfl (by omega) (dx dX7_copy 116 rfl) ?_
                                                                  refine r_iload_n C (dx dX7_copy 117 rfl) rfl ?_
                                                                  refine r_iload C (dx dX7_copy 118 rfl) rfl ?_
                                                                  refine rn_iadd (a := ι) (b := p) C (dx dX7_copy 119 rfl) ?_
                                                                  refine r_lald (j := ι + p) (x := gE g π (ι + p)) C rfl rfl (by decide) rfl (by omega) (dx dX7_copy 120 rfl) ((f9.L (by omega) _).trans (a81 _ (by omega))) ?_
                                                                  refine r_last (j := p) C rfl rfl (by decide) rfl (by omega) (dx dX7_copy 121 rfl) ?_
                                                                  refine rn_iinc (a := p) (k := 1) (ls' := [(0, vr 7 k), (1, vi (nI π)), (2, vi (nI θ)), (3, vi (nI ι)), (4, vi (nI ξ)), (5, vi (nI ν)), (6, vi (nI (p + 1)))]) C (dx dX7_copy 122 rfl) rfl rfl (by decide) [1, 2, 3, 4, 5, 6, 0] rfl ?_
                                                                  refine r_goto (tgt := 191) C (dx dX7_copy 123 rfl) (by decide) ?_
                                                                  exact ih _ (fun t ht => by rw [sL_at]; split; (next e => rw [e]); exact q9 t (by omega)) (f9.tr (Fr.sL (by omega) (by omega))) k9)
                                                        ·
                                                          have c176 : ¬ nI ξ ≤ (xI h (k + 3) θ) - (nI ν) := c176
                                                          refine r_aload_n C (dx dX7_copy 101 rfl) rfl ?_
                                                          refine r_bipush (v := -2) C (dx dX7_copy 102 rfl) rfl ?_
                                                          refine r_cv (as := [vi (-2)]) (st := []) C X I_X7_refuse l_X7_83 (e_refuse hm (x := -2) (j := 2) (by decide) (by decide)) (by decide) (Nat.le_of_ble_eq_true rfl) List.prefix_rfl List.prefix_rfl rfl rfl (Nat.le_of_ble_eq_true rfl) rfl (dx dX7_copy 103 rfl) ?_
                                                          rintro _ h183 ⟨rfl, m9h183, qh183⟩ kkh183
                                                          have mh183 : MilAt h183 k v := m9h183
                                                          have ph183 : Kp k h h183 := qh183
                                                          have kh183 : xK h183 = xK h := kkh183
                                                          have eA : copA g (nI π) (nI θ) (nI ι) (nI ξ) (nI ν) = -2 := by (have hq : ¬ (ι + ν ≤ ν1 ∧ ξ + ν ≤ ν2) := by omega); (have hq2 := cp_row e31 e32 (i := ι) (j := ξ) (n := ν) (by omega) (by omega) (by omega) (by omega) (by omega)); rw [decide_eq_false hq] at hq2; simp [copA, copG, copF, c1, c3, c111, c113, c115, c138, c161, c164, c166, c168, c170, c172, c174, c176, e01, e11, e21, e31, e41, e51, e61, e02, e12, e22, e32, e42, e52, e62, e72, clN (show π < 2 ^ 31 by omega), clN (show θ < 2 ^ 31 by omega), clN (show ν < 2 ^ 31 by omega), clN (show ι < 2 ^ 31 by omega), clN (show ξ < 2 ^ 31 by omega), inR_nI (show π < 2 ^ 31 by omega), inR_nI (show θ < 2 ^ 31 by omega), inR_nI (show ν < 2 ^ 31 by omega), inR_nI (show ι < 2 ^ 31 by omega), inR_nI (show ξ < 2 ^ 31 by omega), hq2, show π < 8 by omega, show θ < 8 by omega]
                                                          have eG : copG g (nI π) (nI θ) (nI ι) (nI ξ) (nI ν) = g := by (have hq : ¬ (ι + ν ≤ ν1 ∧ ξ + ν ≤ ν2) := by omega); (have hq2 := cp_row e31 e32 (i := ι) (j := ξ) (n := ν) (by omega) (by omega) (by omega) (by omega) (by omega)); rw [decide_eq_false hq] at hq2; simp [copA, copG, copF, c1, c3, c111, c113, c115, c138, c161, c164, c166, c168, c170, c172, c174, c176, e01, e11, e21, e31, e41, e51, e61, e02, e12, e22, e32, e42, e52, e62, e72, clN (show π < 2 ^ 31 by omega), clN (show θ < 2 ^ 31 by omega), clN (show ν < 2 ^ 31 by omega), clN (show ι < 2 ^ 31 by omega), clN (show ξ < 2 ^ 31 by omega), inR_nI (show π < 2 ^ 31 by omega), inR_nI (show θ < 2 ^ 31 by omega), inR_nI (show ν < 2 ^ 31 by omega), inR_nI (show ι < 2 ^ 31 by omega), inR_nI (show ξ < 2 ^ 31 by omega), hq2, show π < 8 by omega, show θ < 8 by omega]
                                                          exact F.1 _ _ _ _ _ rfl rfl (dx dX7_copy 104 rfl) kh183 (show some (vi (-2)) = some (vi (copA g (nI π) (nI θ) (nI ι) (nI ξ) (nI ν))) ∧ MilAt h183 k v ∧ MshAt h183 k (copG g (nI π) (nI θ) (nI ι) (nI ξ) (nI ν)) ∧ Kt k h h183 from by rw [eA, eG]; exact ⟨rfl, mh183, hs.kp ph183, ph183.kt⟩)))
                                  ·
                                    have c161 : ¬ nI τ1 = xI h (k + 2) θ := c161
                                    refine r_aload_n C (dx dX7_copy 49 rfl) rfl ?_
                                    refine r_bipush (v := -3) C (dx dX7_copy 50 rfl) rfl ?_
                                    refine r_cv (as := [vi (-3)]) (st := []) C X I_X7_refuse l_X7_83 (e_refuse hm (x := -3) (j := 3) (by decide) (by decide)) (by decide) (Nat.le_of_ble_eq_true rfl) List.prefix_rfl List.prefix_rfl rfl rfl (Nat.le_of_ble_eq_true rfl) rfl (dx dX7_copy 51 rfl) ?_
                                    rintro _ h184 ⟨rfl, m9h184, qh184⟩ kkh184
                                    have mh184 : MilAt h184 k v := m9h184
                                    have ph184 : Kp k h h184 := qh184
                                    have kh184 : xK h184 = xK h := kkh184
                                    have eA : copA g (nI π) (nI θ) i j n = -3 := by simp [copA, copG, copF, cpOk, c1, c3, c111, c113, c115, c138, c161, e01, e11, e21, e31, e41, e51, e61, e02, e12, e22, e32, e42, e52, e62, e72, clN (show π < 2 ^ 31 by omega), clN (show θ < 2 ^ 31 by omega), inR_nI (show π < 2 ^ 31 by omega), inR_nI (show θ < 2 ^ 31 by omega), show π < 8 by omega, show θ < 8 by omega]
                                    have eG : copG g (nI π) (nI θ) i j n = g := by simp [copA, copG, copF, cpOk, c1, c3, c111, c113, c115, c138, c161, e01, e11, e21, e31, e41, e51, e61, e02, e12, e22, e32, e42, e52, e62, e72, clN (show π < 2 ^ 31 by omega), clN (show θ < 2 ^ 31 by omega), inR_nI (show π < 2 ^ 31 by omega), inR_nI (show θ < 2 ^ 31 by omega), show π < 8 by omega, show θ < 8 by omega]
                                    exact F.1 _ _ _ _ _ rfl rfl (dx dX7_copy 52 rfl) kh184 (show some (vi (-3)) = some (vi (copA g (nI π) (nI θ) i j n)) ∧ MilAt h184 k v ∧ MshAt h184 k (copG g (nI π) (nI θ) i j n) ∧ Kt k h h184 from by rw [eA, eG]; exact ⟨rfl, mh184, hs.kp ph184, ph184.kt⟩)))))
      ·
        obtain ⟨e01, e11, e21, e31, e41, e51, e61, e71⟩ := sh_hold hπ a21 a71 a81
        rcases hs θ hθ with ⟨a12, a22⟩ | ⟨τ2, ν2, a12, a22, a32, a42, a52, a62, a72, a82⟩ | ⟨κ2, b2, a12, a22, a32, a42, a52, a62, a72, a82⟩
        ·
          obtain ⟨e02, e12, e22, e32, e42, e52, e62⟩ := sh_bare hθ a22
          refine r_aload_n C (dx dX7_copy 16 rfl) rfl ?_
          refine g_X7_7 C (dx dX7_copy 17 rfl) ?_
          refine r_iload_n C (dx dX7_copy 18 rfl) rfl ?_
          refine r_iald (j := π) (x := nI 2) C rfl rfl (by decide) rfl (by omega) (dx dX7_copy 19 rfl) a41 ?_
          refine r_iconst (v := nI 2) C (dx dX7_copy 20 rfl) rfl ?_
          refine rn_eq (a := 2) (b := 2) (tgt := 86) C (by omega) (by omega) (dx dX7_copy 21 rfl) (by decide) (fun c185 => ?_) (fun c185 => ?_)
          · first
            | (omega; done)
            | (
                have c185 : 2 = 2 := c185
                refine r_aload_n C (dx dX7_copy 49 rfl) rfl ?_
                refine r_bipush (v := -3) C (dx dX7_copy 50 rfl) rfl ?_
                refine r_cv (as := [vi (-3)]) (st := []) C X I_X7_refuse l_X7_83 (e_refuse hm (x := -3) (j := 3) (by decide) (by decide)) (by decide) (Nat.le_of_ble_eq_true rfl) List.prefix_rfl List.prefix_rfl rfl rfl (Nat.le_of_ble_eq_true rfl) rfl (dx dX7_copy 51 rfl) ?_
                rintro _ h186 ⟨rfl, m9h186, qh186⟩ kkh186
                have mh186 : MilAt h186 k v := m9h186
                have ph186 : Kp k h h186 := qh186
                have kh186 : xK h186 = xK h := kkh186
                have eA : copA g (nI π) (nI θ) i j n = -3 := by simp [copA, copG, copF, cpOk, c1, c3, c185, e01, e11, e21, e31, e41, e51, e61, e71, e02, e12, e22, e32, e42, e52, e62, clN (show π < 2 ^ 31 by omega), clN (show θ < 2 ^ 31 by omega), inR_nI (show π < 2 ^ 31 by omega), inR_nI (show θ < 2 ^ 31 by omega), show π < 8 by omega, show θ < 8 by omega]
                have eG : copG g (nI π) (nI θ) i j n = g := by simp [copA, copG, copF, cpOk, c1, c3, c185, e01, e11, e21, e31, e41, e51, e61, e71, e02, e12, e22, e32, e42, e52, e62, clN (show π < 2 ^ 31 by omega), clN (show θ < 2 ^ 31 by omega), inR_nI (show π < 2 ^ 31 by omega), inR_nI (show θ < 2 ^ 31 by omega), show π < 8 by omega, show θ < 8 by omega]
                exact F.1 _ _ _ _ _ rfl rfl (dx dX7_copy 52 rfl) kh186 (show some (vi (-3)) = some (vi (copA g (nI π) (nI θ) i j n)) ∧ MilAt h186 k v ∧ MshAt h186 k (copG g (nI π) (nI θ) i j n) ∧ Kt k h h186 from by rw [eA, eG]; exact ⟨rfl, mh186, hs.kp ph186, ph186.kt⟩))
          · first
            | (omega; done)
            | (
                have c185 : ¬ 2 = 2 := c185
                refine r_aload_n C (dx dX7_copy 22 rfl) rfl ?_
                refine g_X7_7 C (dx dX7_copy 23 rfl) ?_
                refine r_iload_n C (dx dX7_copy 24 rfl) rfl ?_
                refine r_iald (j := θ) (x := nI 0) C rfl rfl (by decide) rfl (by omega) (dx dX7_copy 25 rfl) a12 ?_
                refine r_iconst (v := nI 2) C (dx dX7_copy 26 rfl) rfl ?_
                refine rn_eq (a := 0) (b := 2) (tgt := 86) C (by omega) (by omega) (dx dX7_copy 27 rfl) (by decide) (fun c187 => ?_) (fun c187 => ?_)
                · first
                  | (omega; done)
                  | (
                      have c187 : 0 = 2 := c187
                      refine r_aload_n C (dx dX7_copy 49 rfl) rfl ?_
                      refine r_bipush (v := -3) C (dx dX7_copy 50 rfl) rfl ?_
                      refine r_cv (as := [vi (-3)]) (st := []) C X I_X7_refuse l_X7_83 (e_refuse hm (x := -3) (j := 3) (by decide) (by decide)) (by decide) (Nat.le_of_ble_eq_true rfl) List.prefix_rfl List.prefix_rfl rfl rfl (Nat.le_of_ble_eq_true rfl) rfl (dx dX7_copy 51 rfl) ?_
                      rintro _ h188 ⟨rfl, m9h188, qh188⟩ kkh188
                      have mh188 : MilAt h188 k v := m9h188
                      have ph188 : Kp k h h188 := qh188
                      have kh188 : xK h188 = xK h := kkh188
                      have eA : copA g (nI π) (nI θ) i j n = -3 := by simp [copA, copG, copF, cpOk, c1, c3, c185, c187, e01, e11, e21, e31, e41, e51, e61, e71, e02, e12, e22, e32, e42, e52, e62, clN (show π < 2 ^ 31 by omega), clN (show θ < 2 ^ 31 by omega), inR_nI (show π < 2 ^ 31 by omega), inR_nI (show θ < 2 ^ 31 by omega), show π < 8 by omega, show θ < 8 by omega]
                      have eG : copG g (nI π) (nI θ) i j n = g := by simp [copA, copG, copF, cpOk, c1, c3, c185, c187, e01, e11, e21, e31, e41, e51, e61, e71, e02, e12, e22, e32, e42, e52, e62, clN (show π < 2 ^ 31 by omega), clN (show θ < 2 ^ 31 by omega), inR_nI (show π < 2 ^ 31 by omega), inR_nI (show θ < 2 ^ 31 by omega), show π < 8 by omega, show θ < 8 by omega]
                      exact F.1 _ _ _ _ _ rfl rfl (dx dX7_copy 52 rfl) kh188 (show some (vi (-3)) = some (vi (copA g (nI π) (nI θ) i j n)) ∧ MilAt h188 k v ∧ MshAt h188 k (copG g (nI π) (nI θ) i j n) ∧ Kt k h h188 from by rw [eA, eG]; exact ⟨rfl, mh188, hs.kp ph188, ph188.kt⟩))
                · first
                  | (omega; done)
                  | (
                      have c187 : ¬ 0 = 2 := c187
                      refine r_aload_n C (dx dX7_copy 28 rfl) rfl ?_
                      refine g_X7_7 C (dx dX7_copy 29 rfl) ?_
                      refine r_iload_n C (dx dX7_copy 30 rfl) rfl ?_
                      refine r_iald (j := π) (x := nI 2) C rfl rfl (by decide) rfl (by omega) (dx dX7_copy 31 rfl) a41 ?_
                      refine r_iconst (v := nI 1) C (dx dX7_copy 32 rfl) rfl ?_
                      refine rn_ne (a := 2) (b := 1) (tgt := 93) C (by omega) (by omega) (dx dX7_copy 33 rfl) (by decide) (fun c189 => ?_) (fun c189 => ?_)
                      · first
                        | (omega; done)
                        | (
                            have c189 : ¬ 2 = 1 := c189
                            refine r_aload_n C (dx dX7_copy 53 rfl) rfl ?_
                            refine g_X7_7 C (dx dX7_copy 54 rfl) ?_
                            refine r_iload_n C (dx dX7_copy 55 rfl) rfl ?_
                            refine r_iald (j := π) (x := nI 2) C rfl rfl (by decide) rfl (by omega) (dx dX7_copy 56 rfl) a41 ?_
                            refine r_if_eq (tgt := 111) C (dx dX7_copy 57 rfl) (by decide) (fun c190 => (show False from by revert c190; decide).elim) (fun _ => ?_)
                            refine r_aload_n C (dx dX7_copy 58 rfl) rfl ?_
                            refine g_X7_7 C (dx dX7_copy 59 rfl) ?_
                            refine r_iload_n C (dx dX7_copy 60 rfl) rfl ?_
                            refine r_iald (j := θ) (x := nI 0) C rfl rfl (by decide) rfl (by omega) (dx dX7_copy 61 rfl) a12 ?_
                            refine r_if_ne (tgt := 118) C (dx dX7_copy 62 rfl) (by decide) (fun c191 => (show False from by revert c191; decide).elim) (fun _ => ?_)
                            refine r_aload_n C (dx dX7_copy 63 rfl) rfl ?_
                            refine r_bipush (v := -4) C (dx dX7_copy 64 rfl) rfl ?_
                            refine r_cv (as := [vi (-4)]) (st := []) C X I_X7_refuse l_X7_83 (e_refuse hm (x := -4) (j := 4) (by decide) (by decide)) (by decide) (Nat.le_of_ble_eq_true rfl) List.prefix_rfl List.prefix_rfl rfl rfl (Nat.le_of_ble_eq_true rfl) rfl (dx dX7_copy 65 rfl) ?_
                            rintro _ h192 ⟨rfl, m9h192, qh192⟩ kkh192
                            have mh192 : MilAt h192 k v := m9h192
                            have ph192 : Kp k h h192 := qh192
                            have kh192 : xK h192 = xK h := kkh192
                            have eA : copA g (nI π) (nI θ) i j n = -4 := by simp [copA, copG, copF, cpOk, c1, c3, c185, c187, c189, e01, e11, e21, e31, e41, e51, e61, e71, e02, e12, e22, e32, e42, e52, e62, clN (show π < 2 ^ 31 by omega), clN (show θ < 2 ^ 31 by omega), inR_nI (show π < 2 ^ 31 by omega), inR_nI (show θ < 2 ^ 31 by omega), show π < 8 by omega, show θ < 8 by omega]
                            have eG : copG g (nI π) (nI θ) i j n = g := by simp [copA, copG, copF, cpOk, c1, c3, c185, c187, c189, e01, e11, e21, e31, e41, e51, e61, e71, e02, e12, e22, e32, e42, e52, e62, clN (show π < 2 ^ 31 by omega), clN (show θ < 2 ^ 31 by omega), inR_nI (show π < 2 ^ 31 by omega), inR_nI (show θ < 2 ^ 31 by omega), show π < 8 by omega, show θ < 8 by omega]
                            exact F.1 _ _ _ _ _ rfl rfl (dx dX7_copy 66 rfl) kh192 (show some (vi (-4)) = some (vi (copA g (nI π) (nI θ) i j n)) ∧ MilAt h192 k v ∧ MshAt h192 k (copG g (nI π) (nI θ) i j n) ∧ Kt k h h192 from by rw [eA, eG]; exact ⟨rfl, mh192, hs.kp ph192, ph192.kt⟩))
                      · first
                        | (omega; done)
                        | (
                            have c189 : 2 = 1 := c189
                            refine r_aload_n C (dx dX7_copy 34 rfl) rfl ?_
                            refine g_X7_7 C (dx dX7_copy 35 rfl) ?_
                            refine r_iload_n C (dx dX7_copy 36 rfl) rfl ?_
                            refine r_iald (j := θ) (x := nI 0) C rfl rfl (by decide) rfl (by omega) (dx dX7_copy 37 rfl) a12 ?_
                            refine r_iconst (v := nI 1) C (dx dX7_copy 38 rfl) rfl ?_
                            refine rn_ne (a := 0) (b := 1) (tgt := 93) C (by omega) (by omega) (dx dX7_copy 39 rfl) (by decide) (fun c193 => ?_) (fun c193 => ?_)
                            · first
                              | (omega; done)
                              | (
                                  have c193 : ¬ 0 = 1 := c193
                                  refine r_aload_n C (dx dX7_copy 53 rfl) rfl ?_
                                  refine g_X7_7 C (dx dX7_copy 54 rfl) ?_
                                  refine r_iload_n C (dx dX7_copy 55 rfl) rfl ?_
                                  refine r_iald (j := π) (x := nI 2) C rfl rfl (by decide) rfl (by omega) (dx dX7_copy 56 rfl) a41 ?_
                                  refine r_if_eq (tgt := 111) C (dx dX7_copy 57 rfl) (by decide) (fun c194 => (show False from by revert c194; decide).elim) (fun _ => ?_)
                                  refine r_aload_n C (dx dX7_copy 58 rfl) rfl ?_
                                  refine g_X7_7 C (dx dX7_copy 59 rfl) ?_
                                  refine r_iload_n C (dx dX7_copy 60 rfl) rfl ?_
                                  refine r_iald (j := θ) (x := nI 0) C rfl rfl (by decide) rfl (by omega) (dx dX7_copy 61 rfl) a12 ?_
                                  refine r_if_ne (tgt := 118) C (dx dX7_copy 62 rfl) (by decide) (fun c195 => (show False from by revert c195; decide).elim) (fun _ => ?_)
                                  refine r_aload_n C (dx dX7_copy 63 rfl) rfl ?_
                                  refine r_bipush (v := -4) C (dx dX7_copy 64 rfl) rfl ?_
                                  refine r_cv (as := [vi (-4)]) (st := []) C X I_X7_refuse l_X7_83 (e_refuse hm (x := -4) (j := 4) (by decide) (by decide)) (by decide) (Nat.le_of_ble_eq_true rfl) List.prefix_rfl List.prefix_rfl rfl rfl (Nat.le_of_ble_eq_true rfl) rfl (dx dX7_copy 65 rfl) ?_
                                  rintro _ h196 ⟨rfl, m9h196, qh196⟩ kkh196
                                  have mh196 : MilAt h196 k v := m9h196
                                  have ph196 : Kp k h h196 := qh196
                                  have kh196 : xK h196 = xK h := kkh196
                                  have eA : copA g (nI π) (nI θ) i j n = -4 := by simp [copA, copG, copF, cpOk, c1, c3, c185, c187, c189, c193, e01, e11, e21, e31, e41, e51, e61, e71, e02, e12, e22, e32, e42, e52, e62, clN (show π < 2 ^ 31 by omega), clN (show θ < 2 ^ 31 by omega), inR_nI (show π < 2 ^ 31 by omega), inR_nI (show θ < 2 ^ 31 by omega), show π < 8 by omega, show θ < 8 by omega]
                                  have eG : copG g (nI π) (nI θ) i j n = g := by simp [copA, copG, copF, cpOk, c1, c3, c185, c187, c189, c193, e01, e11, e21, e31, e41, e51, e61, e71, e02, e12, e22, e32, e42, e52, e62, clN (show π < 2 ^ 31 by omega), clN (show θ < 2 ^ 31 by omega), inR_nI (show π < 2 ^ 31 by omega), inR_nI (show θ < 2 ^ 31 by omega), show π < 8 by omega, show θ < 8 by omega]
                                  exact F.1 _ _ _ _ _ rfl rfl (dx dX7_copy 66 rfl) kh196 (show some (vi (-4)) = some (vi (copA g (nI π) (nI θ) i j n)) ∧ MilAt h196 k v ∧ MshAt h196 k (copG g (nI π) (nI θ) i j n) ∧ Kt k h h196 from by rw [eA, eG]; exact ⟨rfl, mh196, hs.kp ph196, ph196.kt⟩))
                            · first
                              | (omega; done)
                              | (
                                  have c193 : 0 = 1 := c193
                                  refine r_aload_n C (dx dX7_copy 40 rfl) rfl ?_
                                  refine g_X7_13 C (dx dX7_copy 41 rfl) ?_
                                  refine r_iload_n C (dx dX7_copy 42 rfl) rfl ?_
                                  refine r_iald (j := π) (x := xI h (k + 2) π) C rfl rfl (by decide) rfl (by omega) (dx dX7_copy 43 rfl) rfl ?_
                                  refine r_aload_n C (dx dX7_copy 44 rfl) rfl ?_
                                  refine g_X7_13 C (dx dX7_copy 45 rfl) ?_
                                  refine r_iload_n C (dx dX7_copy 46 rfl) rfl ?_
                                  refine r_iald (j := θ) (x := xI h (k + 2) θ) C rfl rfl (by decide) rfl (by omega) (dx dX7_copy 47 rfl) rfl ?_
                                  refine r_icmp_eq (tgt := 93) C (dx dX7_copy 48 rfl) (by decide) (fun c197 => ?_) (fun c197 => ?_)
                                  ·
                                    have c197 : xI h (k + 2) π = xI h (k + 2) θ := c197
                                    refine r_aload_n C (dx dX7_copy 53 rfl) rfl ?_
                                    refine g_X7_7 C (dx dX7_copy 54 rfl) ?_
                                    refine r_iload_n C (dx dX7_copy 55 rfl) rfl ?_
                                    refine r_iald (j := π) (x := nI 2) C rfl rfl (by decide) rfl (by omega) (dx dX7_copy 56 rfl) a41 ?_
                                    refine r_if_eq (tgt := 111) C (dx dX7_copy 57 rfl) (by decide) (fun c198 => (show False from by revert c198; decide).elim) (fun _ => ?_)
                                    refine r_aload_n C (dx dX7_copy 58 rfl) rfl ?_
                                    refine g_X7_7 C (dx dX7_copy 59 rfl) ?_
                                    refine r_iload_n C (dx dX7_copy 60 rfl) rfl ?_
                                    refine r_iald (j := θ) (x := nI 0) C rfl rfl (by decide) rfl (by omega) (dx dX7_copy 61 rfl) a12 ?_
                                    refine r_if_ne (tgt := 118) C (dx dX7_copy 62 rfl) (by decide) (fun c199 => (show False from by revert c199; decide).elim) (fun _ => ?_)
                                    refine r_aload_n C (dx dX7_copy 63 rfl) rfl ?_
                                    refine r_bipush (v := -4) C (dx dX7_copy 64 rfl) rfl ?_
                                    refine r_cv (as := [vi (-4)]) (st := []) C X I_X7_refuse l_X7_83 (e_refuse hm (x := -4) (j := 4) (by decide) (by decide)) (by decide) (Nat.le_of_ble_eq_true rfl) List.prefix_rfl List.prefix_rfl rfl rfl (Nat.le_of_ble_eq_true rfl) rfl (dx dX7_copy 65 rfl) ?_
                                    rintro _ h200 ⟨rfl, m9h200, qh200⟩ kkh200
                                    have mh200 : MilAt h200 k v := m9h200
                                    have ph200 : Kp k h h200 := qh200
                                    have kh200 : xK h200 = xK h := kkh200
                                    have eA : copA g (nI π) (nI θ) i j n = -4 := by simp [copA, copG, copF, cpOk, c1, c3, c185, c187, c189, c193, c197, e01, e11, e21, e31, e41, e51, e61, e71, e02, e12, e22, e32, e42, e52, e62, clN (show π < 2 ^ 31 by omega), clN (show θ < 2 ^ 31 by omega), inR_nI (show π < 2 ^ 31 by omega), inR_nI (show θ < 2 ^ 31 by omega), show π < 8 by omega, show θ < 8 by omega]
                                    have eG : copG g (nI π) (nI θ) i j n = g := by simp [copA, copG, copF, cpOk, c1, c3, c185, c187, c189, c193, c197, e01, e11, e21, e31, e41, e51, e61, e71, e02, e12, e22, e32, e42, e52, e62, clN (show π < 2 ^ 31 by omega), clN (show θ < 2 ^ 31 by omega), inR_nI (show π < 2 ^ 31 by omega), inR_nI (show θ < 2 ^ 31 by omega), show π < 8 by omega, show θ < 8 by omega]
                                    exact F.1 _ _ _ _ _ rfl rfl (dx dX7_copy 66 rfl) kh200 (show some (vi (-4)) = some (vi (copA g (nI π) (nI θ) i j n)) ∧ MilAt h200 k v ∧ MshAt h200 k (copG g (nI π) (nI θ) i j n) ∧ Kt k h h200 from by rw [eA, eG]; exact ⟨rfl, mh200, hs.kp ph200, ph200.kt⟩)
                                  ·
                                    have c197 : ¬ xI h (k + 2) π = xI h (k + 2) θ := c197
                                    refine r_aload_n C (dx dX7_copy 49 rfl) rfl ?_
                                    refine r_bipush (v := -3) C (dx dX7_copy 50 rfl) rfl ?_
                                    refine r_cv (as := [vi (-3)]) (st := []) C X I_X7_refuse l_X7_83 (e_refuse hm (x := -3) (j := 3) (by decide) (by decide)) (by decide) (Nat.le_of_ble_eq_true rfl) List.prefix_rfl List.prefix_rfl rfl rfl (Nat.le_of_ble_eq_true rfl) rfl (dx dX7_copy 51 rfl) ?_
                                    rintro _ h201 ⟨rfl, m9h201, qh201⟩ kkh201
                                    have mh201 : MilAt h201 k v := m9h201
                                    have ph201 : Kp k h h201 := qh201
                                    have kh201 : xK h201 = xK h := kkh201
                                    have eA : copA g (nI π) (nI θ) i j n = -3 := by simp [copA, copG, copF, cpOk, c1, c3, c185, c187, c189, c193, c197, e01, e11, e21, e31, e41, e51, e61, e71, e02, e12, e22, e32, e42, e52, e62, clN (show π < 2 ^ 31 by omega), clN (show θ < 2 ^ 31 by omega), inR_nI (show π < 2 ^ 31 by omega), inR_nI (show θ < 2 ^ 31 by omega), show π < 8 by omega, show θ < 8 by omega]
                                    have eG : copG g (nI π) (nI θ) i j n = g := by simp [copA, copG, copF, cpOk, c1, c3, c185, c187, c189, c193, c197, e01, e11, e21, e31, e41, e51, e61, e71, e02, e12, e22, e32, e42, e52, e62, clN (show π < 2 ^ 31 by omega), clN (show θ < 2 ^ 31 by omega), inR_nI (show π < 2 ^ 31 by omega), inR_nI (show θ < 2 ^ 31 by omega), show π < 8 by omega, show θ < 8 by omega]
                                    exact F.1 _ _ _ _ _ rfl rfl (dx dX7_copy 52 rfl) kh201 (show some (vi (-3)) = some (vi (copA g (nI π) (nI θ) i j n)) ∧ MilAt h201 k v ∧ MshAt h201 k (copG g (nI π) (nI θ) i j n) ∧ Kt k h h201 from by rw [eA, eG]; exact ⟨rfl, mh201, hs.kp ph201, ph201.kt⟩)))))
        ·
          obtain ⟨e02, e12, e22, e32, e42, e52, e62⟩ := sh_row hθ a12 a62 a72
          refine r_aload_n C (dx dX7_copy 16 rfl) rfl ?_
          refine g_X7_7 C (dx dX7_copy 17 rfl) ?_
          refine r_iload_n C (dx dX7_copy 18 rfl) rfl ?_
          refine r_iald (j := π) (x := nI 2) C rfl rfl (by decide) rfl (by omega) (dx dX7_copy 19 rfl) a41 ?_
          refine r_iconst (v := nI 2) C (dx dX7_copy 20 rfl) rfl ?_
          refine rn_eq (a := 2) (b := 2) (tgt := 86) C (by omega) (by omega) (dx dX7_copy 21 rfl) (by decide) (fun c202 => ?_) (fun c202 => ?_)
          · first
            | (omega; done)
            | (
                have c202 : 2 = 2 := c202
                refine r_aload_n C (dx dX7_copy 49 rfl) rfl ?_
                refine r_bipush (v := -3) C (dx dX7_copy 50 rfl) rfl ?_
                refine r_cv (as := [vi (-3)]) (st := []) C X I_X7_refuse l_X7_83 (e_refuse hm (x := -3) (j := 3) (by decide) (by decide)) (by decide) (Nat.le_of_ble_eq_true rfl) List.prefix_rfl List.prefix_rfl rfl rfl (Nat.le_of_ble_eq_true rfl) rfl (dx dX7_copy 51 rfl) ?_
                rintro _ h203 ⟨rfl, m9h203, qh203⟩ kkh203
                have mh203 : MilAt h203 k v := m9h203
                have ph203 : Kp k h h203 := qh203
                have kh203 : xK h203 = xK h := kkh203
                have eA : copA g (nI π) (nI θ) i j n = -3 := by simp [copA, copG, copF, cpOk, c1, c3, c202, e01, e11, e21, e31, e41, e51, e61, e71, e02, e12, e22, e32, e42, e52, e62, clN (show π < 2 ^ 31 by omega), clN (show θ < 2 ^ 31 by omega), inR_nI (show π < 2 ^ 31 by omega), inR_nI (show θ < 2 ^ 31 by omega), show π < 8 by omega, show θ < 8 by omega]
                have eG : copG g (nI π) (nI θ) i j n = g := by simp [copA, copG, copF, cpOk, c1, c3, c202, e01, e11, e21, e31, e41, e51, e61, e71, e02, e12, e22, e32, e42, e52, e62, clN (show π < 2 ^ 31 by omega), clN (show θ < 2 ^ 31 by omega), inR_nI (show π < 2 ^ 31 by omega), inR_nI (show θ < 2 ^ 31 by omega), show π < 8 by omega, show θ < 8 by omega]
                exact F.1 _ _ _ _ _ rfl rfl (dx dX7_copy 52 rfl) kh203 (show some (vi (-3)) = some (vi (copA g (nI π) (nI θ) i j n)) ∧ MilAt h203 k v ∧ MshAt h203 k (copG g (nI π) (nI θ) i j n) ∧ Kt k h h203 from by rw [eA, eG]; exact ⟨rfl, mh203, hs.kp ph203, ph203.kt⟩))
          · first
            | (omega; done)
            | (
                have c202 : ¬ 2 = 2 := c202
                refine r_aload_n C (dx dX7_copy 22 rfl) rfl ?_
                refine g_X7_7 C (dx dX7_copy 23 rfl) ?_
                refine r_iload_n C (dx dX7_copy 24 rfl) rfl ?_
                refine r_iald (j := θ) (x := nI 1) C rfl rfl (by decide) rfl (by omega) (dx dX7_copy 25 rfl) a32 ?_
                refine r_iconst (v := nI 2) C (dx dX7_copy 26 rfl) rfl ?_
                refine rn_eq (a := 1) (b := 2) (tgt := 86) C (by omega) (by omega) (dx dX7_copy 27 rfl) (by decide) (fun c204 => ?_) (fun c204 => ?_)
                · first
                  | (omega; done)
                  | (
                      have c204 : 1 = 2 := c204
                      refine r_aload_n C (dx dX7_copy 49 rfl) rfl ?_
                      refine r_bipush (v := -3) C (dx dX7_copy 50 rfl) rfl ?_
                      refine r_cv (as := [vi (-3)]) (st := []) C X I_X7_refuse l_X7_83 (e_refuse hm (x := -3) (j := 3) (by decide) (by decide)) (by decide) (Nat.le_of_ble_eq_true rfl) List.prefix_rfl List.prefix_rfl rfl rfl (Nat.le_of_ble_eq_true rfl) rfl (dx dX7_copy 51 rfl) ?_
                      rintro _ h205 ⟨rfl, m9h205, qh205⟩ kkh205
                      have mh205 : MilAt h205 k v := m9h205
                      have ph205 : Kp k h h205 := qh205
                      have kh205 : xK h205 = xK h := kkh205
                      have eA : copA g (nI π) (nI θ) i j n = -3 := by simp [copA, copG, copF, cpOk, c1, c3, c202, c204, e01, e11, e21, e31, e41, e51, e61, e71, e02, e12, e22, e32, e42, e52, e62, clN (show π < 2 ^ 31 by omega), clN (show θ < 2 ^ 31 by omega), inR_nI (show π < 2 ^ 31 by omega), inR_nI (show θ < 2 ^ 31 by omega), show π < 8 by omega, show θ < 8 by omega]
                      have eG : copG g (nI π) (nI θ) i j n = g := by simp [copA, copG, copF, cpOk, c1, c3, c202, c204, e01, e11, e21, e31, e41, e51, e61, e71, e02, e12, e22, e32, e42, e52, e62, clN (show π < 2 ^ 31 by omega), clN (show θ < 2 ^ 31 by omega), inR_nI (show π < 2 ^ 31 by omega), inR_nI (show θ < 2 ^ 31 by omega), show π < 8 by omega, show θ < 8 by omega]
                      exact F.1 _ _ _ _ _ rfl rfl (dx dX7_copy 52 rfl) kh205 (show some (vi (-3)) = some (vi (copA g (nI π) (nI θ) i j n)) ∧ MilAt h205 k v ∧ MshAt h205 k (copG g (nI π) (nI θ) i j n) ∧ Kt k h h205 from by rw [eA, eG]; exact ⟨rfl, mh205, hs.kp ph205, ph205.kt⟩))
                · first
                  | (omega; done)
                  | (
                      have c204 : ¬ 1 = 2 := c204
                      refine r_aload_n C (dx dX7_copy 28 rfl) rfl ?_
                      refine g_X7_7 C (dx dX7_copy 29 rfl) ?_
                      refine r_iload_n C (dx dX7_copy 30 rfl) rfl ?_
                      refine r_iald (j := π) (x := nI 2) C rfl rfl (by decide) rfl (by omega) (dx dX7_copy 31 rfl) a41 ?_
                      refine r_iconst (v := nI 1) C (dx dX7_copy 32 rfl) rfl ?_
                      refine rn_ne (a := 2) (b := 1) (tgt := 93) C (by omega) (by omega) (dx dX7_copy 33 rfl) (by decide) (fun c206 => ?_) (fun c206 => ?_)
                      · first
                        | (omega; done)
                        | (
                            have c206 : ¬ 2 = 1 := c206
                            refine r_aload_n C (dx dX7_copy 53 rfl) rfl ?_
                            refine g_X7_7 C (dx dX7_copy 54 rfl) ?_
                            refine r_iload_n C (dx dX7_copy 55 rfl) rfl ?_
                            refine r_iald (j := π) (x := nI 2) C rfl rfl (by decide) rfl (by omega) (dx dX7_copy 56 rfl) a41 ?_
                            refine r_if_eq (tgt := 111) C (dx dX7_copy 57 rfl) (by decide) (fun c207 => (show False from by revert c207; decide).elim) (fun _ => ?_)
                            refine r_aload_n C (dx dX7_copy 58 rfl) rfl ?_
                            refine g_X7_7 C (dx dX7_copy 59 rfl) ?_
                            refine r_iload_n C (dx dX7_copy 60 rfl) rfl ?_
                            refine r_iald (j := θ) (x := nI 1) C rfl rfl (by decide) rfl (by omega) (dx dX7_copy 61 rfl) a32 ?_
                            refine r_if_ne (tgt := 118) C (dx dX7_copy 62 rfl) (by decide) (fun _ => ?_) (fun c208 => (show False from by revert c208; decide).elim)
                            refine r_iload C (dx dX7_copy 67 rfl) rfl ?_
                            refine r_if_lt (tgt := 181) C (dx dX7_copy 68 rfl) (by decide) (fun c209 => ?_) (fun c209 => ?_)
                            ·
                              have c209 : n < 0 := c209
                              refine r_aload_n C (dx dX7_copy 101 rfl) rfl ?_
                              refine r_bipush (v := -2) C (dx dX7_copy 102 rfl) rfl ?_
                              refine r_cv (as := [vi (-2)]) (st := []) C X I_X7_refuse l_X7_83 (e_refuse hm (x := -2) (j := 2) (by decide) (by decide)) (by decide) (Nat.le_of_ble_eq_true rfl) List.prefix_rfl List.prefix_rfl rfl rfl (Nat.le_of_ble_eq_true rfl) rfl (dx dX7_copy 103 rfl) ?_
                              rintro _ h210 ⟨rfl, m9h210, qh210⟩ kkh210
                              have mh210 : MilAt h210 k v := m9h210
                              have ph210 : Kp k h h210 := qh210
                              have kh210 : xK h210 = xK h := kkh210
                              have eA : copA g (nI π) (nI θ) i j n = -2 := by simp [copA, copG, copF, cpOk, c1, c3, c202, c204, c206, (fun n9 => inR_neg (n := n9) c209 : ∀ n9, inR n n9 = false), c209, e01, e11, e21, e31, e41, e51, e61, e71, e02, e12, e22, e32, e42, e52, e62, clN (show π < 2 ^ 31 by omega), clN (show θ < 2 ^ 31 by omega), inR_nI (show π < 2 ^ 31 by omega), inR_nI (show θ < 2 ^ 31 by omega), show π < 8 by omega, show θ < 8 by omega]
                              have eG : copG g (nI π) (nI θ) i j n = g := by simp [copA, copG, copF, cpOk, c1, c3, c202, c204, c206, (fun n9 => inR_neg (n := n9) c209 : ∀ n9, inR n n9 = false), c209, e01, e11, e21, e31, e41, e51, e61, e71, e02, e12, e22, e32, e42, e52, e62, clN (show π < 2 ^ 31 by omega), clN (show θ < 2 ^ 31 by omega), inR_nI (show π < 2 ^ 31 by omega), inR_nI (show θ < 2 ^ 31 by omega), show π < 8 by omega, show θ < 8 by omega]
                              exact F.1 _ _ _ _ _ rfl rfl (dx dX7_copy 104 rfl) kh210 (show some (vi (-2)) = some (vi (copA g (nI π) (nI θ) i j n)) ∧ MilAt h210 k v ∧ MshAt h210 k (copG g (nI π) (nI θ) i j n) ∧ Kt k h h210 from by rw [eA, eG]; exact ⟨rfl, mh210, hs.kp ph210, ph210.kt⟩)
                            ·
                              have c209 : ¬ n < 0 := c209
                              obtain ⟨ν, hν, rfl⟩ := nI_of c209
                              refine r_iload_n C (dx dX7_copy 69 rfl) rfl ?_
                              refine r_if_lt (tgt := 181) C (dx dX7_copy 70 rfl) (by decide) (fun c211 => ?_) (fun c211 => ?_)
                              ·
                                have c211 : i < 0 := c211
                                refine r_aload_n C (dx dX7_copy 101 rfl) rfl ?_
                                refine r_bipush (v := -2) C (dx dX7_copy 102 rfl) rfl ?_
                                refine r_cv (as := [vi (-2)]) (st := []) C X I_X7_refuse l_X7_83 (e_refuse hm (x := -2) (j := 2) (by decide) (by decide)) (by decide) (Nat.le_of_ble_eq_true rfl) List.prefix_rfl List.prefix_rfl rfl rfl (Nat.le_of_ble_eq_true rfl) rfl (dx dX7_copy 103 rfl) ?_
                                rintro _ h212 ⟨rfl, m9h212, qh212⟩ kkh212
                                have mh212 : MilAt h212 k v := m9h212
                                have ph212 : Kp k h h212 := qh212
                                have kh212 : xK h212 = xK h := kkh212
                                have eA : copA g (nI π) (nI θ) i j (nI ν) = -2 := by simp [copA, copG, copF, cpOk, c1, c3, c202, c204, c206, c209, (fun n9 => inR_neg (n := n9) c211 : ∀ n9, inR i n9 = false), c211, e01, e11, e21, e31, e41, e51, e61, e71, e02, e12, e22, e32, e42, e52, e62, clN (show π < 2 ^ 31 by omega), clN (show θ < 2 ^ 31 by omega), clN (show ν < 2 ^ 31 by omega), inR_nI (show π < 2 ^ 31 by omega), inR_nI (show θ < 2 ^ 31 by omega), inR_nI (show ν < 2 ^ 31 by omega), show π < 8 by omega, show θ < 8 by omega]
                                have eG : copG g (nI π) (nI θ) i j (nI ν) = g := by simp [copA, copG, copF, cpOk, c1, c3, c202, c204, c206, c209, (fun n9 => inR_neg (n := n9) c211 : ∀ n9, inR i n9 = false), c211, e01, e11, e21, e31, e41, e51, e61, e71, e02, e12, e22, e32, e42, e52, e62, clN (show π < 2 ^ 31 by omega), clN (show θ < 2 ^ 31 by omega), clN (show ν < 2 ^ 31 by omega), inR_nI (show π < 2 ^ 31 by omega), inR_nI (show θ < 2 ^ 31 by omega), inR_nI (show ν < 2 ^ 31 by omega), show π < 8 by omega, show θ < 8 by omega]
                                exact F.1 _ _ _ _ _ rfl rfl (dx dX7_copy 104 rfl) kh212 (show some (vi (-2)) = some (vi (copA g (nI π) (nI θ) i j (nI ν))) ∧ MilAt h212 k v ∧ MshAt h212 k (copG g (nI π) (nI θ) i j (nI ν)) ∧ Kt k h h212 from by rw [eA, eG]; exact ⟨rfl, mh212, hs.kp ph212, ph212.kt⟩)
                              ·
                                have c211 : ¬ i < 0 := c211
                                obtain ⟨ι, hι, rfl⟩ := nI_of c211
                                refine r_iload C (dx dX7_copy 71 rfl) rfl ?_
                                refine r_if_lt (tgt := 181) C (dx dX7_copy 72 rfl) (by decide) (fun c213 => ?_) (fun c213 => ?_)
                                ·
                                  have c213 : j < 0 := c213
                                  refine r_aload_n C (dx dX7_copy 101 rfl) rfl ?_
                                  refine r_bipush (v := -2) C (dx dX7_copy 102 rfl) rfl ?_
                                  refine r_cv (as := [vi (-2)]) (st := []) C X I_X7_refuse l_X7_83 (e_refuse hm (x := -2) (j := 2) (by decide) (by decide)) (by decide) (Nat.le_of_ble_eq_true rfl) List.prefix_rfl List.prefix_rfl rfl rfl (Nat.le_of_ble_eq_true rfl) rfl (dx dX7_copy 103 rfl) ?_
                                  rintro _ h214 ⟨rfl, m9h214, qh214⟩ kkh214
                                  have mh214 : MilAt h214 k v := m9h214
                                  have ph214 : Kp k h h214 := qh214
                                  have kh214 : xK h214 = xK h := kkh214
                                  have eA : copA g (nI π) (nI θ) (nI ι) j (nI ν) = -2 := by simp [copA, copG, copF, cpOk, c1, c3, c202, c204, c206, c209, c211, (fun n9 => inR_neg (n := n9) c213 : ∀ n9, inR j n9 = false), c213, e01, e11, e21, e31, e41, e51, e61, e71, e02, e12, e22, e32, e42, e52, e62, clN (show π < 2 ^ 31 by omega), clN (show θ < 2 ^ 31 by omega), clN (show ν < 2 ^ 31 by omega), clN (show ι < 2 ^ 31 by omega), inR_nI (show π < 2 ^ 31 by omega), inR_nI (show θ < 2 ^ 31 by omega), inR_nI (show ν < 2 ^ 31 by omega), inR_nI (show ι < 2 ^ 31 by omega), show π < 8 by omega, show θ < 8 by omega]
                                  have eG : copG g (nI π) (nI θ) (nI ι) j (nI ν) = g := by simp [copA, copG, copF, cpOk, c1, c3, c202, c204, c206, c209, c211, (fun n9 => inR_neg (n := n9) c213 : ∀ n9, inR j n9 = false), c213, e01, e11, e21, e31, e41, e51, e61, e71, e02, e12, e22, e32, e42, e52, e62, clN (show π < 2 ^ 31 by omega), clN (show θ < 2 ^ 31 by omega), clN (show ν < 2 ^ 31 by omega), clN (show ι < 2 ^ 31 by omega), inR_nI (show π < 2 ^ 31 by omega), inR_nI (show θ < 2 ^ 31 by omega), inR_nI (show ν < 2 ^ 31 by omega), inR_nI (show ι < 2 ^ 31 by omega), show π < 8 by omega, show θ < 8 by omega]
                                  exact F.1 _ _ _ _ _ rfl rfl (dx dX7_copy 104 rfl) kh214 (show some (vi (-2)) = some (vi (copA g (nI π) (nI θ) (nI ι) j (nI ν))) ∧ MilAt h214 k v ∧ MshAt h214 k (copG g (nI π) (nI θ) (nI ι) j (nI ν)) ∧ Kt k h h214 from by rw [eA, eG]; exact ⟨rfl, mh214, hs.kp ph214, ph214.kt⟩)
                                ·
                                  have c213 : ¬ j < 0 := c213
                                  obtain ⟨ξ, hξ, rfl⟩ := nI_of c213
                                  refine r_iload C (dx dX7_copy 73 rfl) rfl ?_
                                  refine r_aload_n C (dx dX7_copy 74 rfl) rfl ?_
                                  refine g_X7_16 C (dx dX7_copy 75 rfl) ?_
                                  refine r_iload_n C (dx dX7_copy 76 rfl) rfl ?_
                                  refine r_iald (j := π) (x := xI h (k + 3) π) C rfl rfl (by decide) rfl (by omega) (dx dX7_copy 77 rfl) rfl ?_
                                  refine r_icmp_gt (tgt := 181) C (dx dX7_copy 78 rfl) (by decide) (fun c215 => ?_) (fun c215 => ?_)
                                  ·
                                    have c215 : xI h (k + 3) π < nI ν := c215
                                    refine r_aload_n C (dx dX7_copy 101 rfl) rfl ?_
                                    refine r_bipush (v := -2) C (dx dX7_copy 102 rfl) rfl ?_
                                    refine r_cv (as := [vi (-2)]) (st := []) C X I_X7_refuse l_X7_83 (e_refuse hm (x := -2) (j := 2) (by decide) (by decide)) (by decide) (Nat.le_of_ble_eq_true rfl) List.prefix_rfl List.prefix_rfl rfl rfl (Nat.le_of_ble_eq_true rfl) rfl (dx dX7_copy 103 rfl) ?_
                                    rintro _ h216 ⟨rfl, m9h216, qh216⟩ kkh216
                                    have mh216 : MilAt h216 k v := m9h216
                                    have ph216 : Kp k h h216 := qh216
                                    have kh216 : xK h216 = xK h := kkh216
                                    have eA : copA g (nI π) (nI θ) (nI ι) (nI ξ) (nI ν) = -2 := by (have hq : ¬ (ι + ν ≤ ν1 ∧ ξ + ν ≤ ν2) := by omega); (have hq2 := cp_row e31 e32 (i := ι) (j := ξ) (n := ν) (by omega) (by omega) (by omega) (by omega) (by omega)); rw [decide_eq_false hq] at hq2; simp [copA, copG, copF, c1, c3, c202, c204, c206, c209, c211, c213, c215, e01, e11, e21, e31, e41, e51, e61, e71, e02, e12, e22, e32, e42, e52, e62, clN (show π < 2 ^ 31 by omega), clN (show θ < 2 ^ 31 by omega), clN (show ν < 2 ^ 31 by omega), clN (show ι < 2 ^ 31 by omega), clN (show ξ < 2 ^ 31 by omega), inR_nI (show π < 2 ^ 31 by omega), inR_nI (show θ < 2 ^ 31 by omega), inR_nI (show ν < 2 ^ 31 by omega), inR_nI (show ι < 2 ^ 31 by omega), inR_nI (show ξ < 2 ^ 31 by omega), hq2, show π < 8 by omega, show θ < 8 by omega]
                                    have eG : copG g (nI π) (nI θ) (nI ι) (nI ξ) (nI ν) = g := by (have hq : ¬ (ι + ν ≤ ν1 ∧ ξ + ν ≤ ν2) := by omega); (have hq2 := cp_row e31 e32 (i := ι) (j := ξ) (n := ν) (by omega) (by omega) (by omega) (by omega) (by omega)); rw [decide_eq_false hq] at hq2; simp [copA, copG, copF, c1, c3, c202, c204, c206, c209, c211, c213, c215, e01, e11, e21, e31, e41, e51, e61, e71, e02, e12, e22, e32, e42, e52, e62, clN (show π < 2 ^ 31 by omega), clN (show θ < 2 ^ 31 by omega), clN (show ν < 2 ^ 31 by omega), clN (show ι < 2 ^ 31 by omega), clN (show ξ < 2 ^ 31 by omega), inR_nI (show π < 2 ^ 31 by omega), inR_nI (show θ < 2 ^ 31 by omega), inR_nI (show ν < 2 ^ 31 by omega), inR_nI (show ι < 2 ^ 31 by omega), inR_nI (show ξ < 2 ^ 31 by omega), hq2, show π < 8 by omega, show θ < 8 by omega]
                                    exact F.1 _ _ _ _ _ rfl rfl (dx dX7_copy 104 rfl) kh216 (show some (vi (-2)) = some (vi (copA g (nI π) (nI θ) (nI ι) (nI ξ) (nI ν))) ∧ MilAt h216 k v ∧ MshAt h216 k (copG g (nI π) (nI θ) (nI ι) (nI ξ) (nI ν)) ∧ Kt k h h216 from by rw [eA, eG]; exact ⟨rfl, mh216, hs.kp ph216, ph216.kt⟩)
                                  ·
                                    have c215 : ¬ xI h (k + 3) π < nI ν := c215
                                    refine r_iload C (dx dX7_copy 79 rfl) rfl ?_
                                    refine r_aload_n C (dx dX7_copy 80 rfl) rfl ?_
                                    refine g_X7_16 C (dx dX7_copy 81 rfl) ?_
                                    refine r_iload_n C (dx dX7_copy 82 rfl) rfl ?_
                                    refine r_iald (j := θ) (x := nI ν2) C rfl rfl (by decide) rfl (by omega) (dx dX7_copy 83 rfl) a52 ?_
                                    refine rn_gt (a := ν) (b := ν2) (tgt := 181) C (by omega) (by omega) (dx dX7_copy 84 rfl) (by decide) (fun c217 => ?_) (fun c217 => ?_)
                                    · first
                                      | (omega; done)
                                      | (
                                          have c217 : ν2 < ν := c217
                                          refine r_aload_n C (dx dX7_copy 101 rfl) rfl ?_
                                          refine r_bipush (v := -2) C (dx dX7_copy 102 rfl) rfl ?_
                                          refine r_cv (as := [vi (-2)]) (st := []) C X I_X7_refuse l_X7_83 (e_refuse hm (x := -2) (j := 2) (by decide) (by decide)) (by decide) (Nat.le_of_ble_eq_true rfl) List.prefix_rfl List.prefix_rfl rfl rfl (Nat.le_of_ble_eq_true rfl) rfl (dx dX7_copy 103 rfl) ?_
                                          rintro _ h218 ⟨rfl, m9h218, qh218⟩ kkh218
                                          have mh218 : MilAt h218 k v := m9h218
                                          have ph218 : Kp k h h218 := qh218
                                          have kh218 : xK h218 = xK h := kkh218
                                          have eA : copA g (nI π) (nI θ) (nI ι) (nI ξ) (nI ν) = -2 := by (have hq : ¬ (ι + ν ≤ ν1 ∧ ξ + ν ≤ ν2) := by omega); (have hq2 := cp_row e31 e32 (i := ι) (j := ξ) (n := ν) (by omega) (by omega) (by omega) (by omega) (by omega)); rw [decide_eq_false hq] at hq2; simp [copA, copG, copF, c1, c3, c202, c204, c206, c209, c211, c213, c215, c217, e01, e11, e21, e31, e41, e51, e61, e71, e02, e12, e22, e32, e42, e52, e62, clN (show π < 2 ^ 31 by omega), clN (show θ < 2 ^ 31 by omega), clN (show ν < 2 ^ 31 by omega), clN (show ι < 2 ^ 31 by omega), clN (show ξ < 2 ^ 31 by omega), inR_nI (show π < 2 ^ 31 by omega), inR_nI (show θ < 2 ^ 31 by omega), inR_nI (show ν < 2 ^ 31 by omega), inR_nI (show ι < 2 ^ 31 by omega), inR_nI (show ξ < 2 ^ 31 by omega), hq2, show π < 8 by omega, show θ < 8 by omega]
                                          have eG : copG g (nI π) (nI θ) (nI ι) (nI ξ) (nI ν) = g := by (have hq : ¬ (ι + ν ≤ ν1 ∧ ξ + ν ≤ ν2) := by omega); (have hq2 := cp_row e31 e32 (i := ι) (j := ξ) (n := ν) (by omega) (by omega) (by omega) (by omega) (by omega)); rw [decide_eq_false hq] at hq2; simp [copA, copG, copF, c1, c3, c202, c204, c206, c209, c211, c213, c215, c217, e01, e11, e21, e31, e41, e51, e61, e71, e02, e12, e22, e32, e42, e52, e62, clN (show π < 2 ^ 31 by omega), clN (show θ < 2 ^ 31 by omega), clN (show ν < 2 ^ 31 by omega), clN (show ι < 2 ^ 31 by omega), clN (show ξ < 2 ^ 31 by omega), inR_nI (show π < 2 ^ 31 by omega), inR_nI (show θ < 2 ^ 31 by omega), inR_nI (show ν < 2 ^ 31 by omega), inR_nI (show ι < 2 ^ 31 by omega), inR_nI (show ξ < 2 ^ 31 by omega), hq2, show π < 8 by omega, show θ < 8 by omega]
                                          exact F.1 _ _ _ _ _ rfl rfl (dx dX7_copy 104 rfl) kh218 (show some (vi (-2)) = some (vi (copA g (nI π) (nI θ) (nI ι) (nI ξ) (nI ν))) ∧ MilAt h218 k v ∧ MshAt h218 k (copG g (nI π) (nI θ) (nI ι) (nI ξ) (nI ν)) ∧ Kt k h h218 from by rw [eA, eG]; exact ⟨rfl, mh218, hs.kp ph218, ph218.kt⟩))
                                    · first
                                      | (omega; done)
                                      | (
                                          have c217 : ν ≤ ν2 := c217
                                          refine r_iload_n C (dx dX7_copy 85 rfl) rfl ?_
                                          refine r_aload_n C (dx dX7_copy 86 rfl) rfl ?_
                                          refine g_X7_16 C (dx dX7_copy 87 rfl) ?_
                                          refine r_iload_n C (dx dX7_copy 88 rfl) rfl ?_
                                          refine r_iald (j := π) (x := xI h (k + 3) π) C rfl rfl (by decide) rfl (by omega) (dx dX7_copy 89 rfl) rfl ?_
                                          refine r_iload C (dx dX7_copy 90 rfl) rfl ?_
                                          refine r_isub C (dx dX7_copy 91 rfl) ?_
                                          refine r_icmp_gt (tgt := 181) C (dx dX7_copy 92 rfl) (by decide) (fun c219 => ?_) (fun c219 => ?_)
                                          ·
                                            have c219 : (xI h (k + 3) π) - (nI ν) < nI ι := c219
                                            refine r_aload_n C (dx dX7_copy 101 rfl) rfl ?_
                                            refine r_bipush (v := -2) C (dx dX7_copy 102 rfl) rfl ?_
                                            refine r_cv (as := [vi (-2)]) (st := []) C X I_X7_refuse l_X7_83 (e_refuse hm (x := -2) (j := 2) (by decide) (by decide)) (by decide) (Nat.le_of_ble_eq_true rfl) List.prefix_rfl List.prefix_rfl rfl rfl (Nat.le_of_ble_eq_true rfl) rfl (dx dX7_copy 103 rfl) ?_
                                            rintro _ h220 ⟨rfl, m9h220, qh220⟩ kkh220
                                            have mh220 : MilAt h220 k v := m9h220
                                            have ph220 : Kp k h h220 := qh220
                                            have kh220 : xK h220 = xK h := kkh220
                                            have eA : copA g (nI π) (nI θ) (nI ι) (nI ξ) (nI ν) = -2 := by (have hq : ¬ (ι + ν ≤ ν1 ∧ ξ + ν ≤ ν2) := by omega); (have hq2 := cp_row e31 e32 (i := ι) (j := ξ) (n := ν) (by omega) (by omega) (by omega) (by omega) (by omega)); rw [decide_eq_false hq] at hq2; simp [copA, copG, copF, c1, c3, c202, c204, c206, c209, c211, c213, c215, c217, c219, e01, e11, e21, e31, e41, e51, e61, e71, e02, e12, e22, e32, e42, e52, e62, clN (show π < 2 ^ 31 by omega), clN (show θ < 2 ^ 31 by omega), clN (show ν < 2 ^ 31 by omega), clN (show ι < 2 ^ 31 by omega), clN (show ξ < 2 ^ 31 by omega), inR_nI (show π < 2 ^ 31 by omega), inR_nI (show θ < 2 ^ 31 by omega), inR_nI (show ν < 2 ^ 31 by omega), inR_nI (show ι < 2 ^ 31 by omega), inR_nI (show ξ < 2 ^ 31 by omega), hq2, show π < 8 by omega, show θ < 8 by omega]
                                            have eG : copG g (nI π) (nI θ) (nI ι) (nI ξ) (nI ν) = g := by (have hq : ¬ (ι + ν ≤ ν1 ∧ ξ + ν ≤ ν2) := by omega); (have hq2 := cp_row e31 e32 (i := ι) (j := ξ) (n := ν) (by omega) (by omega) (by omega) (by omega) (by omega)); rw [decide_eq_false hq] at hq2; simp [copA, copG, copF, c1, c3, c202, c204, c206, c209, c211, c213, c215, c217, c219, e01, e11, e21, e31, e41, e51, e61, e71, e02, e12, e22, e32, e42, e52, e62, clN (show π < 2 ^ 31 by omega), clN (show θ < 2 ^ 31 by omega), clN (show ν < 2 ^ 31 by omega), clN (show ι < 2 ^ 31 by omega), clN (show ξ < 2 ^ 31 by omega), inR_nI (show π < 2 ^ 31 by omega), inR_nI (show θ < 2 ^ 31 by omega), inR_nI (show ν < 2 ^ 31 by omega), inR_nI (show ι < 2 ^ 31 by omega), inR_nI (show ξ < 2 ^ 31 by omega), hq2, show π < 8 by omega, show θ < 8 by omega]
                                            exact F.1 _ _ _ _ _ rfl rfl (dx dX7_copy 104 rfl) kh220 (show some (vi (-2)) = some (vi (copA g (nI π) (nI θ) (nI ι) (nI ξ) (nI ν))) ∧ MilAt h220 k v ∧ MshAt h220 k (copG g (nI π) (nI θ) (nI ι) (nI ξ) (nI ν)) ∧ Kt k h h220 from by rw [eA, eG]; exact ⟨rfl, mh220, hs.kp ph220, ph220.kt⟩)
                                          ·
                                            have c219 : ¬ (xI h (k + 3) π) - (nI ν) < nI ι := c219
                                            refine r_iload C (dx dX7_copy 93 rfl) rfl ?_
                                            refine r_aload_n C (dx dX7_copy 94 rfl) rfl ?_
                                            refine g_X7_16 C (dx dX7_copy 95 rfl) ?_
                                            refine r_iload_n C (dx dX7_copy 96 rfl) rfl ?_
                                            refine r_iald (j := θ) (x := nI ν2) C rfl rfl (by decide) rfl (by omega) (dx dX7_copy 97 rfl) a52 ?_
                                            refine r_iload C (dx dX7_copy 98 rfl) rfl ?_
                                            refine rn_isub (a := ν2) (b := ν) C (by omega) (dx dX7_copy 99 rfl) ?_
                                            refine rn_le (a := ξ) (b := ν2 - ν) (tgt := 188) C (by omega) (by omega) (dx dX7_copy 100 rfl) (by decide) (fun c221 => ?_) (fun c221 => ?_)
                                            · first
                                              | (omega; done)
                                              | (
                                                  have c221 : ξ ≤ ν2 - ν := c221
                                                  refine r_iconst (v := nI 0) C (dx dX7_copy 105 rfl) rfl ?_
                                                  refine r_istore (ls' := [(0, vr 7 k), (1, vi (nI π)), (2, vi (nI θ)), (3, vi (nI ι)), (4, vi (nI ξ)), (5, vi (nI ν)), (6, vi (nI 0))]) C (dx dX7_copy 106 rfl) (by decide) [1, 2, 3, 4, 5, 6, 0] rfl ?_
                                                  refine loopU (Φ := fun p => ∀ h9, (∀ t, t < p → xL h9 (k + 13) t = gE g π (ι + t)) → Fr (k + 13) (k + 14) h h9 → xK h9 = xK h → Rr G 191 [(0, vr 7 k), (1, vi (nI π)), (2, vi (nI θ)), (3, vi (nI ι)), (4, vi (nI ξ)), (5, vi (nI ν)), (6, vi (nI p))] [] h9) (N := ν) ?_ ?_ 0 (by omega) _ (fun i hi => absurd hi (by omega)) Fr.rf rfl
                                                  ·
                                                    intro h9 q9 f9 k9
                                                    refine r_iload C (dx dX7_copy 107 rfl) rfl ?_
                                                    refine r_iload C (dx dX7_copy 108 rfl) rfl ?_
                                                    refine rn_ge (a := ν) (b := ν) (tgt := 222) C (by omega) (by omega) (dx dX7_copy 109 rfl) (by decide) (fun c222 => ?_) (fun c222 => ?_)
                                                    · first
                                                      | (omega; done)
                                                      | (
                                                          have c222 : ν ≤ ν := c222
                                                          refine r_iconst (v := nI 0) C (dx dX7_copy 124 rfl) rfl ?_
                                                          refine r_istore (ls' := [(0, vr 7 k), (1, vi (nI π)), (2, vi (nI θ)), (3, vi (nI ι)), (4, vi (nI ξ)), (5, vi (nI ν)), (6, vi (nI 0))]) C (dx dX7_copy 125 rfl) (by decide) [1, 2, 3, 4, 5, 6, 0] rfl ?_
                                                          have r9 := MsR.fr (show MsR h k g θ from ⟨_, _, a12, a22, a32, a42, a52, a62, a72, a82⟩) hθ f9
                                                          refine loopU (Φ := fun p => ∀ h8, (∀ i, i < 40 → xL h8 (k + 5 + θ) i = if ξ ≤ i ∧ i < ξ + p then gE g π (ι + (i - ξ)) else gE g θ i) → (∀ t, t < ν → xL h8 (k + 13) t = gE g π (ι + t)) → Fr (k + 5 + θ) (k + 5 + θ + 1) h9 h8 → xK h8 = xK h → Rr G 225 [(0, vr 7 k), (1, vi (nI π)), (2, vi (nI θ)), (3, vi (nI ι)), (4, vi (nI ξ)), (5, vi (nI ν)), (6, vi (nI p))] [] h8) (N := ν) ?_ ?_ 0 (by omega) _ (fun i hi => by rw [if_neg (by omega), f9.L (by omega)]; exact a82 i hi) q9 Fr.rf k9
                                                          ·
                                                            intro h8 q8 u8 f8 k8
                                                            have s9 : MshAt h8 k (pCp g π θ ι ξ ν) := msh_els (hs.mv f9) hθ r9 f8 (fun i hi => by rw [q8 i hi]; rfl)
                                                            have g9 : Fr (k + 1) (k + 16) h h8 := (f9.mono (by omega) (by omega)).tr (f8.mono (by omega) (by omega))
                                                            refine r_iload C (dx dX7_copy 126 rfl) rfl ?_
                                                            refine r_iload C (dx dX7_copy 127 rfl) rfl ?_
                                                            refine rn_ge (a := ν) (b := ν) (tgt := 257) C (by omega) (by omega) (dx dX7_copy 128 rfl) (by decide) (fun c223 => ?_) (fun c223 => ?_)
                                                            · first
                                                              | (omega; done)
                                                              | (
                                                                  have c223 : ν ≤ ν := c223
                                                                  refine r_iload C (dx dX7_copy 143 rfl) rfl ?_
                                                                  have eA : copA g (nI π) (nI θ) (nI ι) (nI ξ) (nI ν) = nI ν := by simp [copA, copG, copF, c1, c3, c202, c204, c206, c209, c211, c213, c215, c217, c219, c221, c222, c223, e01, e11, e21, e31, e41, e51, e61, e71, e02, e12, e22, e32, e42, e52, e62, clN (show π < 2 ^ 31 by omega), clN (show θ < 2 ^ 31 by omega), clN (show ν < 2 ^ 31 by omega), clN (show ι < 2 ^ 31 by omega), clN (show ξ < 2 ^ 31 by omega), inR_nI (show π < 2 ^ 31 by omega), inR_nI (show θ < 2 ^ 31 by omega), inR_nI (show ν < 2 ^ 31 by omega), inR_nI (show ι < 2 ^ 31 by omega), inR_nI (show ξ < 2 ^ 31 by omega), show π < 8 by omega, show θ < 8 by omega, cp_row e31 e32 (by omega) (by omega) (show ι < 2 ^ 31 by omega) (show ξ < 2 ^ 31 by omega) (show ν < 2 ^ 31 by omega), show ι + ν ≤ ν1 by omega, show ξ + ν ≤ ν2 by omega]
                                                                  have eG : copG g (nI π) (nI θ) (nI ι) (nI ξ) (nI ν) = pCp g π θ ι ξ ν := by simp [copA, copG, copF, c1, c3, c202, c204, c206, c209, c211, c213, c215, c217, c219, c221, c222, c223, e01, e11, e21, e31, e41, e51, e61, e71, e02, e12, e22, e32, e42, e52, e62, clN (show π < 2 ^ 31 by omega), clN (show θ < 2 ^ 31 by omega), clN (show ν < 2 ^ 31 by omega), clN (show ι < 2 ^ 31 by omega), clN (show ξ < 2 ^ 31 by omega), inR_nI (show π < 2 ^ 31 by omega), inR_nI (show θ < 2 ^ 31 by omega), inR_nI (show ν < 2 ^ 31 by omega), inR_nI (show ι < 2 ^ 31 by omega), inR_nI (show ξ < 2 ^ 31 by omega), show π < 8 by omega, show θ < 8 by omega, cp_row e31 e32 (by omega) (by omega) (show ι < 2 ^ 31 by omega) (show ξ < 2 ^ 31 by omega) (show ν < 2 ^ 31 by omega), show ι + ν ≤ ν1 by omega, show ξ + ν ≤ ν2 by omega]
                                                                  exact F.1 _ _ _ _ _ rfl rfl (dx dX7_copy 144 rfl) k8 (show some (vi (nI ν)) = some (vi (copA g (nI π) (nI θ) (nI ι) (nI ξ) (nI ν))) ∧ MilAt h8 k v ∧ MshAt h8 k (copG g (nI π) (nI θ) (nI ι) (nI ξ) (nI ν)) ∧ Kt k h h8 from by rw [eA, eG]; exact ⟨rfl, hm.fr g9 (by omega), s9, (Kt.fr g9 (by omega) (by omega))⟩))
                                                            · first
                                                              | (omega; done)
                                                          ·
                                                            intro p hp ih h8 q8 u8 f8 k8
                                                            refine r_iload C (dx dX7_copy 126 rfl) rfl ?_
                                                            refine r_iload C (dx dX7_copy 127 rfl) rfl ?_
                                                            refine rn_ge (a := p) (b := ν) (tgt := 257) C (by omega) (by omega) (dx dX7_copy 128 rfl) (by decide) (fun c224 => ?_) (fun c224 => ?_)
                                                            · first
                                                              | (omega; done)
                                                              | (
                                                                  have c224 : ν ≤ p := c224
                                                                  refine r_iload C (dx dX7_copy 143 rfl) rfl ?_
                                                                  have eA : copA g (nI π) (nI θ) (nI ι) (nI ξ) (nI ν) = nI ν := by simp [copA, copG, copF, c1, c3, c202, c204, c206, c209, c211, c213, c215, c217, c219, c221, c222, c224, e01, e11, e21, e31, e41, e51, e61, e71, e02, e12, e22, e32, e42, e52, e62, clN (show π < 2 ^ 31 by omega), clN (show θ < 2 ^ 31 by omega), clN (show ν < 2 ^ 31 by omega), clN (show ι < 2 ^ 31 by omega), clN (show ξ < 2 ^ 31 by omega), inR_nI (show π < 2 ^ 31 by omega), inR_nI (show θ < 2 ^ 31 by omega), inR_nI (show ν < 2 ^ 31 by omega), inR_nI (show ι < 2 ^ 31 by omega), inR_nI (show ξ < 2 ^ 31 by omega), show π < 8 by omega, show θ < 8 by omega, cp_row e31 e32 (by omega) (by omega) (show ι < 2 ^ 31 by omega) (show ξ < 2 ^ 31 by omega) (show ν < 2 ^ 31 by omega), show ι + ν ≤ ν1 by omega, show ξ + ν ≤ ν2 by omega]
                                                                  have eG : copG g (nI π) (nI θ) (nI ι) (nI ξ) (nI ν) = g := by simp [copA, copG, copF, c1, c3, c202, c204, c206, c209, c211, c213, c215, c217, c219, c221, c222, c224, e01, e11, e21, e31, e41, e51, e61, e71, e02, e12, e22, e32, e42, e52, e62, clN (show π < 2 ^ 31 by omega), clN (show θ < 2 ^ 31 by omega), clN (show ν < 2 ^ 31 by omega), clN (show ι < 2 ^ 31 by omega), clN (show ξ < 2 ^ 31 by omega), inR_nI (show π < 2 ^ 31 by omega), inR_nI (show θ < 2 ^ 31 by omega), inR_nI (show ν < 2 ^ 31 by omega), inR_nI (show ι < 2 ^ 31 by omega), inR_nI (show ξ < 2 ^ 31 by omega), show π < 8 by omega, show θ < 8 by omega, cp_row e31 e32 (by omega) (by omega) (show ι < 2 ^ 31 by omega) (show ξ < 2 ^ 31 by omega) (show ν < 2 ^ 31 by omega), show ι + ν ≤ ν1 by omega, show ξ + ν ≤ ν2 by omega]
                                                                  exact F.1 _ _ _ _ _ rfl rfl (dx dX7_copy 144 rfl) k8 (show some (vi (nI ν)) = some (vi (copA g (nI π) (nI θ) (nI ι) (nI ξ) (nI ν))) ∧ MilAt h8 k v ∧ MshAt h8 k (copG g (nI π) (nI θ) (nI ι) (nI ξ) (nI ν)) ∧ Kt k h h8 from by rw [eA, eG]; exact ⟨rfl, hm, hs, Kt.rf⟩))
                                                            · first
                                                              | (omega; done)
                                                              | (
                                                                  have c224 : p < ν := c224
                                                                  refine r_aload_n C (dx dX7_copy 129 rfl) rfl ?_
                                                                  refine g_X7_21 C (dx dX7_copy 130 rfl) ?_
                                                                  refine r_iload_n C (dx dX7_copy 131 rfl) rfl ?_
                                                                  refine r_aald5 (j := θ) C rfl rfl (by decide) rfl (by omega) (dx dX7_copy 132 rfl) ?_
                                                                  refine r_iload C (dx dX7_copy 133 rfl) rfl ?_
                                                                  refine r_iload C (dx dX7_copy 134 rfl) rfl ?_
                                                                  refine rn_iadd (a := ξ) (b := p) C (dx dX7_copy 135 rfl) ?_
                                                                  refine r_aload_n C (dx dX7_copy 136 rfl) rfl ?_
                                                                  refine g_X7_24 C (dx dX7_copy 137 rfl) ?_
                                                                  refine r_iload C (dx dX7_copy 138 rfl) rfl ?_
                                                                  refine r_lald (j := p) (x := gE g π (ι + p)) C rfl rfl (by decide) rfl (by omega) (dx dX7_copy 139 rfl) (u8 _ (by omega)) ?_
                                                                  refine r_last (j := ξ + p) C rfl rfl (by decide) rfl (by omega) (dx dX7_copy 140 rfl) ?_
                                                                  refine rn_iinc (a := p) (k := 1) (ls' := [(0, vr 7 k), (1, vi (nI π)), (2, vi (nI θ)), (3, vi (nI ι)), (4, vi (nI ξ)), (5, vi (nI ν)), (6, vi (nI (p + 1)))]) C (dx dX7_copy 141 rfl) rfl rfl (by decide) [1, 2, 3, 4, 5, 6, 0] rfl ?_
                                                                  refine r_goto (tgt := 225) C (dx dX7_copy 142 rfl) (by decide) ?_
                                                                  exact ih _ (fun i hi => by rw [sL_at]; exact cp2_step q8 i hi) (fun t ht => by rw [sL_ne (by omega)]; exact u8 t ht) (f8.tr (Fr.sL (by omega) (by omega))) k8))
                                                    · first
                                                      | (omega; done)
                                                  ·
                                                    intro p hp ih h9 q9 f9 k9
                                                    refine r_iload C (dx dX7_copy 107 rfl) rfl ?_
                                                    refine r_iload C (dx dX7_copy 108 rfl) rfl ?_
                                                    refine rn_ge (a := p) (b := ν) (tgt := 222) C (by omega) (by omega) (dx dX7_copy 109 rfl) (by decide) (fun c225 => ?_) (fun c225 => ?_)
                                                    · first
                                                      | (omega; done)
                                                      | (
                                                          have c225 : ν ≤ p := c225
                                                          refine r_iconst (v := nI 0) C (dx dX7_copy 124 rfl) rfl ?_
                                                          refine r_istore (ls' := [(0, vr 7 k), (1, vi (nI π)), (2, vi (nI θ)), (3, vi (nI ι)), (4, vi (nI ξ)), (5, vi (nI ν)), (6, vi (nI 0))]) C (dx dX7_copy 125 rfl) (by decide) [1, 2, 3, 4, 5, 6, 0] rfl ?_
                                                          have r9 := MsR.fr (show MsR h k g θ from ⟨_, _, a12, a22, a32, a42, a52, a62, a72, a82⟩) hθ f9
                                                          refine loopU (Φ := fun p => ∀ h8, (∀ i, i < 40 → xL h8 (k + 5 + θ) i = if ξ ≤ i ∧ i < ξ + p then gE g π (ι + (i - ξ)) else gE g θ i) → (∀ t, t < ν → xL h8 (k + 13) t = gE g π (ι + t)) → Fr (k + 5 + θ) (k + 5 + θ + 1) h9 h8 → xK h8 = xK h → Rr G 225 [(0, vr 7 k), (1, vi (nI π)), (2, vi (nI θ)), (3, vi (nI ι)), (4, vi (nI ξ)), (5, vi (nI ν)), (6, vi (nI p))] [] h8) (N := ν) ?_ ?_ 0 (by omega) _ (fun i hi => by rw [if_neg (by omega), f9.L (by omega)]; exact a82 i hi) q9 Fr.rf k9
                                                          ·
                                                            intro h8 q8 u8 f8 k8
                                                            have s9 : MshAt h8 k (pCp g π θ ι ξ ν) := msh_els (hs.mv f9) hθ r9 f8 (fun i hi => by rw [q8 i hi]; rfl)
                                                            have g9 : Fr (k + 1) (k + 16) h h8 := (f9.mono (by omega) (by omega)).tr (f8.mono (by omega) (by omega))
                                                            refine r_iload C (dx dX7_copy 126 rfl) rfl ?_
                                                            refine r_iload C (dx dX7_copy 127 rfl) rfl ?_
                                                            refine rn_ge (a := ν) (b := ν) (tgt := 257) C (by omega) (by omega) (dx dX7_copy 128 rfl) (by decide) (fun c226 => ?_) (fun c226 => ?_)
                                                            · first
                                                              | (omega; done)
                                                              | (
                                                                  have c226 : ν ≤ ν := c226
                                                                  refine r_iload C (dx dX7_copy 143 rfl) rfl ?_
                                                                  have eA : copA g (nI π) (nI θ) (nI ι) (nI ξ) (nI ν) = nI ν := by simp [copA, copG, copF, c1, c3, c202, c204, c206, c209, c211, c213, c215, c217, c219, c221, c225, c226, e01, e11, e21, e31, e41, e51, e61, e71, e02, e12, e22, e32, e42, e52, e62, clN (show π < 2 ^ 31 by omega), clN (show θ < 2 ^ 31 by omega), clN (show ν < 2 ^ 31 by omega), clN (show ι < 2 ^ 31 by omega), clN (show ξ < 2 ^ 31 by omega), inR_nI (show π < 2 ^ 31 by omega), inR_nI (show θ < 2 ^ 31 by omega), inR_nI (show ν < 2 ^ 31 by omega), inR_nI (show ι < 2 ^ 31 by omega), inR_nI (show ξ < 2 ^ 31 by omega), show π < 8 by omega, show θ < 8 by omega, cp_row e31 e32 (by omega) (by omega) (show ι < 2 ^ 31 by omega) (show ξ < 2 ^ 31 by omega) (show ν < 2 ^ 31 by omega), show ι + ν ≤ ν1 by omega, show ξ + ν ≤ ν2 by omega]
                                                                  have eG : copG g (nI π) (nI θ) (nI ι) (nI ξ) (nI ν) = pCp g π θ ι ξ ν := by simp [copA, copG, copF, c1, c3, c202, c204, c206, c209, c211, c213, c215, c217, c219, c221, c225, c226, e01, e11, e21, e31, e41, e51, e61, e71, e02, e12, e22, e32, e42, e52, e62, clN (show π < 2 ^ 31 by omega), clN (show θ < 2 ^ 31 by omega), clN (show ν < 2 ^ 31 by omega), clN (show ι < 2 ^ 31 by omega), clN (show ξ < 2 ^ 31 by omega), inR_nI (show π < 2 ^ 31 by omega), inR_nI (show θ < 2 ^ 31 by omega), inR_nI (show ν < 2 ^ 31 by omega), inR_nI (show ι < 2 ^ 31 by omega), inR_nI (show ξ < 2 ^ 31 by omega), show π < 8 by omega, show θ < 8 by omega, cp_row e31 e32 (by omega) (by omega) (show ι < 2 ^ 31 by omega) (show ξ < 2 ^ 31 by omega) (show ν < 2 ^ 31 by omega), show ι + ν ≤ ν1 by omega, show ξ + ν ≤ ν2 by omega]
                                                                  exact F.1 _ _ _ _ _ rfl rfl (dx dX7_copy 144 rfl) k8 (show some (vi (nI ν)) = some (vi (copA g (nI π) (nI θ) (nI ι) (nI ξ) (nI ν))) ∧ MilAt h8 k v ∧ MshAt h8 k (copG g (nI π) (nI θ) (nI ι) (nI ξ) (nI ν)) ∧ Kt k h h8 from by rw [eA, eG]; exact ⟨rfl, hm.fr g9 (by omega), s9, (Kt.fr g9 (by omega) (by omega))⟩))
                                                            · first
                                                              | (omega; done)
                                                          ·
                                                            intro p hp ih h8 q8 u8 f8 k8
                                                            refine r_iload C (dx dX7_copy 126 rfl) rfl ?_
                                                            refine r_iload C (dx dX7_copy 127 rfl) rfl ?_
                                                            refine rn_ge (a := p) (b := ν) (tgt := 257) C (by omega) (by omega) (dx dX7_copy 128 rfl) (by decide) (fun c227 => ?_) (fun c227 => ?_)
                                                            · first
                                                              | (omega; done)
                                                              | (
                                                                  have c227 : ν ≤ p := c227
                                                                  refine r_iload C (dx dX7_copy 143 rfl) rfl ?_
                                                                  have eA : copA g (nI π) (nI θ) (nI ι) (nI ξ) (nI ν) = nI ν := by simp [copA, copG, copF, c1, c3, c202, c204, c206, c209, c211, c213, c215, c217, c219, c221, c225, c227, e01, e11, e21, e31, e41, e51, e61, e71, e02, e12, e22, e32, e42, e52, e62, clN (show π < 2 ^ 31 by omega), clN (show θ < 2 ^ 31 by omega), clN (show ν < 2 ^ 31 by omega), clN (show ι < 2 ^ 31 by omega), clN (show ξ < 2 ^ 31 by omega), inR_nI (show π < 2 ^ 31 by omega), inR_nI (show θ < 2 ^ 31 by omega), inR_nI (show ν < 2 ^ 31 by omega), inR_nI (show ι < 2 ^ 31 by omega), inR_nI (show ξ < 2 ^ 31 by omega), show π < 8 by omega, show θ < 8 by omega, cp_row e31 e32 (by omega) (by omega) (show ι < 2 ^ 31 by omega) (show ξ < 2 ^ 31 by omega) (show ν < 2 ^ 31 by omega), show ι + ν ≤ ν1 by omega, show ξ + ν ≤ ν2 by omega]
                                                                  have eG : copG g (nI π) (nI θ) (nI ι) (nI ξ) (nI ν) = g := by simp [copA, copG, copF, c1, c3, c202, c204, c206, c209, c211, c213, c215, c217, c219, c221, c225, c227, e01, e11, e21, e31, e41, e51, e61, e71, e02, e12, e22, e32, e42, e52, e62, clN (show π < 2 ^ 31 by omega), clN (show θ < 2 ^ 31 by omega), clN (show ν < 2 ^ 31 by omega), clN (show ι < 2 ^ 31 by omega), clN (show ξ < 2 ^ 31 by omega), inR_nI (show π < 2 ^ 31 by omega), inR_nI (show θ < 2 ^ 31 by omega), inR_nI (show ν < 2 ^ 31 by omega), inR_nI (show ι < 2 ^ 31 by omega), inR_nI (show ξ < 2 ^ 31 by omega), show π < 8 by omega, show θ < 8 by omega, cp_row e31 e32 (by omega) (by omega) (show ι < 2 ^ 31 by omega) (show ξ < 2 ^ 31 by omega) (show ν < 2 ^ 31 by omega), show ι + ν ≤ ν1 by omega, show ξ + ν ≤ ν2 by omega]
                                                                  exact F.1 _ _ _ _ _ rfl rfl (dx dX7_copy 144 rfl) k8 (show some (vi (nI ν)) = some (vi (copA g (nI π) (nI θ) (nI ι) (nI ξ) (nI ν))) ∧ MilAt h8 k v ∧ MshAt h8 k (copG g (nI π) (nI θ) (nI ι) (nI ξ) (nI ν)) ∧ Kt k h h8 from by rw [eA, eG]; exact ⟨rfl, hm, hs, Kt.rf⟩))
                                                            · first
                                                              | (omega; done)
                                                              | (
                                                                  have c227 : p < ν := c227
                                                                  refine r_aload_n C (dx dX7_copy 129 rfl) rfl ?_
                                                                  refine g_X7_21 C (dx dX7_copy 130 rfl) ?_
                                                                  refine r_iload_n C (dx dX7_copy 131 rfl) rfl ?_
                                                                  refine r_aald5 (j := θ) C rfl rfl (by decide) rfl (by omega) (dx dX7_copy 132 rfl) ?_
                                                                  refine r_iload C (dx dX7_copy 133 rfl) rfl ?_
                                                                  refine r_iload C (dx dX7_copy 134 rfl) rfl ?_
                                                                  refine rn_iadd (a := ξ) (b := p) C (dx dX7_copy 135 rfl) ?_
                                                                  refine r_aload_n C (dx dX7_copy 136 rfl) rfl ?_
                                                                  refine g_X7_24 C (dx dX7_copy 137 rfl) ?_
                                                                  refine r_iload C (dx dX7_copy 138 rfl) rfl ?_
                                                                  refine r_lald (j := p) (x := gE g π (ι + p)) C rfl rfl (by decide) rfl (by omega) (dx dX7_copy 139 rfl) (u8 _ (by omega)) ?_
                                                                  refine r_last (j := ξ + p) C rfl rfl (by decide) rfl (by omega) (dx dX7_copy 140 rfl) ?_
                                                                  refine rn_iinc (a := p) (k := 1) (ls' := [(0, vr 7 k), (1, vi (nI π)), (2, vi (nI θ)), (3, vi (nI ι)), (4, vi (nI ξ)), (5, vi (nI ν)), (6, vi (nI (p + 1)))]) C (dx dX7_copy 141 rfl) rfl rfl (by decide) [1, 2, 3, 4, 5, 6, 0] rfl ?_
                                                                  refine r_goto (tgt := 225) C (dx dX7_copy 142 rfl) (by decide) ?_
                                                                  exact ih _ (fun i hi => by rw [sL_at]; exact cp2_step q8 i hi) (fun t ht => by rw [sL_ne (by omega)]; exact u8 t ht) (f8.tr (Fr.sL (by omega) (by omega))) k8))
                                                    · first
                                                      | (omega; done)
                                                      | (
                                                          have c225 : p < ν := c225
                                                          refine r_aload_n C (dx dX7_copy 110 rfl) rfl ?_
                                                          refine g_X7_24 C (dx dX7_copy 111 rfl) ?_
                                                          refine r_iload C (dx dX7_copy 112 rfl) rfl ?_
                                                          refine r_aload_n C (dx dX7_copy 113 rfl) rfl ?_
                                                          refine g_X7_21 C (dx dX7_copy 114 rfl) ?_
                                                          refine r_iload_n C (dx dX7_copy 115 rfl) rfl ?_
                                                          refine r_aald5 (j := π) C rfl rfl (by decide) rfl (by omega) (dx dX7_copy 116 rfl) ?_
                                                          refine r_iload_n C (dx dX7_copy 117 rfl) rfl ?_
                                                          refine r_iload C (dx dX7_copy 118 rfl) rfl ?_
                                                          refine rn_iadd (a := ι) (b := p) C (dx dX7_copy 119 rfl) ?_
                                                          refine r_lald (j := ι + p) (x := gE g π (ι + p)) C rfl rfl (by decide) rfl (by omega) (dx dX7_copy 120 rfl) ((f9.L (by omega) _).trans (a81 _ (by omega))) ?_
                                                          refine r_last (j := p) C rfl rfl (by decide) rfl (by omega) (dx dX7_copy 121 rfl) ?_
                                                          refine rn_iinc (a := p) (k := 1) (ls' := [(0, vr 7 k), (1, vi (nI π)), (2, vi (nI θ)), (3, vi (nI ι)), (4, vi (nI ξ)), (5, vi (nI ν)), (6, vi (nI (p + 1)))]) C (dx dX7_copy 122 rfl) rfl rfl (by decide) [1, 2, 3, 4, 5, 6, 0] rfl ?_
                                                          refine r_goto (tgt := 191) C (dx dX7_copy 123 rfl) (by decide) ?_
                                                          exact ih _ (fun t ht => by rw [sL_at]; split; (next e => rw [e]); exact q9 t (by omega)) (f9.tr (Fr.sL (by omega) (by omega))) k9))
                                            · first
                                              | (omega; done)
                                              | (
                                                  have c221 : ν2 - ν < ξ := c221
                                                  refine r_aload_n C (dx dX7_copy 101 rfl) rfl ?_
                                                  refine r_bipush (v := -2) C (dx dX7_copy 102 rfl) rfl ?_
                                                  refine r_cv (as := [vi (-2)]) (st := []) C X I_X7_refuse l_X7_83 (e_refuse hm (x := -2) (j := 2) (by decide) (by decide)) (by decide) (Nat.le_of_ble_eq_true rfl) List.prefix_rfl List.prefix_rfl rfl rfl (Nat.le_of_ble_eq_true rfl) rfl (dx dX7_copy 103 rfl) ?_
                                                  rintro _ h228 ⟨rfl, m9h228, qh228⟩ kkh228
                                                  have mh228 : MilAt h228 k v := m9h228
                                                  have ph228 : Kp k h h228 := qh228
                                                  have kh228 : xK h228 = xK h := kkh228
                                                  have eA : copA g (nI π) (nI θ) (nI ι) (nI ξ) (nI ν) = -2 := by (have hq : ¬ (ι + ν ≤ ν1 ∧ ξ + ν ≤ ν2) := by omega); (have hq2 := cp_row e31 e32 (i := ι) (j := ξ) (n := ν) (by omega) (by omega) (by omega) (by omega) (by omega)); rw [decide_eq_false hq] at hq2; simp [copA, copG, copF, c1, c3, c202, c204, c206, c209, c211, c213, c215, c217, c219, c221, e01, e11, e21, e31, e41, e51, e61, e71, e02, e12, e22, e32, e42, e52, e62, clN (show π < 2 ^ 31 by omega), clN (show θ < 2 ^ 31 by omega), clN (show ν < 2 ^ 31 by omega), clN (show ι < 2 ^ 31 by omega), clN (show ξ < 2 ^ 31 by omega), inR_nI (show π < 2 ^ 31 by omega), inR_nI (show θ < 2 ^ 31 by omega), inR_nI (show ν < 2 ^ 31 by omega), inR_nI (show ι < 2 ^ 31 by omega), inR_nI (show ξ < 2 ^ 31 by omega), hq2, show π < 8 by omega, show θ < 8 by omega]
                                                  have eG : copG g (nI π) (nI θ) (nI ι) (nI ξ) (nI ν) = g := by (have hq : ¬ (ι + ν ≤ ν1 ∧ ξ + ν ≤ ν2) := by omega); (have hq2 := cp_row e31 e32 (i := ι) (j := ξ) (n := ν) (by omega) (by omega) (by omega) (by omega) (by omega)); rw [decide_eq_false hq] at hq2; simp [copA, copG, copF, c1, c3, c202, c204, c206, c209, c211, c213, c215, c217, c219, c221, e01, e11, e21, e31, e41, e51, e61, e71, e02, e12, e22, e32, e42, e52, e62, clN (show π < 2 ^ 31 by omega), clN (show θ < 2 ^ 31 by omega), clN (show ν < 2 ^ 31 by omega), clN (show ι < 2 ^ 31 by omega), clN (show ξ < 2 ^ 31 by omega), inR_nI (show π < 2 ^ 31 by omega), inR_nI (show θ < 2 ^ 31 by omega), inR_nI (show ν < 2 ^ 31 by omega), inR_nI (show ι < 2 ^ 31 by omega), inR_nI (show ξ < 2 ^ 31 by omega), hq2, show π < 8 by omega, show θ < 8 by omega]
                                                  exact F.1 _ _ _ _ _ rfl rfl (dx dX7_copy 104 rfl) kh228 (show some (vi (-2)) = some (vi (copA g (nI π) (nI θ) (nI ι) (nI ξ) (nI ν))) ∧ MilAt h228 k v ∧ MshAt h228 k (copG g (nI π) (nI θ) (nI ι) (nI ξ) (nI ν)) ∧ Kt k h h228 from by rw [eA, eG]; exact ⟨rfl, mh228, hs.kp ph228, ph228.kt⟩))))
                      · first
                        | (omega; done)
                        | (
                            have c206 : 2 = 1 := c206
                            refine r_aload_n C (dx dX7_copy 34 rfl) rfl ?_
                            refine g_X7_7 C (dx dX7_copy 35 rfl) ?_
                            refine r_iload_n C (dx dX7_copy 36 rfl) rfl ?_
                            refine r_iald (j := θ) (x := nI 1) C rfl rfl (by decide) rfl (by omega) (dx dX7_copy 37 rfl) a32 ?_
                            refine r_iconst (v := nI 1) C (dx dX7_copy 38 rfl) rfl ?_
                            refine rn_ne (a := 1) (b := 1) (tgt := 93) C (by omega) (by omega) (dx dX7_copy 39 rfl) (by decide) (fun c229 => ?_) (fun c229 => ?_)
                            · first
                              | (omega; done)
                              | (
                                  have c229 : ¬ 1 = 1 := c229
                                  refine r_aload_n C (dx dX7_copy 53 rfl) rfl ?_
                                  refine g_X7_7 C (dx dX7_copy 54 rfl) ?_
                                  refine r_iload_n C (dx dX7_copy 55 rfl) rfl ?_
                                  refine r_iald (j := π) (x := nI 2) C rfl rfl (by decide) rfl (by omega) (dx dX7_copy 56 rfl) a41 ?_
                                  refine r_if_eq (tgt := 111) C (dx dX7_copy 57 rfl) (by decide) (fun c230 => (show False from by revert c230; decide).elim) (fun _ => ?_)
                                  refine r_aload_n C (dx dX7_copy 58 rfl) rfl ?_
                                  refine g_X7_7 C (dx dX7_copy 59 rfl) ?_
                                  refine r_iload_n C (dx dX7_copy 60 rfl) rfl ?_
                                  refine r_iald (j := θ) (x := nI 1) C rfl rfl (by decide) rfl (by omega) (dx dX7_copy 61 rfl) a32 ?_
                                  refine r_if_ne (tgt := 118) C (dx dX7_copy 62 rfl) (by decide) (fun _ => ?_) (fun c231 => (show False from by revert c231; decide).elim)
                                  refine r_iload C (dx dX7_copy 67 rfl) rfl ?_
                                  refine r_if_lt (tgt := 181) C (dx dX7_copy 68 rfl) (by decide) (fun c232 => ?_) (fun c232 => ?_)
                                  ·
                                    have c232 : n < 0 := c232
                                    refine r_aload_n C (dx dX7_copy 101 rfl) rfl ?_
                                    refine r_bipush (v := -2) C (dx dX7_copy 102 rfl) rfl ?_
                                    refine r_cv (as := [vi (-2)]) (st := []) C X I_X7_refuse l_X7_83 (e_refuse hm (x := -2) (j := 2) (by decide) (by decide)) (by decide) (Nat.le_of_ble_eq_true rfl) List.prefix_rfl List.prefix_rfl rfl rfl (Nat.le_of_ble_eq_true rfl) rfl (dx dX7_copy 103 rfl) ?_
                                    rintro _ h233 ⟨rfl, m9h233, qh233⟩ kkh233
                                    have mh233 : MilAt h233 k v := m9h233
                                    have ph233 : Kp k h h233 := qh233
                                    have kh233 : xK h233 = xK h := kkh233
                                    have eA : copA g (nI π) (nI θ) i j n = -2 := by simp [copA, copG, copF, cpOk, c1, c3, c202, c204, c206, c229, (fun n9 => inR_neg (n := n9) c232 : ∀ n9, inR n n9 = false), c232, e01, e11, e21, e31, e41, e51, e61, e71, e02, e12, e22, e32, e42, e52, e62, clN (show π < 2 ^ 31 by omega), clN (show θ < 2 ^ 31 by omega), inR_nI (show π < 2 ^ 31 by omega), inR_nI (show θ < 2 ^ 31 by omega), show π < 8 by omega, show θ < 8 by omega]
                                    have eG : copG g (nI π) (nI θ) i j n = g := by simp [copA, copG, copF, cpOk, c1, c3, c202, c204, c206, c229, (fun n9 => inR_neg (n := n9) c232 : ∀ n9, inR n n9 = false), c232, e01, e11, e21, e31, e41, e51, e61, e71, e02, e12, e22, e32, e42, e52, e62, clN (show π < 2 ^ 31 by omega), clN (show θ < 2 ^ 31 by omega), inR_nI (show π < 2 ^ 31 by omega), inR_nI (show θ < 2 ^ 31 by omega), show π < 8 by omega, show θ < 8 by omega]
                                    exact F.1 _ _ _ _ _ rfl rfl (dx dX7_copy 104 rfl) kh233 (show some (vi (-2)) = some (vi (copA g (nI π) (nI θ) i j n)) ∧ MilAt h233 k v ∧ MshAt h233 k (copG g (nI π) (nI θ) i j n) ∧ Kt k h h233 from by rw [eA, eG]; exact ⟨rfl, mh233, hs.kp ph233, ph233.kt⟩)
                                  ·
                                    have c232 : ¬ n < 0 := c232
                                    obtain ⟨ν, hν, rfl⟩ := nI_of c232
                                    refine r_iload_n C (dx dX7_copy 69 rfl) rfl ?_
                                    refine r_if_lt (tgt := 181) C (dx dX7_copy 70 rfl) (by decide) (fun c234 => ?_) (fun c234 => ?_)
                                    ·
                                      have c234 : i < 0 := c234
                                      refine r_aload_n C (dx dX7_copy 101 rfl) rfl ?_
                                      refine r_bipush (v := -2) C (dx dX7_copy 102 rfl) rfl ?_
                                      refine r_cv (as := [vi (-2)]) (st := []) C X I_X7_refuse l_X7_83 (e_refuse hm (x := -2) (j := 2) (by decide) (by decide)) (by decide) (Nat.le_of_ble_eq_true rfl) List.prefix_rfl List.prefix_rfl rfl rfl (Nat.le_of_ble_eq_true rfl) rfl (dx dX7_copy 103 rfl) ?_
                                      rintro _ h235 ⟨rfl, m9h235, qh235⟩ kkh235
                                      have mh235 : MilAt h235 k v := m9h235
                                      have ph235 : Kp k h h235 := qh235
                                      have kh235 : xK h235 = xK h := kkh235
                                      have eA : copA g (nI π) (nI θ) i j (nI ν) = -2 := by simp [copA, copG, copF, cpOk, c1, c3, c202, c204, c206, c229, c232, (fun n9 => inR_neg (n := n9) c234 : ∀ n9, inR i n9 = false), c234, e01, e11, e21, e31, e41, e51, e61, e71, e02, e12, e22, e32, e42, e52, e62, clN (show π < 2 ^ 31 by omega), clN (show θ < 2 ^ 31 by omega), clN (show ν < 2 ^ 31 by omega), inR_nI (show π < 2 ^ 31 by omega), inR_nI (show θ < 2 ^ 31 by omega), inR_nI (show ν < 2 ^ 31 by omega), show π < 8 by omega, show θ < 8 by omega]
                                      have eG : copG g (nI π) (nI θ) i j (nI ν) = g := by simp [copA, copG, copF, cpOk, c1, c3, c202, c204, c206, c229, c232, (fun n9 => inR_neg (n := n9) c234 : ∀ n9, inR i n9 = false), c234, e01, e11, e21, e31, e41, e51, e61, e71, e02, e12, e22, e32, e42, e52, e62, clN (show π < 2 ^ 31 by omega), clN (show θ < 2 ^ 31 by omega), clN (show ν < 2 ^ 31 by omega), inR_nI (show π < 2 ^ 31 by omega), inR_nI (show θ < 2 ^ 31 by omega), inR_nI (show ν < 2 ^ 31 by omega), show π < 8 by omega, show θ < 8 by omega]
                                      exact F.1 _ _ _ _ _ rfl rfl (dx dX7_copy 104 rfl) kh235 (show some (vi (-2)) = some (vi (copA g (nI π) (nI θ) i j (nI ν))) ∧ MilAt h235 k v ∧ MshAt h235 k (copG g (nI π) (nI θ) i j (nI ν)) ∧ Kt k h h235 from by rw [eA, eG]; exact ⟨rfl, mh235, hs.kp ph235, ph235.kt⟩)
                                    ·
                                      have c234 : ¬ i < 0 := c234
                                      obtain ⟨ι, hι, rfl⟩ := nI_of c234
                                      refine r_iload C (dx dX7_copy 71 rfl) rfl ?_
                                      refine r_if_lt (tgt := 181) C (dx dX7_copy 72 rfl) (by decide) (fun c236 => ?_) (fun c236 => ?_)
                                      ·
                                        have c236 : j < 0 := c236
                                        refine r_aload_n C (dx dX7_copy 101 rfl) rfl ?_
                                        refine r_bipush (v := -2) C (dx dX7_copy 102 rfl) rfl ?_
                                        refine r_cv (as := [vi (-2)]) (st := []) C X I_X7_refuse l_X7_83 (e_refuse hm (x := -2) (j := 2) (by decide) (by decide)) (by decide) (Nat.le_of_ble_eq_true rfl) List.prefix_rfl List.prefix_rfl rfl rfl (Nat.le_of_ble_eq_true rfl) rfl (dx dX7_copy 103 rfl) ?_
                                        rintro _ h237 ⟨rfl, m9h237, qh237⟩ kkh237
                                        have mh237 : MilAt h237 k v := m9h237
                                        have ph237 : Kp k h h237 := qh237
                                        have kh237 : xK h237 = xK h := kkh237
                                        have eA : copA g (nI π) (nI θ) (nI ι) j (nI ν) = -2 := by simp [copA, copG, copF, cpOk, c1, c3, c202, c204, c206, c229, c232, c234, (fun n9 => inR_neg (n := n9) c236 : ∀ n9, inR j n9 = false), c236, e01, e11, e21, e31, e41, e51, e61, e71, e02, e12, e22, e32, e42, e52, e62, clN (show π < 2 ^ 31 by omega), clN (show θ < 2 ^ 31 by omega), clN (show ν < 2 ^ 31 by omega), clN (show ι < 2 ^ 31 by omega), inR_nI (show π < 2 ^ 31 by omega), inR_nI (show θ < 2 ^ 31 by omega), inR_nI (show ν < 2 ^ 31 by omega), inR_nI (show ι < 2 ^ 31 by omega), show π < 8 by omega, show θ < 8 by omega]
                                        have eG : copG g (nI π) (nI θ) (nI ι) j (nI ν) = g := by simp [copA, copG, copF, cpOk, c1, c3, c202, c204, c206, c229, c232, c234, (fun n9 => inR_neg (n := n9) c236 : ∀ n9, inR j n9 = false), c236, e01, e11, e21, e31, e41, e51, e61, e71, e02, e12, e22, e32, e42, e52, e62, clN (show π < 2 ^ 31 by omega), clN (show θ < 2 ^ 31 by omega), clN (show ν < 2 ^ 31 by omega), clN (show ι < 2 ^ 31 by omega), inR_nI (show π < 2 ^ 31 by omega), inR_nI (show θ < 2 ^ 31 by omega), inR_nI (show ν < 2 ^ 31 by omega), inR_nI (show ι < 2 ^ 31 by omega), show π < 8 by omega, show θ < 8 by omega]
                                        exact F.1 _ _ _ _ _ rfl rfl (dx dX7_copy 104 rfl) kh237 (show some (vi (-2)) = some (vi (copA g (nI π) (nI θ) (nI ι) j (nI ν))) ∧ MilAt h237 k v ∧ MshAt h237 k (copG g (nI π) (nI θ) (nI ι) j (nI ν)) ∧ Kt k h h237 from by rw [eA, eG]; exact ⟨rfl, mh237, hs.kp ph237, ph237.kt⟩)
                                      ·
                                        have c236 : ¬ j < 0 := c236
                                        obtain ⟨ξ, hξ, rfl⟩ := nI_of c236
                                        refine r_iload C (dx dX7_copy 73 rfl) rfl ?_
                                        refine r_aload_n C (dx dX7_copy 74 rfl) rfl ?_
                                        refine g_X7_16 C (dx dX7_copy 75 rfl) ?_
                                        refine r_iload_n C (dx dX7_copy 76 rfl) rfl ?_
                                        refine r_iald (j := π) (x := xI h (k + 3) π) C rfl rfl (by decide) rfl (by omega) (dx dX7_copy 77 rfl) rfl ?_
                                        refine r_icmp_gt (tgt := 181) C (dx dX7_copy 78 rfl) (by decide) (fun c238 => ?_) (fun c238 => ?_)
                                        ·
                                          have c238 : xI h (k + 3) π < nI ν := c238
                                          refine r_aload_n C (dx dX7_copy 101 rfl) rfl ?_
                                          refine r_bipush (v := -2) C (dx dX7_copy 102 rfl) rfl ?_
                                          refine r_cv (as := [vi (-2)]) (st := []) C X I_X7_refuse l_X7_83 (e_refuse hm (x := -2) (j := 2) (by decide) (by decide)) (by decide) (Nat.le_of_ble_eq_true rfl) List.prefix_rfl List.prefix_rfl rfl rfl (Nat.le_of_ble_eq_true rfl) rfl (dx dX7_copy 103 rfl) ?_
                                          rintro _ h239 ⟨rfl, m9h239, qh239⟩ kkh239
                                          have mh239 : MilAt h239 k v := m9h239
                                          have ph239 : Kp k h h239 := qh239
                                          have kh239 : xK h239 = xK h := kkh239
                                          have eA : copA g (nI π) (nI θ) (nI ι) (nI ξ) (nI ν) = -2 := by (have hq : ¬ (ι + ν ≤ ν1 ∧ ξ + ν ≤ ν2) := by omega); (have hq2 := cp_row e31 e32 (i := ι) (j := ξ) (n := ν) (by omega) (by omega) (by omega) (by omega) (by omega)); rw [decide_eq_false hq] at hq2; simp [copA, copG, copF, c1, c3, c202, c204, c206, c229, c232, c234, c236, c238, e01, e11, e21, e31, e41, e51, e61, e71, e02, e12, e22, e32, e42, e52, e62, clN (show π < 2 ^ 31 by omega), clN (show θ < 2 ^ 31 by omega), clN (show ν < 2 ^ 31 by omega), clN (show ι < 2 ^ 31 by omega), clN (show ξ < 2 ^ 31 by omega), inR_nI (show π < 2 ^ 31 by omega), inR_nI (show θ < 2 ^ 31 by omega), inR_nI (show ν < 2 ^ 31 by omega), inR_nI (show ι < 2 ^ 31 by omega), inR_nI (show ξ < 2 ^ 31 by omega), hq2, show π < 8 by omega, show θ < 8 by omega]
                                          have eG : copG g (nI π) (nI θ) (nI ι) (nI ξ) (nI ν) = g := by (have hq : ¬ (ι + ν ≤ ν1 ∧ ξ + ν ≤ ν2) := by omega); (have hq2 := cp_row e31 e32 (i := ι) (j := ξ) (n := ν) (by omega) (by omega) (by omega) (by omega) (by omega)); rw [decide_eq_false hq] at hq2; simp [copA, copG, copF, c1, c3, c202, c204, c206, c229, c232, c234, c236, c238, e01, e11, e21, e31, e41, e51, e61, e71, e02, e12, e22, e32, e42, e52, e62, clN (show π < 2 ^ 31 by omega), clN (show θ < 2 ^ 31 by omega), clN (show ν < 2 ^ 31 by omega), clN (show ι < 2 ^ 31 by omega), clN (show ξ < 2 ^ 31 by omega), inR_nI (show π < 2 ^ 31 by omega), inR_nI (show θ < 2 ^ 31 by omega), inR_nI (show ν < 2 ^ 31 by omega), inR_nI (show ι < 2 ^ 31 by omega), inR_nI (show ξ < 2 ^ 31 by omega), hq2, show π < 8 by omega, show θ < 8 by omega]
                                          exact F.1 _ _ _ _ _ rfl rfl (dx dX7_copy 104 rfl) kh239 (show some (vi (-2)) = some (vi (copA g (nI π) (nI θ) (nI ι) (nI ξ) (nI ν))) ∧ MilAt h239 k v ∧ MshAt h239 k (copG g (nI π) (nI θ) (nI ι) (nI ξ) (nI ν)) ∧ Kt k h h239 from by rw [eA, eG]; exact ⟨rfl, mh239, hs.kp ph239, ph239.kt⟩)
                                        ·
                                          have c238 : ¬ xI h (k + 3) π < nI ν := c238
                                          refine r_iload C (dx dX7_copy 79 rfl) rfl ?_
                                          refine r_aload_n C (dx dX7_copy 80 rfl) rfl ?_
                                          refine g_X7_16 C (dx dX7_copy 81 rfl) ?_
                                          refine r_iload_n C (dx dX7_copy 82 rfl) rfl ?_
                                          refine r_iald (j := θ) (x := nI ν2) C rfl rfl (by decide) rfl (by omega) (dx dX7_copy 83 rfl) a52 ?_
                                          refine rn_gt (a := ν) (b := ν2) (tgt := 181) C (by omega) (by omega) (dx dX7_copy 84 rfl) (by decide) (fun c240 => ?_) (fun c240 => ?_)
                                          · first
                                            | (omega; done)
                                            | (
                                                have c240 : ν2 < ν := c240
                                                refine r_aload_n C (dx dX7_copy 101 rfl) rfl ?_
                                                refine r_bipush (v := -2) C (dx dX7_copy 102 rfl) rfl ?_
                                                refine r_cv (as := [vi (-2)]) (st := []) C X I_X7_refuse l_X7_83 (e_refuse hm (x := -2) (j := 2) (by decide) (by decide)) (by decide) (Nat.le_of_ble_eq_true rfl) List.prefix_rfl List.prefix_rfl rfl rfl (Nat.le_of_ble_eq_true rfl) rfl (dx dX7_copy 103 rfl) ?_
                                                rintro _ h241 ⟨rfl, m9h241, qh241⟩ kkh241
                                                have mh241 : MilAt h241 k v := m9h241
                                                have ph241 : Kp k h h241 := qh241
                                                have kh241 : xK h241 = xK h := kkh241
                                                have eA : copA g (nI π) (nI θ) (nI ι) (nI ξ) (nI ν) = -2 := by (have hq : ¬ (ι + ν ≤ ν1 ∧ ξ + ν ≤ ν2) := by omega); (have hq2 := cp_row e31 e32 (i := ι) (j := ξ) (n := ν) (by omega) (by omega) (by omega) (by omega) (by omega)); rw [decide_eq_false hq] at hq2; simp [copA, copG, copF, c1, c3, c202, c204, c206, c229, c232, c234, c236, c238, c240, e01, e11, e21, e31, e41, e51, e61, e71, e02, e12, e22, e32, e42, e52, e62, clN (show π < 2 ^ 31 by omega), clN (show θ < 2 ^ 31 by omega), clN (show ν < 2 ^ 31 by omega), clN (show ι < 2 ^ 31 by omega), clN (show ξ < 2 ^ 31 by omega), inR_nI (show π < 2 ^ 31 by omega), inR_nI (show θ < 2 ^ 31 by omega), inR_nI (show ν < 2 ^ 31 by omega), inR_nI (show ι < 2 ^ 31 by omega), inR_nI (show ξ < 2 ^ 31 by omega), hq2, show π < 8 by omega, show θ < 8 by omega]
                                                have eG : copG g (nI π) (nI θ) (nI ι) (nI ξ) (nI ν) = g := by (have hq : ¬ (ι + ν ≤ ν1 ∧ ξ + ν ≤ ν2) := by omega); (have hq2 := cp_row e31 e32 (i := ι) (j := ξ) (n := ν) (by omega) (by omega) (by omega) (by omega) (by omega)); rw [decide_eq_false hq] at hq2; simp [copA, copG, copF, c1, c3, c202, c204, c206, c229, c232, c234, c236, c238, c240, e01, e11, e21, e31, e41, e51, e61, e71, e02, e12, e22, e32, e42, e52, e62, clN (show π < 2 ^ 31 by omega), clN (show θ < 2 ^ 31 by omega), clN (show ν < 2 ^ 31 by omega), clN (show ι < 2 ^ 31 by omega), clN (show ξ < 2 ^ 31 by omega), inR_nI (show π < 2 ^ 31 by omega), inR_nI (show θ < 2 ^ 31 by omega), inR_nI (show ν < 2 ^ 31 by omega), inR_nI (show ι < 2 ^ 31 by omega), inR_nI (show ξ < 2 ^ 31 by omega), hq2, show π < 8 by omega, show θ < 8 by omega]
                                                exact F.1 _ _ _ _ _ rfl rfl (dx dX7_copy 104 rfl) kh241 (show some (vi (-2)) = some (vi (copA g (nI π) (nI θ) (nI ι) (nI ξ) (nI ν))) ∧ MilAt h241 k v ∧ MshAt h241 k (copG g (nI π) (nI θ) (nI ι) (nI ξ) (nI ν)) ∧ Kt k h h241 from by rw [eA, eG]; exact ⟨rfl, mh241, hs.kp ph241, ph241.kt⟩))
                                          · first
                                            | (omega; done)
                                            | (
                                                have c240 : ν ≤ ν2 := c240
                                                refine r_iload_n C (dx dX7_copy 85 rfl) rfl ?_
                                                refine r_aload_n C (dx dX7_copy 86 rfl) rfl ?_
                                                refine g_X7_16 C (dx dX7_copy 87 rfl) ?_
                                                refine r_iload_n C (dx dX7_copy 88 rfl) rfl ?_
                                                refine r_iald (j := π) (x := xI h (k + 3) π) C rfl rfl (by decide) rfl (by omega) (dx dX7_copy 89 rfl) rfl ?_
                                                refine r_iload C (dx dX7_copy 90 rfl) rfl ?_
                                                refine r_isub C (dx dX7_copy 91 rfl) ?_
                                                refine r_icmp_gt (tgt := 181) C (dx dX7_copy 92 rfl) (by decide) (fun c242 => ?_) (fun c242 => ?_)
                                                ·
                                                  have c242 : (xI h (k + 3) π) - (nI ν) < nI ι := c242
                                                  refine r_aload_n C (dx dX7_copy 101 rfl) rfl ?_
                                                  refine r_bipush (v := -2) C (dx dX7_copy 102 rfl) rfl ?_
                                                  refine r_cv (as := [vi (-2)]) (st := []) C X I_X7_refuse l_X7_83 (e_refuse hm (x := -2) (j := 2) (by decide) (by decide)) (by decide) (Nat.le_of_ble_eq_true rfl) List.prefix_rfl List.prefix_rfl rfl rfl (Nat.le_of_ble_eq_true rfl) rfl (dx dX7_copy 103 rfl) ?_
                                                  rintro _ h243 ⟨rfl, m9h243, qh243⟩ kkh243
                                                  have mh243 : MilAt h243 k v := m9h243
                                                  have ph243 : Kp k h h243 := qh243
                                                  have kh243 : xK h243 = xK h := kkh243
                                                  have eA : copA g (nI π) (nI θ) (nI ι) (nI ξ) (nI ν) = -2 := by (have hq : ¬ (ι + ν ≤ ν1 ∧ ξ + ν ≤ ν2) := by omega); (have hq2 := cp_row e31 e32 (i := ι) (j := ξ) (n := ν) (by omega) (by omega) (by omega) (by omega) (by omega)); rw [decide_eq_false hq] at hq2; simp [copA, copG, copF, c1, c3, c202, c204, c206, c229, c232, c234, c236, c238, c240, c242, e01, e11, e21, e31, e41, e51, e61, e71, e02, e12, e22, e32, e42, e52, e62, clN (show π < 2 ^ 31 by omega), clN (show θ < 2 ^ 31 by omega), clN (show ν < 2 ^ 31 by omega), clN (show ι < 2 ^ 31 by omega), clN (show ξ < 2 ^ 31 by omega), inR_nI (show π < 2 ^ 31 by omega), inR_nI (show θ < 2 ^ 31 by omega), inR_nI (show ν < 2 ^ 31 by omega), inR_nI (show ι < 2 ^ 31 by omega), inR_nI (show ξ < 2 ^ 31 by omega), hq2, show π < 8 by omega, show θ < 8 by omega]
                                                  have eG : copG g (nI π) (nI θ) (nI ι) (nI ξ) (nI ν) = g := by (have hq : ¬ (ι + ν ≤ ν1 ∧ ξ + ν ≤ ν2) := by omega); (have hq2 := cp_row e31 e32 (i := ι) (j := ξ) (n := ν) (by omega) (by omega) (by omega) (by omega) (by omega)); rw [decide_eq_false hq] at hq2; simp [copA, copG, copF, c1, c3, c202, c204, c206, c229, c232, c234, c236, c238, c240, c242, e01, e11, e21, e31, e41, e51, e61, e71, e02, e12, e22, e32, e42, e52, e62, clN (show π < 2 ^ 31 by omega), clN (show θ < 2 ^ 31 by omega), clN (show ν < 2 ^ 31 by omega), clN (show ι < 2 ^ 31 by omega), clN (show ξ < 2 ^ 31 by omega), inR_nI (show π < 2 ^ 31 by omega), inR_nI (show θ < 2 ^ 31 by omega), inR_nI (show ν < 2 ^ 31 by omega), inR_nI (show ι < 2 ^ 31 by omega), inR_nI (show ξ < 2 ^ 31 by omega), hq2, show π < 8 by omega, show θ < 8 by omega]
                                                  exact F.1 _ _ _ _ _ rfl rfl (dx dX7_copy 104 rfl) kh243 (show some (vi (-2)) = some (vi (copA g (nI π) (nI θ) (nI ι) (nI ξ) (nI ν))) ∧ MilAt h243 k v ∧ MshAt h243 k (copG g (nI π) (nI θ) (nI ι) (nI ξ) (nI ν)) ∧ Kt k h h243 from by rw [eA, eG]; exact ⟨rfl, mh243, hs.kp ph243, ph243.kt⟩)
                                                ·
                                                  have c242 : ¬ (xI h (k + 3) π) - (nI ν) < nI ι := c242
                                                  refine r_iload C (dx dX7_copy 93 rfl) rfl ?_
                                                  refine r_aload_n C (dx dX7_copy 94 rfl) rfl ?_
                                                  refine g_X7_16 C (dx dX7_copy 95 rfl) ?_
                                                  refine r_iload_n C (dx dX7_copy 96 rfl) rfl ?_
                                                  refine r_iald (j := θ) (x := nI ν2) C rfl rfl (by decide) rfl (by omega) (dx dX7_copy 97 rfl) a52 ?_
                                                  refine r_iload C (dx dX7_copy 98 rfl) rfl ?_
                                                  refine rn_isub (a := ν2) (b := ν) C (by omega) (dx dX7_copy 99 rfl) ?_
                                                  refine rn_le (a := ξ) (b := ν2 - ν) (tgt := 188) C (by omega) (by omega) (dx dX7_copy 100 rfl) (by decide) (fun c244 => ?_) (fun c244 => ?_)
                                                  · first
                                                    | (omega; done)
                                                    | (
                                                        have c244 : ξ ≤ ν2 - ν := c244
                                                        refine r_iconst (v := nI 0) C (dx dX7_copy 105 rfl) rfl ?_
                                                        refine r_istore (ls' := [(0, vr 7 k), (1, vi (nI π)), (2, vi (nI θ)), (3, vi (nI ι)), (4, vi (nI ξ)), (5, vi (nI ν)), (6, vi (nI 0))]) C (dx dX7_copy 106 rfl) (by decide) [1, 2, 3, 4, 5, 6, 0] rfl ?_
                                                        refine loopU (Φ := fun p => ∀ h9, (∀ t, t < p → xL h9 (k + 13) t = gE g π (ι + t)) → Fr (k + 13) (k + 14) h h9 → xK h9 = xK h → Rr G 191 [(0, vr 7 k), (1, vi (nI π)), (2, vi (nI θ)), (3, vi (nI ι)), (4, vi (nI ξ)), (5, vi (nI ν)), (6, vi (nI p))] [] h9) (N := ν) ?_ ?_ 0 (by omega) _ (fun i hi => absurd hi (by omega)) Fr.rf rfl
                                                        ·
                                                          intro h9 q9 f9 k9
                                                          refine r_iload C (dx dX7_copy 107 rfl) rfl ?_
                                                          refine r_iload C (dx dX7_copy 108 rfl) rfl ?_
                                                          refine rn_ge (a := ν) (b := ν) (tgt := 222) C (by omega) (by omega) (dx dX7_copy 109 rfl) (by decide) (fun c245 => ?_) (fun c245 => ?_)
                                                          · first
                                                            | (omega; done)
                                                            | (
                                                                have c245 : ν ≤ ν := c245
                                                                refine r_iconst (v := nI 0) C (dx dX7_copy 124 rfl) rfl ?_
                                                                refine r_istore (ls' := [(0, vr 7 k), (1, vi (nI π)), (2, vi (nI θ)), (3, vi (nI ι)), (4, vi (nI ξ)), (5, vi (nI ν)), (6, vi (nI 0))]) C (dx dX7_copy 125 rfl) (by decide) [1, 2, 3, 4, 5, 6, 0] rfl ?_
                                                                have r9 := MsR.fr (show MsR h k g θ from ⟨_, _, a12, a22, a32, a42, a52, a62, a72, a82⟩) hθ f9
                                                                refine loopU (Φ := fun p => ∀ h8, (∀ i, i < 40 → xL h8 (k + 5 + θ) i = if ξ ≤ i ∧ i < ξ + p then gE g π (ι + (i - ξ)) else gE g θ i) → (∀ t, t < ν → xL h8 (k + 13) t = gE g π (ι + t)) → Fr (k + 5 + θ) (k + 5 + θ + 1) h9 h8 → xK h8 = xK h → Rr G 225 [(0, vr 7 k), (1, vi (nI π)), (2, vi (nI θ)), (3, vi (nI ι)), (4, vi (nI ξ)), (5, vi (nI ν)), (6, vi (nI p))] [] h8) (N := ν) ?_ ?_ 0 (by omega) _ (fun i hi => by rw [if_neg (by omega), f9.L (by omega)]; exact a82 i hi) q9 Fr.rf k9
                                                                ·
                                                                  intro h8 q8 u8 f8 k8
                                                                  have s9 : MshAt h8 k (pCp g π θ ι ξ ν) := msh_els (hs.mv f9) hθ r9 f8 (fun i hi => by rw [q8 i hi]; rfl)
                                                                  have g9 : Fr (k + 1) (k + 16) h h8 := (f9.mono (by omega) (by omega)).tr (f8.mono (by omega) (by omega))
                                                                  refine r_iload C (dx dX7_copy 126 rfl) rfl ?_
                                                                  refine r_iload C (dx dX7_copy 127 rfl) rfl ?_
                                                                  refine rn_ge (a := ν) (b := ν) (tgt := 257) C (by omega) (by omega) (dx dX7_copy 128 rfl) (by decide) (fun c246 => ?_) (fun c246 => ?_)
                                                                  · first
                                                                    | (omega; done)
                                                                    | (
                                                                        have c246 : ν ≤ ν := c246
                                                                        refine r_iload C (dx dX7_copy 143 rfl) rfl ?_
                                                                        have eA : copA g (nI π) (nI θ) (nI ι) (nI ξ) (nI ν) = nI ν := by simp [copA, copG, copF, c1, c3, c202, c204, c206, c229, c232, c234, c236, c238, c240, c242, c244, c245, c246, e01, e11, e21, e31, e41, e51, e61, e71, e02, e12, e22, e32, e42, e52, e62, clN (show π < 2 ^ 31 by omega), clN (show θ < 2 ^ 31 by omega), clN (show ν < 2 ^ 31 by omega), clN (show ι < 2 ^ 31 by omega), clN (show ξ < 2 ^ 31 by omega), inR_nI (show π < 2 ^ 31 by omega), inR_nI (show θ < 2 ^ 31 by omega), inR_nI (show ν < 2 ^ 31 by omega), inR_nI (show ι < 2 ^ 31 by omega), inR_nI (show ξ < 2 ^ 31 by omega), show π < 8 by omega, show θ < 8 by omega, cp_row e31 e32 (by omega) (by omega) (show ι < 2 ^ 31 by omega) (show ξ < 2 ^ 31 by omega) (show ν < 2 ^ 31 by omega), show ι + ν ≤ ν1 by omega, show ξ + ν ≤ ν2 by omega]
                                                                        have eG : copG g (nI π) (nI θ) (nI ι) (nI ξ) (nI ν) = pCp g π θ ι ξ ν := by simp [copA, copG, copF, c1, c3, c202, c204, c206, c229, c232, c234, c236, c238, c240, c242, c244, c245, c246, e01, e11, e21, e31, e41, e51, e61, e71, e02, e12, e22, e32, e42, e52, e62, clN (show π < 2 ^ 31 by omega), clN (show θ < 2 ^ 31 by omega), clN (show ν < 2 ^ 31 by omega), clN (show ι < 2 ^ 31 by omega), clN (show ξ < 2 ^ 31 by omega), inR_nI (show π < 2 ^ 31 by omega), inR_nI (show θ < 2 ^ 31 by omega), inR_nI (show ν < 2 ^ 31 by omega), inR_nI (show ι < 2 ^ 31 by omega), inR_nI (show ξ < 2 ^ 31 by omega), show π < 8 by omega, show θ < 8 by omega, cp_row e31 e32 (by omega) (by omega) (show ι < 2 ^ 31 by omega) (show ξ < 2 ^ 31 by omega) (show ν < 2 ^ 31 by omega), show ι + ν ≤ ν1 by omega, show ξ + ν ≤ ν2 by omega]
                                                                        exact F.1 _ _ _ _ _ rfl rfl (dx dX7_copy 144 rfl) k8 (show some (vi (nI ν)) = some (vi (copA g (nI π) (nI θ) (nI ι) (nI ξ) (nI ν))) ∧ MilAt h8 k v ∧ MshAt h8 k (copG g (nI π) (nI θ) (nI ι) (nI ξ) (nI ν)) ∧ Kt k h h8 from by rw [eA, eG]; exact ⟨rfl, hm.fr g9 (by omega), s9, (Kt.fr g9 (by omega) (by omega))⟩))
                                                                  · first
                                                                    | (omega; done)
                                                                ·
                                                                  intro p hp ih h8 q8 u8 f8 k8
                                                                  refine r_iload C (dx dX7_copy 126 rfl) rfl ?_
                                                                  refine r_iload C (dx dX7_copy 127 rfl) rfl ?_
                                                                  refine rn_ge (a := p) (b := ν) (tgt := 257) C (by omega) (by omega) (dx dX7_copy 128 rfl) (by decide) (fun c247 => ?_) (fun c247 => ?_)
                                                                  · first
                                                                    | (omega; done)
                                                                    | (
                                                                        have c247 : ν ≤ p := c247
                                                                        refine r_iload C (dx dX7_copy 143 rfl) rfl ?_
                                                                        have eA : copA g (nI π) (nI θ) (nI ι) (nI ξ) (nI ν) = nI ν := by simp [copA, copG, copF, c1, c3, c202, c204, c206, c229, c232, c234, c236, c238, c240, c242, c244, c245, c247, e01, e11, e21, e31, e41, e51, e61, e71, e02, e12, e22, e32, e42, e52, e62, clN (show π < 2 ^ 31 by omega), clN (show θ < 2 ^ 31 by omega), clN (show ν < 2 ^ 31 by omega), clN (show ι < 2 ^ 31 by omega), clN (show ξ < 2 ^ 31 by omega), inR_nI (show π < 2 ^ 31 by omega), inR_nI (show θ < 2 ^ 31 by omega), inR_nI (show ν < 2 ^ 31 by omega), inR_nI (show ι < 2 ^ 31 by omega), inR_nI (show ξ < 2 ^ 31 by omega), show π < 8 by omega, show θ < 8 by omega, cp_row e31 e32 (by omega) (by omega) (show ι < 2 ^ 31 by omega) (show ξ < 2 ^ 31 by omega) (show ν < 2 ^ 31 by omega), show ι + ν ≤ ν1 by omega, show ξ + ν ≤ ν2 by omega]
                                                                        have eG : copG g (nI π) (nI θ) (nI ι) (nI ξ) (nI ν) = g := by simp [copA, copG, copF, c1, c3, c202, c204, c206, c229, c232, c234, c236, c238, c240, c242, c244, c245, c247, e01, e11, e21, e31, e41, e51, e61, e71, e02, e12, e22, e32, e42, e52, e62, clN (show π < 2 ^ 31 by omega), clN (show θ < 2 ^ 31 by omega), clN (show ν < 2 ^ 31 by omega), clN (show ι < 2 ^ 31 by omega), clN (show ξ < 2 ^ 31 by omega), inR_nI (show π < 2 ^ 31 by omega), inR_nI (show θ < 2 ^ 31 by omega), inR_nI (show ν < 2 ^ 31 by omega), inR_nI (show ι < 2 ^ 31 by omega), inR_nI (show ξ < 2 ^ 31 by omega), show π < 8 by omega, show θ < 8 by omega, cp_row e31 e32 (by omega) (by omega) (show ι < 2 ^ 31 by omega) (show ξ < 2 ^ 31 by omega) (show ν < 2 ^ 31 by omega), show ι + ν ≤ ν1 by omega, show ξ + ν ≤ ν2 by omega]
                                                                        exact F.1 _ _ _ _ _ rfl rfl (dx dX7_copy 144 rfl) k8 (show some (vi (nI ν)) = some (vi (copA g (nI π) (nI θ) (nI ι) (nI ξ) (nI ν))) ∧ MilAt h8 k v ∧ MshAt h8 k (copG g (nI π) (nI θ) (nI ι) (nI ξ) (nI ν)) ∧ Kt k h h8 from by rw [eA, eG]; exact ⟨rfl, hm, hs, Kt.rf⟩))
                                                                  · first
                                                                    | (omega; done)
                                                                    | (
                                                                        have c247 : p < ν := c247
                                                                        refine r_aload_n C (dx dX7_copy 129 rfl) rfl ?_
                                                                        refine g_X7_21 C (dx dX7_copy 130 rfl) ?_
                                                                        refine r_iload_n C (dx dX7_copy 131 rfl) rfl ?_
                                                                        refine r_aald5 (j := θ) C rfl rfl (by decide) rfl (by omega) (dx dX7_copy 132 rfl) ?_
                                                                        refine r_iload C (dx dX7_copy 133 rfl) rfl ?_
                                                                        refine r_iload C (dx dX7_copy 134 rfl) rfl ?_
                                                                        refine rn_iadd (a := ξ) (b := p) C (dx dX7_copy 135 rfl) ?_
                                                                        refine r_aload_n C (dx dX7_copy 136 rfl) rfl ?_
                                                                        refine g_X7_24 C (dx dX7_copy 137 rfl) ?_
                                                                        refine r_iload C (dx dX7_copy 138 rfl) rfl ?_
                                                                        refine r_lald (j := p) (x := gE g π (ι + p)) C rfl rfl (by decide) rfl (by omega) (dx dX7_copy 139 rfl) (u8 _ (by omega)) ?_
                                                                        refine r_last (j := ξ + p) C rfl rfl (by decide) rfl (by omega) (dx dX7_copy 140 rfl) ?_
                                                                        refine rn_iinc (a := p) (k := 1) (ls' := [(0, vr 7 k), (1, vi (nI π)), (2, vi (nI θ)), (3, vi (nI ι)), (4, vi (nI ξ)), (5, vi (nI ν)), (6, vi (nI (p + 1)))]) C (dx dX7_copy 141 rfl) rfl rfl (by decide) [1, 2, 3, 4, 5, 6, 0] rfl ?_
                                                                        refine r_goto (tgt := 225) C (dx dX7_copy 142 rfl) (by decide) ?_
                                                                        exact ih _ (fun i hi => by rw [sL_at]; exact cp2_step q8 i hi) (fun t ht => by rw [sL_ne (by omega)]; exact u8 t ht) (f8.tr (Fr.sL (by omega) (by omega))) k8))
                                                          · first
                                                            | (omega; done)
                                                        ·
                                                          intro p hp ih h9 q9 f9 k9
                                                          refine r_iload C (dx dX7_copy 107 rfl) rfl ?_
                                                          refine r_iload C (dx dX7_copy 108 rfl) rfl ?_
                                                          refine rn_ge (a := p) (b := ν) (tgt := 222) C (by omega) (by omega) (dx dX7_copy 109 rfl) (by decide) (fun c248 => ?_) (fun c248 => ?_)
                                                          · first
                                                            | (omega; done)
                                                            | (
                                                                have c248 : ν ≤ p := c248
                                                                refine r_iconst (v := nI 0) C (dx dX7_copy 124 rfl) rfl ?_
                                                                refine r_istore (ls' := [(0, vr 7 k), (1, vi (nI π)), (2, vi (nI θ)), (3, vi (nI ι)), (4, vi (nI ξ)), (5, vi (nI ν)), (6, vi (nI 0))]) C (dx dX7_copy 125 rfl) (by decide) [1, 2, 3, 4, 5, 6, 0] rfl ?_
                                                                have r9 := MsR.fr (show MsR h k g θ from ⟨_, _, a12, a22, a32, a42, a52, a62, a72, a82⟩) hθ f9
                                                                refine loopU (Φ := fun p => ∀ h8, (∀ i, i < 40 → xL h8 (k + 5 + θ) i = if ξ ≤ i ∧ i < ξ + p then gE g π (ι + (i - ξ)) else gE g θ i) → (∀ t, t < ν → xL h8 (k + 13) t = gE g π (ι + t)) → Fr (k + 5 + θ) (k + 5 + θ + 1) h9 h8 → xK h8 = xK h → Rr G 225 [(0, vr 7 k), (1, vi (nI π)), (2, vi (nI θ)), (3, vi (nI ι)), (4, vi (nI ξ)), (5, vi (nI ν)), (6, vi (nI p))] [] h8) (N := ν) ?_ ?_ 0 (by omega) _ (fun i hi => by rw [if_neg (by omega), f9.L (by omega)]; exact a82 i hi) q9 Fr.rf k9
                                                                ·
                                                                  intro h8 q8 u8 f8 k8
                                                                  have s9 : MshAt h8 k (pCp g π θ ι ξ ν) := msh_els (hs.mv f9) hθ r9 f8 (fun i hi => by rw [q8 i hi]; rfl)
                                                                  have g9 : Fr (k + 1) (k + 16) h h8 := (f9.mono (by omega) (by omega)).tr (f8.mono (by omega) (by omega))
                                                                  refine r_iload C (dx dX7_copy 126 rfl) rfl ?_
                                                                  refine r_iload C (dx dX7_copy 127 rfl) rfl ?_
                                                                  refine rn_ge (a := ν) (b := ν) (tgt := 257) C (by omega) (by omega) (dx dX7_copy 128 rfl) (by decide) (fun c249 => ?_) (fun c249 => ?_)
                                                                  · first
                                                                    | (omega; done)
                                                                    | (
                                                                        have c249 : ν ≤ ν := c249
                                                                        refine r_iload C (dx dX7_copy 143 rfl) rfl ?_
                                                                        have eA : copA g (nI π) (nI θ) (nI ι) (nI ξ) (nI ν) = nI ν := by simp [copA, copG, copF, c1, c3, c202, c204, c206, c229, c232, c234, c236, c238, c240, c242, c244, c248, c249, e01, e11, e21, e31, e41, e51, e61, e71, e02, e12, e22, e32, e42, e52, e62, clN (show π < 2 ^ 31 by omega), clN (show θ < 2 ^ 31 by omega), clN (show ν < 2 ^ 31 by omega), clN (show ι < 2 ^ 31 by omega), clN (show ξ < 2 ^ 31 by omega), inR_nI (show π < 2 ^ 31 by omega), inR_nI (show θ < 2 ^ 31 by omega), inR_nI (show ν < 2 ^ 31 by omega), inR_nI (show ι < 2 ^ 31 by omega), inR_nI (show ξ < 2 ^ 31 by omega), show π < 8 by omega, show θ < 8 by omega, cp_row e31 e32 (by omega) (by omega) (show ι < 2 ^ 31 by omega) (show ξ < 2 ^ 31 by omega) (show ν < 2 ^ 31 by omega), show ι + ν ≤ ν1 by omega, show ξ + ν ≤ ν2 by omega]
                                                                        have eG : copG g (nI π) (nI θ) (nI ι) (nI ξ) (nI ν) = pCp g π θ ι ξ ν := by simp [copA, copG, copF, c1, c3, c202, c204, c206, c229, c232, c234, c236, c238, c240, c242, c244, c248, c249, e01, e11, e21, e31, e41, e51, e61, e71, e02, e12, e22, e32, e42, e52, e62, clN (show π < 2 ^ 31 by omega), clN (show θ < 2 ^ 31 by omega), clN (show ν < 2 ^ 31 by omega), clN (show ι < 2 ^ 31 by omega), clN (show ξ < 2 ^ 31 by omega), inR_nI (show π < 2 ^ 31 by omega), inR_nI (show θ < 2 ^ 31 by omega), inR_nI (show ν < 2 ^ 31 by omega), inR_nI (show ι < 2 ^ 31 by omega), inR_nI (show ξ < 2 ^ 31 by omega), show π < 8 by omega, show θ < 8 by omega, cp_row e31 e32 (by omega) (by omega) (show ι < 2 ^ 31 by omega) (show ξ < 2 ^ 31 by omega) (show ν < 2 ^ 31 by omega), show ι + ν ≤ ν1 by omega, show ξ + ν ≤ ν2 by omega]
                                                                        exact F.1 _ _ _ _ _ rfl rfl (dx dX7_copy 144 rfl) k8 (show some (vi (nI ν)) = some (vi (copA g (nI π) (nI θ) (nI ι) (nI ξ) (nI ν))) ∧ MilAt h8 k v ∧ MshAt h8 k (copG g (nI π) (nI θ) (nI ι) (nI ξ) (nI ν)) ∧ Kt k h h8 from by rw [eA, eG]; exact ⟨rfl, hm.fr g9 (by omega), s9, (Kt.fr g9 (by omega) (by omega))⟩))
                                                                  · first
                                                                    | (omega; done)
                                                                ·
                                                                  intro p hp ih h8 q8 u8 f8 k8
                                                                  refine r_iload C (dx dX7_copy 126 rfl) rfl ?_
                                                                  refine r_iload C (dx dX7_copy 127 rfl) rfl ?_
                                                                  refine rn_ge (a := p) (b := ν) (tgt := 257) C (by omega) (by omega) (dx dX7_copy 128 rfl) (by decide) (fun c250 => ?_) (fun c250 => ?_)
                                                                  · first
                                                                    | (omega; done)
                                                                    | (
                                                                        have c250 : ν ≤ p := c250
                                                                        refine r_iload C (dx dX7_copy 143 rfl) rfl ?_
                                                                        have eA : copA g (nI π) (nI θ) (nI ι) (nI ξ) (nI ν) = nI ν := by simp [copA, copG, copF, c1, c3, c202, c204, c206, c229, c232, c234, c236, c238, c240, c242, c244, c248, c250, e01, e11, e21, e31, e41, e51, e61, e71, e02, e12, e22, e32, e42, e52, e62, clN (show π < 2 ^ 31 by omega), clN (show θ < 2 ^ 31 by omega), clN (show ν < 2 ^ 31 by omega), clN (show ι < 2 ^ 31 by omega), clN (show ξ < 2 ^ 31 by omega), inR_nI (show π < 2 ^ 31 by omega), inR_nI (show θ < 2 ^ 31 by omega), inR_nI (show ν < 2 ^ 31 by omega), inR_nI (show ι < 2 ^ 31 by omega), inR_nI (show ξ < 2 ^ 31 by omega), show π < 8 by omega, show θ < 8 by omega, cp_row e31 e32 (by omega) (by omega) (show ι < 2 ^ 31 by omega) (show ξ < 2 ^ 31 by omega) (show ν < 2 ^ 31 by omega), show ι + ν ≤ ν1 by omega, show ξ + ν ≤ ν2 by omega]
                                                                        have eG : copG g (nI π) (nI θ) (nI ι) (nI ξ) (nI ν) = g := by simp [copA, copG, copF, c1, c3, c202, c204, c206, c229, c232, c234, c236, c238, c240, c242, c244, c248, c250, e01, e11, e21, e31, e41, e51, e61, e71, e02, e12, e22, e32, e42, e52, e62, clN (show π < 2 ^ 31 by omega), clN (show θ < 2 ^ 31 by omega), clN (show ν < 2 ^ 31 by omega), clN (show ι < 2 ^ 31 by omega), clN (show ξ < 2 ^ 31 by omega), inR_nI (show π < 2 ^ 31 by omega), inR_nI (show θ < 2 ^ 31 by omega), inR_nI (show ν < 2 ^ 31 by omega), inR_nI (show ι < 2 ^ 31 by omega), inR_nI (show ξ < 2 ^ 31 by omega), show π < 8 by omega, show θ < 8 by omega, cp_row e31 e32 (by omega) (by omega) (show ι < 2 ^ 31 by omega) (show ξ < 2 ^ 31 by omega) (show ν < 2 ^ 31 by omega), show ι + ν ≤ ν1 by omega, show ξ + ν ≤ ν2 by omega]
                                                                        exact F.1 _ _ _ _ _ rfl rfl (dx dX7_copy 144 rfl) k8 (show some (vi (nI ν)) = some (vi (copA g (nI π) (nI θ) (nI ι) (nI ξ) (nI ν))) ∧ MilAt h8 k v ∧ MshAt h8 k (copG g (nI π) (nI θ) (nI ι) (nI ξ) (nI ν)) ∧ Kt k h h8 from by rw [eA, eG]; exact ⟨rfl, hm, hs, Kt.rf⟩))
                                                                  · first
                                                                    | (omega; done)
                                                                    | (
                                                                        have c250 : p < ν := c250
                                                                        refine r_aload_n C (dx dX7_copy 129 rfl) rfl ?_
                                                                        refine g_X7_21 C (dx dX7_copy 130 rfl) ?_
                                                                        refine r_iload_n C (dx dX7_copy 131 rfl) rfl ?_
                                                                        refine r_aald5 (j := θ) C rfl rfl (by decide) rfl (by omega) (dx dX7_copy 132 rfl) ?_
                                                                        refine r_iload C (dx dX7_copy 133 rfl) rfl ?_
                                                                        refine r_iload C (dx dX7_copy 134 rfl) rfl ?_
                                                                        refine rn_iadd (a := ξ) (b := p) C (dx dX7_copy 135 rfl) ?_
                                                                        refine r_aload_n C (dx dX7_copy 136 rfl) rfl ?_
                                                                        refine g_X7_24 C (dx dX7_copy 137 rfl) ?_
                                                                        refine r_iload C (dx dX7_copy 138 rfl) rfl ?_
                                                                        refine r_lald (j := p) (x := gE g π (ι + p)) C rfl rfl (by decide) rfl (by omega) (dx dX7_copy 139 rfl) (u8 _ (by omega)) ?_
                                                                        refine r_last (j := ξ + p) C rfl rfl (by decide) rfl (by omega) (dx dX7_copy 140 rfl) ?_
                                                                        refine rn_iinc (a := p) (k := 1) (ls' := [(0, vr 7 k), (1, vi (nI π)), (2, vi (nI θ)), (3, vi (nI ι)), (4, vi (nI ξ)), (5, vi (nI ν)), (6, vi (nI (p + 1)))]) C (dx dX7_copy 141 rfl) rfl rfl (by decide) [1, 2, 3, 4, 5, 6, 0] rfl ?_
                                                                        refine r_goto (tgt := 225) C (dx dX7_copy 142 rfl) (by decide) ?_
                                                                        exact ih _ (fun i hi => by rw [sL_at]; exact cp2_step q8 i hi) (fun t ht => by rw [sL_ne (by omega)]; exact u8 t ht) (f8.tr (Fr.sL (by omega) (by omega))) k8))
                                                          · first
                                                            | (omega; done)
                                                            | (
                                                                have c248 : p < ν := c248
                                                                refine r_aload_n C (dx dX7_copy 110 rfl) rfl ?_
                                                                refine g_X7_24 C (dx dX7_copy 111 rfl) ?_
                                                                refine r_iload C (dx dX7_copy 112 rfl) rfl ?_
                                                                refine r_aload_n C (dx dX7_copy 113 rfl) rfl ?_
                                                                refine g_X7_21 C (dx dX7_copy 114 rfl) ?_
                                                                refine r_iload_n C (dx dX7_copy 115 rfl) rfl ?_
                                                                refine r_aald5 (j := π) C rfl rfl (by decide) rfl (by omega) (dx dX7_copy 116 rfl) ?_
                                                                refine r_iload_n C (dx dX7_copy 117 rfl) rfl ?_
                                                                refine r_iload C (dx dX7_copy 118 rfl) rfl ?_
                                                                refine rn_iadd (a := ι) (b := p) C (dx dX7_copy 119 rfl) ?_
                                                                refine r_lald (j := ι + p) (x := gE g π (ι + p)) C rfl rfl (by decide) rfl (by omega) (dx dX7_copy 120 rfl) ((f9.L (by omega) _).trans (a81 _ (by omega))) ?_
                                                                refine r_last (j := p) C rfl rfl (by decide) rfl (by omega) (dx dX7_copy 121 rfl) ?_
                                                                refine rn_iinc (a := p) (k := 1) (ls' := [(0, vr 7 k), (1, vi (nI π)), (2, vi (nI θ)), (3, vi (nI ι)), (4, vi (nI ξ)), (5, vi (nI ν)), (6, vi (nI (p + 1)))]) C (dx dX7_copy 122 rfl) rfl rfl (by decide) [1, 2, 3, 4, 5, 6, 0] rfl ?_
                                                                refine r_goto (tgt := 191) C (dx dX7_copy 123 rfl) (by decide) ?_
                                                                exact ih _ (fun t ht => by rw [sL_at]; split; (next e => rw [e]); exact q9 t (by omega)) (f9.tr (Fr.sL (by omega) (by omega))) k9))
                                                  · first
                                                    | (omega; done)
                                                    | (
                                                        have c244 : ν2 - ν < ξ := c244
                                                        refine r_aload_n C (dx dX7_copy 101 rfl) rfl ?_
                                                        refine r_bipush (v := -2) C (dx dX7_copy 102 rfl) rfl ?_
                                                        refine r_cv (as := [vi (-2)]) (st := []) C X I_X7_refuse l_X7_83 (e_refuse hm (x := -2) (j := 2) (by decide) (by decide)) (by decide) (Nat.le_of_ble_eq_true rfl) List.prefix_rfl List.prefix_rfl rfl rfl (Nat.le_of_ble_eq_true rfl) rfl (dx dX7_copy 103 rfl) ?_
                                                        rintro _ h251 ⟨rfl, m9h251, qh251⟩ kkh251
                                                        have mh251 : MilAt h251 k v := m9h251
                                                        have ph251 : Kp k h h251 := qh251
                                                        have kh251 : xK h251 = xK h := kkh251
                                                        have eA : copA g (nI π) (nI θ) (nI ι) (nI ξ) (nI ν) = -2 := by (have hq : ¬ (ι + ν ≤ ν1 ∧ ξ + ν ≤ ν2) := by omega); (have hq2 := cp_row e31 e32 (i := ι) (j := ξ) (n := ν) (by omega) (by omega) (by omega) (by omega) (by omega)); rw [decide_eq_false hq] at hq2; simp [copA, copG, copF, c1, c3, c202, c204, c206, c229, c232, c234, c236, c238, c240, c242, c244, e01, e11, e21, e31, e41, e51, e61, e71, e02, e12, e22, e32, e42, e52, e62, clN (show π < 2 ^ 31 by omega), clN (show θ < 2 ^ 31 by omega), clN (show ν < 2 ^ 31 by omega), clN (show ι < 2 ^ 31 by omega), clN (show ξ < 2 ^ 31 by omega), inR_nI (show π < 2 ^ 31 by omega), inR_nI (show θ < 2 ^ 31 by omega), inR_nI (show ν < 2 ^ 31 by omega), inR_nI (show ι < 2 ^ 31 by omega), inR_nI (show ξ < 2 ^ 31 by omega), hq2, show π < 8 by omega, show θ < 8 by omega]
                                                        have eG : copG g (nI π) (nI θ) (nI ι) (nI ξ) (nI ν) = g := by (have hq : ¬ (ι + ν ≤ ν1 ∧ ξ + ν ≤ ν2) := by omega); (have hq2 := cp_row e31 e32 (i := ι) (j := ξ) (n := ν) (by omega) (by omega) (by omega) (by omega) (by omega)); rw [decide_eq_false hq] at hq2; simp [copA, copG, copF, c1, c3, c202, c204, c206, c229, c232, c234, c236, c238, c240, c242, c244, e01, e11, e21, e31, e41, e51, e61, e71, e02, e12, e22, e32, e42, e52, e62, clN (show π < 2 ^ 31 by omega), clN (show θ < 2 ^ 31 by omega), clN (show ν < 2 ^ 31 by omega), clN (show ι < 2 ^ 31 by omega), clN (show ξ < 2 ^ 31 by omega), inR_nI (show π < 2 ^ 31 by omega), inR_nI (show θ < 2 ^ 31 by omega), inR_nI (show ν < 2 ^ 31 by omega), inR_nI (show ι < 2 ^ 31 by omega), inR_nI (show ξ < 2 ^ 31 by omega), hq2, show π < 8 by omega, show θ < 8 by omega]
                                                        exact F.1 _ _ _ _ _ rfl rfl (dx dX7_copy 104 rfl) kh251 (show some (vi (-2)) = some (vi (copA g (nI π) (nI θ) (nI ι) (nI ξ) (nI ν))) ∧ MilAt h251 k v ∧ MshAt h251 k (copG g (nI π) (nI θ) (nI ι) (nI ξ) (nI ν)) ∧ Kt k h h251 from by rw [eA, eG]; exact ⟨rfl, mh251, hs.kp ph251, ph251.kt⟩))))
                            · first
                              | (omega; done)
                              | (
                                  have c229 : 1 = 1 := c229
                                  refine r_aload_n C (dx dX7_copy 40 rfl) rfl ?_
                                  refine g_X7_13 C (dx dX7_copy 41 rfl) ?_
                                  refine r_iload_n C (dx dX7_copy 42 rfl) rfl ?_
                                  refine r_iald (j := π) (x := xI h (k + 2) π) C rfl rfl (by decide) rfl (by omega) (dx dX7_copy 43 rfl) rfl ?_
                                  refine r_aload_n C (dx dX7_copy 44 rfl) rfl ?_
                                  refine g_X7_13 C (dx dX7_copy 45 rfl) ?_
                                  refine r_iload_n C (dx dX7_copy 46 rfl) rfl ?_
                                  refine r_iald (j := θ) (x := nI τ2) C rfl rfl (by decide) rfl (by omega) (dx dX7_copy 47 rfl) a42 ?_
                                  refine r_icmp_eq (tgt := 93) C (dx dX7_copy 48 rfl) (by decide) (fun c252 => ?_) (fun c252 => ?_)
                                  ·
                                    have c252 : xI h (k + 2) π = nI τ2 := c252
                                    refine r_aload_n C (dx dX7_copy 53 rfl) rfl ?_
                                    refine g_X7_7 C (dx dX7_copy 54 rfl) ?_
                                    refine r_iload_n C (dx dX7_copy 55 rfl) rfl ?_
                                    refine r_iald (j := π) (x := nI 2) C rfl rfl (by decide) rfl (by omega) (dx dX7_copy 56 rfl) a41 ?_
                                    refine r_if_eq (tgt := 111) C (dx dX7_copy 57 rfl) (by decide) (fun c253 => (show False from by revert c253; decide).elim) (fun _ => ?_)
                                    refine r_aload_n C (dx dX7_copy 58 rfl) rfl ?_
                                    refine g_X7_7 C (dx dX7_copy 59 rfl) ?_
                                    refine r_iload_n C (dx dX7_copy 60 rfl) rfl ?_
                                    refine r_iald (j := θ) (x := nI 1) C rfl rfl (by decide) rfl (by omega) (dx dX7_copy 61 rfl) a32 ?_
                                    refine r_if_ne (tgt := 118) C (dx dX7_copy 62 rfl) (by decide) (fun _ => ?_) (fun c254 => (show False from by revert c254; decide).elim)
                                    refine r_iload C (dx dX7_copy 67 rfl) rfl ?_
                                    refine r_if_lt (tgt := 181) C (dx dX7_copy 68 rfl) (by decide) (fun c255 => ?_) (fun c255 => ?_)
                                    ·
                                      have c255 : n < 0 := c255
                                      refine r_aload_n C (dx dX7_copy 101 rfl) rfl ?_
                                      refine r_bipush (v := -2) C (dx dX7_copy 102 rfl) rfl ?_
                                      refine r_cv (as := [vi (-2)]) (st := []) C X I_X7_refuse l_X7_83 (e_refuse hm (x := -2) (j := 2) (by decide) (by decide)) (by decide) (Nat.le_of_ble_eq_true rfl) List.prefix_rfl List.prefix_rfl rfl rfl (Nat.le_of_ble_eq_true rfl) rfl (dx dX7_copy 103 rfl) ?_
                                      rintro _ h256 ⟨rfl, m9h256, qh256⟩ kkh256
                                      have mh256 : MilAt h256 k v := m9h256
                                      have ph256 : Kp k h h256 := qh256
                                      have kh256 : xK h256 = xK h := kkh256
                                      have eA : copA g (nI π) (nI θ) i j n = -2 := by simp [copA, copG, copF, cpOk, c1, c3, c202, c204, c206, c229, c252, (fun n9 => inR_neg (n := n9) c255 : ∀ n9, inR n n9 = false), c255, e01, e11, e21, e31, e41, e51, e61, e71, e02, e12, e22, e32, e42, e52, e62, clN (show π < 2 ^ 31 by omega), clN (show θ < 2 ^ 31 by omega), inR_nI (show π < 2 ^ 31 by omega), inR_nI (show θ < 2 ^ 31 by omega), show π < 8 by omega, show θ < 8 by omega]
                                      have eG : copG g (nI π) (nI θ) i j n = g := by simp [copA, copG, copF, cpOk, c1, c3, c202, c204, c206, c229, c252, (fun n9 => inR_neg (n := n9) c255 : ∀ n9, inR n n9 = false), c255, e01, e11, e21, e31, e41, e51, e61, e71, e02, e12, e22, e32, e42, e52, e62, clN (show π < 2 ^ 31 by omega), clN (show θ < 2 ^ 31 by omega), inR_nI (show π < 2 ^ 31 by omega), inR_nI (show θ < 2 ^ 31 by omega), show π < 8 by omega, show θ < 8 by omega]
                                      exact F.1 _ _ _ _ _ rfl rfl (dx dX7_copy 104 rfl) kh256 (show some (vi (-2)) = some (vi (copA g (nI π) (nI θ) i j n)) ∧ MilAt h256 k v ∧ MshAt h256 k (copG g (nI π) (nI θ) i j n) ∧ Kt k h h256 from by rw [eA, eG]; exact ⟨rfl, mh256, hs.kp ph256, ph256.kt⟩)
                                    ·
                                      have c255 : ¬ n < 0 := c255
                                      obtain ⟨ν, hν, rfl⟩ := nI_of c255
                                      refine r_iload_n C (dx dX7_copy 69 rfl) rfl ?_
                                      refine r_if_lt (tgt := 181) C (dx dX7_copy 70 rfl) (by decide) (fun c257 => ?_) (fun c257 => ?_)
                                      ·
                                        have c257 : i < 0 := c257
                                        refine r_aload_n C (dx dX7_copy 101 rfl) rfl ?_
                                        refine r_bipush (v := -2) C (dx dX7_copy 102 rfl) rfl ?_
                                        refine r_cv (as := [vi (-2)]) (st := []) C X I_X7_refuse l_X7_83 (e_refuse hm (x := -2) (j := 2) (by decide) (by decide)) (by decide) (Nat.le_of_ble_eq_true rfl) List.prefix_rfl List.prefix_rfl rfl rfl (Nat.le_of_ble_eq_true rfl) rfl (dx dX7_copy 103 rfl) ?_
                                        rintro _ h258 ⟨rfl, m9h258, qh258⟩ kkh258
                                        have mh258 : MilAt h258 k v := m9h258
                                        have ph258 : Kp k h h258 := qh258
                                        have kh258 : xK h258 = xK h := kkh258
                                        have eA : copA g (nI π) (nI θ) i j (nI ν) = -2 := by simp [copA, copG, copF, cpOk, c1, c3, c202, c204, c206, c229, c252, c255, (fun n9 => inR_neg (n := n9) c257 : ∀ n9, inR i n9 = false), c257, e01, e11, e21, e31, e41, e51, e61, e71, e02, e12, e22, e32, e42, e52, e62, clN (show π < 2 ^ 31 by omega), clN (show θ < 2 ^ 31 by omega), clN (show ν < 2 ^ 31 by omega), inR_nI (show π < 2 ^ 31 by omega), inR_nI (show θ < 2 ^ 31 by omega), inR_nI (show ν < 2 ^ 31 by omega), show π < 8 by omega, show θ < 8 by omega]
                                        have eG : copG g (nI π) (nI θ) i j (nI ν) = g := by simp [copA, copG, copF, cpOk, c1, c3, c202, c204, c206, c229, c252, c255, (fun n9 => inR_neg (n := n9) c257 : ∀ n9, inR i n9 = false), c257, e01, e11, e21, e31, e41, e51, e61, e71, e02, e12, e22, e32, e42, e52, e62, clN (show π < 2 ^ 31 by omega), clN (show θ < 2 ^ 31 by omega), clN (show ν < 2 ^ 31 by omega), inR_nI (show π < 2 ^ 31 by omega), inR_nI (show θ < 2 ^ 31 by omega), inR_nI (show ν < 2 ^ 31 by omega), show π < 8 by omega, show θ < 8 by omega]
                                        exact F.1 _ _ _ _ _ rfl rfl (dx dX7_copy 104 rfl) kh258 (show some (vi (-2)) = some (vi (copA g (nI π) (nI θ) i j (nI ν))) ∧ MilAt h258 k v ∧ MshAt h258 k (copG g (nI π) (nI θ) i j (nI ν)) ∧ Kt k h h258 from by rw [eA, eG]; exact ⟨rfl, mh258, hs.kp ph258, ph258.kt⟩)
                                      ·
                                        have c257 : ¬ i < 0 := c257
                                        obtain ⟨ι, hι, rfl⟩ := nI_of c257
                                        refine r_iload C (dx dX7_copy 71 rfl) rfl ?_
                                        refine r_if_lt (tgt := 181) C (dx dX7_copy 72 rfl) (by decide) (fun c259 => ?_) (fun c259 => ?_)
                                        ·
                                          have c259 : j < 0 := c259
                                          refine r_aload_n C (dx dX7_copy 101 rfl) rfl ?_
                                          refine r_bipush (v := -2) C (dx dX7_copy 102 rfl) rfl ?_
                                          refine r_cv (as := [vi (-2)]) (st := []) C X I_X7_refuse l_X7_83 (e_refuse hm (x := -2) (j := 2) (by decide) (by decide)) (by decide) (Nat.le_of_ble_eq_true rfl) List.prefix_rfl List.prefix_rfl rfl rfl (Nat.le_of_ble_eq_true rfl) rfl (dx dX7_copy 103 rfl) ?_
                                          rintro _ h260 ⟨rfl, m9h260, qh260⟩ kkh260
                                          have mh260 : MilAt h260 k v := m9h260
                                          have ph260 : Kp k h h260 := qh260
                                          have kh260 : xK h260 = xK h := kkh260
                                          have eA : copA g (nI π) (nI θ) (nI ι) j (nI ν) = -2 := by simp [copA, copG, copF, cpOk, c1, c3, c202, c204, c206, c229, c252, c255, c257, (fun n9 => inR_neg (n := n9) c259 : ∀ n9, inR j n9 = false), c259, e01, e11, e21, e31, e41, e51, e61, e71, e02, e12, e22, e32, e42, e52, e62, clN (show π < 2 ^ 31 by omega), clN (show θ < 2 ^ 31 by omega), clN (show ν < 2 ^ 31 by omega), clN (show ι < 2 ^ 31 by omega), inR_nI (show π < 2 ^ 31 by omega), inR_nI (show θ < 2 ^ 31 by omega), inR_nI (show ν < 2 ^ 31 by omega), inR_nI (show ι < 2 ^ 31 by omega), show π < 8 by omega, show θ < 8 by omega]
                                          have eG : copG g (nI π) (nI θ) (nI ι) j (nI ν) = g := by simp [copA, copG, copF, cpOk, c1, c3, c202, c204, c206, c229, c252, c255, c257, (fun n9 => inR_neg (n := n9) c259 : ∀ n9, inR j n9 = false), c259, e01, e11, e21, e31, e41, e51, e61, e71, e02, e12, e22, e32, e42, e52, e62, clN (show π < 2 ^ 31 by omega), clN (show θ < 2 ^ 31 by omega), clN (show ν < 2 ^ 31 by omega), clN (show ι < 2 ^ 31 by omega), inR_nI (show π < 2 ^ 31 by omega), inR_nI (show θ < 2 ^ 31 by omega), inR_nI (show ν < 2 ^ 31 by omega), inR_nI (show ι < 2 ^ 31 by omega), show π < 8 by omega, show θ < 8 by omega]
                                          exact F.1 _ _ _ _ _ rfl rfl (dx dX7_copy 104 rfl) kh260 (show some (vi (-2)) = some (vi (copA g (nI π) (nI θ) (nI ι) j (nI ν))) ∧ MilAt h260 k v ∧ MshAt h260 k (copG g (nI π) (nI θ) (nI ι) j (nI ν)) ∧ Kt k h h260 from by rw [eA, eG]; exact ⟨rfl, mh260, hs.kp ph260, ph260.kt⟩)
                                        ·
                                          have c259 : ¬ j < 0 := c259
                                          obtain ⟨ξ, hξ, rfl⟩ := nI_of c259
                                          refine r_iload C (dx dX7_copy 73 rfl) rfl ?_
                                          refine r_aload_n C (dx dX7_copy 74 rfl) rfl ?_
                                          refine g_X7_16 C (dx dX7_copy 75 rfl) ?_
                                          refine r_iload_n C (dx dX7_copy 76 rfl) rfl ?_
                                          refine r_iald (j := π) (x := xI h (k + 3) π) C rfl rfl (by decide) rfl (by omega) (dx dX7_copy 77 rfl) rfl ?_
                                          refine r_icmp_gt (tgt := 181) C (dx dX7_copy 78 rfl) (by decide) (fun c261 => ?_) (fun c261 => ?_)
                                          ·
                                            have c261 : xI h (k + 3) π < nI ν := c261
                                            refine r_aload_n C (dx dX7_copy 101 rfl) rfl ?_
                                            refine r_bipush (v := -2) C (dx dX7_copy 102 rfl) rfl ?_
                                            refine r_cv (as := [vi (-2)]) (st := []) C X I_X7_refuse l_X7_83 (e_refuse hm (x := -2) (j := 2) (by decide) (by decide)) (by decide) (Nat.le_of_ble_eq_true rfl) List.prefix_rfl List.prefix_rfl rfl rfl (Nat.le_of_ble_eq_true rfl) rfl (dx dX7_copy 103 rfl) ?_
                                            rintro _ h262 ⟨rfl, m9h262, qh262⟩ kkh262
                                            have mh262 : MilAt h262 k v := m9h262
                                            have ph262 : Kp k h h262 := qh262
                                            have kh262 : xK h262 = xK h := kkh262
                                            have eA : copA g (nI π) (nI θ) (nI ι) (nI ξ) (nI ν) = -2 := by (have hq : ¬ (ι + ν ≤ ν1 ∧ ξ + ν ≤ ν2) := by omega); (have hq2 := cp_row e31 e32 (i := ι) (j := ξ) (n := ν) (by omega) (by omega) (by omega) (by omega) (by omega)); rw [decide_eq_false hq] at hq2; simp [copA, copG, copF, c1, c3, c202, c204, c206, c229, c252, c255, c257, c259, c261, e01, e11, e21, e31, e41, e51, e61, e71, e02, e12, e22, e32, e42, e52, e62, clN (show π < 2 ^ 31 by omega), clN (show θ < 2 ^ 31 by omega), clN (show ν < 2 ^ 31 by omega), clN (show ι < 2 ^ 31 by omega), clN (show ξ < 2 ^ 31 by omega), inR_nI (show π < 2 ^ 31 by omega), inR_nI (show θ < 2 ^ 31 by omega), inR_nI (show ν < 2 ^ 31 by omega), inR_nI (show ι < 2 ^ 31 by omega), inR_nI (show ξ < 2 ^ 31 by omega), hq2, show π < 8 by omega, show θ < 8 by omega]
                                            have eG : copG g (nI π) (nI θ) (nI ι) (nI ξ) (nI ν) = g := by (have hq : ¬ (ι + ν ≤ ν1 ∧ ξ + ν ≤ ν2) := by omega); (have hq2 := cp_row e31 e32 (i := ι) (j := ξ) (n := ν) (by omega) (by omega) (by omega) (by omega) (by omega)); rw [decide_eq_false hq] at hq2; simp [copA, copG, copF, c1, c3, c202, c204, c206, c229, c252, c255, c257, c259, c261, e01, e11, e21, e31, e41, e51, e61, e71, e02, e12, e22, e32, e42, e52, e62, clN (show π < 2 ^ 31 by omega), clN (show θ < 2 ^ 31 by omega), clN (show ν < 2 ^ 31 by omega), clN (show ι < 2 ^ 31 by omega), clN (show ξ < 2 ^ 31 by omega), inR_nI (show π < 2 ^ 31 by omega), inR_nI (show θ < 2 ^ 31 by omega), inR_nI (show ν < 2 ^ 31 by omega), inR_nI (show ι < 2 ^ 31 by omega), inR_nI (show ξ < 2 ^ 31 by omega), hq2, show π < 8 by omega, show θ < 8 by omega]
                                            exact F.1 _ _ _ _ _ rfl rfl (dx dX7_copy 104 rfl) kh262 (show some (vi (-2)) = some (vi (copA g (nI π) (nI θ) (nI ι) (nI ξ) (nI ν))) ∧ MilAt h262 k v ∧ MshAt h262 k (copG g (nI π) (nI θ) (nI ι) (nI ξ) (nI ν)) ∧ Kt k h h262 from by rw [eA, eG]; exact ⟨rfl, mh262, hs.kp ph262, ph262.kt⟩)
                                          ·
                                            have c261 : ¬ xI h (k + 3) π < nI ν := c261
                                            refine r_iload C (dx dX7_copy 79 rfl) rfl ?_
                                            refine r_aload_n C (dx dX7_copy 80 rfl) rfl ?_
                                            refine g_X7_16 C (dx dX7_copy 81 rfl) ?_
                                            refine r_iload_n C (dx dX7_copy 82 rfl) rfl ?_
                                            refine r_iald (j := θ) (x := nI ν2) C rfl rfl (by decide) rfl (by omega) (dx dX7_copy 83 rfl) a52 ?_
                                            refine rn_gt (a := ν) (b := ν2) (tgt := 181) C (by omega) (by omega) (dx dX7_copy 84 rfl) (by decide) (fun c263 => ?_) (fun c263 => ?_)
                                            · first
                                              | (omega; done)
                                              | (
                                                  have c263 : ν2 < ν := c263
                                                  refine r_aload_n C (dx dX7_copy 101 rfl) rfl ?_
                                                  refine r_bipush (v := -2) C (dx dX7_copy 102 rfl) rfl ?_
                                                  refine r_cv (as := [vi (-2)]) (st := []) C X I_X7_refuse l_X7_83 (e_refuse hm (x := -2) (j := 2) (by decide) (by decide)) (by decide) (Nat.le_of_ble_eq_true rfl) List.prefix_rfl List.prefix_rfl rfl rfl (Nat.le_of_ble_eq_true rfl) rfl (dx dX7_copy 103 rfl) ?_
                                                  rintro _ h264 ⟨rfl, m9h264, qh264⟩ kkh264
                                                  have mh264 : MilAt h264 k v := m9h264
                                                  have ph264 : Kp k h h264 := qh264
                                                  have kh264 : xK h264 = xK h := kkh264
                                                  have eA : copA g (nI π) (nI θ) (nI ι) (nI ξ) (nI ν) = -2 := by (have hq : ¬ (ι + ν ≤ ν1 ∧ ξ + ν ≤ ν2) := by omega); (have hq2 := cp_row e31 e32 (i := ι) (j := ξ) (n := ν) (by omega) (by omega) (by omega) (by omega) (by omega)); rw [decide_eq_false hq] at hq2; simp [copA, copG, copF, c1, c3, c202, c204, c206, c229, c252, c255, c257, c259, c261, c263, e01, e11, e21, e31, e41, e51, e61, e71, e02, e12, e22, e32, e42, e52, e62, clN (show π < 2 ^ 31 by omega), clN (show θ < 2 ^ 31 by omega), clN (show ν < 2 ^ 31 by omega), clN (show ι < 2 ^ 31 by omega), clN (show ξ < 2 ^ 31 by omega), inR_nI (show π < 2 ^ 31 by omega), inR_nI (show θ < 2 ^ 31 by omega), inR_nI (show ν < 2 ^ 31 by omega), inR_nI (show ι < 2 ^ 31 by omega), inR_nI (show ξ < 2 ^ 31 by omega), hq2, show π < 8 by omega, show θ < 8 by omega]
                                                  have eG : copG g (nI π) (nI θ) (nI ι) (nI ξ) (nI ν) = g := by (have hq : ¬ (ι + ν ≤ ν1 ∧ ξ + ν ≤ ν2) := by omega); (have hq2 := cp_row e31 e32 (i := ι) (j := ξ) (n := ν) (by omega) (by omega) (by omega) (by omega) (by omega)); rw [decide_eq_false hq] at hq2; simp [copA, copG, copF, c1, c3, c202, c204, c206, c229, c252, c255, c257, c259, c261, c263, e01, e11, e21, e31, e41, e51, e61, e71, e02, e12, e22, e32, e42, e52, e62, clN (show π < 2 ^ 31 by omega), clN (show θ < 2 ^ 31 by omega), clN (show ν < 2 ^ 31 by omega), clN (show ι < 2 ^ 31 by omega), clN (show ξ < 2 ^ 31 by omega), inR_nI (show π < 2 ^ 31 by omega), inR_nI (show θ < 2 ^ 31 by omega), inR_nI (show ν < 2 ^ 31 by omega), inR_nI (show ι < 2 ^ 31 by omega), inR_nI (show ξ < 2 ^ 31 by omega), hq2, show π < 8 by omega, show θ < 8 by omega]
                                                  exact F.1 _ _ _ _ _ rfl rfl (dx dX7_copy 104 rfl) kh264 (show some (vi (-2)) = some (vi (copA g (nI π) (nI θ) (nI ι) (nI ξ) (nI ν))) ∧ MilAt h264 k v ∧ MshAt h264 k (copG g (nI π) (nI θ) (nI ι) (nI ξ) (nI ν)) ∧ Kt k h h264 from by rw [eA, eG]; exact ⟨rfl, mh264, hs.kp ph264, ph264.kt⟩))
                                            · first
                                              | (omega; done)
                                              | (
                                                  have c263 : ν ≤ ν2 := c263
                                                  refine r_iload_n C (dx dX7_copy 85 rfl) rfl ?_
                                                  refine r_aload_n C (dx dX7_copy 86 rfl) rfl ?_
                                                  refine g_X7_16 C (dx dX7_copy 87 rfl) ?_
                                                  refine r_iload_n C (dx dX7_copy 88 rfl) rfl ?_
                                                  refine r_iald (j := π) (x := xI h (k + 3) π) C rfl rfl (by decide) rfl (by omega) (dx dX7_copy 89 rfl) rfl ?_
                                                  refine r_iload C (dx dX7_copy 90 rfl) rfl ?_
                                                  refine r_isub C (dx dX7_copy 91 rfl) ?_
                                                  refine r_icmp_gt (tgt := 181) C (dx dX7_copy 92 rfl) (by decide) (fun c265 => ?_) (fun c265 => ?_)
                                                  ·
                                                    have c265 : (xI h (k + 3) π) - (nI ν) < nI ι := c265
                                                    refine r_aload_n C (dx dX7_copy 101 rfl) rfl ?_
                                                    refine r_bipush (v := -2) C (dx dX7_copy 102 rfl) rfl ?_
                                                    refine r_cv (as := [vi (-2)]) (st := []) C X I_X7_refuse l_X7_83 (e_refuse hm (x := -2) (j := 2) (by decide) (by decide)) (by decide) (Nat.le_of_ble_eq_true rfl) List.prefix_rfl List.prefix_rfl rfl rfl (Nat.le_of_ble_eq_true rfl) rfl (dx dX7_copy 103 rfl) ?_
                                                    rintro _ h266 ⟨rfl, m9h266, qh266⟩ kkh266
                                                    have mh266 : MilAt h266 k v := m9h266
                                                    have ph266 : Kp k h h266 := qh266
                                                    have kh266 : xK h266 = xK h := kkh266
                                                    have eA : copA g (nI π) (nI θ) (nI ι) (nI ξ) (nI ν) = -2 := by (have hq : ¬ (ι + ν ≤ ν1 ∧ ξ + ν ≤ ν2) := by omega); (have hq2 := cp_row e31 e32 (i := ι) (j := ξ) (n := ν) (by omega) (by omega) (by omega) (by omega) (by omega)); rw [decide_eq_false hq] at hq2; simp [copA, copG, copF, c1, c3, c202, c204, c206, c229, c252, c255, c257, c259, c261, c263, c265, e01, e11, e21, e31, e41, e51, e61, e71, e02, e12, e22, e32, e42, e52, e62, clN (show π < 2 ^ 31 by omega), clN (show θ < 2 ^ 31 by omega), clN (show ν < 2 ^ 31 by omega), clN (show ι < 2 ^ 31 by omega), clN (show ξ < 2 ^ 31 by omega), inR_nI (show π < 2 ^ 31 by omega), inR_nI (show θ < 2 ^ 31 by omega), inR_nI (show ν < 2 ^ 31 by omega), inR_nI (show ι < 2 ^ 31 by omega), inR_nI (show ξ < 2 ^ 31 by omega), hq2, show π < 8 by omega, show θ < 8 by omega]
                                                    have eG : copG g (nI π) (nI θ) (nI ι) (nI ξ) (nI ν) = g := by (have hq : ¬ (ι + ν ≤ ν1 ∧ ξ + ν ≤ ν2) := by omega); (have hq2 := cp_row e31 e32 (i := ι) (j := ξ) (n := ν) (by omega) (by omega) (by omega) (by omega) (by omega)); rw [decide_eq_false hq] at hq2; simp [copA, copG, copF, c1, c3, c202, c204, c206, c229, c252, c255, c257, c259, c261, c263, c265, e01, e11, e21, e31, e41, e51, e61, e71, e02, e12, e22, e32, e42, e52, e62, clN (show π < 2 ^ 31 by omega), clN (show θ < 2 ^ 31 by omega), clN (show ν < 2 ^ 31 by omega), clN (show ι < 2 ^ 31 by omega), clN (show ξ < 2 ^ 31 by omega), inR_nI (show π < 2 ^ 31 by omega), inR_nI (show θ < 2 ^ 31 by omega), inR_nI (show ν < 2 ^ 31 by omega), inR_nI (show ι < 2 ^ 31 by omega), inR_nI (show ξ < 2 ^ 31 by omega), hq2, show π < 8 by omega, show θ < 8 by omega]
                                                    exact F.1 _ _ _ _ _ rfl rfl (dx dX7_copy 104 rfl) kh266 (show some (vi (-2)) = some (vi (copA g (nI π) (nI θ) (nI ι) (nI ξ) (nI ν))) ∧ MilAt h266 k v ∧ MshAt h266 k (copG g (nI π) (nI θ) (nI ι) (nI ξ) (nI ν)) ∧ Kt k h h266 from by rw [eA, eG]; exact ⟨rfl, mh266, hs.kp ph266, ph266.kt⟩)
                                                  ·
                                                    have c265 : ¬ (xI h (k + 3) π) - (nI ν) < nI ι := c265
                                                    refine r_iload C (dx dX7_copy 93 rfl) rfl ?_
                                                    refine r_aload_n C (dx dX7_copy 94 rfl) rfl ?_
                                                    refine g_X7_16 C (dx dX7_copy 95 rfl) ?_
                                                    refine r_iload_n C (dx dX7_copy 96 rfl) rfl ?_
                                                    refine r_iald (j := θ) (x := nI ν2) C rfl rfl (by decide) rfl (by omega) (dx dX7_copy 97 rfl) a52 ?_
                                                    refine r_iload C (dx dX7_copy 98 rfl) rfl ?_
                                                    refine rn_isub (a := ν2) (b := ν) C (by omega) (dx dX7_copy 99 rfl) ?_
                                                    refine rn_le (a := ξ) (b := ν2 - ν) (tgt := 188) C (by omega) (by omega) (dx dX7_copy 100 rfl) (by decide) (fun c267 => ?_) (fun c267 => ?_)
                                                    · first
                                                      | (omega; done)
                                                      | (
                                                          have c267 : ξ ≤ ν2 - ν := c267
                                                          refine r_iconst (v := nI 0) C (dx dX7_copy 105 rfl) rfl ?_
                                                          refine r_istore (ls' := [(0, vr 7 k), (1, vi (nI π)), (2, vi (nI θ)), (3, vi (nI ι)), (4, vi (nI ξ)), (5, vi (nI ν)), (6, vi (nI 0))]) C (dx dX7_copy 106 rfl) (by decide) [1, 2, 3, 4, 5, 6, 0] rfl ?_
                                                          refine loopU (Φ := fun p => ∀ h9, (∀ t, t < p → xL h9 (k + 13) t = gE g π (ι + t)) → Fr (k + 13) (k + 14) h h9 → xK h9 = xK h → Rr G 191 [(0, vr 7 k), (1, vi (nI π)), (2, vi (nI θ)), (3, vi (nI ι)), (4, vi (nI ξ)), (5, vi (nI ν)), (6, vi (nI p))] [] h9) (N := ν) ?_ ?_ 0 (by omega) _ (fun i hi => absurd hi (by omega)) Fr.rf rfl
                                                          ·
                                                            intro h9 q9 f9 k9
                                                            refine r_iload C (dx dX7_copy 107 rfl) rfl ?_
                                                            refine r_iload C (dx dX7_copy 108 rfl) rfl ?_
                                                            refine rn_ge (a := ν) (b := ν) (tgt := 222) C (by omega) (by omega) (dx dX7_copy 109 rfl) (by decide) (fun c268 => ?_) (fun c268 => ?_)
                                                            · first
                                                              | (omega; done)
                                                              | (
                                                                  have c268 : ν ≤ ν := c268
                                                                  refine r_iconst (v := nI 0) C (dx dX7_copy 124 rfl) rfl ?_
                                                                  refine r_istore (ls' := [(0, vr 7 k), (1, vi (nI π)), (2, vi (nI θ)), (3, vi (nI ι)), (4, vi (nI ξ)), (5, vi (nI ν)), (6, vi (nI 0))]) C (dx dX7_copy 125 rfl) (by decide) [1, 2, 3, 4, 5, 6, 0] rfl ?_
                                                                  have r9 := MsR.fr (show MsR h k g θ from ⟨_, _, a12, a22, a32, a42, a52, a62, a72, a82⟩) hθ f9
                                                                  refine loopU (Φ := fun p => ∀ h8, (∀ i, i < 40 → xL h8 (k + 5 + θ) i = if ξ ≤ i ∧ i < ξ + p then gE g π (ι + (i - ξ)) else gE g θ i) → (∀ t, t < ν → xL h8 (k + 13) t = gE g π (ι + t)) → Fr (k + 5 + θ) (k + 5 + θ + 1) h9 h8 → xK h8 = xK h → Rr G 225 [(0, vr 7 k), (1, vi (nI π)), (2, vi (nI θ)), (3, vi (nI ι)), (4, vi (nI ξ)), (5, vi (nI ν)), (6, vi (nI p))] [] h8) (N := ν) ?_ ?_ 0 (by omega) _ (fun i hi => by rw [if_neg (by omega), f9.L (by omega)]; exact a82 i hi) q9 Fr.rf k9
                                                                  ·
                                                                    intro h8 q8 u8 f8 k8
                                                                    have s9 : MshAt h8 k (pCp g π θ ι ξ ν) := msh_els (hs.mv f9) hθ r9 f8 (fun i hi => by rw [q8 i hi]; rfl)
                                                                    have g9 : Fr (k + 1) (k + 16) h h8 := (f9.mono (by omega) (by omega)).tr (f8.mono (by omega) (by omega))
                                                                    refine r_iload C (dx dX7_copy 126 rfl) rfl ?_
                                                                    refine r_iload C (dx dX7_copy 127 rfl) rfl ?_
                                                                    refine rn_ge (a := ν) (b := ν) (tgt := 257) C (by omega) (by omega) (dx dX7_copy 128 rfl) (by decide) (fun c269 => ?_) (fun c269 => ?_)
                                                                    · first
                                                                      | (omega; done)
                                                                      | (
                                                                          have c269 : ν ≤ ν := c269
                                                                          refine r_iload C (dx dX7_copy 143 rfl) rfl ?_
                                                                          have eA : copA g (nI π) (nI θ) (nI ι) (nI ξ) (nI ν) = nI ν := by simp [copA, copG, copF, c1, c3, c202, c204, c206, c229, c252, c255, c257, c259, c261, c263, c265, c267, c268, c269, e01, e11, e21, e31, e41, e51, e61, e71, e02, e12, e22, e32, e42, e52, e62, clN (show π < 2 ^ 31 by omega), clN (show θ < 2 ^ 31 by omega), clN (show ν < 2 ^ 31 by omega), clN (show ι < 2 ^ 31 by omega), clN (show ξ < 2 ^ 31 by omega), inR_nI (show π < 2 ^ 31 by omega), inR_nI (show θ < 2 ^ 31 by omega), inR_nI (show ν < 2 ^ 31 by omega), inR_nI (show ι < 2 ^ 31 by omega), inR_nI (show ξ < 2 ^ 31 by omega), show π < 8 by omega, show θ < 8 by omega, cp_row e31 e32 (by omega) (by omega) (show ι < 2 ^ 31 by omega) (show ξ < 2 ^ 31 by omega) (show ν < 2 ^ 31 by omega), show ι + ν ≤ ν1 by omega, show ξ + ν ≤ ν2 by omega]
                                                                          have eG : copG g (nI π) (nI θ) (nI ι) (nI ξ) (nI ν) = pCp g π θ ι ξ ν := by simp [copA, copG, copF, c1, c3, c202, c204, c206, c229, c252, c255, c257, c259, c261, c263, c265, c267, c268, c269, e01, e11, e21, e31, e41, e51, e61, e71, e02, e12, e22, e32, e42, e52, e62, clN (show π < 2 ^ 31 by omega), clN (show θ < 2 ^ 31 by omega), clN (show ν < 2 ^ 31 by omega), clN (show ι < 2 ^ 31 by omega), clN (show ξ < 2 ^ 31 by omega), inR_nI (show π < 2 ^ 31 by omega), inR_nI (show θ < 2 ^ 31 by omega), inR_nI (show ν < 2 ^ 31 by omega), inR_nI (show ι < 2 ^ 31 by omega), inR_nI (show ξ < 2 ^ 31 by omega), show π < 8 by omega, show θ < 8 by omega, cp_row e31 e32 (by omega) (by omega) (show ι < 2 ^ 31 by omega) (show ξ < 2 ^ 31 by omega) (show ν < 2 ^ 31 by omega), show ι + ν ≤ ν1 by omega, show ξ + ν ≤ ν2 by omega]
                                                                          exact F.1 _ _ _ _ _ rfl rfl (dx dX7_copy 144 rfl) k8 (show some (vi (nI ν)) = some (vi (copA g (nI π) (nI θ) (nI ι) (nI ξ) (nI ν))) ∧ MilAt h8 k v ∧ MshAt h8 k (copG g (nI π) (nI θ) (nI ι) (nI ξ) (nI ν)) ∧ Kt k h h8 from by rw [eA, eG]; exact ⟨rfl, hm.fr g9 (by omega), s9, (Kt.fr g9 (by omega) (by omega))⟩))
                                                                    · first
                                                                      | (omega; done)
                                                                  ·
                                                                    intro p hp ih h8 q8 u8 f8 k8
                                                                    refine r_iload C (dx dX7_copy 126 rfl) rfl ?_
                                                                    refine r_iload C (dx dX7_copy 127 rfl) rfl ?_
                                                                    refine rn_ge (a := p) (b := ν) (tgt := 257) C (by omega) (by omega) (dx dX7_copy 128 rfl) (by decide) (fun c270 => ?_) (fun c270 => ?_)
                                                                    · first
                                                                      | (omega; done)
                                                                      | (
                                                                          have c270 : ν ≤ p := c270
                                                                          refine r_iload C (dx dX7_copy 143 rfl) rfl ?_
                                                                          have eA : copA g (nI π) (nI θ) (nI ι) (nI ξ) (nI ν) = nI ν := by simp [copA, copG, copF, c1, c3, c202, c204, c206, c229, c252, c255, c257, c259, c261, c263, c265, c267, c268, c270, e01, e11, e21, e31, e41, e51, e61, e71, e02, e12, e22, e32, e42, e52, e62, clN (show π < 2 ^ 31 by omega), clN (show θ < 2 ^ 31 by omega), clN (show ν < 2 ^ 31 by omega), clN (show ι < 2 ^ 31 by omega), clN (show ξ < 2 ^ 31 by omega), inR_nI (show π < 2 ^ 31 by omega), inR_nI (show θ < 2 ^ 31 by omega), inR_nI (show ν < 2 ^ 31 by omega), inR_nI (show ι < 2 ^ 31 by omega), inR_nI (show ξ < 2 ^ 31 by omega), show π < 8 by omega, show θ < 8 by omega, cp_row e31 e32 (by omega) (by omega) (show ι < 2 ^ 31 by omega) (show ξ < 2 ^ 31 by omega) (show ν < 2 ^ 31 by omega), show ι + ν ≤ ν1 by omega, show ξ + ν ≤ ν2 by omega]
                                                                          have eG : copG g (nI π) (nI θ) (nI ι) (nI ξ) (nI ν) = g := by simp [copA, copG, copF, c1, c3, c202, c204, c206, c229, c252, c255, c257, c259, c261, c263, c265, c267, c268, c270, e01, e11, e21, e31, e41, e51, e61, e71, e02, e12, e22, e32, e42, e52, e62, clN (show π < 2 ^ 31 by omega), clN (show θ < 2 ^ 31 by omega), clN (show ν < 2 ^ 31 by omega), clN (show ι < 2 ^ 31 by omega), clN (show ξ < 2 ^ 31 by omega), inR_nI (show π < 2 ^ 31 by omega), inR_nI (show θ < 2 ^ 31 by omega), inR_nI (show ν < 2 ^ 31 by omega), inR_nI (show ι < 2 ^ 31 by omega), inR_nI (show ξ < 2 ^ 31 by omega), show π < 8 by omega, show θ < 8 by omega, cp_row e31 e32 (by omega) (by omega) (show ι < 2 ^ 31 by omega) (show ξ < 2 ^ 31 by omega) (show ν < 2 ^ 31 by omega), show ι + ν ≤ ν1 by omega, show ξ + ν ≤ ν2 by omega]
                                                                          exact F.1 _ _ _ _ _ rfl rfl (dx dX7_copy 144 rfl) k8 (show some (vi (nI ν)) = some (vi (copA g (nI π) (nI θ) (nI ι) (nI ξ) (nI ν))) ∧ MilAt h8 k v ∧ MshAt h8 k (copG g (nI π) (nI θ) (nI ι) (nI ξ) (nI ν)) ∧ Kt k h h8 from by rw [eA, eG]; exact ⟨rfl, hm, hs, Kt.rf⟩))
                                                                    · first
                                                                      | (omega; done)
                                                                      | (
                                                                          have c270 : p < ν := c270
                                                                          refine r_aload_n C (dx dX7_copy 129 rfl) rfl ?_
                                                                          refine g_X7_21 C (dx dX7_copy 130 rfl) ?_
                                                                          refine r_iload_n C (dx dX7_copy 131 rfl) rfl ?_
                                                                          refine r_aald5 (j := θ) C rfl rfl (by decide) rfl (by omega) (dx dX7_copy 132 rfl) ?_
                                                                          refine r_iload C (dx dX7_copy 133 rfl) rfl ?_
                                                                          refine r_iload C (dx dX7_copy 134 rfl) rfl ?_
                                                                          refine rn_iadd (a := ξ) (b := p) C (dx dX7_copy 135 rfl) ?_
                                                                          refine r_aload_n C (dx dX7_copy 136 rfl) rfl ?_
                                                                          refine g_X7_24 C (dx dX7_copy 137 rfl) ?_
                                                                          refine r_iload C (dx dX7_copy 138 rfl) rfl ?_
                                                                          refine r_lald (j := p) (x := gE g π (ι + p)) C rfl rfl (by decide) rfl (by omega) (dx dX7_copy 139 rfl) (u8 _ (by omega)) ?_
                                                                          refine r_last (j := ξ + p) C rfl rfl (by decide) rfl (by omega) (dx dX7_copy 140 rfl) ?_
                                                                          refine rn_iinc (a := p) (k := 1) (ls' := [(0, vr 7 k), (1, vi (nI π)), (2, vi (nI θ)), (3, vi (nI ι)), (4, vi (nI ξ)), (5, vi (nI ν)), (6, vi (nI (p + 1)))]) C (dx dX7_copy 141 rfl) rfl rfl (by decide) [1, 2, 3, 4, 5, 6, 0] rfl ?_
                                                                          refine r_goto (tgt := 225) C (dx dX7_copy 142 rfl) (by decide) ?_
                                                                          exact ih _ (fun i hi => by rw [sL_at]; exact cp2_step q8 i hi) (fun t ht => by rw [sL_ne (by omega)]; exact u8 t ht) (f8.tr (Fr.sL (by omega) (by omega))) k8))
                                                            · first
                                                              | (omega; done)
                                                          ·
                                                            intro p hp ih h9 q9 f9 k9
                                                            refine r_iload C (dx dX7_copy 107 rfl) rfl ?_
                                                            refine r_iload C (dx dX7_copy 108 rfl) rfl ?_
                                                            refine rn_ge (a := p) (b := ν) (tgt := 222) C (by omega) (by omega) (dx dX7_copy 109 rfl) (by decide) (fun c271 => ?_) (fun c271 => ?_)
                                                            · first
                                                              | (omega; done)
                                                              | (
                                                                  have c271 : ν ≤ p := c271
                                                                  refine r_iconst (v := nI 0) C (dx dX7_copy 124 rfl) rfl ?_
                                                                  refine r_istore (ls' := [(0, vr 7 k), (1, vi (nI π)), (2, vi (nI θ)), (3, vi (nI ι)), (4, vi (nI ξ)), (5, vi (nI ν)), (6, vi (nI 0))]) C (dx dX7_copy 125 rfl) (by decide) [1, 2, 3, 4, 5, 6, 0] rfl ?_
                                                                  have r9 := MsR.fr (show MsR h k g θ from ⟨_, _, a12, a22, a32, a42, a52, a62, a72, a82⟩) hθ f9
                                                                  refine loopU (Φ := fun p => ∀ h8, (∀ i, i < 40 → xL h8 (k + 5 + θ) i = if ξ ≤ i ∧ i < ξ + p then gE g π (ι + (i - ξ)) else gE g θ i) → (∀ t, t < ν → xL h8 (k + 13) t = gE g π (ι + t)) → Fr (k + 5 + θ) (k + 5 + θ + 1) h9 h8 → xK h8 = xK h → Rr G 225 [(0, vr 7 k), (1, vi (nI π)), (2, vi (nI θ)), (3, vi (nI ι)), (4, vi (nI ξ)), (5, vi (nI ν)), (6, vi (nI p))] [] h8) (N := ν) ?_ ?_ 0 (by omega) _ (fun i hi => by rw [if_neg (by omega), f9.L (by omega)]; exact a82 i hi) q9 Fr.rf k9
                                                                  ·
                                                                    intro h8 q8 u8 f8 k8
                                                                    have s9 : MshAt h8 k (pCp g π θ ι ξ ν) := msh_els (hs.mv f9) hθ r9 f8 (fun i hi => by rw [q8 i hi]; rfl)
                                                                    have g9 : Fr (k + 1) (k + 16) h h8 := (f9.mono (by omega) (by omega)).tr (f8.mono (by omega) (by omega))
                                                                    refine r_iload C (dx dX7_copy 126 rfl) rfl ?_
                                                                    refine r_iload C (dx dX7_copy 127 rfl) rfl ?_
                                                                    refine rn_ge (a := ν) (b := ν) (tgt := 257) C (by omega) (by omega) (dx dX7_copy 128 rfl) (by decide) (fun c272 => ?_) (fun c272 => ?_)
                                                                    · first
                                                                      | (omega; done)
                                                                      | (
                                                                          have c272 : ν ≤ ν := c272
                                                                          refine r_iload C (dx dX7_copy 143 rfl) rfl ?_
                                                                          have eA : copA g (nI π) (nI θ) (nI ι) (nI ξ) (nI ν) = nI ν := by simp [copA, copG, copF, c1, c3, c202, c204, c206, c229, c252, c255, c257, c259, c261, c263, c265, c267, c271, c272, e01, e11, e21, e31, e41, e51, e61, e71, e02, e12, e22, e32, e42, e52, e62, clN (show π < 2 ^ 31 by omega), clN (show θ < 2 ^ 31 by omega), clN (show ν < 2 ^ 31 by omega), clN (show ι < 2 ^ 31 by omega), clN (show ξ < 2 ^ 31 by omega), inR_nI (show π < 2 ^ 31 by omega), inR_nI (show θ < 2 ^ 31 by omega), inR_nI (show ν < 2 ^ 31 by omega), inR_nI (show ι < 2 ^ 31 by omega), inR_nI (show ξ < 2 ^ 31 by omega), show π < 8 by omega, show θ < 8 by omega, cp_row e31 e32 (by omega) (by omega) (show ι < 2 ^ 31 by omega) (show ξ < 2 ^ 31 by omega) (show ν < 2 ^ 31 by omega), show ι + ν ≤ ν1 by omega, show ξ + ν ≤ ν2 by omega]
                                                                          have eG : copG g (nI π) (nI θ) (nI ι) (nI ξ) (nI ν) = pCp g π θ ι ξ ν := by simp [copA, copG, copF, c1, c3, c202, c204, c206, c229, c252, c255, c257, c259, c261, c263, c265, c267, c271, c272, e01, e11, e21, e31, e41, e51, e61, e71, e02, e12, e22, e32, e42, e52, e62, clN (show π < 2 ^ 31 by omega), clN (show θ < 2 ^ 31 by omega), clN (show ν < 2 ^ 31 by omega), clN (show ι < 2 ^ 31 by omega), clN (show ξ < 2 ^ 31 by omega), inR_nI (show π < 2 ^ 31 by omega), inR_nI (show θ < 2 ^ 31 by omega), inR_nI (show ν < 2 ^ 31 by omega), inR_nI (show ι < 2 ^ 31 by omega), inR_nI (show ξ < 2 ^ 31 by omega), show π < 8 by omega, show θ < 8 by omega, cp_row e31 e32 (by omega) (by omega) (show ι < 2 ^ 31 by omega) (show ξ < 2 ^ 31 by omega) (show ν < 2 ^ 31 by omega), show ι + ν ≤ ν1 by omega, show ξ + ν ≤ ν2 by omega]
                                                                          exact F.1 _ _ _ _ _ rfl rfl (dx dX7_copy 144 rfl) k8 (show some (vi (nI ν)) = some (vi (copA g (nI π) (nI θ) (nI ι) (nI ξ) (nI ν))) ∧ MilAt h8 k v ∧ MshAt h8 k (copG g (nI π) (nI θ) (nI ι) (nI ξ) (nI ν)) ∧ Kt k h h8 from by rw [eA, eG]; exact ⟨rfl, hm.fr g9 (by omega), s9, (Kt.fr g9 (by omega) (by omega))⟩))
                                                                    · first
                                                                      | (omega; done)
                                                                  ·
                                                                    intro p hp ih h8 q8 u8 f8 k8
                                                                    refine r_iload C (dx dX7_copy 126 rfl) rfl ?_
                                                                    refine r_iload C (dx dX7_copy 127 rfl) rfl ?_
                                                                    refine rn_ge (a := p) (b := ν) (tgt := 257) C (by omega) (by omega) (dx dX7_copy 128 rfl) (by decide) (fun c273 => ?_) (fun c273 => ?_)
                                                                    · first
                                                                      | (omega; done)
                                                                      | (
                                                                          have c273 : ν ≤ p := c273
                                                                          refine r_iload C (dx dX7_copy 143 rfl) rfl ?_
                                                                          have eA : copA g (nI π) (nI θ) (nI ι) (nI ξ) (nI ν) = nI ν := by simp [copA, copG, copF, c1, c3, c202, c204, c206, c229, c252, c255, c257, c259, c261, c263, c265, c267, c271, c273, e01, e11, e21, e31, e41, e51, e61, e71, e02, e12, e22, e32, e42, e52, e62, clN (show π < 2 ^ 31 by omega), clN (show θ < 2 ^ 31 by omega), clN (show ν < 2 ^ 31 by omega), clN (show ι < 2 ^ 31 by omega), clN (show ξ < 2 ^ 31 by omega), inR_nI (show π < 2 ^ 31 by omega), inR_nI (show θ < 2 ^ 31 by omega), inR_nI (show ν < 2 ^ 31 by omega), inR_nI (show ι < 2 ^ 31 by omega), inR_nI (show ξ < 2 ^ 31 by omega), show π < 8 by omega, show θ < 8 by omega, cp_row e31 e32 (by omega) (by omega) (show ι < 2 ^ 31 by omega) (show ξ < 2 ^ 31 by omega) (show ν < 2 ^ 31 by omega), show ι + ν ≤ ν1 by omega, show ξ + ν ≤ ν2 by omega]
                                                                          have eG : copG g (nI π) (nI θ) (nI ι) (nI ξ) (nI ν) = g := by simp [copA, copG, copF, c1, c3, c202, c204, c206, c229, c252, c255, c257, c259, c261, c263, c265, c267, c271, c273, e01, e11, e21, e31, e41, e51, e61, e71, e02, e12, e22, e32, e42, e52, e62, clN (show π < 2 ^ 31 by omega), clN (show θ < 2 ^ 31 by omega), clN (show ν < 2 ^ 31 by omega), clN (show ι < 2 ^ 31 by omega), clN (show ξ < 2 ^ 31 by omega), inR_nI (show π < 2 ^ 31 by omega), inR_nI (show θ < 2 ^ 31 by omega), inR_nI (show ν < 2 ^ 31 by omega), inR_nI (show ι < 2 ^ 31 by omega), inR_nI (show ξ < 2 ^ 31 by omega), show π < 8 by omega, show θ < 8 by omega, cp_row e31 e32 (by omega) (by omega) (show ι < 2 ^ 31 by omega) (show ξ < 2 ^ 31 by omega) (show ν < 2 ^ 31 by omega), show ι + ν ≤ ν1 by omega, show ξ + ν ≤ ν2 by omega]
                                                                          exact F.1 _ _ _ _ _ rfl rfl (dx dX7_copy 144 rfl) k8 (show some (vi (nI ν)) = some (vi (copA g (nI π) (nI θ) (nI ι) (nI ξ) (nI ν))) ∧ MilAt h8 k v ∧ MshAt h8 k (copG g (nI π) (nI θ) (nI ι) (nI ξ) (nI ν)) ∧ Kt k h h8 from by rw [eA, eG]; exact ⟨rfl, hm, hs, Kt.rf⟩))
                                                                    · first
                                                                      | (omega; done)
                                                                      | (
                                                                          have c273 : p < ν := c273
                                                                          refine r_aload_n C (dx dX7_copy 129 rfl) rfl ?_
                                                                          refine g_X7_21 C (dx dX7_copy 130 rfl) ?_
                                                                          refine r_iload_n C (dx dX7_copy 131 rfl) rfl ?_
                                                                          refine r_aald5 (j := θ) C rfl rfl (by decide) rfl (by omega) (dx dX7_copy 132 rfl) ?_
                                                                          refine r_iload C (dx dX7_copy 133 rfl) rfl ?_
                                                                          refine r_iload C (dx dX7_copy 134 rfl) rfl ?_
                                                                          refine rn_iadd (a := ξ) (b := p) C (dx dX7_copy 135 rfl) ?_
                                                                          refine r_aload_n C (dx dX7_copy 136 rfl) rfl ?_
                                                                          refine g_X7_24 C (dx dX7_copy 137 rfl) ?_
                                                                          refine r_iload C (dx dX7_copy 138 rfl) rfl ?_
                                                                          refine r_lald (j := p) (x := gE g π (ι + p)) C rfl rfl (by decide) rfl (by omega) (dx dX7_copy 139 rfl) (u8 _ (by omega)) ?_
                                                                          refine r_last (j := ξ + p) C rfl rfl (by decide) rfl (by omega) (dx dX7_copy 140 rfl) ?_
                                                                          refine rn_iinc (a := p) (k := 1) (ls' := [(0, vr 7 k), (1, vi (nI π)), (2, vi (nI θ)), (3, vi (nI ι)), (4, vi (nI ξ)), (5, vi (nI ν)), (6, vi (nI (p + 1)))]) C (dx dX7_copy 141 rfl) rfl rfl (by decide) [1, 2, 3, 4, 5, 6, 0] rfl ?_
                                                                          refine r_goto (tgt := 225) C (dx dX7_copy 142 rfl) (by decide) ?_
                                                                          exact ih _ (fun i hi => by rw [sL_at]; exact cp2_step q8 i hi) (fun t ht => by rw [sL_ne (by omega)]; exact u8 t ht) (f8.tr (Fr.sL (by omega) (by omega))) k8))
                                                            · first
                                                              | (omega; done)
                                                              | (
                                                                  have c271 : p < ν := c271
                                                                  refine r_aload_n C (dx dX7_copy 110 rfl) rfl ?_
                                                                  refine g_X7_24 C (dx dX7_copy 111 rfl) ?_
                                                                  refine r_iload C (dx dX7_copy 112 rfl) rfl ?_
                                                                  refine r_aload_n C (dx dX7_copy 113 rfl) rfl ?_
                                                                  refine g_X7_21 C (dx dX7_copy 114 rfl) ?_
                                                                  refine r_iload_n C (dx dX7_copy 115 rfl) rfl ?_
                                                                  refine r_aald5 (j := π) C rfl rfl (by decide) rfl (by omega) (dx dX7_copy 116 rfl) ?_
                                                                  refine r_iload_n C (dx dX7_copy 117 rfl) rfl ?_
                                                                  refine r_iload C (dx dX7_copy 118 rfl) rfl ?_
                                                                  refine rn_iadd (a := ι) (b := p) C (dx dX7_copy 119 rfl) ?_
                                                                  refine r_lald (j := ι + p) (x := gE g π (ι + p)) C rfl rfl (by decide) rfl (by omega) (dx dX7_copy 120 rfl) ((f9.L (by omega) _).trans (a81 _ (by omega))) ?_
                                                                  refine r_last (j := p) C rfl rfl (by decide) rfl (by omega) (dx dX7_copy 121 rfl) ?_
                                                                  refine rn_iinc (a := p) (k := 1) (ls' := [(0, vr 7 k), (1, vi (nI π)), (2, vi (nI θ)), (3, vi (nI ι)), (4, vi (nI ξ)), (5, vi (nI ν)), (6, vi (nI (p + 1)))]) C (dx dX7_copy 122 rfl) rfl rfl (by decide) [1, 2, 3, 4, 5, 6, 0] rfl ?_
                                                                  refine r_goto (tgt := 191) C (dx dX7_copy 123 rfl) (by decide) ?_
                                                                  exact ih _ (fun t ht => by rw [sL_at]; split; (next e => rw [e]); exact q9 t (by omega)) (f9.tr (Fr.sL (by omega) (by omega))) k9))
                                                    · first
                                                      | (omega; done)
                                                      | (
                                                          have c267 : ν2 - ν < ξ := c267
                                                          refine r_aload_n C (dx dX7_copy 101 rfl) rfl ?_
                                                          refine r_bipush (v := -2) C (dx dX7_copy 102 rfl) rfl ?_
                                                          refine r_cv (as := [vi (-2)]) (st := []) C X I_X7_refuse l_X7_83 (e_refuse hm (x := -2) (j := 2) (by decide) (by decide)) (by decide) (Nat.le_of_ble_eq_true rfl) List.prefix_rfl List.prefix_rfl rfl rfl (Nat.le_of_ble_eq_true rfl) rfl (dx dX7_copy 103 rfl) ?_
                                                          rintro _ h274 ⟨rfl, m9h274, qh274⟩ kkh274
                                                          have mh274 : MilAt h274 k v := m9h274
                                                          have ph274 : Kp k h h274 := qh274
                                                          have kh274 : xK h274 = xK h := kkh274
                                                          have eA : copA g (nI π) (nI θ) (nI ι) (nI ξ) (nI ν) = -2 := by (have hq : ¬ (ι + ν ≤ ν1 ∧ ξ + ν ≤ ν2) := by omega); (have hq2 := cp_row e31 e32 (i := ι) (j := ξ) (n := ν) (by omega) (by omega) (by omega) (by omega) (by omega)); rw [decide_eq_false hq] at hq2; simp [copA, copG, copF, c1, c3, c202, c204, c206, c229, c252, c255, c257, c259, c261, c263, c265, c267, e01, e11, e21, e31, e41, e51, e61, e71, e02, e12, e22, e32, e42, e52, e62, clN (show π < 2 ^ 31 by omega), clN (show θ < 2 ^ 31 by omega), clN (show ν < 2 ^ 31 by omega), clN (show ι < 2 ^ 31 by omega), clN (show ξ < 2 ^ 31 by omega), inR_nI (show π < 2 ^ 31 by omega), inR_nI (show θ < 2 ^ 31 by omega), inR_nI (show ν < 2 ^ 31 by omega), inR_nI (show ι < 2 ^ 31 by omega), inR_nI (show ξ < 2 ^ 31 by omega), hq2, show π < 8 by omega, show θ < 8 by omega]
                                                          have eG : copG g (nI π) (nI θ) (nI ι) (nI ξ) (nI ν) = g := by (have hq : ¬ (ι + ν ≤ ν1 ∧ ξ + ν ≤ ν2) := by omega); (have hq2 := cp_row e31 e32 (i := ι) (j := ξ) (n := ν) (by omega) (by omega) (by omega) (by omega) (by omega)); rw [decide_eq_false hq] at hq2; simp [copA, copG, copF, c1, c3, c202, c204, c206, c229, c252, c255, c257, c259, c261, c263, c265, c267, e01, e11, e21, e31, e41, e51, e61, e71, e02, e12, e22, e32, e42, e52, e62, clN (show π < 2 ^ 31 by omega), clN (show θ < 2 ^ 31 by omega), clN (show ν < 2 ^ 31 by omega), clN (show ι < 2 ^ 31 by omega), clN (show ξ < 2 ^ 31 by omega), inR_nI (show π < 2 ^ 31 by omega), inR_nI (show θ < 2 ^ 31 by omega), inR_nI (show ν < 2 ^ 31 by omega), inR_nI (show ι < 2 ^ 31 by omega), inR_nI (show ξ < 2 ^ 31 by omega), hq2, show π < 8 by omega, show θ < 8 by omega]
                                                          exact F.1 _ _ _ _ _ rfl rfl (dx dX7_copy 104 rfl) kh274 (show some (vi (-2)) = some (vi (copA g (nI π) (nI θ) (nI ι) (nI ξ) (nI ν))) ∧ MilAt h274 k v ∧ MshAt h274 k (copG g (nI π) (nI θ) (nI ι) (nI ξ) (nI ν)) ∧ Kt k h h274 from by rw [eA, eG]; exact ⟨rfl, mh274, hs.kp ph274, ph274.kt⟩)))
                                  ·
                                    have c252 : ¬ xI h (k + 2) π = nI τ2 := c252
                                    refine r_aload_n C (dx dX7_copy 49 rfl) rfl ?_
                                    refine r_bipush (v := -3) C (dx dX7_copy 50 rfl) rfl ?_
                                    refine r_cv (as := [vi (-3)]) (st := []) C X I_X7_refuse l_X7_83 (e_refuse hm (x := -3) (j := 3) (by decide) (by decide)) (by decide) (Nat.le_of_ble_eq_true rfl) List.prefix_rfl List.prefix_rfl rfl rfl (Nat.le_of_ble_eq_true rfl) rfl (dx dX7_copy 51 rfl) ?_
                                    rintro _ h275 ⟨rfl, m9h275, qh275⟩ kkh275
                                    have mh275 : MilAt h275 k v := m9h275
                                    have ph275 : Kp k h h275 := qh275
                                    have kh275 : xK h275 = xK h := kkh275
                                    have eA : copA g (nI π) (nI θ) i j n = -3 := by simp [copA, copG, copF, cpOk, c1, c3, c202, c204, c206, c229, c252, e01, e11, e21, e31, e41, e51, e61, e71, e02, e12, e22, e32, e42, e52, e62, clN (show π < 2 ^ 31 by omega), clN (show θ < 2 ^ 31 by omega), inR_nI (show π < 2 ^ 31 by omega), inR_nI (show θ < 2 ^ 31 by omega), show π < 8 by omega, show θ < 8 by omega]
                                    have eG : copG g (nI π) (nI θ) i j n = g := by simp [copA, copG, copF, cpOk, c1, c3, c202, c204, c206, c229, c252, e01, e11, e21, e31, e41, e51, e61, e71, e02, e12, e22, e32, e42, e52, e62, clN (show π < 2 ^ 31 by omega), clN (show θ < 2 ^ 31 by omega), inR_nI (show π < 2 ^ 31 by omega), inR_nI (show θ < 2 ^ 31 by omega), show π < 8 by omega, show θ < 8 by omega]
                                    exact F.1 _ _ _ _ _ rfl rfl (dx dX7_copy 52 rfl) kh275 (show some (vi (-3)) = some (vi (copA g (nI π) (nI θ) i j n)) ∧ MilAt h275 k v ∧ MshAt h275 k (copG g (nI π) (nI θ) i j n) ∧ Kt k h h275 from by rw [eA, eG]; exact ⟨rfl, mh275, hs.kp ph275, ph275.kt⟩)))))
        ·
          obtain ⟨e02, e12, e22, e32, e42, e52, e62, e72⟩ := sh_hold hθ a22 a72 a82
          refine r_aload_n C (dx dX7_copy 16 rfl) rfl ?_
          refine g_X7_7 C (dx dX7_copy 17 rfl) ?_
          refine r_iload_n C (dx dX7_copy 18 rfl) rfl ?_
          refine r_iald (j := π) (x := nI 2) C rfl rfl (by decide) rfl (by omega) (dx dX7_copy 19 rfl) a41 ?_
          refine r_iconst (v := nI 2) C (dx dX7_copy 20 rfl) rfl ?_
          refine rn_eq (a := 2) (b := 2) (tgt := 86) C (by omega) (by omega) (dx dX7_copy 21 rfl) (by decide) (fun c276 => ?_) (fun c276 => ?_)
          · first
            | (omega; done)
            | (
                have c276 : 2 = 2 := c276
                refine r_aload_n C (dx dX7_copy 49 rfl) rfl ?_
                refine r_bipush (v := -3) C (dx dX7_copy 50 rfl) rfl ?_
                refine r_cv (as := [vi (-3)]) (st := []) C X I_X7_refuse l_X7_83 (e_refuse hm (x := -3) (j := 3) (by decide) (by decide)) (by decide) (Nat.le_of_ble_eq_true rfl) List.prefix_rfl List.prefix_rfl rfl rfl (Nat.le_of_ble_eq_true rfl) rfl (dx dX7_copy 51 rfl) ?_
                rintro _ h277 ⟨rfl, m9h277, qh277⟩ kkh277
                have mh277 : MilAt h277 k v := m9h277
                have ph277 : Kp k h h277 := qh277
                have kh277 : xK h277 = xK h := kkh277
                have eA : copA g (nI π) (nI θ) i j n = -3 := by simp [copA, copG, copF, cpOk, c1, c3, c276, e01, e11, e21, e31, e41, e51, e61, e71, e02, e12, e22, e32, e42, e52, e62, e72, clN (show π < 2 ^ 31 by omega), clN (show θ < 2 ^ 31 by omega), inR_nI (show π < 2 ^ 31 by omega), inR_nI (show θ < 2 ^ 31 by omega), show π < 8 by omega, show θ < 8 by omega]
                have eG : copG g (nI π) (nI θ) i j n = g := by simp [copA, copG, copF, cpOk, c1, c3, c276, e01, e11, e21, e31, e41, e51, e61, e71, e02, e12, e22, e32, e42, e52, e62, e72, clN (show π < 2 ^ 31 by omega), clN (show θ < 2 ^ 31 by omega), inR_nI (show π < 2 ^ 31 by omega), inR_nI (show θ < 2 ^ 31 by omega), show π < 8 by omega, show θ < 8 by omega]
                exact F.1 _ _ _ _ _ rfl rfl (dx dX7_copy 52 rfl) kh277 (show some (vi (-3)) = some (vi (copA g (nI π) (nI θ) i j n)) ∧ MilAt h277 k v ∧ MshAt h277 k (copG g (nI π) (nI θ) i j n) ∧ Kt k h h277 from by rw [eA, eG]; exact ⟨rfl, mh277, hs.kp ph277, ph277.kt⟩))
          · first
            | (omega; done)
            | (
                have c276 : ¬ 2 = 2 := c276
                refine r_aload_n C (dx dX7_copy 22 rfl) rfl ?_
                refine g_X7_7 C (dx dX7_copy 23 rfl) ?_
                refine r_iload_n C (dx dX7_copy 24 rfl) rfl ?_
                refine r_iald (j := θ) (x := nI 2) C rfl rfl (by decide) rfl (by omega) (dx dX7_copy 25 rfl) a42 ?_
                refine r_iconst (v := nI 2) C (dx dX7_copy 26 rfl) rfl ?_
                refine rn_eq (a := 2) (b := 2) (tgt := 86) C (by omega) (by omega) (dx dX7_copy 27 rfl) (by decide) (fun c278 => ?_) (fun c278 => ?_)
                ·
                  have c278 : 2 = 2 := c278
                  exact absurd c278 c276
                · first
                  | (omega; done)
                  | (
                      have c278 : ¬ 2 = 2 := c278
                      refine r_aload_n C (dx dX7_copy 28 rfl) rfl ?_
                      refine g_X7_7 C (dx dX7_copy 29 rfl) ?_
                      refine r_iload_n C (dx dX7_copy 30 rfl) rfl ?_
                      refine r_iald (j := π) (x := nI 2) C rfl rfl (by decide) rfl (by omega) (dx dX7_copy 31 rfl) a41 ?_
                      refine r_iconst (v := nI 1) C (dx dX7_copy 32 rfl) rfl ?_
                      refine rn_ne (a := 2) (b := 1) (tgt := 93) C (by omega) (by omega) (dx dX7_copy 33 rfl) (by decide) (fun c279 => ?_) (fun c279 => ?_)
                      · first
                        | (omega; done)
                        | (
                            have c279 : ¬ 2 = 1 := c279
                            refine r_aload_n C (dx dX7_copy 53 rfl) rfl ?_
                            refine g_X7_7 C (dx dX7_copy 54 rfl) ?_
                            refine r_iload_n C (dx dX7_copy 55 rfl) rfl ?_
                            refine r_iald (j := π) (x := nI 2) C rfl rfl (by decide) rfl (by omega) (dx dX7_copy 56 rfl) a41 ?_
                            refine r_if_eq (tgt := 111) C (dx dX7_copy 57 rfl) (by decide) (fun c280 => (show False from by revert c280; decide).elim) (fun _ => ?_)
                            refine r_aload_n C (dx dX7_copy 58 rfl) rfl ?_
                            refine g_X7_7 C (dx dX7_copy 59 rfl) ?_
                            refine r_iload_n C (dx dX7_copy 60 rfl) rfl ?_
                            refine r_iald (j := θ) (x := nI 2) C rfl rfl (by decide) rfl (by omega) (dx dX7_copy 61 rfl) a42 ?_
                            refine r_if_ne (tgt := 118) C (dx dX7_copy 62 rfl) (by decide) (fun _ => ?_) (fun c281 => (show False from by revert c281; decide).elim)
                            refine r_iload C (dx dX7_copy 67 rfl) rfl ?_
                            refine r_if_lt (tgt := 181) C (dx dX7_copy 68 rfl) (by decide) (fun c282 => ?_) (fun c282 => ?_)
                            ·
                              have c282 : n < 0 := c282
                              refine r_aload_n C (dx dX7_copy 101 rfl) rfl ?_
                              refine r_bipush (v := -2) C (dx dX7_copy 102 rfl) rfl ?_
                              refine r_cv (as := [vi (-2)]) (st := []) C X I_X7_refuse l_X7_83 (e_refuse hm (x := -2) (j := 2) (by decide) (by decide)) (by decide) (Nat.le_of_ble_eq_true rfl) List.prefix_rfl List.prefix_rfl rfl rfl (Nat.le_of_ble_eq_true rfl) rfl (dx dX7_copy 103 rfl) ?_
                              rintro _ h283 ⟨rfl, m9h283, qh283⟩ kkh283
                              have mh283 : MilAt h283 k v := m9h283
                              have ph283 : Kp k h h283 := qh283
                              have kh283 : xK h283 = xK h := kkh283
                              have eA : copA g (nI π) (nI θ) i j n = -2 := by simp [copA, copG, copF, cpOk, c1, c3, c276, c278, c279, (fun n9 => inR_neg (n := n9) c282 : ∀ n9, inR n n9 = false), c282, e01, e11, e21, e31, e41, e51, e61, e71, e02, e12, e22, e32, e42, e52, e62, e72, clN (show π < 2 ^ 31 by omega), clN (show θ < 2 ^ 31 by omega), inR_nI (show π < 2 ^ 31 by omega), inR_nI (show θ < 2 ^ 31 by omega), show π < 8 by omega, show θ < 8 by omega]
                              have eG : copG g (nI π) (nI θ) i j n = g := by simp [copA, copG, copF, cpOk, c1, c3, c276, c278, c279, (fun n9 => inR_neg (n := n9) c282 : ∀ n9, inR n n9 = false), c282, e01, e11, e21, e31, e41, e51, e61, e71, e02, e12, e22, e32, e42, e52, e62, e72, clN (show π < 2 ^ 31 by omega), clN (show θ < 2 ^ 31 by omega), inR_nI (show π < 2 ^ 31 by omega), inR_nI (show θ < 2 ^ 31 by omega), show π < 8 by omega, show θ < 8 by omega]
                              exact F.1 _ _ _ _ _ rfl rfl (dx dX7_copy 104 rfl) kh283 (show some (vi (-2)) = some (vi (copA g (nI π) (nI θ) i j n)) ∧ MilAt h283 k v ∧ MshAt h283 k (copG g (nI π) (nI θ) i j n) ∧ Kt k h h283 from by rw [eA, eG]; exact ⟨rfl, mh283, hs.kp ph283, ph283.kt⟩)
                            ·
                              have c282 : ¬ n < 0 := c282
                              obtain ⟨ν, hν, rfl⟩ := nI_of c282
                              refine r_iload_n C (dx dX7_copy 69 rfl) rfl ?_
                              refine r_if_lt (tgt := 181) C (dx dX7_copy 70 rfl) (by decide) (fun c284 => ?_) (fun c284 => ?_)
                              ·
                                have c284 : i < 0 := c284
                                refine r_aload_n C (dx dX7_copy 101 rfl) rfl ?_
                                refine r_bipush (v := -2) C (dx dX7_copy 102 rfl) rfl ?_
                                refine r_cv (as := [vi (-2)]) (st := []) C X I_X7_refuse l_X7_83 (e_refuse hm (x := -2) (j := 2) (by decide) (by decide)) (by decide) (Nat.le_of_ble_eq_true rfl) List.prefix_rfl List.prefix_rfl rfl rfl (Nat.le_of_ble_eq_true rfl) rfl (dx dX7_copy 103 rfl) ?_
                                rintro _ h285 ⟨rfl, m9h285, qh285⟩ kkh285
                                have mh285 : MilAt h285 k v := m9h285
                                have ph285 : Kp k h h285 := qh285
                                have kh285 : xK h285 = xK h := kkh285
                                have eA : copA g (nI π) (nI θ) i j (nI ν) = -2 := by simp [copA, copG, copF, cpOk, c1, c3, c276, c278, c279, c282, (fun n9 => inR_neg (n := n9) c284 : ∀ n9, inR i n9 = false), c284, e01, e11, e21, e31, e41, e51, e61, e71, e02, e12, e22, e32, e42, e52, e62, e72, clN (show π < 2 ^ 31 by omega), clN (show θ < 2 ^ 31 by omega), clN (show ν < 2 ^ 31 by omega), inR_nI (show π < 2 ^ 31 by omega), inR_nI (show θ < 2 ^ 31 by omega), inR_nI (show ν < 2 ^ 31 by omega), show π < 8 by omega, show θ < 8 by omega]
                                have eG : copG g (nI π) (nI θ) i j (nI ν) = g := by simp [copA, copG, copF, cpOk, c1, c3, c276, c278, c279, c282, (fun n9 => inR_neg (n := n9) c284 : ∀ n9, inR i n9 = false), c284, e01, e11, e21, e31, e41, e51, e61, e71, e02, e12, e22, e32, e42, e52, e62, e72, clN (show π < 2 ^ 31 by omega), clN (show θ < 2 ^ 31 by omega), clN (show ν < 2 ^ 31 by omega), inR_nI (show π < 2 ^ 31 by omega), inR_nI (show θ < 2 ^ 31 by omega), inR_nI (show ν < 2 ^ 31 by omega), show π < 8 by omega, show θ < 8 by omega]
                                exact F.1 _ _ _ _ _ rfl rfl (dx dX7_copy 104 rfl) kh285 (show some (vi (-2)) = some (vi (copA g (nI π) (nI θ) i j (nI ν))) ∧ MilAt h285 k v ∧ MshAt h285 k (copG g (nI π) (nI θ) i j (nI ν)) ∧ Kt k h h285 from by rw [eA, eG]; exact ⟨rfl, mh285, hs.kp ph285, ph285.kt⟩)
                              ·
                                have c284 : ¬ i < 0 := c284
                                obtain ⟨ι, hι, rfl⟩ := nI_of c284
                                refine r_iload C (dx dX7_copy 71 rfl) rfl ?_
                                refine r_if_lt (tgt := 181) C (dx dX7_copy 72 rfl) (by decide) (fun c286 => ?_) (fun c286 => ?_)
                                ·
                                  have c286 : j < 0 := c286
                                  refine r_aload_n C (dx dX7_copy 101 rfl) rfl ?_
                                  refine r_bipush (v := -2) C (dx dX7_copy 102 rfl) rfl ?_
                                  refine r_cv (as := [vi (-2)]) (st := []) C X I_X7_refuse l_X7_83 (e_refuse hm (x := -2) (j := 2) (by decide) (by decide)) (by decide) (Nat.le_of_ble_eq_true rfl) List.prefix_rfl List.prefix_rfl rfl rfl (Nat.le_of_ble_eq_true rfl) rfl (dx dX7_copy 103 rfl) ?_
                                  rintro _ h287 ⟨rfl, m9h287, qh287⟩ kkh287
                                  have mh287 : MilAt h287 k v := m9h287
                                  have ph287 : Kp k h h287 := qh287
                                  have kh287 : xK h287 = xK h := kkh287
                                  have eA : copA g (nI π) (nI θ) (nI ι) j (nI ν) = -2 := by simp [copA, copG, copF, cpOk, c1, c3, c276, c278, c279, c282, c284, (fun n9 => inR_neg (n := n9) c286 : ∀ n9, inR j n9 = false), c286, e01, e11, e21, e31, e41, e51, e61, e71, e02, e12, e22, e32, e42, e52, e62, e72, clN (show π < 2 ^ 31 by omega), clN (show θ < 2 ^ 31 by omega), clN (show ν < 2 ^ 31 by omega), clN (show ι < 2 ^ 31 by omega), inR_nI (show π < 2 ^ 31 by omega), inR_nI (show θ < 2 ^ 31 by omega), inR_nI (show ν < 2 ^ 31 by omega), inR_nI (show ι < 2 ^ 31 by omega), show π < 8 by omega, show θ < 8 by omega]
                                  have eG : copG g (nI π) (nI θ) (nI ι) j (nI ν) = g := by simp [copA, copG, copF, cpOk, c1, c3, c276, c278, c279, c282, c284, (fun n9 => inR_neg (n := n9) c286 : ∀ n9, inR j n9 = false), c286, e01, e11, e21, e31, e41, e51, e61, e71, e02, e12, e22, e32, e42, e52, e62, e72, clN (show π < 2 ^ 31 by omega), clN (show θ < 2 ^ 31 by omega), clN (show ν < 2 ^ 31 by omega), clN (show ι < 2 ^ 31 by omega), inR_nI (show π < 2 ^ 31 by omega), inR_nI (show θ < 2 ^ 31 by omega), inR_nI (show ν < 2 ^ 31 by omega), inR_nI (show ι < 2 ^ 31 by omega), show π < 8 by omega, show θ < 8 by omega]
                                  exact F.1 _ _ _ _ _ rfl rfl (dx dX7_copy 104 rfl) kh287 (show some (vi (-2)) = some (vi (copA g (nI π) (nI θ) (nI ι) j (nI ν))) ∧ MilAt h287 k v ∧ MshAt h287 k (copG g (nI π) (nI θ) (nI ι) j (nI ν)) ∧ Kt k h h287 from by rw [eA, eG]; exact ⟨rfl, mh287, hs.kp ph287, ph287.kt⟩)
                                ·
                                  have c286 : ¬ j < 0 := c286
                                  obtain ⟨ξ, hξ, rfl⟩ := nI_of c286
                                  refine r_iload C (dx dX7_copy 73 rfl) rfl ?_
                                  refine r_aload_n C (dx dX7_copy 74 rfl) rfl ?_
                                  refine g_X7_16 C (dx dX7_copy 75 rfl) ?_
                                  refine r_iload_n C (dx dX7_copy 76 rfl) rfl ?_
                                  refine r_iald (j := π) (x := xI h (k + 3) π) C rfl rfl (by decide) rfl (by omega) (dx dX7_copy 77 rfl) rfl ?_
                                  refine r_icmp_gt (tgt := 181) C (dx dX7_copy 78 rfl) (by decide) (fun c288 => ?_) (fun c288 => ?_)
                                  ·
                                    have c288 : xI h (k + 3) π < nI ν := c288
                                    refine r_aload_n C (dx dX7_copy 101 rfl) rfl ?_
                                    refine r_bipush (v := -2) C (dx dX7_copy 102 rfl) rfl ?_
                                    refine r_cv (as := [vi (-2)]) (st := []) C X I_X7_refuse l_X7_83 (e_refuse hm (x := -2) (j := 2) (by decide) (by decide)) (by decide) (Nat.le_of_ble_eq_true rfl) List.prefix_rfl List.prefix_rfl rfl rfl (Nat.le_of_ble_eq_true rfl) rfl (dx dX7_copy 103 rfl) ?_
                                    rintro _ h289 ⟨rfl, m9h289, qh289⟩ kkh289
                                    have mh289 : MilAt h289 k v := m9h289
                                    have ph289 : Kp k h h289 := qh289
                                    have kh289 : xK h289 = xK h := kkh289
                                    have eA : copA g (nI π) (nI θ) (nI ι) (nI ξ) (nI ν) = -2 := by (have hq : ¬ (ι + ν ≤ ν1 ∧ ξ + ν ≤ ν2) := by omega); (have hq2 := cp_row e31 e32 (i := ι) (j := ξ) (n := ν) (by omega) (by omega) (by omega) (by omega) (by omega)); rw [decide_eq_false hq] at hq2; simp [copA, copG, copF, c1, c3, c276, c278, c279, c282, c284, c286, c288, e01, e11, e21, e31, e41, e51, e61, e71, e02, e12, e22, e32, e42, e52, e62, e72, clN (show π < 2 ^ 31 by omega), clN (show θ < 2 ^ 31 by omega), clN (show ν < 2 ^ 31 by omega), clN (show ι < 2 ^ 31 by omega), clN (show ξ < 2 ^ 31 by omega), inR_nI (show π < 2 ^ 31 by omega), inR_nI (show θ < 2 ^ 31 by omega), inR_nI (show ν < 2 ^ 31 by omega), inR_nI (show ι < 2 ^ 31 by omega), inR_nI (show ξ < 2 ^ 31 by omega), hq2, show π < 8 by omega, show θ < 8 by omega]
                                    have eG : copG g (nI π) (nI θ) (nI ι) (nI ξ) (nI ν) = g := by (have hq : ¬ (ι + ν ≤ ν1 ∧ ξ + ν ≤ ν2) := by omega); (have hq2 := cp_row e31 e32 (i := ι) (j := ξ) (n := ν) (by omega) (by omega) (by omega) (by omega) (by omega)); rw [decide_eq_false hq] at hq2; simp [copA, copG, copF, c1, c3, c276, c278, c279, c282, c284, c286, c288, e01, e11, e21, e31, e41, e51, e61, e71, e02, e12, e22, e32, e42, e52, e62, e72, clN (show π < 2 ^ 31 by omega), clN (show θ < 2 ^ 31 by omega), clN (show ν < 2 ^ 31 by omega), clN (show ι < 2 ^ 31 by omega), clN (show ξ < 2 ^ 31 by omega), inR_nI (show π < 2 ^ 31 by omega), inR_nI (show θ < 2 ^ 31 by omega), inR_nI (show ν < 2 ^ 31 by omega), inR_nI (show ι < 2 ^ 31 by omega), inR_nI (show ξ < 2 ^ 31 by omega), hq2, show π < 8 by omega, show θ < 8 by omega]
                                    exact F.1 _ _ _ _ _ rfl rfl (dx dX7_copy 104 rfl) kh289 (show some (vi (-2)) = some (vi (copA g (nI π) (nI θ) (nI ι) (nI ξ) (nI ν))) ∧ MilAt h289 k v ∧ MshAt h289 k (copG g (nI π) (nI θ) (nI ι) (nI ξ) (nI ν)) ∧ Kt k h h289 from by rw [eA, eG]; exact ⟨rfl, mh289, hs.kp ph289, ph289.kt⟩)
                                  ·
                                    have c288 : ¬ xI h (k + 3) π < nI ν := c288
                                    refine r_iload C (dx dX7_copy 79 rfl) rfl ?_
                                    refine r_aload_n C (dx dX7_copy 80 rfl) rfl ?_
                                    refine g_X7_16 C (dx dX7_copy 81 rfl) ?_
                                    refine r_iload_n C (dx dX7_copy 82 rfl) rfl ?_
                                    refine r_iald (j := θ) (x := xI h (k + 3) θ) C rfl rfl (by decide) rfl (by omega) (dx dX7_copy 83 rfl) rfl ?_
                                    refine r_icmp_gt (tgt := 181) C (dx dX7_copy 84 rfl) (by decide) (fun c290 => ?_) (fun c290 => ?_)
                                    ·
                                      have c290 : xI h (k + 3) θ < nI ν := c290
                                      refine r_aload_n C (dx dX7_copy 101 rfl) rfl ?_
                                      refine r_bipush (v := -2) C (dx dX7_copy 102 rfl) rfl ?_
                                      refine r_cv (as := [vi (-2)]) (st := []) C X I_X7_refuse l_X7_83 (e_refuse hm (x := -2) (j := 2) (by decide) (by decide)) (by decide) (Nat.le_of_ble_eq_true rfl) List.prefix_rfl List.prefix_rfl rfl rfl (Nat.le_of_ble_eq_true rfl) rfl (dx dX7_copy 103 rfl) ?_
                                      rintro _ h291 ⟨rfl, m9h291, qh291⟩ kkh291
                                      have mh291 : MilAt h291 k v := m9h291
                                      have ph291 : Kp k h h291 := qh291
                                      have kh291 : xK h291 = xK h := kkh291
                                      have eA : copA g (nI π) (nI θ) (nI ι) (nI ξ) (nI ν) = -2 := by (have hq : ¬ (ι + ν ≤ ν1 ∧ ξ + ν ≤ ν2) := by omega); (have hq2 := cp_row e31 e32 (i := ι) (j := ξ) (n := ν) (by omega) (by omega) (by omega) (by omega) (by omega)); rw [decide_eq_false hq] at hq2; simp [copA, copG, copF, c1, c3, c276, c278, c279, c282, c284, c286, c288, c290, e01, e11, e21, e31, e41, e51, e61, e71, e02, e12, e22, e32, e42, e52, e62, e72, clN (show π < 2 ^ 31 by omega), clN (show θ < 2 ^ 31 by omega), clN (show ν < 2 ^ 31 by omega), clN (show ι < 2 ^ 31 by omega), clN (show ξ < 2 ^ 31 by omega), inR_nI (show π < 2 ^ 31 by omega), inR_nI (show θ < 2 ^ 31 by omega), inR_nI (show ν < 2 ^ 31 by omega), inR_nI (show ι < 2 ^ 31 by omega), inR_nI (show ξ < 2 ^ 31 by omega), hq2, show π < 8 by omega, show θ < 8 by omega]
                                      have eG : copG g (nI π) (nI θ) (nI ι) (nI ξ) (nI ν) = g := by (have hq : ¬ (ι + ν ≤ ν1 ∧ ξ + ν ≤ ν2) := by omega); (have hq2 := cp_row e31 e32 (i := ι) (j := ξ) (n := ν) (by omega) (by omega) (by omega) (by omega) (by omega)); rw [decide_eq_false hq] at hq2; simp [copA, copG, copF, c1, c3, c276, c278, c279, c282, c284, c286, c288, c290, e01, e11, e21, e31, e41, e51, e61, e71, e02, e12, e22, e32, e42, e52, e62, e72, clN (show π < 2 ^ 31 by omega), clN (show θ < 2 ^ 31 by omega), clN (show ν < 2 ^ 31 by omega), clN (show ι < 2 ^ 31 by omega), clN (show ξ < 2 ^ 31 by omega), inR_nI (show π < 2 ^ 31 by omega), inR_nI (show θ < 2 ^ 31 by omega), inR_nI (show ν < 2 ^ 31 by omega), inR_nI (show ι < 2 ^ 31 by omega), inR_nI (show ξ < 2 ^ 31 by omega), hq2, show π < 8 by omega, show θ < 8 by omega]
                                      exact F.1 _ _ _ _ _ rfl rfl (dx dX7_copy 104 rfl) kh291 (show some (vi (-2)) = some (vi (copA g (nI π) (nI θ) (nI ι) (nI ξ) (nI ν))) ∧ MilAt h291 k v ∧ MshAt h291 k (copG g (nI π) (nI θ) (nI ι) (nI ξ) (nI ν)) ∧ Kt k h h291 from by rw [eA, eG]; exact ⟨rfl, mh291, hs.kp ph291, ph291.kt⟩)
                                    ·
                                      have c290 : ¬ xI h (k + 3) θ < nI ν := c290
                                      refine r_iload_n C (dx dX7_copy 85 rfl) rfl ?_
                                      refine r_aload_n C (dx dX7_copy 86 rfl) rfl ?_
                                      refine g_X7_16 C (dx dX7_copy 87 rfl) ?_
                                      refine r_iload_n C (dx dX7_copy 88 rfl) rfl ?_
                                      refine r_iald (j := π) (x := xI h (k + 3) π) C rfl rfl (by decide) rfl (by omega) (dx dX7_copy 89 rfl) rfl ?_
                                      refine r_iload C (dx dX7_copy 90 rfl) rfl ?_
                                      refine r_isub C (dx dX7_copy 91 rfl) ?_
                                      refine r_icmp_gt (tgt := 181) C (dx dX7_copy 92 rfl) (by decide) (fun c292 => ?_) (fun c292 => ?_)
                                      ·
                                        have c292 : (xI h (k + 3) π) - (nI ν) < nI ι := c292
                                        refine r_aload_n C (dx dX7_copy 101 rfl) rfl ?_
                                        refine r_bipush (v := -2) C (dx dX7_copy 102 rfl) rfl ?_
                                        refine r_cv (as := [vi (-2)]) (st := []) C X I_X7_refuse l_X7_83 (e_refuse hm (x := -2) (j := 2) (by decide) (by decide)) (by decide) (Nat.le_of_ble_eq_true rfl) List.prefix_rfl List.prefix_rfl rfl rfl (Nat.le_of_ble_eq_true rfl) rfl (dx dX7_copy 103 rfl) ?_
                                        rintro _ h293 ⟨rfl, m9h293, qh293⟩ kkh293
                                        have mh293 : MilAt h293 k v := m9h293
                                        have ph293 : Kp k h h293 := qh293
                                        have kh293 : xK h293 = xK h := kkh293
                                        have eA : copA g (nI π) (nI θ) (nI ι) (nI ξ) (nI ν) = -2 := by (have hq : ¬ (ι + ν ≤ ν1 ∧ ξ + ν ≤ ν2) := by omega); (have hq2 := cp_row e31 e32 (i := ι) (j := ξ) (n := ν) (by omega) (by omega) (by omega) (by omega) (by omega)); rw [decide_eq_false hq] at hq2; simp [copA, copG, copF, c1, c3, c276, c278, c279, c282, c284, c286, c288, c290, c292, e01, e11, e21, e31, e41, e51, e61, e71, e02, e12, e22, e32, e42, e52, e62, e72, clN (show π < 2 ^ 31 by omega), clN (show θ < 2 ^ 31 by omega), clN (show ν < 2 ^ 31 by omega), clN (show ι < 2 ^ 31 by omega), clN (show ξ < 2 ^ 31 by omega), inR_nI (show π < 2 ^ 31 by omega), inR_nI (show θ < 2 ^ 31 by omega), inR_nI (show ν < 2 ^ 31 by omega), inR_nI (show ι < 2 ^ 31 by omega), inR_nI (show ξ < 2 ^ 31 by omega), hq2, show π < 8 by omega, show θ < 8 by omega]
                                        have eG : copG g (nI π) (nI θ) (nI ι) (nI ξ) (nI ν) = g := by (have hq : ¬ (ι + ν ≤ ν1 ∧ ξ + ν ≤ ν2) := by omega); (have hq2 := cp_row e31 e32 (i := ι) (j := ξ) (n := ν) (by omega) (by omega) (by omega) (by omega) (by omega)); rw [decide_eq_false hq] at hq2; simp [copA, copG, copF, c1, c3, c276, c278, c279, c282, c284, c286, c288, c290, c292, e01, e11, e21, e31, e41, e51, e61, e71, e02, e12, e22, e32, e42, e52, e62, e72, clN (show π < 2 ^ 31 by omega), clN (show θ < 2 ^ 31 by omega), clN (show ν < 2 ^ 31 by omega), clN (show ι < 2 ^ 31 by omega), clN (show ξ < 2 ^ 31 by omega), inR_nI (show π < 2 ^ 31 by omega), inR_nI (show θ < 2 ^ 31 by omega), inR_nI (show ν < 2 ^ 31 by omega), inR_nI (show ι < 2 ^ 31 by omega), inR_nI (show ξ < 2 ^ 31 by omega), hq2, show π < 8 by omega, show θ < 8 by omega]
                                        exact F.1 _ _ _ _ _ rfl rfl (dx dX7_copy 104 rfl) kh293 (show some (vi (-2)) = some (vi (copA g (nI π) (nI θ) (nI ι) (nI ξ) (nI ν))) ∧ MilAt h293 k v ∧ MshAt h293 k (copG g (nI π) (nI θ) (nI ι) (nI ξ) (nI ν)) ∧ Kt k h h293 from by rw [eA, eG]; exact ⟨rfl, mh293, hs.kp ph293, ph293.kt⟩)
                                      ·
                                        have c292 : ¬ (xI h (k + 3) π) - (nI ν) < nI ι := c292
                                        refine r_iload C (dx dX7_copy 93 rfl) rfl ?_
                                        refine r_aload_n C (dx dX7_copy 94 rfl) rfl ?_
                                        refine g_X7_16 C (dx dX7_copy 95 rfl) ?_
                                        refine r_iload_n C (dx dX7_copy 96 rfl) rfl ?_
                                        refine r_iald (j := θ) (x := xI h (k + 3) θ) C rfl rfl (by decide) rfl (by omega) (dx dX7_copy 97 rfl) rfl ?_
                                        refine r_iload C (dx dX7_copy 98 rfl) rfl ?_
                                        refine r_isub C (dx dX7_copy 99 rfl) ?_
                                        refine r_icmp_le (tgt := 188) C (dx dX7_copy 100 rfl) (by decide) (fun c294 => ?_) (fun c294 => ?_)
                                        ·
                                          have c294 : nI ξ ≤ (xI h (k + 3) θ) - (nI ν) := c294
                                          refine r_iconst (v := nI 0) C (dx dX7_copy 105 rfl) rfl ?_
                                          refine r_istore (ls' := [(0, vr 7 k), (1, vi (nI π)), (2, vi (nI θ)), (3, vi (nI ι)), (4, vi (nI ξ)), (5, vi (nI ν)), (6, vi (nI 0))]) C (dx dX7_copy 106 rfl) (by decide) [1, 2, 3, 4, 5, 6, 0] rfl ?_
                                          refine loopU (Φ := fun p => ∀ h9, (∀ t, t < p → xL h9 (k + 13) t = gE g π (ι + t)) → Fr (k + 13) (k + 14) h h9 → xK h9 = xK h → Rr G 191 [(0, vr 7 k), (1, vi (nI π)), (2, vi (nI θ)), (3, vi (nI ι)), (4, vi (nI ξ)), (5, vi (nI ν)), (6, vi (nI p))] [] h9) (N := ν) ?_ ?_ 0 (by omega) _ (fun i hi => absurd hi (by omega)) Fr.rf rfl
                                          ·
                                            intro h9 q9 f9 k9
                                            refine r_iload C (dx dX7_copy 107 rfl) rfl ?_
                                            refine r_iload C (dx dX7_copy 108 rfl) rfl ?_
                                            refine rn_ge (a := ν) (b := ν) (tgt := 222) C (by omega) (by omega) (dx dX7_copy 109 rfl) (by decide) (fun c295 => ?_) (fun c295 => ?_)
                                            · first
                                              | (omega; done)
                                              | (
                                                  have c295 : ν ≤ ν := c295
                                                  refine r_iconst (v := nI 0) C (dx dX7_copy 124 rfl) rfl ?_
                                                  refine r_istore (ls' := [(0, vr 7 k), (1, vi (nI π)), (2, vi (nI θ)), (3, vi (nI ι)), (4, vi (nI ξ)), (5, vi (nI ν)), (6, vi (nI 0))]) C (dx dX7_copy 125 rfl) (by decide) [1, 2, 3, 4, 5, 6, 0] rfl ?_
                                                  have r9 := MsR.fr (show MsR h k g θ from ⟨_, _, a12, a22, a32, a42, a52, a62, a72, a82⟩) hθ f9
                                                  refine loopU (Φ := fun p => ∀ h8, (∀ i, i < 40 → xL h8 (k + 5 + θ) i = if ξ ≤ i ∧ i < ξ + p then gE g π (ι + (i - ξ)) else gE g θ i) → (∀ t, t < ν → xL h8 (k + 13) t = gE g π (ι + t)) → Fr (k + 5 + θ) (k + 5 + θ + 1) h9 h8 → xK h8 = xK h → Rr G 225 [(0, vr 7 k), (1, vi (nI π)), (2, vi (nI θ)), (3, vi (nI ι)), (4, vi (nI ξ)), (5, vi (nI ν)), (6, vi (nI p))] [] h8) (N := ν) ?_ ?_ 0 (by omega) _ (fun i hi => by rw [if_neg (by omega), f9.L (by omega)]; exact a82 i hi) q9 Fr.rf k9
                                                  ·
                                                    intro h8 q8 u8 f8 k8
                                                    have s9 : MshAt h8 k (pCp g π θ ι ξ ν) := msh_els (hs.mv f9) hθ r9 f8 (fun i hi => by rw [q8 i hi]; rfl)
                                                    have g9 : Fr (k + 1) (k + 16) h h8 := (f9.mono (by omega) (by omega)).tr (f8.mono (by omega) (by omega))
                                                    refine r_iload C (dx dX7_copy 126 rfl) rfl ?_
                                                    refine r_iload C (dx dX7_copy 127 rfl) rfl ?_
                                                    refine rn_ge (a := ν) (b := ν) (tgt := 257) C (by omega) (by omega) (dx dX7_copy 128 rfl) (by decide) (fun c296 => ?_) (fun c296 => ?_)
                                                    · first
                                                      | (omega; done)
                                                      | (
                                                          have c296 : ν ≤ ν := c296
                                                          refine r_iload C (dx dX7_copy 143 rfl) rfl ?_
                                                          have eA : copA g (nI π) (nI θ) (nI ι) (nI ξ) (nI ν) = nI ν := by simp [copA, copG, copF, c1, c3, c276, c278, c279, c282, c284, c286, c288, c290, c292, c294, c295, c296, e01, e11, e21, e31, e41, e51, e61, e71, e02, e12, e22, e32, e42, e52, e62, e72, clN (show π < 2 ^ 31 by omega), clN (show θ < 2 ^ 31 by omega), clN (show ν < 2 ^ 31 by omega), clN (show ι < 2 ^ 31 by omega), clN (show ξ < 2 ^ 31 by omega), inR_nI (show π < 2 ^ 31 by omega), inR_nI (show θ < 2 ^ 31 by omega), inR_nI (show ν < 2 ^ 31 by omega), inR_nI (show ι < 2 ^ 31 by omega), inR_nI (show ξ < 2 ^ 31 by omega), show π < 8 by omega, show θ < 8 by omega, cp_row e31 e32 (by omega) (by omega) (show ι < 2 ^ 31 by omega) (show ξ < 2 ^ 31 by omega) (show ν < 2 ^ 31 by omega), show ι + ν ≤ ν1 by omega, show ξ + ν ≤ ν2 by omega]
                                                          have eG : copG g (nI π) (nI θ) (nI ι) (nI ξ) (nI ν) = pCp g π θ ι ξ ν := by simp [copA, copG, copF, c1, c3, c276, c278, c279, c282, c284, c286, c288, c290, c292, c294, c295, c296, e01, e11, e21, e31, e41, e51, e61, e71, e02, e12, e22, e32, e42, e52, e62, e72, clN (show π < 2 ^ 31 by omega), clN (show θ < 2 ^ 31 by omega), clN (show ν < 2 ^ 31 by omega), clN (show ι < 2 ^ 31 by omega), clN (show ξ < 2 ^ 31 by omega), inR_nI (show π < 2 ^ 31 by omega), inR_nI (show θ < 2 ^ 31 by omega), inR_nI (show ν < 2 ^ 31 by omega), inR_nI (show ι < 2 ^ 31 by omega), inR_nI (show ξ < 2 ^ 31 by omega), show π < 8 by omega, show θ < 8 by omega, cp_row e31 e32 (by omega) (by omega) (show ι < 2 ^ 31 by omega) (show ξ < 2 ^ 31 by omega) (show ν < 2 ^ 31 by omega), show ι + ν ≤ ν1 by omega, show ξ + ν ≤ ν2 by omega]
                                                          exact F.1 _ _ _ _ _ rfl rfl (dx dX7_copy 144 rfl) k8 (show some (vi (nI ν)) = some (vi (copA g (nI π) (nI θ) (nI ι) (nI ξ) (nI ν))) ∧ MilAt h8 k v ∧ MshAt h8 k (copG g (nI π) (nI θ) (nI ι) (nI ξ) (nI ν)) ∧ Kt k h h8 from by rw [eA, eG]; exact ⟨rfl, hm.fr g9 (by omega), s9, (Kt.fr g9 (by omega) (by omega))⟩))
                                                    · first
                                                      | (omega; done)
                                                  ·
                                                    intro p hp ih h8 q8 u8 f8 k8
                                                    refine r_iload C (dx dX7_copy 126 rfl) rfl ?_
                                                    refine r_iload C (dx dX7_copy 127 rfl) rfl ?_
                                                    refine rn_ge (a := p) (b := ν) (tgt := 257) C (by omega) (by omega) (dx dX7_copy 128 rfl) (by decide) (fun c297 => ?_) (fun c297 => ?_)
                                                    · first
                                                      | (omega; done)
                                                      | (
                                                          have c297 : ν ≤ p := c297
                                                          refine r_iload C (dx dX7_copy 143 rfl) rfl ?_
                                                          have eA : copA g (nI π) (nI θ) (nI ι) (nI ξ) (nI ν) = nI ν := by simp [copA, copG, copF, c1, c3, c276, c278, c279, c282, c284, c286, c288, c290, c292, c294, c295, c297, e01, e11, e21, e31, e41, e51, e61, e71, e02, e12, e22, e32, e42, e52, e62, e72, clN (show π < 2 ^ 31 by omega), clN (show θ < 2 ^ 31 by omega), clN (show ν < 2 ^ 31 by omega), clN (show ι < 2 ^ 31 by omega), clN (show ξ < 2 ^ 31 by omega), inR_nI (show π < 2 ^ 31 by omega), inR_nI (show θ < 2 ^ 31 by omega), inR_nI (show ν < 2 ^ 31 by omega), inR_nI (show ι < 2 ^ 31 by omega), inR_nI (show ξ < 2 ^ 31 by omega), show π < 8 by omega, show θ < 8 by omega, cp_row e31 e32 (by omega) (by omega) (show ι < 2 ^ 31 by omega) (show ξ < 2 ^ 31 by omega) (show ν < 2 ^ 31 by omega), show ι + ν ≤ ν1 by omega, show ξ + ν ≤ ν2 by omega]
                                                          have eG : copG g (nI π) (nI θ) (nI ι) (nI ξ) (nI ν) = g := by simp [copA, copG, copF, c1, c3, c276, c278, c279, c282, c284, c286, c288, c290, c292, c294, c295, c297, e01, e11, e21, e31, e41, e51, e61, e71, e02, e12, e22, e32, e42, e52, e62, e72, clN (show π < 2 ^ 31 by omega), clN (show θ < 2 ^ 31 by omega), clN (show ν < 2 ^ 31 by omega), clN (show ι < 2 ^ 31 by omega), clN (show ξ < 2 ^ 31 by omega), inR_nI (show π < 2 ^ 31 by omega), inR_nI (show θ < 2 ^ 31 by omega), inR_nI (show ν < 2 ^ 31 by omega), inR_nI (show ι < 2 ^ 31 by omega), inR_nI (show ξ < 2 ^ 31 by omega), show π < 8 by omega, show θ < 8 by omega, cp_row e31 e32 (by omega) (by omega) (show ι < 2 ^ 31 by omega) (show ξ < 2 ^ 31 by omega) (show ν < 2 ^ 31 by omega), show ι + ν ≤ ν1 by omega, show ξ + ν ≤ ν2 by omega]
                                                          exact F.1 _ _ _ _ _ rfl rfl (dx dX7_copy 144 rfl) k8 (show some (vi (nI ν)) = some (vi (copA g (nI π) (nI θ) (nI ι) (nI ξ) (nI ν))) ∧ MilAt h8 k v ∧ MshAt h8 k (copG g (nI π) (nI θ) (nI ι) (nI ξ) (nI ν)) ∧ Kt k h h8 from by rw [eA, eG]; exact ⟨rfl, hm, hs, Kt.rf⟩))
                                                    · first
                                                      | (omega; done)
                                                      | (
                                                          have c297 : p < ν := c297
                                                          refine r_aload_n C (dx dX7_copy 129 rfl) rfl ?_
                                                          refine g_X7_21 C (dx dX7_copy 130 rfl) ?_
                                                          refine r_iload_n C (dx dX7_copy 131 rfl) rfl ?_
                                                          refine r_aald5 (j := θ) C rfl rfl (by decide) rfl (by omega) (dx dX7_copy 132 rfl) ?_
                                                          refine r_iload C (dx dX7_copy 133 rfl) rfl ?_
                                                          refine r_iload C (dx dX7_copy 134 rfl) rfl ?_
                                                          refine rn_iadd (a := ξ) (b := p) C (dx dX7_copy 135 rfl) ?_
                                                          refine r_aload_n C (dx dX7_copy 136 rfl) rfl ?_
                                                          refine g_X7_24 C (dx dX7_copy 137 rfl) ?_
                                                          refine r_iload C (dx dX7_copy 138 rfl) rfl ?_
                                                          refine r_lald (j := p) (x := gE g π (ι + p)) C rfl rfl (by decide) rfl (by omega) (dx dX7_copy 139 rfl) (u8 _ (by omega)) ?_
                                                          refine r_last (j := ξ + p) C rfl rfl (by decide) rfl (by omega) (dx dX7_copy 140 rfl) ?_
                                                          refine rn_iinc (a := p) (k := 1) (ls' := [(0, vr 7 k), (1, vi (nI π)), (2, vi (nI θ)), (3, vi (nI ι)), (4, vi (nI ξ)), (5, vi (nI ν)), (6, vi (nI (p + 1)))]) C (dx dX7_copy 141 rfl) rfl rfl (by decide) [1, 2, 3, 4, 5, 6, 0] rfl ?_
                                                          refine r_goto (tgt := 225) C (dx dX7_copy 142 rfl) (by decide) ?_
                                                          exact ih _ (fun i hi => by rw [sL_at]; exact cp2_step q8 i hi) (fun t ht => by rw [sL_ne (by omega)]; exact u8 t ht) (f8.tr (Fr.sL (by omega) (by omega))) k8))
                                            · first
                                              | (omega; done)
                                          ·
                                            intro p hp ih h9 q9 f9 k9
                                            refine r_iload C (dx dX7_copy 107 rfl) rfl ?_
                                            refine r_iload C (dx dX7_copy 108 rfl) rfl ?_
                                            refine rn_ge (a := p) (b := ν) (tgt := 222) C (by omega) (by omega) (dx dX7_copy 109 rfl) (by decide) (fun c298 => ?_) (fun c298 => ?_)
                                            · first
                                              | (omega; done)
                                              | (
                                                  have c298 : ν ≤ p := c298
                                                  refine r_iconst (v := nI 0) C (dx dX7_copy 124 rfl) rfl ?_
                                                  refine r_istore (ls' := [(0, vr 7 k), (1, vi (nI π)), (2, vi (nI θ)), (3, vi (nI ι)), (4, vi (nI ξ)), (5, vi (nI ν)), (6, vi (nI 0))]) C (dx dX7_copy 125 rfl) (by decide) [1, 2, 3, 4, 5, 6, 0] rfl ?_
                                                  have r9 := MsR.fr (show MsR h k g θ from ⟨_, _, a12, a22, a32, a42, a52, a62, a72, a82⟩) hθ f9
                                                  refine loopU (Φ := fun p => ∀ h8, (∀ i, i < 40 → xL h8 (k + 5 + θ) i = if ξ ≤ i ∧ i < ξ + p then gE g π (ι + (i - ξ)) else gE g θ i) → (∀ t, t < ν → xL h8 (k + 13) t = gE g π (ι + t)) → Fr (k + 5 + θ) (k + 5 + θ + 1) h9 h8 → xK h8 = xK h → Rr G 225 [(0, vr 7 k), (1, vi (nI π)), (2, vi (nI θ)), (3, vi (nI ι)), (4, vi (nI ξ)), (5, vi (nI ν)), (6, vi (nI p))] [] h8) (N := ν) ?_ ?_ 0 (by omega) _ (fun i hi => by rw [if_neg (by omega), f9.L (by omega)]; exact a82 i hi) q9 Fr.rf k9
                                                  ·
                                                    intro h8 q8 u8 f8 k8
                                                    have s9 : MshAt h8 k (pCp g π θ ι ξ ν) := msh_els (hs.mv f9) hθ r9 f8 (fun i hi => by rw [q8 i hi]; rfl)
                                                    have g9 : Fr (k + 1) (k + 16) h h8 := (f9.mono (by omega) (by omega)).tr (f8.mono (by omega) (by omega))
                                                    refine r_iload C (dx dX7_copy 126 rfl) rfl ?_
                                                    refine r_iload C (dx dX7_copy 127 rfl) rfl ?_
                                                    refine rn_ge (a := ν) (b := ν) (tgt := 257) C (by omega) (by omega) (dx dX7_copy 128 rfl) (by decide) (fun c299 => ?_) (fun c299 => ?_)
                                                    · first
                                                      | (omega; done)
                                                      | (
                                                          have c299 : ν ≤ ν := c299
                                                          refine r_iload C (dx dX7_copy 143 rfl) rfl ?_
                                                          have eA : copA g (nI π) (nI θ) (nI ι) (nI ξ) (nI ν) = nI ν := by simp [copA, copG, copF, c1, c3, c276, c278, c279, c282, c284, c286, c288, c290, c292, c294, c298, c299, e01, e11, e21, e31, e41, e51, e61, e71, e02, e12, e22, e32, e42, e52, e62, e72, clN (show π < 2 ^ 31 by omega), clN (show θ < 2 ^ 31 by omega), clN (show ν < 2 ^ 31 by omega), clN (show ι < 2 ^ 31 by omega), clN (show ξ < 2 ^ 31 by omega), inR_nI (show π < 2 ^ 31 by omega), inR_nI (show θ < 2 ^ 31 by omega), inR_nI (show ν < 2 ^ 31 by omega), inR_nI (show ι < 2 ^ 31 by omega), inR_nI (show ξ < 2 ^ 31 by omega), show π < 8 by omega, show θ < 8 by omega, cp_row e31 e32 (by omega) (by omega) (show ι < 2 ^ 31 by omega) (show ξ < 2 ^ 31 by omega) (show ν < 2 ^ 31 by omega), show ι + ν ≤ ν1 by omega, show ξ + ν ≤ ν2 by omega]
                                                          have eG : copG g (nI π) (nI θ) (nI ι) (nI ξ) (nI ν) = pCp g π θ ι ξ ν := by simp [copA, copG, copF, c1, c3, c276, c278, c279, c282, c284, c286, c288, c290, c292, c294, c298, c299, e01, e11, e21, e31, e41, e51, e61, e71, e02, e12, e22, e32, e42, e52, e62, e72, clN (show π < 2 ^ 31 by omega), clN (show θ < 2 ^ 31 by omega), clN (show ν < 2 ^ 31 by omega), clN (show ι < 2 ^ 31 by omega), clN (show ξ < 2 ^ 31 by omega), inR_nI (show π < 2 ^ 31 by omega), inR_nI (show θ < 2 ^ 31 by omega), inR_nI (show ν < 2 ^ 31 by omega), inR_nI (show ι < 2 ^ 31 by omega), inR_nI (show ξ < 2 ^ 31 by omega), show π < 8 by omega, show θ < 8 by omega, cp_row e31 e32 (by omega) (by omega) (show ι < 2 ^ 31 by omega) (show ξ < 2 ^ 31 by omega) (show ν < 2 ^ 31 by omega), show ι + ν ≤ ν1 by omega, show ξ + ν ≤ ν2 by omega]
                                                          exact F.1 _ _ _ _ _ rfl rfl (dx dX7_copy 144 rfl) k8 (show some (vi (nI ν)) = some (vi (copA g (nI π) (nI θ) (nI ι) (nI ξ) (nI ν))) ∧ MilAt h8 k v ∧ MshAt h8 k (copG g (nI π) (nI θ) (nI ι) (nI ξ) (nI ν)) ∧ Kt k h h8 from by rw [eA, eG]; exact ⟨rfl, hm.fr g9 (by omega), s9, (Kt.fr g9 (by omega) (by omega))⟩))
                                                    · first
                                                      | (omega; done)
                                                  ·
                                                    intro p hp ih h8 q8 u8 f8 k8
                                                    refine r_iload C (dx dX7_copy 126 rfl) rfl ?_
                                                    refine r_iload C (dx dX7_copy 127 rfl) rfl ?_
                                                    refine rn_ge (a := p) (b := ν) (tgt := 257) C (by omega) (by omega) (dx dX7_copy 128 rfl) (by decide) (fun c300 => ?_) (fun c300 => ?_)
                                                    · first
                                                      | (omega; done)
                                                      | (
                                                          have c300 : ν ≤ p := c300
                                                          refine r_iload C (dx dX7_copy 143 rfl) rfl ?_
                                                          have eA : copA g (nI π) (nI θ) (nI ι) (nI ξ) (nI ν) = nI ν := by simp [copA, copG, copF, c1, c3, c276, c278, c279, c282, c284, c286, c288, c290, c292, c294, c298, c300, e01, e11, e21, e31, e41, e51, e61, e71, e02, e12, e22, e32, e42, e52, e62, e72, clN (show π < 2 ^ 31 by omega), clN (show θ < 2 ^ 31 by omega), clN (show ν < 2 ^ 31 by omega), clN (show ι < 2 ^ 31 by omega), clN (show ξ < 2 ^ 31 by omega), inR_nI (show π < 2 ^ 31 by omega), inR_nI (show θ < 2 ^ 31 by omega), inR_nI (show ν < 2 ^ 31 by omega), inR_nI (show ι < 2 ^ 31 by omega), inR_nI (show ξ < 2 ^ 31 by omega), show π < 8 by omega, show θ < 8 by omega, cp_row e31 e32 (by omega) (by omega) (show ι < 2 ^ 31 by omega) (show ξ < 2 ^ 31 by omega) (show ν < 2 ^ 31 by omega), show ι + ν ≤ ν1 by omega, show ξ + ν ≤ ν2 by omega]
                                                          have eG : copG g (nI π) (nI θ) (nI ι) (nI ξ) (nI ν) = g := by simp [copA, copG, copF, c1, c3, c276, c278, c279, c282, c284, c286, c288, c290, c292, c294, c298, c300, e01, e11, e21, e31, e41, e51, e61, e71, e02, e12, e22, e32, e42, e52, e62, e72, clN (show π < 2 ^ 31 by omega), clN (show θ < 2 ^ 31 by omega), clN (show ν < 2 ^ 31 by omega), clN (show ι < 2 ^ 31 by omega), clN (show ξ < 2 ^ 31 by omega), inR_nI (show π < 2 ^ 31 by omega), inR_nI (show θ < 2 ^ 31 by omega), inR_nI (show ν < 2 ^ 31 by omega), inR_nI (show ι < 2 ^ 31 by omega), inR_nI (show ξ < 2 ^ 31 by omega), show π < 8 by omega, show θ < 8 by omega, cp_row e31 e32 (by omega) (by omega) (show ι < 2 ^ 31 by omega) (show ξ < 2 ^ 31 by omega) (show ν < 2 ^ 31 by omega), show ι + ν ≤ ν1 by omega, show ξ + ν ≤ ν2 by omega]
                                                          exact F.1 _ _ _ _ _ rfl rfl (dx dX7_copy 144 rfl) k8 (show some (vi (nI ν)) = some (vi (copA g (nI π) (nI θ) (nI ι) (nI ξ) (nI ν))) ∧ MilAt h8 k v ∧ MshAt h8 k (copG g (nI π) (nI θ) (nI ι) (nI ξ) (nI ν)) ∧ Kt k h h8 from by rw [eA, eG]; exact ⟨rfl, hm, hs, Kt.rf⟩))
                                                    · first
                                                      | (omega; done)
                                                      | (
                                                          have c300 : p < ν := c300
                                                          refine r_aload_n C (dx dX7_copy 129 rfl) rfl ?_
                                                          refine g_X7_21 C (dx dX7_copy 130 rfl) ?_
                                                          refine r_iload_n C (dx dX7_copy 131 rfl) rfl ?_
                                                          refine r_aald5 (j := θ) C rfl rfl (by decide) rfl (by omega) (dx dX7_copy 132 rfl) ?_
                                                          refine r_iload C (dx dX7_copy 133 rfl) rfl ?_
                                                          refine r_iload C (dx dX7_copy 134 rfl) rfl ?_
                                                          refine rn_iadd (a := ξ) (b := p) C (dx dX7_copy 135 rfl) ?_
                                                          refine r_aload_n C (dx dX7_copy 136 rfl) rfl ?_
                                                          refine g_X7_24 C (dx dX7_copy 137 rfl) ?_
                                                          refine r_iload C (dx dX7_copy 138 rfl) rfl ?_
                                                          refine r_lald (j := p) (x := gE g π (ι + p)) C rfl rfl (by decide) rfl (by omega) (dx dX7_copy 139 rfl) (u8 _ (by omega)) ?_
                                                          refine r_last (j := ξ + p) C rfl rfl (by decide) rfl (by omega) (dx dX7_copy 140 rfl) ?_
                                                          refine rn_iinc (a := p) (k := 1) (ls' := [(0, vr 7 k), (1, vi (nI π)), (2, vi (nI θ)), (3, vi (nI ι)), (4, vi (nI ξ)), (5, vi (nI ν)), (6, vi (nI (p + 1)))]) C (dx dX7_copy 141 rfl) rfl rfl (by decide) [1, 2, 3, 4, 5, 6, 0] rfl ?_
                                                          refine r_goto (tgt := 225) C (dx dX7_copy 142 rfl) (by decide) ?_
                                                          exact ih _ (fun i hi => by rw [sL_at]; exact cp2_step q8 i hi) (fun t ht => by rw [sL_ne (by omega)]; exact u8 t ht) (f8.tr (Fr.sL (by omega) (by omega))) k8))
                                            · first
                                              | (omega; done)
                                              | (
                                                  have c298 : p < ν := c298
                                                  refine r_aload_n C (dx dX7_copy 110 rfl) rfl ?_
                                                  refine g_X7_24 C (dx dX7_copy 111 rfl) ?_
                                                  refine r_iload C (dx dX7_copy 112 rfl) rfl ?_
                                                  refine r_aload_n C (dx dX7_copy 113 rfl) rfl ?_
                                                  refine g_X7_21 C (dx dX7_copy 114 rfl) ?_
                                                  refine r_iload_n C (dx dX7_copy 115 rfl) rfl ?_
                                                  refine r_aald5 (j := π) C rfl rfl (by decide) rfl (by omega) (dx dX7_copy 116 rfl) ?_
                                                  refine r_iload_n C (dx dX7_copy 117 rfl) rfl ?_
                                                  refine r_iload C (dx dX7_copy 118 rfl) rfl ?_
                                                  refine rn_iadd (a := ι) (b := p) C (dx dX7_copy 119 rfl) ?_
                                                  refine r_lald (j := ι + p) (x := gE g π (ι + p)) C rfl rfl (by decide) rfl (by omega) (dx dX7_copy 120 rfl) ((f9.L (by omega) _).trans (a81 _ (by omega))) ?_
                                                  refine r_last (j := p) C rfl rfl (by decide) rfl (by omega) (dx dX7_copy 121 rfl) ?_
                                                  refine rn_iinc (a := p) (k := 1) (ls' := [(0, vr 7 k), (1, vi (nI π)), (2, vi (nI θ)), (3, vi (nI ι)), (4, vi (nI ξ)), (5, vi (nI ν)), (6, vi (nI (p + 1)))]) C (dx dX7_copy 122 rfl) rfl rfl (by decide) [1, 2, 3, 4, 5, 6, 0] rfl ?_
                                                  refine r_goto (tgt := 191) C (dx dX7_copy 123 rfl) (by decide) ?_
                                                  exact ih _ (fun t ht => by rw [sL_at]; split; (next e => rw [e]); exact q9 t (by omega)) (f9.tr (Fr.sL (by omega) (by omega))) k9)
                                        ·
                                          have c294 : ¬ nI ξ ≤ (xI h (k + 3) θ) - (nI ν) := c294
                                          refine r_aload_n C (dx dX7_copy 101 rfl) rfl ?_
                                          refine r_bipush (v := -2) C (dx dX7_copy 102 rfl) rfl ?_
                                          refine r_cv (as := [vi (-2)]) (st := []) C X I_X7_refuse l_X7_83 (e_refuse hm (x := -2) (j := 2) (by decide) (by decide)) (by decide) (Nat.le_of_ble_eq_true rfl) List.prefix_rfl List.prefix_rfl rfl rfl (Nat.le_of_ble_eq_true rfl) rfl (dx dX7_copy 103 rfl) ?_
                                          rintro _ h301 ⟨rfl, m9h301, qh301⟩ kkh301
                                          have mh301 : MilAt h301 k v := m9h301
                                          have ph301 : Kp k h h301 := qh301
                                          have kh301 : xK h301 = xK h := kkh301
                                          have eA : copA g (nI π) (nI θ) (nI ι) (nI ξ) (nI ν) = -2 := by (have hq : ¬ (ι + ν ≤ ν1 ∧ ξ + ν ≤ ν2) := by omega); (have hq2 := cp_row e31 e32 (i := ι) (j := ξ) (n := ν) (by omega) (by omega) (by omega) (by omega) (by omega)); rw [decide_eq_false hq] at hq2; simp [copA, copG, copF, c1, c3, c276, c278, c279, c282, c284, c286, c288, c290, c292, c294, e01, e11, e21, e31, e41, e51, e61, e71, e02, e12, e22, e32, e42, e52, e62, e72, clN (show π < 2 ^ 31 by omega), clN (show θ < 2 ^ 31 by omega), clN (show ν < 2 ^ 31 by omega), clN (show ι < 2 ^ 31 by omega), clN (show ξ < 2 ^ 31 by omega), inR_nI (show π < 2 ^ 31 by omega), inR_nI (show θ < 2 ^ 31 by omega), inR_nI (show ν < 2 ^ 31 by omega), inR_nI (show ι < 2 ^ 31 by omega), inR_nI (show ξ < 2 ^ 31 by omega), hq2, show π < 8 by omega, show θ < 8 by omega]
                                          have eG : copG g (nI π) (nI θ) (nI ι) (nI ξ) (nI ν) = g := by (have hq : ¬ (ι + ν ≤ ν1 ∧ ξ + ν ≤ ν2) := by omega); (have hq2 := cp_row e31 e32 (i := ι) (j := ξ) (n := ν) (by omega) (by omega) (by omega) (by omega) (by omega)); rw [decide_eq_false hq] at hq2; simp [copA, copG, copF, c1, c3, c276, c278, c279, c282, c284, c286, c288, c290, c292, c294, e01, e11, e21, e31, e41, e51, e61, e71, e02, e12, e22, e32, e42, e52, e62, e72, clN (show π < 2 ^ 31 by omega), clN (show θ < 2 ^ 31 by omega), clN (show ν < 2 ^ 31 by omega), clN (show ι < 2 ^ 31 by omega), clN (show ξ < 2 ^ 31 by omega), inR_nI (show π < 2 ^ 31 by omega), inR_nI (show θ < 2 ^ 31 by omega), inR_nI (show ν < 2 ^ 31 by omega), inR_nI (show ι < 2 ^ 31 by omega), inR_nI (show ξ < 2 ^ 31 by omega), hq2, show π < 8 by omega, show θ < 8 by omega]
                                          exact F.1 _ _ _ _ _ rfl rfl (dx dX7_copy 104 rfl) kh301 (show some (vi (-2)) = some (vi (copA g (nI π) (nI θ) (nI ι) (nI ξ) (nI ν))) ∧ MilAt h301 k v ∧ MshAt h301 k (copG g (nI π) (nI θ) (nI ι) (nI ξ) (nI ν)) ∧ Kt k h h301 from by rw [eA, eG]; exact ⟨rfl, mh301, hs.kp ph301, ph301.kt⟩))
                      · first
                        | (omega; done)
                        | (
                            have c279 : 2 = 1 := c279
                            refine r_aload_n C (dx dX7_copy 34 rfl) rfl ?_
                            refine g_X7_7 C (dx dX7_copy 35 rfl) ?_
                            refine r_iload_n C (dx dX7_copy 36 rfl) rfl ?_
                            refine r_iald (j := θ) (x := nI 2) C rfl rfl (by decide) rfl (by omega) (dx dX7_copy 37 rfl) a42 ?_
                            refine r_iconst (v := nI 1) C (dx dX7_copy 38 rfl) rfl ?_
                            refine rn_ne (a := 2) (b := 1) (tgt := 93) C (by omega) (by omega) (dx dX7_copy 39 rfl) (by decide) (fun c302 => ?_) (fun c302 => ?_)
                            ·
                              have c302 : ¬ 2 = 1 := c302
                              exact absurd c279 c302
                            · first
                              | (omega; done)
                              | (
                                  have c302 : 2 = 1 := c302
                                  refine r_aload_n C (dx dX7_copy 40 rfl) rfl ?_
                                  refine g_X7_13 C (dx dX7_copy 41 rfl) ?_
                                  refine r_iload_n C (dx dX7_copy 42 rfl) rfl ?_
                                  refine r_iald (j := π) (x := xI h (k + 2) π) C rfl rfl (by decide) rfl (by omega) (dx dX7_copy 43 rfl) rfl ?_
                                  refine r_aload_n C (dx dX7_copy 44 rfl) rfl ?_
                                  refine g_X7_13 C (dx dX7_copy 45 rfl) ?_
                                  refine r_iload_n C (dx dX7_copy 46 rfl) rfl ?_
                                  refine r_iald (j := θ) (x := xI h (k + 2) θ) C rfl rfl (by decide) rfl (by omega) (dx dX7_copy 47 rfl) rfl ?_
                                  refine r_icmp_eq (tgt := 93) C (dx dX7_copy 48 rfl) (by decide) (fun c303 => ?_) (fun c303 => ?_)
                                  ·
                                    have c303 : xI h (k + 2) π = xI h (k + 2) θ := c303
                                    refine r_aload_n C (dx dX7_copy 53 rfl) rfl ?_
                                    refine g_X7_7 C (dx dX7_copy 54 rfl) ?_
                                    refine r_iload_n C (dx dX7_copy 55 rfl) rfl ?_
                                    refine r_iald (j := π) (x := nI 2) C rfl rfl (by decide) rfl (by omega) (dx dX7_copy 56 rfl) a41 ?_
                                    refine r_if_eq (tgt := 111) C (dx dX7_copy 57 rfl) (by decide) (fun c304 => (show False from by revert c304; decide).elim) (fun _ => ?_)
                                    refine r_aload_n C (dx dX7_copy 58 rfl) rfl ?_
                                    refine g_X7_7 C (dx dX7_copy 59 rfl) ?_
                                    refine r_iload_n C (dx dX7_copy 60 rfl) rfl ?_
                                    refine r_iald (j := θ) (x := nI 2) C rfl rfl (by decide) rfl (by omega) (dx dX7_copy 61 rfl) a42 ?_
                                    refine r_if_ne (tgt := 118) C (dx dX7_copy 62 rfl) (by decide) (fun _ => ?_) (fun c305 => (show False from by revert c305; decide).elim)
                                    refine r_iload C (dx dX7_copy 67 rfl) rfl ?_
                                    refine r_if_lt (tgt := 181) C (dx dX7_copy 68 rfl) (by decide) (fun c306 => ?_) (fun c306 => ?_)
                                    ·
                                      have c306 : n < 0 := c306
                                      refine r_aload_n C (dx dX7_copy 101 rfl) rfl ?_
                                      refine r_bipush (v := -2) C (dx dX7_copy 102 rfl) rfl ?_
                                      refine r_cv (as := [vi (-2)]) (st := []) C X I_X7_refuse l_X7_83 (e_refuse hm (x := -2) (j := 2) (by decide) (by decide)) (by decide) (Nat.le_of_ble_eq_true rfl) List.prefix_rfl List.prefix_rfl rfl rfl (Nat.le_of_ble_eq_true rfl) rfl (dx dX7_copy 103 rfl) ?_
                                      rintro _ h307 ⟨rfl, m9h307, qh307⟩ kkh307
                                      have mh307 : MilAt h307 k v := m9h307
                                      have ph307 : Kp k h h307 := qh307
                                      have kh307 : xK h307 = xK h := kkh307
                                      have eA : copA g (nI π) (nI θ) i j n = -2 := by simp [copA, copG, copF, cpOk, c1, c3, c276, c278, c279, c302, c303, (fun n9 => inR_neg (n := n9) c306 : ∀ n9, inR n n9 = false), c306, e01, e11, e21, e31, e41, e51, e61, e71, e02, e12, e22, e32, e42, e52, e62, e72, clN (show π < 2 ^ 31 by omega), clN (show θ < 2 ^ 31 by omega), inR_nI (show π < 2 ^ 31 by omega), inR_nI (show θ < 2 ^ 31 by omega), show π < 8 by omega, show θ < 8 by omega]
                                      have eG : copG g (nI π) (nI θ) i j n = g := by simp [copA, copG, copF, cpOk, c1, c3, c276, c278, c279, c302, c303, (fun n9 => inR_neg (n := n9) c306 : ∀ n9, inR n n9 = false), c306, e01, e11, e21, e31, e41, e51, e61, e71, e02, e12, e22, e32, e42, e52, e62, e72, clN (show π < 2 ^ 31 by omega), clN (show θ < 2 ^ 31 by omega), inR_nI (show π < 2 ^ 31 by omega), inR_nI (show θ < 2 ^ 31 by omega), show π < 8 by omega, show θ < 8 by omega]
                                      exact F.1 _ _ _ _ _ rfl rfl (dx dX7_copy 104 rfl) kh307 (show some (vi (-2)) = some (vi (copA g (nI π) (nI θ) i j n)) ∧ MilAt h307 k v ∧ MshAt h307 k (copG g (nI π) (nI θ) i j n) ∧ Kt k h h307 from by rw [eA, eG]; exact ⟨rfl, mh307, hs.kp ph307, ph307.kt⟩)
                                    ·
                                      have c306 : ¬ n < 0 := c306
                                      obtain ⟨ν, hν, rfl⟩ := nI_of c306
                                      refine r_iload_n C (dx dX7_copy 69 rfl) rfl ?_
                                      refine r_if_lt (tgt := 181) C (dx dX7_copy 70 rfl) (by decide) (fun c308 => ?_) (fun c308 => ?_)
                                      ·
                                        have c308 : i < 0 := c308
                                        refine r_aload_n C (dx dX7_copy 101 rfl) rfl ?_
                                        refine r_bipush (v := -2) C (dx dX7_copy 102 rfl) rfl ?_
                                        refine r_cv (as := [vi (-2)]) (st := []) C X I_X7_refuse l_X7_83 (e_refuse hm (x := -2) (j := 2) (by decide) (by decide)) (by decide) (Nat.le_of_ble_eq_true rfl) List.prefix_rfl List.prefix_rfl rfl rfl (Nat.le_of_ble_eq_true rfl) rfl (dx dX7_copy 103 rfl) ?_
                                        rintro _ h309 ⟨rfl, m9h309, qh309⟩ kkh309
                                        have mh309 : MilAt h309 k v := m9h309
                                        have ph309 : Kp k h h309 := qh309
                                        have kh309 : xK h309 = xK h := kkh309
                                        have eA : copA g (nI π) (nI θ) i j (nI ν) = -2 := by simp [copA, copG, copF, cpOk, c1, c3, c276, c278, c279, c302, c303, c306, (fun n9 => inR_neg (n := n9) c308 : ∀ n9, inR i n9 = false), c308, e01, e11, e21, e31, e41, e51, e61, e71, e02, e12, e22, e32, e42, e52, e62, e72, clN (show π < 2 ^ 31 by omega), clN (show θ < 2 ^ 31 by omega), clN (show ν < 2 ^ 31 by omega), inR_nI (show π < 2 ^ 31 by omega), inR_nI (show θ < 2 ^ 31 by omega), inR_nI (show ν < 2 ^ 31 by omega), show π < 8 by omega, show θ < 8 by omega]
                                        have eG : copG g (nI π) (nI θ) i j (nI ν) = g := by simp [copA, copG, copF, cpOk, c1, c3, c276, c278, c279, c302, c303, c306, (fun n9 => inR_neg (n := n9) c308 : ∀ n9, inR i n9 = false), c308, e01, e11, e21, e31, e41, e51, e61, e71, e02, e12, e22, e32, e42, e52, e62, e72, clN (show π < 2 ^ 31 by omega), clN (show θ < 2 ^ 31 by omega), clN (show ν < 2 ^ 31 by omega), inR_nI (show π < 2 ^ 31 by omega), inR_nI (show θ < 2 ^ 31 by omega), inR_nI (show ν < 2 ^ 31 by omega), show π < 8 by omega, show θ < 8 by omega]
                                        exact F.1 _ _ _ _ _ rfl rfl (dx dX7_copy 104 rfl) kh309 (show some (vi (-2)) = some (vi (copA g (nI π) (nI θ) i j (nI ν))) ∧ MilAt h309 k v ∧ MshAt h309 k (copG g (nI π) (nI θ) i j (nI ν)) ∧ Kt k h h309 from by rw [eA, eG]; exact ⟨rfl, mh309, hs.kp ph309, ph309.kt⟩)
                                      ·
                                        have c308 : ¬ i < 0 := c308
                                        obtain ⟨ι, hι, rfl⟩ := nI_of c308
                                        refine r_iload C (dx dX7_copy 71 rfl) rfl ?_
                                        refine r_if_lt (tgt := 181) C (dx dX7_copy 72 rfl) (by decide) (fun c310 => ?_) (fun c310 => ?_)
                                        ·
                                          have c310 : j < 0 := c310
                                          refine r_aload_n C (dx dX7_copy 101 rfl) rfl ?_
                                          refine r_bipush (v := -2) C (dx dX7_copy 102 rfl) rfl ?_
                                          refine r_cv (as := [vi (-2)]) (st := []) C X I_X7_refuse l_X7_83 (e_refuse hm (x := -2) (j := 2) (by decide) (by decide)) (by decide) (Nat.le_of_ble_eq_true rfl) List.prefix_rfl List.prefix_rfl rfl rfl (Nat.le_of_ble_eq_true rfl) rfl (dx dX7_copy 103 rfl) ?_
                                          rintro _ h311 ⟨rfl, m9h311, qh311⟩ kkh311
                                          have mh311 : MilAt h311 k v := m9h311
                                          have ph311 : Kp k h h311 := qh311
                                          have kh311 : xK h311 = xK h := kkh311
                                          have eA : copA g (nI π) (nI θ) (nI ι) j (nI ν) = -2 := by simp [copA, copG, copF, cpOk, c1, c3, c276, c278, c279, c302, c303, c306, c308, (fun n9 => inR_neg (n := n9) c310 : ∀ n9, inR j n9 = false), c310, e01, e11, e21, e31, e41, e51, e61, e71, e02, e12, e22, e32, e42, e52, e62, e72, clN (show π < 2 ^ 31 by omega), clN (show θ < 2 ^ 31 by omega), clN (show ν < 2 ^ 31 by omega), clN (show ι < 2 ^ 31 by omega), inR_nI (show π < 2 ^ 31 by omega), inR_nI (show θ < 2 ^ 31 by omega), inR_nI (show ν < 2 ^ 31 by omega), inR_nI (show ι < 2 ^ 31 by omega), show π < 8 by omega, show θ < 8 by omega]
                                          have eG : copG g (nI π) (nI θ) (nI ι) j (nI ν) = g := by simp [copA, copG, copF, cpOk, c1, c3, c276, c278, c279, c302, c303, c306, c308, (fun n9 => inR_neg (n := n9) c310 : ∀ n9, inR j n9 = false), c310, e01, e11, e21, e31, e41, e51, e61, e71, e02, e12, e22, e32, e42, e52, e62, e72, clN (show π < 2 ^ 31 by omega), clN (show θ < 2 ^ 31 by omega), clN (show ν < 2 ^ 31 by omega), clN (show ι < 2 ^ 31 by omega), inR_nI (show π < 2 ^ 31 by omega), inR_nI (show θ < 2 ^ 31 by omega), inR_nI (show ν < 2 ^ 31 by omega), inR_nI (show ι < 2 ^ 31 by omega), show π < 8 by omega, show θ < 8 by omega]
                                          exact F.1 _ _ _ _ _ rfl rfl (dx dX7_copy 104 rfl) kh311 (show some (vi (-2)) = some (vi (copA g (nI π) (nI θ) (nI ι) j (nI ν))) ∧ MilAt h311 k v ∧ MshAt h311 k (copG g (nI π) (nI θ) (nI ι) j (nI ν)) ∧ Kt k h h311 from by rw [eA, eG]; exact ⟨rfl, mh311, hs.kp ph311, ph311.kt⟩)
                                        ·
                                          have c310 : ¬ j < 0 := c310
                                          obtain ⟨ξ, hξ, rfl⟩ := nI_of c310
                                          refine r_iload C (dx dX7_copy 73 rfl) rfl ?_
                                          refine r_aload_n C (dx dX7_copy 74 rfl) rfl ?_
                                          refine g_X7_16 C (dx dX7_copy 75 rfl) ?_
                                          refine r_iload_n C (dx dX7_copy 76 rfl) rfl ?_
                                          refine r_iald (j := π) (x := xI h (k + 3) π) C rfl rfl (by decide) rfl (by omega) (dx dX7_copy 77 rfl) rfl ?_
                                          refine r_icmp_gt (tgt := 181) C (dx dX7_copy 78 rfl) (by decide) (fun c312 => ?_) (fun c312 => ?_)
                                          ·
                                            have c312 : xI h (k + 3) π < nI ν := c312
                                            refine r_aload_n C (dx dX7_copy 101 rfl) rfl ?_
                                            refine r_bipush (v := -2) C (dx dX7_copy 102 rfl) rfl ?_
                                            refine r_cv (as := [vi (-2)]) (st := []) C X I_X7_refuse l_X7_83 (e_refuse hm (x := -2) (j := 2) (by decide) (by decide)) (by decide) (Nat.le_of_ble_eq_true rfl) List.prefix_rfl List.prefix_rfl rfl rfl (Nat.le_of_ble_eq_true rfl) rfl (dx dX7_copy 103 rfl) ?_
                                            rintro _ h313 ⟨rfl, m9h313, qh313⟩ kkh313
                                            have mh313 : MilAt h313 k v := m9h313
                                            have ph313 : Kp k h h313 := qh313
                                            have kh313 : xK h313 = xK h := kkh313
                                            have eA : copA g (nI π) (nI θ) (nI ι) (nI ξ) (nI ν) = -2 := by (have hq : ¬ (ι + ν ≤ ν1 ∧ ξ + ν ≤ ν2) := by omega); (have hq2 := cp_row e31 e32 (i := ι) (j := ξ) (n := ν) (by omega) (by omega) (by omega) (by omega) (by omega)); rw [decide_eq_false hq] at hq2; simp [copA, copG, copF, c1, c3, c276, c278, c279, c302, c303, c306, c308, c310, c312, e01, e11, e21, e31, e41, e51, e61, e71, e02, e12, e22, e32, e42, e52, e62, e72, clN (show π < 2 ^ 31 by omega), clN (show θ < 2 ^ 31 by omega), clN (show ν < 2 ^ 31 by omega), clN (show ι < 2 ^ 31 by omega), clN (show ξ < 2 ^ 31 by omega), inR_nI (show π < 2 ^ 31 by omega), inR_nI (show θ < 2 ^ 31 by omega), inR_nI (show ν < 2 ^ 31 by omega), inR_nI (show ι < 2 ^ 31 by omega), inR_nI (show ξ < 2 ^ 31 by omega), hq2, show π < 8 by omega, show θ < 8 by omega]
                                            have eG : copG g (nI π) (nI θ) (nI ι) (nI ξ) (nI ν) = g := by (have hq : ¬ (ι + ν ≤ ν1 ∧ ξ + ν ≤ ν2) := by omega); (have hq2 := cp_row e31 e32 (i := ι) (j := ξ) (n := ν) (by omega) (by omega) (by omega) (by omega) (by omega)); rw [decide_eq_false hq] at hq2; simp [copA, copG, copF, c1, c3, c276, c278, c279, c302, c303, c306, c308, c310, c312, e01, e11, e21, e31, e41, e51, e61, e71, e02, e12, e22, e32, e42, e52, e62, e72, clN (show π < 2 ^ 31 by omega), clN (show θ < 2 ^ 31 by omega), clN (show ν < 2 ^ 31 by omega), clN (show ι < 2 ^ 31 by omega), clN (show ξ < 2 ^ 31 by omega), inR_nI (show π < 2 ^ 31 by omega), inR_nI (show θ < 2 ^ 31 by omega), inR_nI (show ν < 2 ^ 31 by omega), inR_nI (show ι < 2 ^ 31 by omega), inR_nI (show ξ < 2 ^ 31 by omega), hq2, show π < 8 by omega, show θ < 8 by omega]
                                            exact F.1 _ _ _ _ _ rfl rfl (dx dX7_copy 104 rfl) kh313 (show some (vi (-2)) = some (vi (copA g (nI π) (nI θ) (nI ι) (nI ξ) (nI ν))) ∧ MilAt h313 k v ∧ MshAt h313 k (copG g (nI π) (nI θ) (nI ι) (nI ξ) (nI ν)) ∧ Kt k h h313 from by rw [eA, eG]; exact ⟨rfl, mh313, hs.kp ph313, ph313.kt⟩)
                                          ·
                                            have c312 : ¬ xI h (k + 3) π < nI ν := c312
                                            refine r_iload C (dx dX7_copy 79 rfl) rfl ?_
                                            refine r_aload_n C (dx dX7_copy 80 rfl) rfl ?_
                                            refine g_X7_16 C (dx dX7_copy 81 rfl) ?_
                                            refine r_iload_n C (dx dX7_copy 82 rfl) rfl ?_
                                            refine r_iald (j := θ) (x := xI h (k + 3) θ) C rfl rfl (by decide) rfl (by omega) (dx dX7_copy 83 rfl) rfl ?_
                                            refine r_icmp_gt (tgt := 181) C (dx dX7_copy 84 rfl) (by decide) (fun c314 => ?_) (fun c314 => ?_)
                                            ·
                                              have c314 : xI h (k + 3) θ < nI ν := c314
                                              refine r_aload_n C (dx dX7_copy 101 rfl) rfl ?_
                                              refine r_bipush (v := -2) C (dx dX7_copy 102 rfl) rfl ?_
                                              refine r_cv (as := [vi (-2)]) (st := []) C X I_X7_refuse l_X7_83 (e_refuse hm (x := -2) (j := 2) (by decide) (by decide)) (by decide) (Nat.le_of_ble_eq_true rfl) List.prefix_rfl List.prefix_rfl rfl rfl (Nat.le_of_ble_eq_true rfl) rfl (dx dX7_copy 103 rfl) ?_
                                              rintro _ h315 ⟨rfl, m9h315, qh315⟩ kkh315
                                              have mh315 : MilAt h315 k v := m9h315
                                              have ph315 : Kp k h h315 := qh315
                                              have kh315 : xK h315 = xK h := kkh315
                                              have eA : copA g (nI π) (nI θ) (nI ι) (nI ξ) (nI ν) = -2 := by (have hq : ¬ (ι + ν ≤ ν1 ∧ ξ + ν ≤ ν2) := by omega); (have hq2 := cp_row e31 e32 (i := ι) (j := ξ) (n := ν) (by omega) (by omega) (by omega) (by omega) (by omega)); rw [decide_eq_false hq] at hq2; simp [copA, copG, copF, c1, c3, c276, c278, c279, c302, c303, c306, c308, c310, c312, c314, e01, e11, e21, e31, e41, e51, e61, e71, e02, e12, e22, e32, e42, e52, e62, e72, clN (show π < 2 ^ 31 by omega), clN (show θ < 2 ^ 31 by omega), clN (show ν < 2 ^ 31 by omega), clN (show ι < 2 ^ 31 by omega), clN (show ξ < 2 ^ 31 by omega), inR_nI (show π < 2 ^ 31 by omega), inR_nI (show θ < 2 ^ 31 by omega), inR_nI (show ν < 2 ^ 31 by omega), inR_nI (show ι < 2 ^ 31 by omega), inR_nI (show ξ < 2 ^ 31 by omega), hq2, show π < 8 by omega, show θ < 8 by omega]
                                              have eG : copG g (nI π) (nI θ) (nI ι) (nI ξ) (nI ν) = g := by (have hq : ¬ (ι + ν ≤ ν1 ∧ ξ + ν ≤ ν2) := by omega); (have hq2 := cp_row e31 e32 (i := ι) (j := ξ) (n := ν) (by omega) (by omega) (by omega) (by omega) (by omega)); rw [decide_eq_false hq] at hq2; simp [copA, copG, copF, c1, c3, c276, c278, c279, c302, c303, c306, c308, c310, c312, c314, e01, e11, e21, e31, e41, e51, e61, e71, e02, e12, e22, e32, e42, e52, e62, e72, clN (show π < 2 ^ 31 by omega), clN (show θ < 2 ^ 31 by omega), clN (show ν < 2 ^ 31 by omega), clN (show ι < 2 ^ 31 by omega), clN (show ξ < 2 ^ 31 by omega), inR_nI (show π < 2 ^ 31 by omega), inR_nI (show θ < 2 ^ 31 by omega), inR_nI (show ν < 2 ^ 31 by omega), inR_nI (show ι < 2 ^ 31 by omega), inR_nI (show ξ < 2 ^ 31 by omega), hq2, show π < 8 by omega, show θ < 8 by omega]
                                              exact F.1 _ _ _ _ _ rfl rfl (dx dX7_copy 104 rfl) kh315 (show some (vi (-2)) = some (vi (copA g (nI π) (nI θ) (nI ι) (nI ξ) (nI ν))) ∧ MilAt h315 k v ∧ MshAt h315 k (copG g (nI π) (nI θ) (nI ι) (nI ξ) (nI ν)) ∧ Kt k h h315 from by rw [eA, eG]; exact ⟨rfl, mh315, hs.kp ph315, ph315.kt⟩)
                                            ·
                                              have c314 : ¬ xI h (k + 3) θ < nI ν := c314
                                              refine r_iload_n C (dx dX7_copy 85 rfl) rfl ?_
                                              refine r_aload_n C (dx dX7_copy 86 rfl) rfl ?_
                                              refine g_X7_16 C (dx dX7_copy 87 rfl) ?_
                                              refine r_iload_n C (dx dX7_copy 88 rfl) rfl ?_
                                              refine r_iald (j := π) (x := xI h (k + 3) π) C rfl rfl (by decide) rfl (by omega) (dx dX7_copy 89 rfl) rfl ?_
                                              refine r_iload C (dx dX7_copy 90 rfl) rfl ?_
                                              refine r_isub C (dx dX7_copy 91 rfl) ?_
                                              refine r_icmp_gt (tgt := 181) C (dx dX7_copy 92 rfl) (by decide) (fun c316 => ?_) (fun c316 => ?_)
                                              ·
                                                have c316 : (xI h (k + 3) π) - (nI ν) < nI ι := c316
                                                refine r_aload_n C (dx dX7_copy 101 rfl) rfl ?_
                                                refine r_bipush (v := -2) C (dx dX7_copy 102 rfl) rfl ?_
                                                refine r_cv (as := [vi (-2)]) (st := []) C X I_X7_refuse l_X7_83 (e_refuse hm (x := -2) (j := 2) (by decide) (by decide)) (by decide) (Nat.le_of_ble_eq_true rfl) List.prefix_rfl List.prefix_rfl rfl rfl (Nat.le_of_ble_eq_true rfl) rfl (dx dX7_copy 103 rfl) ?_
                                                rintro _ h317 ⟨rfl, m9h317, qh317⟩ kkh317
                                                have mh317 : MilAt h317 k v := m9h317
                                                have ph317 : Kp k h h317 := qh317
                                                have kh317 : xK h317 = xK h := kkh317
                                                have eA : copA g (nI π) (nI θ) (nI ι) (nI ξ) (nI ν) = -2 := by (have hq : ¬ (ι + ν ≤ ν1 ∧ ξ + ν ≤ ν2) := by omega); (have hq2 := cp_row e31 e32 (i := ι) (j := ξ) (n := ν) (by omega) (by omega) (by omega) (by omega) (by omega)); rw [decide_eq_false hq] at hq2; simp [copA, copG, copF, c1, c3, c276, c278, c279, c302, c303, c306, c308, c310, c312, c314, c316, e01, e11, e21, e31, e41, e51, e61, e71, e02, e12, e22, e32, e42, e52, e62, e72, clN (show π < 2 ^ 31 by omega), clN (show θ < 2 ^ 31 by omega), clN (show ν < 2 ^ 31 by omega), clN (show ι < 2 ^ 31 by omega), clN (show ξ < 2 ^ 31 by omega), inR_nI (show π < 2 ^ 31 by omega), inR_nI (show θ < 2 ^ 31 by omega), inR_nI (show ν < 2 ^ 31 by omega), inR_nI (show ι < 2 ^ 31 by omega), inR_nI (show ξ < 2 ^ 31 by omega), hq2, show π < 8 by omega, show θ < 8 by omega]
                                                have eG : copG g (nI π) (nI θ) (nI ι) (nI ξ) (nI ν) = g := by (have hq : ¬ (ι + ν ≤ ν1 ∧ ξ + ν ≤ ν2) := by omega); (have hq2 := cp_row e31 e32 (i := ι) (j := ξ) (n := ν) (by omega) (by omega) (by omega) (by omega) (by omega)); rw [decide_eq_false hq] at hq2; simp [copA, copG, copF, c1, c3, c276, c278, c279, c302, c303, c306, c308, c310, c312, c314, c316, e01, e11, e21, e31, e41, e51, e61, e71, e02, e12, e22, e32, e42, e52, e62, e72, clN (show π < 2 ^ 31 by omega), clN (show θ < 2 ^ 31 by omega), clN (show ν < 2 ^ 31 by omega), clN (show ι < 2 ^ 31 by omega), clN (show ξ < 2 ^ 31 by omega), inR_nI (show π < 2 ^ 31 by omega), inR_nI (show θ < 2 ^ 31 by omega), inR_nI (show ν < 2 ^ 31 by omega), inR_nI (show ι < 2 ^ 31 by omega), inR_nI (show ξ < 2 ^ 31 by omega), hq2, show π < 8 by omega, show θ < 8 by omega]
                                                exact F.1 _ _ _ _ _ rfl rfl (dx dX7_copy 104 rfl) kh317 (show some (vi (-2)) = some (vi (copA g (nI π) (nI θ) (nI ι) (nI ξ) (nI ν))) ∧ MilAt h317 k v ∧ MshAt h317 k (copG g (nI π) (nI θ) (nI ι) (nI ξ) (nI ν)) ∧ Kt k h h317 from by rw [eA, eG]; exact ⟨rfl, mh317, hs.kp ph317, ph317.kt⟩)
                                              ·
                                                have c316 : ¬ (xI h (k + 3) π) - (nI ν) < nI ι := c316
                                                refine r_iload C (dx dX7_copy 93 rfl) rfl ?_
                                                refine r_aload_n C (dx dX7_copy 94 rfl) rfl ?_
                                                refine g_X7_16 C (dx dX7_copy 95 rfl) ?_
                                                refine r_iload_n C (dx dX7_copy 96 rfl) rfl ?_
                                                refine r_iald (j := θ) (x := xI h (k + 3) θ) C rfl rfl (by decide) rfl (by omega) (dx dX7_copy 97 rfl) rfl ?_
                                                refine r_iload C (dx dX7_copy 98 rfl) rfl ?_
                                                refine r_isub C (dx dX7_copy 99 rfl) ?_
                                                refine r_icmp_le (tgt := 188) C (dx dX7_copy 100 rfl) (by decide) (fun c318 => ?_) (fun c318 => ?_)
                                                ·
                                                  have c318 : nI ξ ≤ (xI h (k + 3) θ) - (nI ν) := c318
                                                  refine r_iconst (v := nI 0) C (dx dX7_copy 105 rfl) rfl ?_
                                                  refine r_istore (ls' := [(0, vr 7 k), (1, vi (nI π)), (2, vi (nI θ)), (3, vi (nI ι)), (4, vi (nI ξ)), (5, vi (nI ν)), (6, vi (nI 0))]) C (dx dX7_copy 106 rfl) (by decide) [1, 2, 3, 4, 5, 6, 0] rfl ?_
                                                  refine loopU (Φ := fun p => ∀ h9, (∀ t, t < p → xL h9 (k + 13) t = gE g π (ι + t)) → Fr (k + 13) (k + 14) h h9 → xK h9 = xK h → Rr G 191 [(0, vr 7 k), (1, vi (nI π)), (2, vi (nI θ)), (3, vi (nI ι)), (4, vi (nI ξ)), (5, vi (nI ν)), (6, vi (nI p))] [] h9) (N := ν) ?_ ?_ 0 (by omega) _ (fun i hi => absurd hi (by omega)) Fr.rf rfl
                                                  ·
                                                    intro h9 q9 f9 k9
                                                    refine r_iload C (dx dX7_copy 107 rfl) rfl ?_
                                                    refine r_iload C (dx dX7_copy 108 rfl) rfl ?_
                                                    refine rn_ge (a := ν) (b := ν) (tgt := 222) C (by omega) (by omega) (dx dX7_copy 109 rfl) (by decide) (fun c319 => ?_) (fun c319 => ?_)
                                                    · first
                                                      | (omega; done)
                                                      | (
                                                          have c319 : ν ≤ ν := c319
                                                          refine r_iconst (v := nI 0) C (dx dX7_copy 124 rfl) rfl ?_
                                                          refine r_istore (ls' := [(0, vr 7 k), (1, vi (nI π)), (2, vi (nI θ)), (3, vi (nI ι)), (4, vi (nI ξ)), (5, vi (nI ν)), (6, vi (nI 0))]) C (dx dX7_copy 125 rfl) (by decide) [1, 2, 3, 4, 5, 6, 0] rfl ?_
                                                          have r9 := MsR.fr (show MsR h k g θ from ⟨_, _, a12, a22, a32, a42, a52, a62, a72, a82⟩) hθ f9
                                                          refine loopU (Φ := fun p => ∀ h8, (∀ i, i < 40 → xL h8 (k + 5 + θ) i = if ξ ≤ i ∧ i < ξ + p then gE g π (ι + (i - ξ)) else gE g θ i) → (∀ t, t < ν → xL h8 (k + 13) t = gE g π (ι + t)) → Fr (k + 5 + θ) (k + 5 + θ + 1) h9 h8 → xK h8 = xK h → Rr G 225 [(0, vr 7 k), (1, vi (nI π)), (2, vi (nI θ)), (3, vi (nI ι)), (4, vi (nI ξ)), (5, vi (nI ν)), (6, vi (nI p))] [] h8) (N := ν) ?_ ?_ 0 (by omega) _ (fun i hi => by rw [if_neg (by omega), f9.L (by omega)]; exact a82 i hi) q9 Fr.rf k9
                                                          ·
                                                            intro h8 q8 u8 f8 k8
                                                            have s9 : MshAt h8 k (pCp g π θ ι ξ ν) := msh_els (hs.mv f9) hθ r9 f8 (fun i hi => by rw [q8 i hi]; rfl)
                                                            have g9 : Fr (k + 1) (k + 16) h h8 := (f9.mono (by omega) (by omega)).tr (f8.mono (by omega) (by omega))
                                                            refine r_iload C (dx dX7_copy 126 rfl) rfl ?_
                                                            refine r_iload C (dx dX7_copy 127 rfl) rfl ?_
                                                            refine rn_ge (a := ν) (b := ν) (tgt := 257) C (by omega) (by omega) (dx dX7_copy 128 rfl) (by decide) (fun c320 => ?_) (fun c320 => ?_)
                                                            · first
                                                              | (omega; done)
                                                              | (
                                                                  have c320 : ν ≤ ν := c320
                                                                  refine r_iload C (dx dX7_copy 143 rfl) rfl ?_
                                                                  have eA : copA g (nI π) (nI θ) (nI ι) (nI ξ) (nI ν) = nI ν := by simp [copA, copG, copF, c1, c3, c276, c278, c279, c302, c303, c306, c308, c310, c312, c314, c316, c318, c319, c320, e01, e11, e21, e31, e41, e51, e61, e71, e02, e12, e22, e32, e42, e52, e62, e72, clN (show π < 2 ^ 31 by omega), clN (show θ < 2 ^ 31 by omega), clN (show ν < 2 ^ 31 by omega), clN (show ι < 2 ^ 31 by omega), clN (show ξ < 2 ^ 31 by omega), inR_nI (show π < 2 ^ 31 by omega), inR_nI (show θ < 2 ^ 31 by omega), inR_nI (show ν < 2 ^ 31 by omega), inR_nI (show ι < 2 ^ 31 by omega), inR_nI (show ξ < 2 ^ 31 by omega), show π < 8 by omega, show θ < 8 by omega, cp_row e31 e32 (by omega) (by omega) (show ι < 2 ^ 31 by omega) (show ξ < 2 ^ 31 by omega) (show ν < 2 ^ 31 by omega), show ι + ν ≤ ν1 by omega, show ξ + ν ≤ ν2 by omega]
                                                                  have eG : copG g (nI π) (nI θ) (nI ι) (nI ξ) (nI ν) = pCp g π θ ι ξ ν := by simp [copA, copG, copF, c1, c3, c276, c278, c279, c302, c303, c306, c308, c310, c312, c314, c316, c318, c319, c320, e01, e11, e21, e31, e41, e51, e61, e71, e02, e12, e22, e32, e42, e52, e62, e72, clN (show π < 2 ^ 31 by omega), clN (show θ < 2 ^ 31 by omega), clN (show ν < 2 ^ 31 by omega), clN (show ι < 2 ^ 31 by omega), clN (show ξ < 2 ^ 31 by omega), inR_nI (show π < 2 ^ 31 by omega), inR_nI (show θ < 2 ^ 31 by omega), inR_nI (show ν < 2 ^ 31 by omega), inR_nI (show ι < 2 ^ 31 by omega), inR_nI (show ξ < 2 ^ 31 by omega), show π < 8 by omega, show θ < 8 by omega, cp_row e31 e32 (by omega) (by omega) (show ι < 2 ^ 31 by omega) (show ξ < 2 ^ 31 by omega) (show ν < 2 ^ 31 by omega), show ι + ν ≤ ν1 by omega, show ξ + ν ≤ ν2 by omega]
                                                                  exact F.1 _ _ _ _ _ rfl rfl (dx dX7_copy 144 rfl) k8 (show some (vi (nI ν)) = some (vi (copA g (nI π) (nI θ) (nI ι) (nI ξ) (nI ν))) ∧ MilAt h8 k v ∧ MshAt h8 k (copG g (nI π) (nI θ) (nI ι) (nI ξ) (nI ν)) ∧ Kt k h h8 from by rw [eA, eG]; exact ⟨rfl, hm.fr g9 (by omega), s9, (Kt.fr g9 (by omega) (by omega))⟩))
                                                            · first
                                                              | (omega; done)
                                                          ·
                                                            intro p hp ih h8 q8 u8 f8 k8
                                                            refine r_iload C (dx dX7_copy 126 rfl) rfl ?_
                                                            refine r_iload C (dx dX7_copy 127 rfl) rfl ?_
                                                            refine rn_ge (a := p) (b := ν) (tgt := 257) C (by omega) (by omega) (dx dX7_copy 128 rfl) (by decide) (fun c321 => ?_) (fun c321 => ?_)
                                                            · first
                                                              | (omega; done)
                                                              | (
                                                                  have c321 : ν ≤ p := c321
                                                                  refine r_iload C (dx dX7_copy 143 rfl) rfl ?_
                                                                  have eA : copA g (nI π) (nI θ) (nI ι) (nI ξ) (nI ν) = nI ν := by simp [copA, copG, copF, c1, c3, c276, c278, c279, c302, c303, c306, c308, c310, c312, c314, c316, c318, c319, c321, e01, e11, e21, e31, e41, e51, e61, e71, e02, e12, e22, e32, e42, e52, e62, e72, clN (show π < 2 ^ 31 by omega), clN (show θ < 2 ^ 31 by omega), clN (show ν < 2 ^ 31 by omega), clN (show ι < 2 ^ 31 by omega), clN (show ξ < 2 ^ 31 by omega), inR_nI (show π < 2 ^ 31 by omega), inR_nI (show θ < 2 ^ 31 by omega), inR_nI (show ν < 2 ^ 31 by omega), inR_nI (show ι < 2 ^ 31 by omega), inR_nI (show ξ < 2 ^ 31 by omega), show π < 8 by omega, show θ < 8 by omega, cp_row e31 e32 (by omega) (by omega) (show ι < 2 ^ 31 by omega) (show ξ < 2 ^ 31 by omega) (show ν < 2 ^ 31 by omega), show ι + ν ≤ ν1 by omega, show ξ + ν ≤ ν2 by omega]
                                                                  have eG : copG g (nI π) (nI θ) (nI ι) (nI ξ) (nI ν) = g := by simp [copA, copG, copF, c1, c3, c276, c278, c279, c302, c303, c306, c308, c310, c312, c314, c316, c318, c319, c321, e01, e11, e21, e31, e41, e51, e61, e71, e02, e12, e22, e32, e42, e52, e62, e72, clN (show π < 2 ^ 31 by omega), clN (show θ < 2 ^ 31 by omega), clN (show ν < 2 ^ 31 by omega), clN (show ι < 2 ^ 31 by omega), clN (show ξ < 2 ^ 31 by omega), inR_nI (show π < 2 ^ 31 by omega), inR_nI (show θ < 2 ^ 31 by omega), inR_nI (show ν < 2 ^ 31 by omega), inR_nI (show ι < 2 ^ 31 by omega), inR_nI (show ξ < 2 ^ 31 by omega), show π < 8 by omega, show θ < 8 by omega, cp_row e31 e32 (by omega) (by omega) (show ι < 2 ^ 31 by omega) (show ξ < 2 ^ 31 by omega) (show ν < 2 ^ 31 by omega), show ι + ν ≤ ν1 by omega, show ξ + ν ≤ ν2 by omega]
                                                                  exact F.1 _ _ _ _ _ rfl rfl (dx dX7_copy 144 rfl) k8 (show some (vi (nI ν)) = some (vi (copA g (nI π) (nI θ) (nI ι) (nI ξ) (nI ν))) ∧ MilAt h8 k v ∧ MshAt h8 k (copG g (nI π) (nI θ) (nI ι) (nI ξ) (nI ν)) ∧ Kt k h h8 from by rw [eA, eG]; exact ⟨rfl, hm, hs, Kt.rf⟩))
                                                            · first
                                                              | (omega; done)
                                                              | (
                                                                  have c321 : p < ν := c321
                                                                  refine r_aload_n C (dx dX7_copy 129 rfl) rfl ?_
                                                                  refine g_X7_21 C (dx dX7_copy 130 rfl) ?_
                                                                  refine r_iload_n C (dx dX7_copy 131 rfl) rfl ?_
                                                                  refine r_aald5 (j := θ) C rfl rfl (by decide) rfl (by omega) (dx dX7_copy 132 rfl) ?_
                                                                  refine r_iload C (dx dX7_copy 133 rfl) rfl ?_
                                                                  refine r_iload C (dx dX7_copy 134 rfl) rfl ?_
                                                                  refine rn_iadd (a := ξ) (b := p) C (dx dX7_copy 135 rfl) ?_
                                                                  refine r_aload_n C (dx dX7_copy 136 rfl) rfl ?_
                                                                  refine g_X7_24 C (dx dX7_copy 137 rfl) ?_
                                                                  refine r_iload C (dx dX7_copy 138 rfl) rfl ?_
                                                                  refine r_lald (j := p) (x := gE g π (ι + p)) C rfl rfl (by decide) rfl (by omega) (dx dX7_copy 139 rfl) (u8 _ (by omega)) ?_
                                                                  refine r_last (j := ξ + p) C rfl rfl (by decide) rfl (by omega) (dx dX7_copy 140 rfl) ?_
                                                                  refine rn_iinc (a := p) (k := 1) (ls' := [(0, vr 7 k), (1, vi (nI π)), (2, vi (nI θ)), (3, vi (nI ι)), (4, vi (nI ξ)), (5, vi (nI ν)), (6, vi (nI (p + 1)))]) C (dx dX7_copy 141 rfl) rfl rfl (by decide) [1, 2, 3, 4, 5, 6, 0] rfl ?_
                                                                  refine r_goto (tgt := 225) C (dx dX7_copy 142 rfl) (by decide) ?_
                                                                  exact ih _ (fun i hi => by rw [sL_at]; exact cp2_step q8 i hi) (fun t ht => by rw [sL_ne (by omega)]; exact u8 t ht) (f8.tr (Fr.sL (by omega) (by omega))) k8))
                                                    · first
                                                      | (omega; done)
                                                  ·
                                                    intro p hp ih h9 q9 f9 k9
                                                    refine r_iload C (dx dX7_copy 107 rfl) rfl ?_
                                                    refine r_iload C (dx dX7_copy 108 rfl) rfl ?_
                                                    refine rn_ge (a := p) (b := ν) (tgt := 222) C (by omega) (by omega) (dx dX7_copy 109 rfl) (by decide) (fun c322 => ?_) (fun c322 => ?_)
                                                    · first
                                                      | (omega; done)
                                                      | (
                                                          have c322 : ν ≤ p := c322
                                                          refine r_iconst (v := nI 0) C (dx dX7_copy 124 rfl) rfl ?_
                                                          refine r_istore (ls' := [(0, vr 7 k), (1, vi (nI π)), (2, vi (nI θ)), (3, vi (nI ι)), (4, vi (nI ξ)), (5, vi (nI ν)), (6, vi (nI 0))]) C (dx dX7_copy 125 rfl) (by decide) [1, 2, 3, 4, 5, 6, 0] rfl ?_
                                                          have r9 := MsR.fr (show MsR h k g θ from ⟨_, _, a12, a22, a32, a42, a52, a62, a72, a82⟩) hθ f9
                                                          refine loopU (Φ := fun p => ∀ h8, (∀ i, i < 40 → xL h8 (k + 5 + θ) i = if ξ ≤ i ∧ i < ξ + p then gE g π (ι + (i - ξ)) else gE g θ i) → (∀ t, t < ν → xL h8 (k + 13) t = gE g π (ι + t)) → Fr (k + 5 + θ) (k + 5 + θ + 1) h9 h8 → xK h8 = xK h → Rr G 225 [(0, vr 7 k), (1, vi (nI π)), (2, vi (nI θ)), (3, vi (nI ι)), (4, vi (nI ξ)), (5, vi (nI ν)), (6, vi (nI p))] [] h8) (N := ν) ?_ ?_ 0 (by omega) _ (fun i hi => by rw [if_neg (by omega), f9.L (by omega)]; exact a82 i hi) q9 Fr.rf k9
                                                          ·
                                                            intro h8 q8 u8 f8 k8
                                                            have s9 : MshAt h8 k (pCp g π θ ι ξ ν) := msh_els (hs.mv f9) hθ r9 f8 (fun i hi => by rw [q8 i hi]; rfl)
                                                            have g9 : Fr (k + 1) (k + 16) h h8 := (f9.mono (by omega) (by omega)).tr (f8.mono (by omega) (by omega))
                                                            refine r_iload C (dx dX7_copy 126 rfl) rfl ?_
                                                            refine r_iload C (dx dX7_copy 127 rfl) rfl ?_
                                                            refine rn_ge (a := ν) (b := ν) (tgt := 257) C (by omega) (by omega) (dx dX7_copy 128 rfl) (by decide) (fun c323 => ?_) (fun c323 => ?_)
                                                            · first
                                                              | (omega; done)
                                                              | (
                                                                  have c323 : ν ≤ ν := c323
                                                                  refine r_iload C (dx dX7_copy 143 rfl) rfl ?_
                                                                  have eA : copA g (nI π) (nI θ) (nI ι) (nI ξ) (nI ν) = nI ν := by simp [copA, copG, copF, c1, c3, c276, c278, c279, c302, c303, c306, c308, c310, c312, c314, c316, c318, c322, c323, e01, e11, e21, e31, e41, e51, e61, e71, e02, e12, e22, e32, e42, e52, e62, e72, clN (show π < 2 ^ 31 by omega), clN (show θ < 2 ^ 31 by omega), clN (show ν < 2 ^ 31 by omega), clN (show ι < 2 ^ 31 by omega), clN (show ξ < 2 ^ 31 by omega), inR_nI (show π < 2 ^ 31 by omega), inR_nI (show θ < 2 ^ 31 by omega), inR_nI (show ν < 2 ^ 31 by omega), inR_nI (show ι < 2 ^ 31 by omega), inR_nI (show ξ < 2 ^ 31 by omega), show π < 8 by omega, show θ < 8 by omega, cp_row e31 e32 (by omega) (by omega) (show ι < 2 ^ 31 by omega) (show ξ < 2 ^ 31 by omega) (show ν < 2 ^ 31 by omega), show ι + ν ≤ ν1 by omega, show ξ + ν ≤ ν2 by omega]
                                                                  have eG : copG g (nI π) (nI θ) (nI ι) (nI ξ) (nI ν) = pCp g π θ ι ξ ν := by simp [copA, copG, copF, c1, c3, c276, c278, c279, c302, c303, c306, c308, c310, c312, c314, c316, c318, c322, c323, e01, e11, e21, e31, e41, e51, e61, e71, e02, e12, e22, e32, e42, e52, e62, e72, clN (show π < 2 ^ 31 by omega), clN (show θ < 2 ^ 31 by omega), clN (show ν < 2 ^ 31 by omega), clN (show ι < 2 ^ 31 by omega), clN (show ξ < 2 ^ 31 by omega), inR_nI (show π < 2 ^ 31 by omega), inR_nI (show θ < 2 ^ 31 by omega), inR_nI (show ν < 2 ^ 31 by omega), inR_nI (show ι < 2 ^ 31 by omega), inR_nI (show ξ < 2 ^ 31 by omega), show π < 8 by omega, show θ < 8 by omega, cp_row e31 e32 (by omega) (by omega) (show ι < 2 ^ 31 by omega) (show ξ < 2 ^ 31 by omega) (show ν < 2 ^ 31 by omega), show ι + ν ≤ ν1 by omega, show ξ + ν ≤ ν2 by omega]
                                                                  exact F.1 _ _ _ _ _ rfl rfl (dx dX7_copy 144 rfl) k8 (show some (vi (nI ν)) = some (vi (copA g (nI π) (nI θ) (nI ι) (nI ξ) (nI ν))) ∧ MilAt h8 k v ∧ MshAt h8 k (copG g (nI π) (nI θ) (nI ι) (nI ξ) (nI ν)) ∧ Kt k h h8 from by rw [eA, eG]; exact ⟨rfl, hm.fr g9 (by omega), s9, (Kt.fr g9 (by omega) (by omega))⟩))
                                                            · first
                                                              | (omega; done)
                                                          ·
                                                            intro p hp ih h8 q8 u8 f8 k8
                                                            refine r_iload C (dx dX7_copy 126 rfl) rfl ?_
                                                            refine r_iload C (dx dX7_copy 127 rfl) rfl ?_
                                                            refine rn_ge (a := p) (b := ν) (tgt := 257) C (by omega) (by omega) (dx dX7_copy 128 rfl) (by decide) (fun c324 => ?_) (fun c324 => ?_)
                                                            · first
                                                              | (omega; done)
                                                              | (
                                                                  have c324 : ν ≤ p := c324
                                                                  refine r_iload C (dx dX7_copy 143 rfl) rfl ?_
                                                                  have eA : copA g (nI π) (nI θ) (nI ι) (nI ξ) (nI ν) = nI ν := by simp [copA, copG, copF, c1, c3, c276, c278, c279, c302, c303, c306, c308, c310, c312, c314, c316, c318, c322, c324, e01, e11, e21, e31, e41, e51, e61, e71, e02, e12, e22, e32, e42, e52, e62, e72, clN (show π < 2 ^ 31 by omega), clN (show θ < 2 ^ 31 by omega), clN (show ν < 2 ^ 31 by omega), clN (show ι < 2 ^ 31 by omega), clN (show ξ < 2 ^ 31 by omega), inR_nI (show π < 2 ^ 31 by omega), inR_nI (show θ < 2 ^ 31 by omega), inR_nI (show ν < 2 ^ 31 by omega), inR_nI (show ι < 2 ^ 31 by omega), inR_nI (show ξ < 2 ^ 31 by omega), show π < 8 by omega, show θ < 8 by omega, cp_row e31 e32 (by omega) (by omega) (show ι < 2 ^ 31 by omega) (show ξ < 2 ^ 31 by omega) (show ν < 2 ^ 31 by omega), show ι + ν ≤ ν1 by omega, show ξ + ν ≤ ν2 by omega]
                                                                  have eG : copG g (nI π) (nI θ) (nI ι) (nI ξ) (nI ν) = g := by simp [copA, copG, copF, c1, c3, c276, c278, c279, c302, c303, c306, c308, c310, c312, c314, c316, c318, c322, c324, e01, e11, e21, e31, e41, e51, e61, e71, e02, e12, e22, e32, e42, e52, e62, e72, clN (show π < 2 ^ 31 by omega), clN (show θ < 2 ^ 31 by omega), clN (show ν < 2 ^ 31 by omega), clN (show ι < 2 ^ 31 by omega), clN (show ξ < 2 ^ 31 by omega), inR_nI (show π < 2 ^ 31 by omega), inR_nI (show θ < 2 ^ 31 by omega), inR_nI (show ν < 2 ^ 31 by omega), inR_nI (show ι < 2 ^ 31 by omega), inR_nI (show ξ < 2 ^ 31 by omega), show π < 8 by omega, show θ < 8 by omega, cp_row e31 e32 (by omega) (by omega) (show ι < 2 ^ 31 by omega) (show ξ < 2 ^ 31 by omega) (show ν < 2 ^ 31 by omega), show ι + ν ≤ ν1 by omega, show ξ + ν ≤ ν2 by omega]
                                                                  exact F.1 _ _ _ _ _ rfl rfl (dx dX7_copy 144 rfl) k8 (show some (vi (nI ν)) = some (vi (copA g (nI π) (nI θ) (nI ι) (nI ξ) (nI ν))) ∧ MilAt h8 k v ∧ MshAt h8 k (copG g (nI π) (nI θ) (nI ι) (nI ξ) (nI ν)) ∧ Kt k h h8 from by rw [eA, eG]; exact ⟨rfl, hm, hs, Kt.rf⟩))
                                                            · first
                                                              | (omega; done)
                                                              | (
                                                                  have c324 : p < ν := c324
                                                                  refine r_aload_n C (dx dX7_copy 129 rfl) rfl ?_
                                                                  refine g_X7_21 C (dx dX7_copy 130 rfl) ?_
                                                                  refine r_iload_n C (dx dX7_copy 131 rfl) rfl ?_
                                                                  refine r_aald5 (j := θ) C rfl rfl (by decide) rfl (by omega) (dx dX7_copy 132 rfl) ?_
                                                                  refine r_iload C (dx dX7_copy 133 rfl) rfl ?_
                                                                  refine r_iload C (dx dX7_copy 134 rfl) rfl ?_
                                                                  refine rn_iadd (a := ξ) (b := p) C (dx dX7_copy 135 rfl) ?_
                                                                  refine r_aload_n C (dx dX7_copy 136 rfl) rfl ?_
                                                                  refine g_X7_24 C (dx dX7_copy 137 rfl) ?_
                                                                  refine r_iload C (dx dX7_copy 138 rfl) rfl ?_
                                                                  refine r_lald (j := p) (x := gE g π (ι + p)) C rfl rfl (by decide) rfl (by omega) (dx dX7_copy 139 rfl) (u8 _ (by omega)) ?_
                                                                  refine r_last (j := ξ + p) C rfl rfl (by decide) rfl (by omega) (dx dX7_copy 140 rfl) ?_
                                                                  refine rn_iinc (a := p) (k := 1) (ls' := [(0, vr 7 k), (1, vi (nI π)), (2, vi (nI θ)), (3, vi (nI ι)), (4, vi (nI ξ)), (5, vi (nI ν)), (6, vi (nI (p + 1)))]) C (dx dX7_copy 141 rfl) rfl rfl (by decide) [1, 2, 3, 4, 5, 6, 0] rfl ?_
                                                                  refine r_goto (tgt := 225) C (dx dX7_copy 142 rfl) (by decide) ?_
                                                                  exact ih _ (fun i hi => by rw [sL_at]; exact cp2_step q8 i hi) (fun t ht => by rw [sL_ne (by omega)]; exact u8 t ht) (f8.tr (Fr.sL (by omega) (by omega))) k8))
                                                    · first
                                                      | (omega; done)
                                                      | (
                                                          have c322 : p < ν := c322
                                                          refine r_aload_n C (dx dX7_copy 110 rfl) rfl ?_
                                                          refine g_X7_24 C (dx dX7_copy 111 rfl) ?_
                                                          refine r_iload C (dx dX7_copy 112 rfl) rfl ?_
                                                          refine r_aload_n C (dx dX7_copy 113 rfl) rfl ?_
                                                          refine g_X7_21 C (dx dX7_copy 114 rfl) ?_
                                                          refine r_iload_n C (dx dX7_copy 115 rfl) rfl ?_
                                                          refine r_aald5 (j := π) C rfl rfl (by decide) rfl (by omega) (dx dX7_copy 116 rfl) ?_
                                                          refine r_iload_n C (dx dX7_copy 117 rfl) rfl ?_
                                                          refine r_iload C (dx dX7_copy 118 rfl) rfl ?_
                                                          refine rn_iadd (a := ι) (b := p) C (dx dX7_copy 119 rfl) ?_
                                                          refine r_lald (j := ι + p) (x := gE g π (ι + p)) C rfl rfl (by decide) rfl (by omega) (dx dX7_copy 120 rfl) ((f9.L (by omega) _).trans (a81 _ (by omega))) ?_
                                                          refine r_last (j := p) C rfl rfl (by decide) rfl (by omega) (dx dX7_copy 121 rfl) ?_
                                                          refine rn_iinc (a := p) (k := 1) (ls' := [(0, vr 7 k), (1, vi (nI π)), (2, vi (nI θ)), (3, vi (nI ι)), (4, vi (nI ξ)), (5, vi (nI ν)), (6, vi (nI (p + 1)))]) C (dx dX7_copy 122 rfl) rfl rfl (by decide) [1, 2, 3, 4, 5, 6, 0] rfl ?_
                                                          refine r_goto (tgt := 191) C (dx dX7_copy 123 rfl) (by decide) ?_
                                                          exact ih _ (fun t ht => by rw [sL_at]; split; (next e => rw [e]); exact q9 t (by omega)) (f9.tr (Fr.sL (by omega) (by omega))) k9)
                                                ·
                                                  have c318 : ¬ nI ξ ≤ (xI h (k + 3) θ) - (nI ν) := c318
                                                  refine r_aload_n C (dx dX7_copy 101 rfl) rfl ?_
                                                  refine r_bipush (v := -2) C (dx dX7_copy 102 rfl) rfl ?_
                                                  refine r_cv (as := [vi (-2)]) (st := []) C X I_X7_refuse l_X7_83 (e_refuse hm (x := -2) (j := 2) (by decide) (by decide)) (by decide) (Nat.le_of_ble_eq_true rfl) List.prefix_rfl List.prefix_rfl rfl rfl (Nat.le_of_ble_eq_true rfl) rfl (dx dX7_copy 103 rfl) ?_
                                                  rintro _ h325 ⟨rfl, m9h325, qh325⟩ kkh325
                                                  have mh325 : MilAt h325 k v := m9h325
                                                  have ph325 : Kp k h h325 := qh325
                                                  have kh325 : xK h325 = xK h := kkh325
                                                  have eA : copA g (nI π) (nI θ) (nI ι) (nI ξ) (nI ν) = -2 := by (have hq : ¬ (ι + ν ≤ ν1 ∧ ξ + ν ≤ ν2) := by omega); (have hq2 := cp_row e31 e32 (i := ι) (j := ξ) (n := ν) (by omega) (by omega) (by omega) (by omega) (by omega)); rw [decide_eq_false hq] at hq2; simp [copA, copG, copF, c1, c3, c276, c278, c279, c302, c303, c306, c308, c310, c312, c314, c316, c318, e01, e11, e21, e31, e41, e51, e61, e71, e02, e12, e22, e32, e42, e52, e62, e72, clN (show π < 2 ^ 31 by omega), clN (show θ < 2 ^ 31 by omega), clN (show ν < 2 ^ 31 by omega), clN (show ι < 2 ^ 31 by omega), clN (show ξ < 2 ^ 31 by omega), inR_nI (show π < 2 ^ 31 by omega), inR_nI (show θ < 2 ^ 31 by omega), inR_nI (show ν < 2 ^ 31 by omega), inR_nI (show ι < 2 ^ 31 by omega), inR_nI (show ξ < 2 ^ 31 by omega), hq2, show π < 8 by omega, show θ < 8 by omega]
                                                  have eG : copG g (nI π) (nI θ) (nI ι) (nI ξ) (nI ν) = g := by (have hq : ¬ (ι + ν ≤ ν1 ∧ ξ + ν ≤ ν2) := by omega); (have hq2 := cp_row e31 e32 (i := ι) (j := ξ) (n := ν) (by omega) (by omega) (by omega) (by omega) (by omega)); rw [decide_eq_false hq] at hq2; simp [copA, copG, copF, c1, c3, c276, c278, c279, c302, c303, c306, c308, c310, c312, c314, c316, c318, e01, e11, e21, e31, e41, e51, e61, e71, e02, e12, e22, e32, e42, e52, e62, e72, clN (show π < 2 ^ 31 by omega), clN (show θ < 2 ^ 31 by omega), clN (show ν < 2 ^ 31 by omega), clN (show ι < 2 ^ 31 by omega), clN (show ξ < 2 ^ 31 by omega), inR_nI (show π < 2 ^ 31 by omega), inR_nI (show θ < 2 ^ 31 by omega), inR_nI (show ν < 2 ^ 31 by omega), inR_nI (show ι < 2 ^ 31 by omega), inR_nI (show ξ < 2 ^ 31 by omega), hq2, show π < 8 by omega, show θ < 8 by omega]
                                                  exact F.1 _ _ _ _ _ rfl rfl (dx dX7_copy 104 rfl) kh325 (show some (vi (-2)) = some (vi (copA g (nI π) (nI θ) (nI ι) (nI ξ) (nI ν))) ∧ MilAt h325 k v ∧ MshAt h325 k (copG g (nI π) (nI θ) (nI ι) (nI ξ) (nI ν)) ∧ Kt k h h325 from by rw [eA, eG]; exact ⟨rfl, mh325, hs.kp ph325, ph325.kt⟩)
                                  ·
                                    have c303 : ¬ xI h (k + 2) π = xI h (k + 2) θ := c303
                                    refine r_aload_n C (dx dX7_copy 49 rfl) rfl ?_
                                    refine r_bipush (v := -3) C (dx dX7_copy 50 rfl) rfl ?_
                                    refine r_cv (as := [vi (-3)]) (st := []) C X I_X7_refuse l_X7_83 (e_refuse hm (x := -3) (j := 3) (by decide) (by decide)) (by decide) (Nat.le_of_ble_eq_true rfl) List.prefix_rfl List.prefix_rfl rfl rfl (Nat.le_of_ble_eq_true rfl) rfl (dx dX7_copy 51 rfl) ?_
                                    rintro _ h326 ⟨rfl, m9h326, qh326⟩ kkh326
                                    have mh326 : MilAt h326 k v := m9h326
                                    have ph326 : Kp k h h326 := qh326
                                    have kh326 : xK h326 = xK h := kkh326
                                    have eA : copA g (nI π) (nI θ) i j n = -3 := by simp [copA, copG, copF, cpOk, c1, c3, c276, c278, c279, c302, c303, e01, e11, e21, e31, e41, e51, e61, e71, e02, e12, e22, e32, e42, e52, e62, e72, clN (show π < 2 ^ 31 by omega), clN (show θ < 2 ^ 31 by omega), inR_nI (show π < 2 ^ 31 by omega), inR_nI (show θ < 2 ^ 31 by omega), show π < 8 by omega, show θ < 8 by omega]
                                    have eG : copG g (nI π) (nI θ) i j n = g := by simp [copA, copG, copF, cpOk, c1, c3, c276, c278, c279, c302, c303, e01, e11, e21, e31, e41, e51, e61, e71, e02, e12, e22, e32, e42, e52, e62, e72, clN (show π < 2 ^ 31 by omega), clN (show θ < 2 ^ 31 by omega), inR_nI (show π < 2 ^ 31 by omega), inR_nI (show θ < 2 ^ 31 by omega), show π < 8 by omega, show θ < 8 by omega]
                                    exact F.1 _ _ _ _ _ rfl rfl (dx dX7_copy 52 rfl) kh326 (show some (vi (-3)) = some (vi (copA g (nI π) (nI θ) i j n)) ∧ MilAt h326 k v ∧ MshAt h326 k (copG g (nI π) (nI θ) i j n) ∧ Kt k h h326 from by rw [eA, eG]; exact ⟨rfl, mh326, hs.kp ph326, ph326.kt⟩)))))
    ·
      have c3 : (inR q 8) = false := c3
      refine r_aload_n C (dx dX7_copy 12 rfl) rfl ?_
      refine r_bipush (v := -2) C (dx dX7_copy 13 rfl) rfl ?_
      refine r_cv (as := [vi (-2)]) (st := []) C X I_X7_refuse l_X7_83 (e_refuse hm (x := -2) (j := 2) (by decide) (by decide)) (by decide) (Nat.le_of_ble_eq_true rfl) List.prefix_rfl List.prefix_rfl rfl rfl (Nat.le_of_ble_eq_true rfl) rfl (dx dX7_copy 14 rfl) ?_
      rintro _ h327 ⟨rfl, m9h327, qh327⟩ kkh327
      have mh327 : MilAt h327 k v := m9h327
      have ph327 : Kp k h h327 := qh327
      have kh327 : xK h327 = xK h := kkh327
      have eA : copA g (nI π) q i j n = -2 := by simp [copA, copG, copF, cpOk, c1, c3, clN (show π < 2 ^ 31 by omega), inR_nI (show π < 2 ^ 31 by omega), show π < 8 by omega]
      have eG : copG g (nI π) q i j n = g := by simp [copA, copG, copF, cpOk, c1, c3, clN (show π < 2 ^ 31 by omega), inR_nI (show π < 2 ^ 31 by omega), show π < 8 by omega]
      exact F.1 _ _ _ _ _ rfl rfl (dx dX7_copy 15 rfl) kh327 (show some (vi (-2)) = some (vi (copA g (nI π) q i j n)) ∧ MilAt h327 k v ∧ MshAt h327 k (copG g (nI π) q i j n) ∧ Kt k h h327 from by rw [eA, eG]; exact ⟨rfl, mh327, hs.kp ph327, ph327.kt⟩)
set_option maxHeartbeats 4000000 in
theorem v_X7_element {l : Launch} {h : Hp} {k : Nat} {v : Vg} {g : Sg} (hm : MilAt h k v) (hs : MshAt h k g) (s i : Int32) : Ms l yX7_element cX7_element 3 (some .long) 5 [vr 7 k, vi s, vi i] h (xK h) (fun r h' => r = some (vl (elV g s i)) ∧ MilAt h' k v ∧ MshAt h' k g ∧ Kt k h h') := by
  refine Ms.of (by decide) (Nat.le_of_ble_eq_true rfl) (fun G C X F => ?_)
  have C : Cx G cX7_element 3 RX7 := C
  show Rr G 0 [(0, vr 7 k), (1, vi s), (2, vi i)] [] h
  have bP := hm.bP
  have bM := hm.bM
  have bN := hm.bN
  refine r_iload_n C (dx dX7_element 0 rfl) rfl ?_
  refine r_i2l C (dx dX7_element 1 rfl) ?_
  refine r_lconst (v := 0) C (dx dX7_element 2 rfl) rfl ?_
  refine r_ldc2 C n_X7_77 (dx dX7_element 3 rfl) ?_
  refine r_csP (as := [vl s.toInt64, vl 0, vl 7]) (st := []) (v := vi (b2i (inR s 8))) C X I_X7_in l_X7_67 (c_inR (b := 7) (by decide) (by decide)) (by decide) (Nat.le_of_ble_eq_true rfl) List.prefix_rfl (Nat.le_of_ble_eq_true rfl) rfl (dx dX7_element 4 rfl) ?_
  refine rb_eq (b := inR s 8) (tgt := 51) C (dx dX7_element 5 rfl) (by decide) (fun c1 => ?_) (fun c1 => ?_)
  ·
    have c1 : (inR s 8) = false := c1
    refine r_lconst (v := 0) C (dx dX7_element 31 rfl) rfl ?_
    have eA : elV g s i = 0 := by exact el_0 (sz_out c1)
    exact F.2.1 _ _ _ _ rfl (dx dX7_element 32 rfl) rfl (show some (vl 0) = some (vl (elV g s i)) ∧ MilAt h k v ∧ MshAt h k g ∧ Kt k h h from by rw [eA]; exact ⟨rfl, hm, hs, Kt.rf⟩)
  ·
    have c1 : (inR s 8) = true := c1
    obtain ⟨σ, hσ, rfl⟩ := inR_ex (n := 8) (by omega) c1
    rcases hs σ hσ with ⟨a11, a21⟩ | ⟨τ1, ν1, a11, a21, a31, a41, a51, a61, a71, a81⟩ | ⟨κ1, b1, a11, a21, a31, a41, a51, a61, a71, a81⟩
    ·
      obtain ⟨e01, e11, e21, e31, e41, e51, e61⟩ := sh_bare hσ a21
      refine r_aload_n C (dx dX7_element 6 rfl) rfl ?_
      refine g_X7_7 C (dx dX7_element 7 rfl) ?_
      refine r_iload_n C (dx dX7_element 8 rfl) rfl ?_
      refine r_iald (j := σ) (x := nI 0) C rfl rfl (by decide) rfl (by omega) (dx dX7_element 9 rfl) a11 ?_
      refine r_iconst (v := nI 1) C (dx dX7_element 10 rfl) rfl ?_
      refine rn_ne (a := 0) (b := 1) (tgt := 51) C (by omega) (by omega) (dx dX7_element 11 rfl) (by decide) (fun c2 => ?_) (fun c2 => ?_)
      · first
        | (omega; done)
        | (
            have c2 : ¬ 0 = 1 := c2
            refine r_lconst (v := 0) C (dx dX7_element 31 rfl) rfl ?_
            have eA : elV g (nI σ) i = 0 := by exact el_0 e31
            exact F.2.1 _ _ _ _ rfl (dx dX7_element 32 rfl) rfl (show some (vl 0) = some (vl (elV g (nI σ) i)) ∧ MilAt h k v ∧ MshAt h k g ∧ Kt k h h from by rw [eA]; exact ⟨rfl, hm, hs, Kt.rf⟩))
      · first
        | (omega; done)
    ·
      obtain ⟨e01, e11, e21, e31, e41, e51, e61⟩ := sh_row hσ a11 a61 a71
      refine r_aload_n C (dx dX7_element 6 rfl) rfl ?_
      refine g_X7_7 C (dx dX7_element 7 rfl) ?_
      refine r_iload_n C (dx dX7_element 8 rfl) rfl ?_
      refine r_iald (j := σ) (x := nI 1) C rfl rfl (by decide) rfl (by omega) (dx dX7_element 9 rfl) a31 ?_
      refine r_iconst (v := nI 1) C (dx dX7_element 10 rfl) rfl ?_
      refine rn_ne (a := 1) (b := 1) (tgt := 51) C (by omega) (by omega) (dx dX7_element 11 rfl) (by decide) (fun c4 => ?_) (fun c4 => ?_)
      · first
        | (omega; done)
        | (
            have c4 : ¬ 1 = 1 := c4
            refine r_lconst (v := 0) C (dx dX7_element 31 rfl) rfl ?_
            have eA : elV g (nI σ) i = 0 := by rw [el_row hσ e31 (by omega), if_pos (inN (by omega) hι), clN (by omega)]
            exact F.2.1 _ _ _ _ rfl (dx dX7_element 32 rfl) rfl (show some (vl 0) = some (vl (elV g (nI σ) i)) ∧ MilAt h k v ∧ MshAt h k g ∧ Kt k h h from by rw [eA]; exact ⟨rfl, hm, hs, Kt.rf⟩))
      · first
        | (omega; done)
        | (
            have c4 : 1 = 1 := c4
            refine r_iload_n C (dx dX7_element 12 rfl) rfl ?_
            refine r_i2l C (dx dX7_element 13 rfl) ?_
            refine r_lconst (v := 0) C (dx dX7_element 14 rfl) rfl ?_
            refine r_aload_n C (dx dX7_element 15 rfl) rfl ?_
            refine g_X7_16 C (dx dX7_element 16 rfl) ?_
            refine r_iload_n C (dx dX7_element 17 rfl) rfl ?_
            refine r_iald (j := σ) (x := nI ν1) C rfl rfl (by decide) rfl (by omega) (dx dX7_element 18 rfl) a51 ?_
            refine r_iconst (v := nI 1) C (dx dX7_element 19 rfl) rfl ?_
            refine r_isub C (dx dX7_element 20 rfl) ?_
            refine r_i2l C (dx dX7_element 21 rfl) ?_
            refine r_csP (as := [vl i.toInt64, vl 0, vl (((nI ν1) - (nI 1)).toInt64)]) (st := []) (v := vi (b2i (inR i ν1))) C X I_X7_in l_X7_67 (c_inN (by omega)) (by decide) (Nat.le_of_ble_eq_true rfl) List.prefix_rfl (Nat.le_of_ble_eq_true rfl) rfl (dx dX7_element 22 rfl) ?_
            refine rb_eq (b := inR i ν1) (tgt := 51) C (dx dX7_element 23 rfl) (by decide) (fun c5 => ?_) (fun c5 => ?_)
            ·
              have c5 : (inR i ν1) = false := c5
              refine r_lconst (v := 0) C (dx dX7_element 31 rfl) rfl ?_
              have eA : elV g (nI σ) i = 0 := by rw [el_row hσ e31 (by omega), if_neg (by simp [c5])]
              exact F.2.1 _ _ _ _ rfl (dx dX7_element 32 rfl) rfl (show some (vl 0) = some (vl (elV g (nI σ) i)) ∧ MilAt h k v ∧ MshAt h k g ∧ Kt k h h from by rw [eA]; exact ⟨rfl, hm, hs, Kt.rf⟩)
            ·
              have c5 : (inR i ν1) = true := c5
              obtain ⟨ι, hι, rfl⟩ := inR_ex (n := ν1) (by omega) c5
              refine r_aload_n C (dx dX7_element 24 rfl) rfl ?_
              refine g_X7_21 C (dx dX7_element 25 rfl) ?_
              refine r_iload_n C (dx dX7_element 26 rfl) rfl ?_
              refine r_aald5 (j := σ) C rfl rfl (by decide) rfl (by omega) (dx dX7_element 27 rfl) ?_
              refine r_iload_n C (dx dX7_element 28 rfl) rfl ?_
              refine r_lald (j := ι) (x := gE g σ ι) C rfl rfl (by decide) rfl (by omega) (dx dX7_element 29 rfl) (a81 _ (by omega)) ?_
              refine r_goto (tgt := 52) C (dx dX7_element 30 rfl) (by decide) ?_
              have eA : elV g (nI σ) (nI ι) = gE g σ ι := by rw [el_row hσ e31 (by omega), if_pos (inN (by omega) hι), clN (by omega)]
              exact F.2.1 _ _ _ _ rfl (dx dX7_element 32 rfl) rfl (show some (vl (gE g σ ι)) = some (vl (elV g (nI σ) (nI ι))) ∧ MilAt h k v ∧ MshAt h k g ∧ Kt k h h from by rw [eA]; exact ⟨rfl, hm, hs, Kt.rf⟩))
    ·
      obtain ⟨e01, e11, e21, e31, e41, e51, e61, e71⟩ := sh_hold hσ a21 a71 a81
      refine r_aload_n C (dx dX7_element 6 rfl) rfl ?_
      refine g_X7_7 C (dx dX7_element 7 rfl) ?_
      refine r_iload_n C (dx dX7_element 8 rfl) rfl ?_
      refine r_iald (j := σ) (x := nI 2) C rfl rfl (by decide) rfl (by omega) (dx dX7_element 9 rfl) a41 ?_
      refine r_iconst (v := nI 1) C (dx dX7_element 10 rfl) rfl ?_
      refine rn_ne (a := 2) (b := 1) (tgt := 51) C (by omega) (by omega) (dx dX7_element 11 rfl) (by decide) (fun c6 => ?_) (fun c6 => ?_)
      · first
        | (omega; done)
        | (
            have c6 : ¬ 2 = 1 := c6
            refine r_lconst (v := 0) C (dx dX7_element 31 rfl) rfl ?_
            have eA : elV g (nI σ) i = 0 := by exact el_0 e31
            exact F.2.1 _ _ _ _ rfl (dx dX7_element 32 rfl) rfl (show some (vl 0) = some (vl (elV g (nI σ) i)) ∧ MilAt h k v ∧ MshAt h k g ∧ Kt k h h from by rw [eA]; exact ⟨rfl, hm, hs, Kt.rf⟩))
      · first
        | (omega; done)
set_option maxHeartbeats 4000000 in
theorem v_X7_holds {l : Launch} {h : Hp} {k : Nat} {v : Vg} {g : Sg} (hm : MilAt h k v) (hs : MshAt h k g) (s : Int32) : Ms l yX7_holds cX7_holds 2 (some .int) 5 [vr 7 k, vi s] h (xK h) (fun r h' => r = some (vi (tOn g s)) ∧ MilAt h' k v ∧ MshAt h' k g ∧ Kt k h h') := by
  refine Ms.of (by decide) (Nat.le_of_ble_eq_true rfl) (fun G C X F => ?_)
  have C : Cx G cX7_holds 2 RX7 := C
  show Rr G 0 [(0, vr 7 k), (1, vi s)] [] h
  have bP := hm.bP
  have bM := hm.bM
  have bN := hm.bN
  refine r_iload_n C (dx dX7_holds 0 rfl) rfl ?_
  refine r_i2l C (dx dX7_holds 1 rfl) ?_
  refine r_lconst (v := 0) C (dx dX7_holds 2 rfl) rfl ?_
  refine r_ldc2 C n_X7_77 (dx dX7_holds 3 rfl) ?_
  refine r_csP (as := [vl s.toInt64, vl 0, vl 7]) (st := []) (v := vi (b2i (inR s 8))) C X I_X7_in l_X7_67 (c_inR (b := 7) (by decide) (by decide)) (by decide) (Nat.le_of_ble_eq_true rfl) List.prefix_rfl (Nat.le_of_ble_eq_true rfl) rfl (dx dX7_holds 4 rfl) ?_
  refine rb_eq (b := inR s 8) (tgt := 21) C (dx dX7_holds 5 rfl) (by decide) (fun c1 => ?_) (fun c1 => ?_)
  ·
    have c1 : (inR s 8) = false := c1
    refine r_iconst (v := -1) C (dx dX7_holds 11 rfl) rfl ?_
    have eA : tOn g s = -1 := by exact tOn_no c1
    exact F.1 _ _ _ _ _ rfl rfl (dx dX7_holds 12 rfl) rfl (show some (vi (-1)) = some (vi (tOn g s)) ∧ MilAt h k v ∧ MshAt h k g ∧ Kt k h h from by rw [eA]; exact ⟨rfl, hm, hs, Kt.rf⟩)
  ·
    have c1 : (inR s 8) = true := c1
    obtain ⟨σ, hσ, rfl⟩ := inR_ex (n := 8) (by omega) c1
    rcases hs σ hσ with ⟨a11, a21⟩ | ⟨τ1, ν1, a11, a21, a31, a41, a51, a61, a71, a81⟩ | ⟨κ1, b1, a11, a21, a31, a41, a51, a61, a71, a81⟩
    ·
      obtain ⟨e01, e11, e21, e31, e41, e51, e61⟩ := sh_bare hσ a21
      refine r_aload_n C (dx dX7_holds 6 rfl) rfl ?_
      refine g_X7_7 C (dx dX7_holds 7 rfl) ?_
      refine r_iload_n C (dx dX7_holds 8 rfl) rfl ?_
      refine r_iald (j := σ) (x := nI 0) C rfl rfl (by decide) rfl (by omega) (dx dX7_holds 9 rfl) a11 ?_
      refine r_if_ne (tgt := 23) C (dx dX7_holds 10 rfl) (by decide) (fun c2 => (show False from by revert c2; decide).elim) (fun _ => ?_)
      refine r_iconst (v := -1) C (dx dX7_holds 11 rfl) rfl ?_
      have eA : tOn g (nI σ) = -1 := by exact e41
      exact F.1 _ _ _ _ _ rfl rfl (dx dX7_holds 12 rfl) rfl (show some (vi (-1)) = some (vi (tOn g (nI σ))) ∧ MilAt h k v ∧ MshAt h k g ∧ Kt k h h from by rw [eA]; exact ⟨rfl, hm, hs, Kt.rf⟩)
    ·
      obtain ⟨e01, e11, e21, e31, e41, e51, e61⟩ := sh_row hσ a11 a61 a71
      refine r_aload_n C (dx dX7_holds 6 rfl) rfl ?_
      refine g_X7_7 C (dx dX7_holds 7 rfl) ?_
      refine r_iload_n C (dx dX7_holds 8 rfl) rfl ?_
      refine r_iald (j := σ) (x := nI 1) C rfl rfl (by decide) rfl (by omega) (dx dX7_holds 9 rfl) a31 ?_
      refine r_if_ne (tgt := 23) C (dx dX7_holds 10 rfl) (by decide) (fun _ => ?_) (fun c3 => (show False from by revert c3; decide).elim)
      refine r_aload_n C (dx dX7_holds 13 rfl) rfl ?_
      refine g_X7_7 C (dx dX7_holds 14 rfl) ?_
      refine r_iload_n C (dx dX7_holds 15 rfl) rfl ?_
      refine r_iald (j := σ) (x := nI 1) C rfl rfl (by decide) rfl (by omega) (dx dX7_holds 16 rfl) a31 ?_
      refine r_iconst (v := nI 1) C (dx dX7_holds 17 rfl) rfl ?_
      refine rn_ne (a := 1) (b := 1) (tgt := 42) C (by omega) (by omega) (dx dX7_holds 18 rfl) (by decide) (fun c4 => ?_) (fun c4 => ?_)
      · first
        | (omega; done)
        | (
            have c4 : ¬ 1 = 1 := c4
            refine r_bipush (v := nI 10) C (dx dX7_holds 24 rfl) rfl ?_
            refine r_aload_n C (dx dX7_holds 25 rfl) rfl ?_
            refine g_X7_28 C (dx dX7_holds 26 rfl) ?_
            refine r_iload_n C (dx dX7_holds 27 rfl) rfl ?_
            refine r_iald (j := σ) (x := xI h (k + 14) σ) C rfl rfl (by decide) rfl (by omega) (dx dX7_holds 28 rfl) rfl ?_
            refine r_iadd C (dx dX7_holds 29 rfl) ?_
            have eA : tOn g (nI σ) = (nI 10) + (xI h (k + 14) σ) := by exact e41
            exact F.1 _ _ _ _ _ rfl rfl (dx dX7_holds 30 rfl) rfl (show some (vi ((nI 10) + (xI h (k + 14) σ))) = some (vi (tOn g (nI σ))) ∧ MilAt h k v ∧ MshAt h k g ∧ Kt k h h from by rw [eA]; exact ⟨rfl, hm, hs, Kt.rf⟩))
      · first
        | (omega; done)
        | (
            have c4 : 1 = 1 := c4
            refine r_aload_n C (dx dX7_holds 19 rfl) rfl ?_
            refine g_X7_13 C (dx dX7_holds 20 rfl) ?_
            refine r_iload_n C (dx dX7_holds 21 rfl) rfl ?_
            refine r_iald (j := σ) (x := nI τ1) C rfl rfl (by decide) rfl (by omega) (dx dX7_holds 22 rfl) a41 ?_
            refine r_goto (tgt := 51) C (dx dX7_holds 23 rfl) (by decide) ?_
            have eA : tOn g (nI σ) = nI τ1 := by exact e41
            exact F.1 _ _ _ _ _ rfl rfl (dx dX7_holds 30 rfl) rfl (show some (vi (nI τ1)) = some (vi (tOn g (nI σ))) ∧ MilAt h k v ∧ MshAt h k g ∧ Kt k h h from by rw [eA]; exact ⟨rfl, hm, hs, Kt.rf⟩))
    ·
      obtain ⟨e01, e11, e21, e31, e41, e51, e61, e71⟩ := sh_hold hσ a21 a71 a81
      refine r_aload_n C (dx dX7_holds 6 rfl) rfl ?_
      refine g_X7_7 C (dx dX7_holds 7 rfl) ?_
      refine r_iload_n C (dx dX7_holds 8 rfl) rfl ?_
      refine r_iald (j := σ) (x := nI 2) C rfl rfl (by decide) rfl (by omega) (dx dX7_holds 9 rfl) a41 ?_
      refine r_if_ne (tgt := 23) C (dx dX7_holds 10 rfl) (by decide) (fun _ => ?_) (fun c5 => (show False from by revert c5; decide).elim)
      refine r_aload_n C (dx dX7_holds 13 rfl) rfl ?_
      refine g_X7_7 C (dx dX7_holds 14 rfl) ?_
      refine r_iload_n C (dx dX7_holds 15 rfl) rfl ?_
      refine r_iald (j := σ) (x := nI 2) C rfl rfl (by decide) rfl (by omega) (dx dX7_holds 16 rfl) a41 ?_
      refine r_iconst (v := nI 1) C (dx dX7_holds 17 rfl) rfl ?_
      refine rn_ne (a := 2) (b := 1) (tgt := 42) C (by omega) (by omega) (dx dX7_holds 18 rfl) (by decide) (fun c6 => ?_) (fun c6 => ?_)
      · first
        | (omega; done)
        | (
            have c6 : ¬ 2 = 1 := c6
            refine r_bipush (v := nI 10) C (dx dX7_holds 24 rfl) rfl ?_
            refine r_aload_n C (dx dX7_holds 25 rfl) rfl ?_
            refine g_X7_28 C (dx dX7_holds 26 rfl) ?_
            refine r_iload_n C (dx dX7_holds 27 rfl) rfl ?_
            refine r_iald (j := σ) (x := nI κ1) C rfl rfl (by decide) rfl (by omega) (dx dX7_holds 28 rfl) a51 ?_
            refine rn_iadd (a := 10) (b := κ1) C (dx dX7_holds 29 rfl) ?_
            have eA : tOn g (nI σ) = nI (10 + κ1) := by exact e41
            exact F.1 _ _ _ _ _ rfl rfl (dx dX7_holds 30 rfl) rfl (show some (vi (nI (10 + κ1))) = some (vi (tOn g (nI σ))) ∧ MilAt h k v ∧ MshAt h k g ∧ Kt k h h from by rw [eA]; exact ⟨rfl, hm, hs, Kt.rf⟩))
      · first
        | (omega; done)
        | (
            have c6 : 2 = 1 := c6
            refine r_aload_n C (dx dX7_holds 19 rfl) rfl ?_
            refine g_X7_13 C (dx dX7_holds 20 rfl) ?_
            refine r_iload_n C (dx dX7_holds 21 rfl) rfl ?_
            refine r_iald (j := σ) (x := xI h (k + 2) σ) C rfl rfl (by decide) rfl (by omega) (dx dX7_holds 22 rfl) rfl ?_
            refine r_goto (tgt := 51) C (dx dX7_holds 23 rfl) (by decide) ?_
            have eA : tOn g (nI σ) = xI h (k + 2) σ := by exact e41
            exact F.1 _ _ _ _ _ rfl rfl (dx dX7_holds 30 rfl) rfl (show some (vi (xI h (k + 2) σ)) = some (vi (tOn g (nI σ))) ∧ MilAt h k v ∧ MshAt h k g ∧ Kt k h h from by rw [eA]; exact ⟨rfl, hm, hs, Kt.rf⟩))
set_option maxHeartbeats 4000000 in
theorem v_X7_holding {l : Launch} {h : Hp} {k : Nat} {v : Vg} {g : Sg} (hm : MilAt h k v) (hs : MshAt h k g) (s k9 a : Int32) : Ms l yX7_holding cX7_holding 4 (some .int) 4 [vr 7 k, vi s, vi k9, vi a] h (xK h) (fun r h' => r = some (vi (hldA s k9 a)) ∧ MilAt h' k v ∧ MshAt h' k (hldG g s k9 a) ∧ Kt k h h') := by
  refine Ms.of (by decide) (Nat.le_of_ble_eq_true rfl) (fun G C X F => ?_)
  have C : Cx G cX7_holding 4 RX7 := C
  show Rr G 0 [(0, vr 7 k), (1, vi s), (2, vi k9), (3, vi a)] [] h
  have bP := hm.bP
  have bM := hm.bM
  have bN := hm.bN
  refine r_iload_n C (dx dX7_holding 0 rfl) rfl ?_
  refine r_i2l C (dx dX7_holding 1 rfl) ?_
  refine r_lconst (v := 0) C (dx dX7_holding 2 rfl) rfl ?_
  refine r_ldc2 C n_X7_77 (dx dX7_holding 3 rfl) ?_
  refine r_csP (as := [vl s.toInt64, vl 0, vl 7]) (st := []) (v := vi (b2i (inR s 8))) C X I_X7_in l_X7_67 (c_inR (b := 7) (by decide) (by decide)) (by decide) (Nat.le_of_ble_eq_true rfl) List.prefix_rfl (Nat.le_of_ble_eq_true rfl) rfl (dx dX7_holding 4 rfl) ?_
  refine rb_eq (b := inR s 8) (tgt := 36) C (dx dX7_holding 5 rfl) (by decide) (fun c1 => ?_) (fun c1 => ?_)
  ·
    have c1 : (inR s 8) = false := c1
    refine r_aload_n C (dx dX7_holding 18 rfl) rfl ?_
    refine r_bipush (v := -2) C (dx dX7_holding 19 rfl) rfl ?_
    refine r_cv (as := [vi (-2)]) (st := []) C X I_X7_refuse l_X7_83 (e_refuse hm (x := -2) (j := 2) (by decide) (by decide)) (by decide) (Nat.le_of_ble_eq_true rfl) List.prefix_rfl List.prefix_rfl rfl rfl (Nat.le_of_ble_eq_true rfl) rfl (dx dX7_holding 20 rfl) ?_
    rintro _ h2 ⟨rfl, m9h2, qh2⟩ kkh2
    have mh2 : MilAt h2 k v := m9h2
    have ph2 : Kp k h h2 := qh2
    have kh2 : xK h2 = xK h := kkh2
    have eA : hldA s k9 a = -2 := by simp [hldA, hldG, hldB_eq, c1]
    have eG : hldG g s k9 a = g := by simp [hldA, hldG, hldB_eq, c1]
    exact F.1 _ _ _ _ _ rfl rfl (dx dX7_holding 21 rfl) kh2 (show some (vi (-2)) = some (vi (hldA s k9 a)) ∧ MilAt h2 k v ∧ MshAt h2 k (hldG g s k9 a) ∧ Kt k h h2 from by rw [eA, eG]; exact ⟨rfl, mh2, hs.kp ph2, ph2.kt⟩)
  ·
    have c1 : (inR s 8) = true := c1
    obtain ⟨σ, hσ, rfl⟩ := inR_ex (n := 8) (by omega) c1
    refine r_iload_n C (dx dX7_holding 6 rfl) rfl ?_
    refine r_i2l C (dx dX7_holding 7 rfl) ?_
    refine r_lconst (v := 1) C (dx dX7_holding 8 rfl) rfl ?_
    refine r_ldc2 C n_X7_94 (dx dX7_holding 9 rfl) ?_
    refine r_csP (as := [vl k9.toInt64, vl 1, vl 5]) (st := []) (v := vi (b2i (btwB k9 1 5))) C X I_X7_in l_X7_67 (c_inB (a := 1) (b := 5) (by decide) (by decide)) (by decide) (Nat.le_of_ble_eq_true rfl) List.prefix_rfl (Nat.le_of_ble_eq_true rfl) rfl (dx dX7_holding 10 rfl) ?_
    refine rb_eq (b := btwB k9 1 5) (tgt := 36) C (dx dX7_holding 11 rfl) (by decide) (fun c3 => ?_) (fun c3 => ?_)
    ·
      have c3 : (btwB k9 1 5) = false := c3
      refine r_aload_n C (dx dX7_holding 18 rfl) rfl ?_
      refine r_bipush (v := -2) C (dx dX7_holding 19 rfl) rfl ?_
      refine r_cv (as := [vi (-2)]) (st := []) C X I_X7_refuse l_X7_83 (e_refuse hm (x := -2) (j := 2) (by decide) (by decide)) (by decide) (Nat.le_of_ble_eq_true rfl) List.prefix_rfl List.prefix_rfl rfl rfl (Nat.le_of_ble_eq_true rfl) rfl (dx dX7_holding 20 rfl) ?_
      rintro _ h4 ⟨rfl, m9h4, qh4⟩ kkh4
      have mh4 : MilAt h4 k v := m9h4
      have ph4 : Kp k h h4 := qh4
      have kh4 : xK h4 = xK h := kkh4
      have eA : hldA (nI σ) k9 a = -2 := by simp [hldA, hldG, hldB_eq, c1, c3, clN (show σ < 2 ^ 31 by omega), inR_nI (show σ < 2 ^ 31 by omega), show σ < 8 by omega]
      have eG : hldG g (nI σ) k9 a = g := by simp [hldA, hldG, hldB_eq, c1, c3, clN (show σ < 2 ^ 31 by omega), inR_nI (show σ < 2 ^ 31 by omega), show σ < 8 by omega]
      exact F.1 _ _ _ _ _ rfl rfl (dx dX7_holding 21 rfl) kh4 (show some (vi (-2)) = some (vi (hldA (nI σ) k9 a)) ∧ MilAt h4 k v ∧ MshAt h4 k (hldG g (nI σ) k9 a) ∧ Kt k h h4 from by rw [eA, eG]; exact ⟨rfl, mh4, hs.kp ph4, ph4.kt⟩)
    ·
      have c3 : (btwB k9 1 5) = true := c3
      obtain ⟨k99, hk99, hk992, rfl⟩ := btw_ex (a := 1) (b := 5) (by omega) (by omega) c3
      refine r_iload_n C (dx dX7_holding 12 rfl) rfl ?_
      refine r_i2l C (dx dX7_holding 13 rfl) ?_
      refine r_lconst (v := 0) C (dx dX7_holding 14 rfl) rfl ?_
      refine r_ldc2 C n_X7_96 (dx dX7_holding 15 rfl) ?_
      refine r_csP (as := [vl a.toInt64, vl 0, vl 99]) (st := []) (v := vi (b2i (inR a 100))) C X I_X7_in l_X7_67 (c_inR (b := 99) (by decide) (by decide)) (by decide) (Nat.le_of_ble_eq_true rfl) List.prefix_rfl (Nat.le_of_ble_eq_true rfl) rfl (dx dX7_holding 16 rfl) ?_
      refine rb_ne (b := inR a 100) (tgt := 43) C (dx dX7_holding 17 rfl) (by decide) (fun c5 => ?_) (fun c5 => ?_)
      ·
        have c5 : (inR a 100) = true := c5
        obtain ⟨α, hα, rfl⟩ := inR_ex (n := 100) (by omega) c5
        refine r_aload_n C (dx dX7_holding 22 rfl) rfl ?_
        refine g_X7_7 C (dx dX7_holding 23 rfl) ?_
        refine r_iload_n C (dx dX7_holding 24 rfl) rfl ?_
        refine r_iconst (v := nI 2) C (dx dX7_holding 25 rfl) rfl ?_
        refine r_iast (j := σ) C rfl rfl (by decide) rfl (by omega) (dx dX7_holding 26 rfl) ?_
        refine r_aload_n C (dx dX7_holding 27 rfl) rfl ?_
        refine g_X7_28 C (dx dX7_holding 28 rfl) ?_
        refine r_iload_n C (dx dX7_holding 29 rfl) rfl ?_
        refine r_iload_n C (dx dX7_holding 30 rfl) rfl ?_
        refine r_iast (j := σ) C rfl rfl (by decide) rfl (by omega) (dx dX7_holding 31 rfl) ?_
        refine r_aload_n C (dx dX7_holding 32 rfl) rfl ?_
        refine g_X7_31 C (dx dX7_holding 33 rfl) ?_
        refine r_iload_n C (dx dX7_holding 34 rfl) rfl ?_
        refine r_iload_n C (dx dX7_holding 35 rfl) rfl ?_
        refine r_iast (j := σ) C rfl rfl (by decide) rfl (by omega) (dx dX7_holding 36 rfl) ?_
        have s9 : MshAt (sI (sI (sI h (k + 1) σ (nI 2)) (k + 14) σ (nI k99)) (k + 15) σ (nI α)) k (pHold g σ k99 α) := msh_hold hs hσ ⟨by omega, by omega⟩ (by omega)
        have f9 : Fr (k + 1) (k + 16) h (sI (sI (sI h (k + 1) σ (nI 2)) (k + 14) σ (nI k99)) (k + 15) σ (nI α)) := ((Fr.sI (by omega) (by omega)).tr (Fr.sI (by omega) (by omega))).tr (Fr.sI (by omega) (by omega))
        refine r_iconst (v := nI 1) C (dx dX7_holding 37 rfl) rfl ?_
        have eA : hldA (nI σ) (nI k99) (nI α) = nI 1 := by simp [hldA, hldG, hldB_eq, c1, c3, c5, clN (show σ < 2 ^ 31 by omega), clN (show k99 < 2 ^ 31 by omega), clN (show α < 2 ^ 31 by omega), inR_nI (show σ < 2 ^ 31 by omega), inR_nI (show k99 < 2 ^ 31 by omega), inR_nI (show α < 2 ^ 31 by omega), show σ < 8 by omega, show α < 100 by omega, clN (show k99 < 2 ^ 31 by omega)]
        have eG : hldG g (nI σ) (nI k99) (nI α) = pHold g σ k99 α := by simp [hldA, hldG, hldB_eq, c1, c3, c5, clN (show σ < 2 ^ 31 by omega), clN (show k99 < 2 ^ 31 by omega), clN (show α < 2 ^ 31 by omega), inR_nI (show σ < 2 ^ 31 by omega), inR_nI (show k99 < 2 ^ 31 by omega), inR_nI (show α < 2 ^ 31 by omega), show σ < 8 by omega, show α < 100 by omega, clN (show k99 < 2 ^ 31 by omega)]
        exact F.1 _ _ _ _ _ rfl rfl (dx dX7_holding 38 rfl) rfl (show some (vi (nI 1)) = some (vi (hldA (nI σ) (nI k99) (nI α))) ∧ MilAt (sI (sI (sI h (k + 1) σ (nI 2)) (k + 14) σ (nI k99)) (k + 15) σ (nI α)) k v ∧ MshAt (sI (sI (sI h (k + 1) σ (nI 2)) (k + 14) σ (nI k99)) (k + 15) σ (nI α)) k (hldG g (nI σ) (nI k99) (nI α)) ∧ Kt k h (sI (sI (sI h (k + 1) σ (nI 2)) (k + 14) σ (nI k99)) (k + 15) σ (nI α)) from by rw [eA, eG]; exact ⟨rfl, hm.fr f9 (by omega), s9, (Kt.fr f9 (by omega) (by omega))⟩)
      ·
        have c5 : (inR a 100) = false := c5
        refine r_aload_n C (dx dX7_holding 18 rfl) rfl ?_
        refine r_bipush (v := -2) C (dx dX7_holding 19 rfl) rfl ?_
        refine r_cv (as := [vi (-2)]) (st := []) C X I_X7_refuse l_X7_83 (e_refuse hm (x := -2) (j := 2) (by decide) (by decide)) (by decide) (Nat.le_of_ble_eq_true rfl) List.prefix_rfl List.prefix_rfl rfl rfl (Nat.le_of_ble_eq_true rfl) rfl (dx dX7_holding 20 rfl) ?_
        rintro _ h6 ⟨rfl, m9h6, qh6⟩ kkh6
        have mh6 : MilAt h6 k v := m9h6
        have ph6 : Kp k h h6 := qh6
        have kh6 : xK h6 = xK h := kkh6
        have eA : hldA (nI σ) (nI k99) a = -2 := by simp [hldA, hldG, hldB_eq, c1, c3, c5, clN (show σ < 2 ^ 31 by omega), clN (show k99 < 2 ^ 31 by omega), inR_nI (show σ < 2 ^ 31 by omega), inR_nI (show k99 < 2 ^ 31 by omega), show σ < 8 by omega, clN (show k99 < 2 ^ 31 by omega)]
        have eG : hldG g (nI σ) (nI k99) a = g := by simp [hldA, hldG, hldB_eq, c1, c3, c5, clN (show σ < 2 ^ 31 by omega), clN (show k99 < 2 ^ 31 by omega), inR_nI (show σ < 2 ^ 31 by omega), inR_nI (show k99 < 2 ^ 31 by omega), show σ < 8 by omega, clN (show k99 < 2 ^ 31 by omega)]
        exact F.1 _ _ _ _ _ rfl rfl (dx dX7_holding 21 rfl) kh6 (show some (vi (-2)) = some (vi (hldA (nI σ) (nI k99) a)) ∧ MilAt h6 k v ∧ MshAt h6 k (hldG g (nI σ) (nI k99) a) ∧ Kt k h h6 from by rw [eA, eG]; exact ⟨rfl, mh6, hs.kp ph6, ph6.kt⟩)
set_option maxHeartbeats 4000000 in
theorem v_X7_partOf {l : Launch} {h : Hp} {k : Nat} {v : Vg} (hm : MilAt h k v) (p x : Int32) : Ms l yX7_partOf cX7_partOf 3 (some .int) 4 [vr 7 k, vi p, vi x] h (xK h) (fun r h' => PI r ∧ MilAt h' k v ∧ Kp k h h') := by
  refine Ms.of (by decide) (Nat.le_of_ble_eq_true rfl) (fun G C X F => ?_)
  have C : Cx G cX7_partOf 3 RX7 := C
  show Rr G 0 [(0, vr 7 k), (1, vi p), (2, vi x)] [] h
  have bP := hm.bP
  have bM := hm.bM
  have bN := hm.bN
  refine r_aload_n C (dx dX7_partOf 0 rfl) rfl ?_
  refine r_iload_n C (dx dX7_partOf 1 rfl) rfl ?_
  refine r_cvP (as := [vi p]) (st := []) (v := vi (b2i (inR p (vP v)))) C X I_X7_isPart l_X7_132 (c_X7_isPart hm _) (by decide) (Nat.le_of_ble_eq_true rfl) List.prefix_rfl rfl rfl (Nat.le_of_ble_eq_true rfl) rfl (dx dX7_partOf 2 rfl) ?_
  refine rb_eq (b := inR p (vP v)) (tgt := 18) C (dx dX7_partOf 3 rfl) (by decide) (fun c1 => ?_) (fun c1 => ?_)
  ·
    have c1 : (inR p (vP v)) = false := c1
    refine r_aload_n C (dx dX7_partOf 10 rfl) rfl ?_
    refine r_bipush (v := -2) C (dx dX7_partOf 11 rfl) rfl ?_
    refine r_cv (as := [vi (-2)]) (st := []) C X I_X7_refuse l_X7_83 (e_refuse hm (x := -2) (j := 2) (by decide) (by decide)) (by decide) (Nat.le_of_ble_eq_true rfl) List.prefix_rfl List.prefix_rfl rfl rfl (Nat.le_of_ble_eq_true rfl) rfl (dx dX7_partOf 12 rfl) ?_
    rintro _ h2 ⟨rfl, m9h2, qh2⟩ kkh2
    have mh2 : MilAt h2 k v := m9h2
    have ph2 : Kp k h h2 := qh2
    have kh2 : xK h2 = xK h := kkh2
    exact F.1 _ _ _ _ .int rfl rfl (dx dX7_partOf 13 rfl) kh2 ⟨⟨_, rfl⟩, mh2, ph2⟩
  ·
    have c1 : (inR p (vP v)) = true := c1
    obtain ⟨π, hπ, rfl⟩ := inR_ex (n := (vP v)) (by omega) c1
    refine r_iload_n C (dx dX7_partOf 4 rfl) rfl ?_
    refine r_i2l C (dx dX7_partOf 5 rfl) ?_
    refine r_lconst (v := 0) C (dx dX7_partOf 6 rfl) rfl ?_
    refine r_lconst (v := 1) C (dx dX7_partOf 7 rfl) rfl ?_
    refine r_csP (as := [vl x.toInt64, vl 0, vl 1]) (st := []) (v := vi (b2i (inR x 2))) C X I_X7_in l_X7_67 (c_inR (b := 1) (by decide) (by decide)) (by decide) (Nat.le_of_ble_eq_true rfl) List.prefix_rfl (Nat.le_of_ble_eq_true rfl) rfl (dx dX7_partOf 8 rfl) ?_
    refine rb_ne (b := inR x 2) (tgt := 25) C (dx dX7_partOf 9 rfl) (by decide) (fun c3 => ?_) (fun c3 => ?_)
    ·
      have c3 : (inR x 2) = true := c3
      refine r_iload_n C (dx dX7_partOf 14 rfl) rfl ?_
      refine r_if_ne (tgt := 38) C (dx dX7_partOf 15 rfl) (by decide) (fun c4 => ?_) (fun c4 => ?_)
      ·
        have c4 : ¬ x = 0 := c4
        refine r_aload_n C (dx dX7_partOf 21 rfl) rfl ?_
        refine g_X7_43 C (dx dX7_partOf 22 rfl) ?_
        refine r_iload_n C (dx dX7_partOf 23 rfl) rfl ?_
        refine r_iald (j := π) (x := vF v 1 π) C rfl rfl (by decide) rfl (by omega) (dx dX7_partOf 24 rfl) (hm.e1 (by omega)) ?_
        exact F.1 _ _ _ _ .int rfl rfl (dx dX7_partOf 25 rfl) rfl ⟨⟨_, rfl⟩, hm, Kp.rf⟩
      ·
        have c4 : x = 0 := c4
        refine r_aload_n C (dx dX7_partOf 16 rfl) rfl ?_
        refine g_X7_40 C (dx dX7_partOf 17 rfl) ?_
        refine r_iload_n C (dx dX7_partOf 18 rfl) rfl ?_
        refine r_iald (j := π) (x := vF v 0 π) C rfl rfl (by decide) rfl (by omega) (dx dX7_partOf 19 rfl) (hm.e0 (by omega)) ?_
        refine r_goto (tgt := 44) C (dx dX7_partOf 20 rfl) (by decide) ?_
        exact F.1 _ _ _ _ .int rfl rfl (dx dX7_partOf 25 rfl) rfl ⟨⟨_, rfl⟩, hm, Kp.rf⟩
    ·
      have c3 : (inR x 2) = false := c3
      refine r_aload_n C (dx dX7_partOf 10 rfl) rfl ?_
      refine r_bipush (v := -2) C (dx dX7_partOf 11 rfl) rfl ?_
      refine r_cv (as := [vi (-2)]) (st := []) C X I_X7_refuse l_X7_83 (e_refuse hm (x := -2) (j := 2) (by decide) (by decide)) (by decide) (Nat.le_of_ble_eq_true rfl) List.prefix_rfl List.prefix_rfl rfl rfl (Nat.le_of_ble_eq_true rfl) rfl (dx dX7_partOf 12 rfl) ?_
      rintro _ h5 ⟨rfl, m9h5, qh5⟩ kkh5
      have mh5 : MilAt h5 k v := m9h5
      have ph5 : Kp k h h5 := qh5
      have kh5 : xK h5 = xK h := kkh5
      exact F.1 _ _ _ _ .int rfl rfl (dx dX7_partOf 13 rfl) kh5 ⟨⟨_, rfl⟩, mh5, ph5⟩
set_option maxHeartbeats 4000000 in
theorem v_X7_machineOf {l : Launch} {h : Hp} {k : Nat} {v : Vg} (hm : MilAt h k v) (m x : Int32) : Ms l yX7_machineOf cX7_machineOf 3 (some .int) 4 [vr 7 k, vi m, vi x] h (xK h) (fun r h' => PI r ∧ MilAt h' k v ∧ Kp k h h') := by
  refine Ms.of (by decide) (Nat.le_of_ble_eq_true rfl) (fun G C X F => ?_)
  have C : Cx G cX7_machineOf 3 RX7 := C
  show Rr G 0 [(0, vr 7 k), (1, vi m), (2, vi x)] [] h
  have bP := hm.bP
  have bM := hm.bM
  have bN := hm.bN
  refine r_aload_n C (dx dX7_machineOf 0 rfl) rfl ?_
  refine r_iload_n C (dx dX7_machineOf 1 rfl) rfl ?_
  refine r_cvP (as := [vi m]) (st := []) (v := vi (b2i (inR m (vM v)))) C X I_X7_isMachine l_X7_241 (c_X7_isMachine hm _) (by decide) (Nat.le_of_ble_eq_true rfl) List.prefix_rfl rfl rfl (Nat.le_of_ble_eq_true rfl) rfl (dx dX7_machineOf 2 rfl) ?_
  refine rb_eq (b := inR m (vM v)) (tgt := 18) C (dx dX7_machineOf 3 rfl) (by decide) (fun c1 => ?_) (fun c1 => ?_)
  ·
    have c1 : (inR m (vM v)) = false := c1
    refine r_aload_n C (dx dX7_machineOf 10 rfl) rfl ?_
    refine r_bipush (v := -2) C (dx dX7_machineOf 11 rfl) rfl ?_
    refine r_cv (as := [vi (-2)]) (st := []) C X I_X7_refuse l_X7_83 (e_refuse hm (x := -2) (j := 2) (by decide) (by decide)) (by decide) (Nat.le_of_ble_eq_true rfl) List.prefix_rfl List.prefix_rfl rfl rfl (Nat.le_of_ble_eq_true rfl) rfl (dx dX7_machineOf 12 rfl) ?_
    rintro _ h2 ⟨rfl, m9h2, qh2⟩ kkh2
    have mh2 : MilAt h2 k v := m9h2
    have ph2 : Kp k h h2 := qh2
    have kh2 : xK h2 = xK h := kkh2
    exact F.1 _ _ _ _ .int rfl rfl (dx dX7_machineOf 13 rfl) kh2 ⟨⟨_, rfl⟩, mh2, ph2⟩
  ·
    have c1 : (inR m (vM v)) = true := c1
    obtain ⟨μ, hμ, rfl⟩ := inR_ex (n := (vM v)) (by omega) c1
    refine r_iload_n C (dx dX7_machineOf 4 rfl) rfl ?_
    refine r_i2l C (dx dX7_machineOf 5 rfl) ?_
    refine r_lconst (v := 0) C (dx dX7_machineOf 6 rfl) rfl ?_
    refine r_lconst (v := 1) C (dx dX7_machineOf 7 rfl) rfl ?_
    refine r_csP (as := [vl x.toInt64, vl 0, vl 1]) (st := []) (v := vi (b2i (inR x 2))) C X I_X7_in l_X7_67 (c_inR (b := 1) (by decide) (by decide)) (by decide) (Nat.le_of_ble_eq_true rfl) List.prefix_rfl (Nat.le_of_ble_eq_true rfl) rfl (dx dX7_machineOf 8 rfl) ?_
    refine rb_ne (b := inR x 2) (tgt := 25) C (dx dX7_machineOf 9 rfl) (by decide) (fun c3 => ?_) (fun c3 => ?_)
    ·
      have c3 : (inR x 2) = true := c3
      refine r_iload_n C (dx dX7_machineOf 14 rfl) rfl ?_
      refine r_if_ne (tgt := 38) C (dx dX7_machineOf 15 rfl) (by decide) (fun c4 => ?_) (fun c4 => ?_)
      ·
        have c4 : ¬ x = 0 := c4
        refine r_aload_n C (dx dX7_machineOf 21 rfl) rfl ?_
        refine g_X7_49 C (dx dX7_machineOf 22 rfl) ?_
        refine r_iload_n C (dx dX7_machineOf 23 rfl) rfl ?_
        refine r_iald (j := μ) (x := vF v 3 μ) C rfl rfl (by decide) rfl (by omega) (dx dX7_machineOf 24 rfl) (hm.e3 (by omega)) ?_
        exact F.1 _ _ _ _ .int rfl rfl (dx dX7_machineOf 25 rfl) rfl ⟨⟨_, rfl⟩, hm, Kp.rf⟩
      ·
        have c4 : x = 0 := c4
        refine r_aload_n C (dx dX7_machineOf 16 rfl) rfl ?_
        refine g_X7_46 C (dx dX7_machineOf 17 rfl) ?_
        refine r_iload_n C (dx dX7_machineOf 18 rfl) rfl ?_
        refine r_iald (j := μ) (x := vF v 2 μ) C rfl rfl (by decide) rfl (by omega) (dx dX7_machineOf 19 rfl) (hm.e2 (by omega)) ?_
        refine r_goto (tgt := 44) C (dx dX7_machineOf 20 rfl) (by decide) ?_
        exact F.1 _ _ _ _ .int rfl rfl (dx dX7_machineOf 25 rfl) rfl ⟨⟨_, rfl⟩, hm, Kp.rf⟩
    ·
      have c3 : (inR x 2) = false := c3
      refine r_aload_n C (dx dX7_machineOf 10 rfl) rfl ?_
      refine r_bipush (v := -2) C (dx dX7_machineOf 11 rfl) rfl ?_
      refine r_cv (as := [vi (-2)]) (st := []) C X I_X7_refuse l_X7_83 (e_refuse hm (x := -2) (j := 2) (by decide) (by decide)) (by decide) (Nat.le_of_ble_eq_true rfl) List.prefix_rfl List.prefix_rfl rfl rfl (Nat.le_of_ble_eq_true rfl) rfl (dx dX7_machineOf 12 rfl) ?_
      rintro _ h5 ⟨rfl, m9h5, qh5⟩ kkh5
      have mh5 : MilAt h5 k v := m9h5
      have ph5 : Kp k h h5 := qh5
      have kh5 : xK h5 = xK h := kkh5
      exact F.1 _ _ _ _ .int rfl rfl (dx dX7_machineOf 13 rfl) kh5 ⟨⟨_, rfl⟩, mh5, ph5⟩
set_option maxHeartbeats 4000000 in
theorem v_X7_oneOf {l : Launch} {h : Hp} {k : Nat} {v : Vg} (hm : MilAt h k v) (o1 x : Int32) : Ms l yX7_oneOf cX7_oneOf 3 (some .int) 4 [vr 7 k, vi o1, vi x] h (xK h) (fun r h' => PI r ∧ MilAt h' k v ∧ Kp k h h') := by
  refine Ms.of (by decide) (Nat.le_of_ble_eq_true rfl) (fun G C X F => ?_)
  have C : Cx G cX7_oneOf 3 RX7 := C
  show Rr G 0 [(0, vr 7 k), (1, vi o1), (2, vi x)] [] h
  have bP := hm.bP
  have bM := hm.bM
  have bN := hm.bN
  refine r_aload_n C (dx dX7_oneOf 0 rfl) rfl ?_
  refine r_iload_n C (dx dX7_oneOf 1 rfl) rfl ?_
  refine r_cvP (as := [vi o1]) (st := []) (v := vi (b2i (inR o1 (vN v)))) C X I_X7_isOne l_X7_125 (c_X7_isOne hm _) (by decide) (Nat.le_of_ble_eq_true rfl) List.prefix_rfl rfl rfl (Nat.le_of_ble_eq_true rfl) rfl (dx dX7_oneOf 2 rfl) ?_
  refine rb_eq (b := inR o1 (vN v)) (tgt := 20) C (dx dX7_oneOf 3 rfl) (by decide) (fun c1 => ?_) (fun c1 => ?_)
  ·
    have c1 : (inR o1 (vN v)) = false := c1
    refine r_aload_n C (dx dX7_oneOf 10 rfl) rfl ?_
    refine r_bipush (v := -2) C (dx dX7_oneOf 11 rfl) rfl ?_
    refine r_cv (as := [vi (-2)]) (st := []) C X I_X7_refuse l_X7_83 (e_refuse hm (x := -2) (j := 2) (by decide) (by decide)) (by decide) (Nat.le_of_ble_eq_true rfl) List.prefix_rfl List.prefix_rfl rfl rfl (Nat.le_of_ble_eq_true rfl) rfl (dx dX7_oneOf 12 rfl) ?_
    rintro _ h2 ⟨rfl, m9h2, qh2⟩ kkh2
    have mh2 : MilAt h2 k v := m9h2
    have ph2 : Kp k h h2 := qh2
    have kh2 : xK h2 = xK h := kkh2
    exact F.1 _ _ _ _ .int rfl rfl (dx dX7_oneOf 13 rfl) kh2 ⟨⟨_, rfl⟩, mh2, ph2⟩
  ·
    have c1 : (inR o1 (vN v)) = true := c1
    obtain ⟨o19, ho19, rfl⟩ := inR_ex (n := (vN v)) (by omega) c1
    refine r_iload_n C (dx dX7_oneOf 4 rfl) rfl ?_
    refine r_i2l C (dx dX7_oneOf 5 rfl) ?_
    refine r_lconst (v := 0) C (dx dX7_oneOf 6 rfl) rfl ?_
    refine r_ldc2 C n_X7_79 (dx dX7_oneOf 7 rfl) ?_
    refine r_csP (as := [vl x.toInt64, vl 0, vl 4]) (st := []) (v := vi (b2i (inR x 5))) C X I_X7_in l_X7_67 (c_inR (b := 4) (by decide) (by decide)) (by decide) (Nat.le_of_ble_eq_true rfl) List.prefix_rfl (Nat.le_of_ble_eq_true rfl) rfl (dx dX7_oneOf 8 rfl) ?_
    refine rb_ne (b := inR x 5) (tgt := 27) C (dx dX7_oneOf 9 rfl) (by decide) (fun c3 => ?_) (fun c3 => ?_)
    ·
      have c3 : (inR x 5) = true := c3
      obtain ⟨x9, hx9, rfl⟩ := inR_ex (n := 5) (by omega) c3
      refine r_iload_n C (dx dX7_oneOf 14 rfl) rfl ?_
      refine r_iconst (v := nI 3) C (dx dX7_oneOf 15 rfl) rfl ?_
      refine rn_ne (a := x9) (b := 3) (tgt := 40) C (by omega) (by omega) (dx dX7_oneOf 16 rfl) (by decide) (fun c4 => ?_) (fun c4 => ?_)
      · first
        | (omega; done)
        | (
            have c4 : ¬ x9 = 3 := c4
            refine r_iload_n C (dx dX7_oneOf 21 rfl) rfl ?_
            refine r_iconst (v := nI 4) C (dx dX7_oneOf 22 rfl) rfl ?_
            refine rn_ne (a := x9) (b := 4) (tgt := 56) C (by omega) (by omega) (dx dX7_oneOf 23 rfl) (by decide) (fun c5 => ?_) (fun c5 => ?_)
            · first
              | (omega; done)
              | (
                  have c5 : ¬ x9 = 4 := c5
                  refine r_aload_n C (dx dX7_oneOf 31 rfl) rfl ?_
                  refine g_X7_54 C (dx dX7_oneOf 32 rfl) ?_
                  refine r_iload_n C (dx dX7_oneOf 33 rfl) rfl ?_
                  refine r_aald4 (j := o19) C rfl rfl (by decide) rfl (by omega) (dx dX7_oneOf 34 rfl) ?_
                  refine r_iload_n C (dx dX7_oneOf 35 rfl) rfl ?_
                  refine r_iald (j := x9) (x := xI h (k + 23 + o19) x9) C rfl rfl (by decide) rfl (by omega) (dx dX7_oneOf 36 rfl) rfl ?_
                  exact F.1 _ _ _ _ .int rfl rfl (dx dX7_oneOf 37 rfl) rfl ⟨⟨_, rfl⟩, hm, Kp.rf⟩)
            · first
              | (omega; done)
              | (
                  have c5 : x9 = 4 := c5
                  refine r_aload_n C (dx dX7_oneOf 24 rfl) rfl ?_
                  refine g_X7_54 C (dx dX7_oneOf 25 rfl) ?_
                  refine r_iload_n C (dx dX7_oneOf 26 rfl) rfl ?_
                  refine r_aald4 (j := o19) C rfl rfl (by decide) rfl (by omega) (dx dX7_oneOf 27 rfl) ?_
                  refine r_iconst (v := nI 3) C (dx dX7_oneOf 28 rfl) rfl ?_
                  refine r_iald (j := 3) (x := vF v 7 o19) C rfl rfl (by decide) rfl (by omega) (dx dX7_oneOf 29 rfl) (hm.eo (by omega) (by omega)) ?_
                  refine r_goto (tgt := 64) C (dx dX7_oneOf 30 rfl) (by decide) ?_
                  exact F.1 _ _ _ _ .int rfl rfl (dx dX7_oneOf 37 rfl) rfl ⟨⟨_, rfl⟩, hm, Kp.rf⟩))
      · first
        | (omega; done)
        | (
            have c4 : x9 = 3 := c4
            refine r_aload_n C (dx dX7_oneOf 17 rfl) rfl ?_
            refine r_iload_n C (dx dX7_oneOf 18 rfl) rfl ?_
            refine r_cvW (as := [vi (nI o19)]) (st := []) C X I_X7_piecesOf l_X7_129 (c_X7_piecesOf hm _) (by decide) (Nat.le_of_ble_eq_true rfl) List.prefix_rfl rfl rfl (Nat.le_of_ble_eq_true rfl) rfl (dx dX7_oneOf 19 rfl) ?_
            rintro _ ⟨x6, rfl⟩
            refine r_goto (tgt := 64) C (dx dX7_oneOf 20 rfl) (by decide) ?_
            exact F.1 _ _ _ _ .int rfl rfl (dx dX7_oneOf 37 rfl) rfl ⟨⟨_, rfl⟩, hm, Kp.rf⟩)
    ·
      have c3 : (inR x 5) = false := c3
      refine r_aload_n C (dx dX7_oneOf 10 rfl) rfl ?_
      refine r_bipush (v := -2) C (dx dX7_oneOf 11 rfl) rfl ?_
      refine r_cv (as := [vi (-2)]) (st := []) C X I_X7_refuse l_X7_83 (e_refuse hm (x := -2) (j := 2) (by decide) (by decide)) (by decide) (Nat.le_of_ble_eq_true rfl) List.prefix_rfl List.prefix_rfl rfl rfl (Nat.le_of_ble_eq_true rfl) rfl (dx dX7_oneOf 12 rfl) ?_
      rintro _ h7 ⟨rfl, m9h7, qh7⟩ kkh7
      have mh7 : MilAt h7 k v := m9h7
      have ph7 : Kp k h h7 := qh7
      have kh7 : xK h7 = xK h := kkh7
      exact F.1 _ _ _ _ .int rfl rfl (dx dX7_oneOf 13 rfl) kh7 ⟨⟨_, rfl⟩, mh7, ph7⟩
set_option maxHeartbeats 4000000 in
theorem v_X7_has {l : Launch} {h : Hp} {k : Nat} {v : Vg} (hm : MilAt h k v) (x : Int32) : Ms l yX7_has cX7_has 2 (some .int) 5 [vr 7 k, vi x] h (xK h) (fun r h' => PI r ∧ MilAt h' k v ∧ Kp k h h') := by
  refine Ms.of (by decide) (Nat.le_of_ble_eq_true rfl) (fun G C X F => ?_)
  have C : Cx G cX7_has 2 RX7 := C
  show Rr G 0 [(0, vr 7 k), (1, vi x)] [] h
  have bP := hm.bP
  have bM := hm.bM
  have bN := hm.bN
  refine r_iload_n C (dx dX7_has 0 rfl) rfl ?_
  refine r_i2l C (dx dX7_has 1 rfl) ?_
  refine r_lconst (v := 0) C (dx dX7_has 2 rfl) rfl ?_
  refine r_aload_n C (dx dX7_has 3 rfl) rfl ?_
  refine r_cvP (as := []) (st := [vl 0, vl x.toInt64]) (v := vi (full (vN v))) C X I_X7_all l_X7_253 (c_X7_all hm) (by decide) (Nat.le_of_ble_eq_true rfl) List.prefix_rfl rfl rfl (Nat.le_of_ble_eq_true rfl) rfl (dx dX7_has 4 rfl) ?_
  refine r_i2l C (dx dX7_has 5 rfl) ?_
  refine r_csP (as := [vl x.toInt64, vl 0, vl ((full (vN v)).toInt64)]) (st := []) (v := vi (b2i (inR x (2 ^ vN v)))) C X I_X7_in l_X7_67 (c_inF (by omega)) (by decide) (Nat.le_of_ble_eq_true rfl) List.prefix_rfl (Nat.le_of_ble_eq_true rfl) rfl (dx dX7_has 6 rfl) ?_
  refine rb_eq (b := inR x (2 ^ vN v)) (tgt := 22) C (dx dX7_has 7 rfl) (by decide) (fun c1 => ?_) (fun c1 => ?_)
  ·
    have c1 : (inR x (2 ^ vN v)) = false := c1
    refine r_aload_n C (dx dX7_has 12 rfl) rfl ?_
    refine r_bipush (v := -2) C (dx dX7_has 13 rfl) rfl ?_
    refine r_cv (as := [vi (-2)]) (st := []) C X I_X7_refuse l_X7_83 (e_refuse hm (x := -2) (j := 2) (by decide) (by decide)) (by decide) (Nat.le_of_ble_eq_true rfl) List.prefix_rfl List.prefix_rfl rfl rfl (Nat.le_of_ble_eq_true rfl) rfl (dx dX7_has 14 rfl) ?_
    rintro _ h2 ⟨rfl, m9h2, qh2⟩ kkh2
    have mh2 : MilAt h2 k v := m9h2
    have ph2 : Kp k h h2 := qh2
    have kh2 : xK h2 = xK h := kkh2
    exact F.1 _ _ _ _ .int rfl rfl (dx dX7_has 15 rfl) kh2 ⟨⟨_, rfl⟩, mh2, ph2⟩
  ·
    have c1 : (inR x (2 ^ vN v)) = true := c1
    refine r_aload_n C (dx dX7_has 8 rfl) rfl ?_
    refine r_iload_n C (dx dX7_has 9 rfl) rfl ?_
    refine r_cvW (as := [vi x]) (st := []) C X I_X7_hasOf l_X7_247 (c_X7_hasOf hm _) (by decide) (Nat.le_of_ble_eq_true rfl) List.prefix_rfl rfl rfl (Nat.le_of_ble_eq_true rfl) rfl (dx dX7_has 10 rfl) ?_
    rintro _ ⟨x3, rfl⟩
    refine r_goto (tgt := 28) C (dx dX7_has 11 rfl) (by decide) ?_
    exact F.1 _ _ _ _ .int rfl rfl (dx dX7_has 15 rfl) rfl ⟨⟨_, rfl⟩, hm, Kp.rf⟩
set_option maxHeartbeats 4000000 in
theorem v_X7_works {l : Launch} {h : Hp} {k : Nat} {v : Vg} (hm : MilAt h k v) (m x : Int32) : Ms l yX7_works cX7_works 3 (some .int) 5 [vr 7 k, vi m, vi x] h (xK h) (fun r h' => PI r ∧ MilAt h' k v ∧ Kp k h h') := by
  refine Ms.of (by decide) (Nat.le_of_ble_eq_true rfl) (fun G C X F => ?_)
  have C : Cx G cX7_works 3 RX7 := C
  show Rr G 0 [(0, vr 7 k), (1, vi m), (2, vi x)] [] h
  have bP := hm.bP
  have bM := hm.bM
  have bN := hm.bN
  refine r_aload_n C (dx dX7_works 0 rfl) rfl ?_
  refine r_iload_n C (dx dX7_works 1 rfl) rfl ?_
  refine r_cvP (as := [vi m]) (st := []) (v := vi (b2i (inR m (vM v)))) C X I_X7_isMachine l_X7_241 (c_X7_isMachine hm _) (by decide) (Nat.le_of_ble_eq_true rfl) List.prefix_rfl rfl rfl (Nat.le_of_ble_eq_true rfl) rfl (dx dX7_works 2 rfl) ?_
  refine rb_eq (b := inR m (vM v)) (tgt := 22) C (dx dX7_works 3 rfl) (by decide) (fun c1 => ?_) (fun c1 => ?_)
  ·
    have c1 : (inR m (vM v)) = false := c1
    refine r_aload_n C (dx dX7_works 12 rfl) rfl ?_
    refine r_bipush (v := -2) C (dx dX7_works 13 rfl) rfl ?_
    refine r_cv (as := [vi (-2)]) (st := []) C X I_X7_refuse l_X7_83 (e_refuse hm (x := -2) (j := 2) (by decide) (by decide)) (by decide) (Nat.le_of_ble_eq_true rfl) List.prefix_rfl List.prefix_rfl rfl rfl (Nat.le_of_ble_eq_true rfl) rfl (dx dX7_works 14 rfl) ?_
    rintro _ h2 ⟨rfl, m9h2, qh2⟩ kkh2
    have mh2 : MilAt h2 k v := m9h2
    have ph2 : Kp k h h2 := qh2
    have kh2 : xK h2 = xK h := kkh2
    exact F.1 _ _ _ _ .int rfl rfl (dx dX7_works 15 rfl) kh2 ⟨⟨_, rfl⟩, mh2, ph2⟩
  ·
    have c1 : (inR m (vM v)) = true := c1
    obtain ⟨μ, hμ, rfl⟩ := inR_ex (n := (vM v)) (by omega) c1
    refine r_iload_n C (dx dX7_works 4 rfl) rfl ?_
    refine r_i2l C (dx dX7_works 5 rfl) ?_
    refine r_lconst (v := 0) C (dx dX7_works 6 rfl) rfl ?_
    refine r_aload_n C (dx dX7_works 7 rfl) rfl ?_
    refine r_cvP (as := []) (st := [vl 0, vl x.toInt64]) (v := vi (full (vN v))) C X I_X7_all l_X7_253 (c_X7_all hm) (by decide) (Nat.le_of_ble_eq_true rfl) List.prefix_rfl rfl rfl (Nat.le_of_ble_eq_true rfl) rfl (dx dX7_works 8 rfl) ?_
    refine r_i2l C (dx dX7_works 9 rfl) ?_
    refine r_csP (as := [vl x.toInt64, vl 0, vl ((full (vN v)).toInt64)]) (st := []) (v := vi (b2i (inR x (2 ^ vN v)))) C X I_X7_in l_X7_67 (c_inF (by omega)) (by decide) (Nat.le_of_ble_eq_true rfl) List.prefix_rfl (Nat.le_of_ble_eq_true rfl) rfl (dx dX7_works 10 rfl) ?_
    refine rb_ne (b := inR x (2 ^ vN v)) (tgt := 29) C (dx dX7_works 11 rfl) (by decide) (fun c3 => ?_) (fun c3 => ?_)
    ·
      have c3 : (inR x (2 ^ vN v)) = true := c3
      refine r_aload_n C (dx dX7_works 16 rfl) rfl ?_
      refine r_iload_n C (dx dX7_works 17 rfl) rfl ?_
      refine r_iload_n C (dx dX7_works 18 rfl) rfl ?_
      refine r_cvW (as := [vi (nI μ), vi x]) (st := []) C X I_X7_worksOf l_X7_250 (c_X7_worksOf hm (m := μ) (by omega) _) (by decide) (Nat.le_of_ble_eq_true rfl) List.prefix_rfl rfl rfl (Nat.le_of_ble_eq_true rfl) rfl (dx dX7_works 19 rfl) ?_
      rintro _ ⟨x4, rfl⟩
      refine rb_eq (b := x4) (tgt := 42) C (dx dX7_works 20 rfl) (by decide) (fun c5 => ?_) (fun c5 => ?_)
      ·
        have c5 : x4 = false := c5
        refine r_iconst (v := nI 0) C (dx dX7_works 23 rfl) rfl ?_
        exact F.1 _ _ _ _ .int rfl rfl (dx dX7_works 24 rfl) rfl ⟨⟨_, rfl⟩, hm, Kp.rf⟩
      ·
        have c5 : x4 = true := c5
        refine r_iconst (v := nI 1) C (dx dX7_works 21 rfl) rfl ?_
        refine r_goto (tgt := 43) C (dx dX7_works 22 rfl) (by decide) ?_
        exact F.1 _ _ _ _ .int rfl rfl (dx dX7_works 24 rfl) rfl ⟨⟨_, rfl⟩, hm, Kp.rf⟩
    ·
      have c3 : (inR x (2 ^ vN v)) = false := c3
      refine r_aload_n C (dx dX7_works 12 rfl) rfl ?_
      refine r_bipush (v := -2) C (dx dX7_works 13 rfl) rfl ?_
      refine r_cv (as := [vi (-2)]) (st := []) C X I_X7_refuse l_X7_83 (e_refuse hm (x := -2) (j := 2) (by decide) (by decide)) (by decide) (Nat.le_of_ble_eq_true rfl) List.prefix_rfl List.prefix_rfl rfl rfl (Nat.le_of_ble_eq_true rfl) rfl (dx dX7_works 14 rfl) ?_
      rintro _ h6 ⟨rfl, m9h6, qh6⟩ kkh6
      have mh6 : MilAt h6 k v := m9h6
      have ph6 : Kp k h h6 := qh6
      have kh6 : xK h6 = xK h := kkh6
      exact F.1 _ _ _ _ .int rfl rfl (dx dX7_works 15 rfl) kh6 ⟨⟨_, rfl⟩, mh6, ph6⟩
set_option maxHeartbeats 4000000 in
theorem v_X7_both {l : Launch} {h : Hp} {k : Nat} {v : Vg} (hm : MilAt h k v) (m n x : Int32) : Ms l yX7_both cX7_both 4 (some .int) 6 [vr 7 k, vi m, vi n, vi x] h (xK h) (fun r h' => PI r ∧ MilAt h' k v ∧ Kp k h h') := by
  refine Ms.of (by decide) (Nat.le_of_ble_eq_true rfl) (fun G C X F => ?_)
  have C : Cx G cX7_both 4 RX7 := C
  show Rr G 0 [(0, vr 7 k), (1, vi m), (2, vi n), (3, vi x)] [] h
  have bP := hm.bP
  have bM := hm.bM
  have bN := hm.bN
  refine r_aload_n C (dx dX7_both 0 rfl) rfl ?_
  refine r_iload_n C (dx dX7_both 1 rfl) rfl ?_
  refine r_cvP (as := [vi m]) (st := []) (v := vi (b2i (inR m (vM v)))) C X I_X7_isMachine l_X7_241 (c_X7_isMachine hm _) (by decide) (Nat.le_of_ble_eq_true rfl) List.prefix_rfl rfl rfl (Nat.le_of_ble_eq_true rfl) rfl (dx dX7_both 2 rfl) ?_
  refine rb_eq (b := inR m (vM v)) (tgt := 35) C (dx dX7_both 3 rfl) (by decide) (fun c1 => ?_) (fun c1 => ?_)
  ·
    have c1 : (inR m (vM v)) = false := c1
    refine r_aload_n C (dx dX7_both 19 rfl) rfl ?_
    refine r_bipush (v := -2) C (dx dX7_both 20 rfl) rfl ?_
    refine r_cv (as := [vi (-2)]) (st := []) C X I_X7_refuse l_X7_83 (e_refuse hm (x := -2) (j := 2) (by decide) (by decide)) (by decide) (Nat.le_of_ble_eq_true rfl) List.prefix_rfl List.prefix_rfl rfl rfl (Nat.le_of_ble_eq_true rfl) rfl (dx dX7_both 21 rfl) ?_
    rintro _ h2 ⟨rfl, m9h2, qh2⟩ kkh2
    have mh2 : MilAt h2 k v := m9h2
    have ph2 : Kp k h h2 := qh2
    have kh2 : xK h2 = xK h := kkh2
    exact F.1 _ _ _ _ .int rfl rfl (dx dX7_both 22 rfl) kh2 ⟨⟨_, rfl⟩, mh2, ph2⟩
  ·
    have c1 : (inR m (vM v)) = true := c1
    obtain ⟨μ, hμ, rfl⟩ := inR_ex (n := (vM v)) (by omega) c1
    refine r_aload_n C (dx dX7_both 4 rfl) rfl ?_
    refine r_iload_n C (dx dX7_both 5 rfl) rfl ?_
    refine r_cvP (as := [vi n]) (st := []) (v := vi (b2i (inR n (vM v)))) C X I_X7_isMachine l_X7_241 (c_X7_isMachine hm _) (by decide) (Nat.le_of_ble_eq_true rfl) List.prefix_rfl rfl rfl (Nat.le_of_ble_eq_true rfl) rfl (dx dX7_both 6 rfl) ?_
    refine rb_eq (b := inR n (vM v)) (tgt := 35) C (dx dX7_both 7 rfl) (by decide) (fun c3 => ?_) (fun c3 => ?_)
    ·
      have c3 : (inR n (vM v)) = false := c3
      refine r_aload_n C (dx dX7_both 19 rfl) rfl ?_
      refine r_bipush (v := -2) C (dx dX7_both 20 rfl) rfl ?_
      refine r_cv (as := [vi (-2)]) (st := []) C X I_X7_refuse l_X7_83 (e_refuse hm (x := -2) (j := 2) (by decide) (by decide)) (by decide) (Nat.le_of_ble_eq_true rfl) List.prefix_rfl List.prefix_rfl rfl rfl (Nat.le_of_ble_eq_true rfl) rfl (dx dX7_both 21 rfl) ?_
      rintro _ h4 ⟨rfl, m9h4, qh4⟩ kkh4
      have mh4 : MilAt h4 k v := m9h4
      have ph4 : Kp k h h4 := qh4
      have kh4 : xK h4 = xK h := kkh4
      exact F.1 _ _ _ _ .int rfl rfl (dx dX7_both 22 rfl) kh4 ⟨⟨_, rfl⟩, mh4, ph4⟩
    ·
      have c3 : (inR n (vM v)) = true := c3
      obtain ⟨ν, hν, rfl⟩ := inR_ex (n := (vM v)) (by omega) c3
      refine r_iload_n C (dx dX7_both 8 rfl) rfl ?_
      refine r_iload_n C (dx dX7_both 9 rfl) rfl ?_
      refine rn_eq (a := μ) (b := ν) (tgt := 35) C (by omega) (by omega) (dx dX7_both 10 rfl) (by decide) (fun c5 => ?_) (fun c5 => ?_)
      · first
        | (omega; done)
        | (
            have c5 : μ = ν := c5
            refine r_aload_n C (dx dX7_both 19 rfl) rfl ?_
            refine r_bipush (v := -2) C (dx dX7_both 20 rfl) rfl ?_
            refine r_cv (as := [vi (-2)]) (st := []) C X I_X7_refuse l_X7_83 (e_refuse hm (x := -2) (j := 2) (by decide) (by decide)) (by decide) (Nat.le_of_ble_eq_true rfl) List.prefix_rfl List.prefix_rfl rfl rfl (Nat.le_of_ble_eq_true rfl) rfl (dx dX7_both 21 rfl) ?_
            rintro _ h6 ⟨rfl, m9h6, qh6⟩ kkh6
            have mh6 : MilAt h6 k v := m9h6
            have ph6 : Kp k h h6 := qh6
            have kh6 : xK h6 = xK h := kkh6
            exact F.1 _ _ _ _ .int rfl rfl (dx dX7_both 22 rfl) kh6 ⟨⟨_, rfl⟩, mh6, ph6⟩)
      · first
        | (omega; done)
        | (
            have c5 : ¬ μ = ν := c5
            refine r_iload_n C (dx dX7_both 11 rfl) rfl ?_
            refine r_i2l C (dx dX7_both 12 rfl) ?_
            refine r_lconst (v := 0) C (dx dX7_both 13 rfl) rfl ?_
            refine r_aload_n C (dx dX7_both 14 rfl) rfl ?_
            refine r_cvP (as := []) (st := [vl 0, vl x.toInt64]) (v := vi (full (vN v))) C X I_X7_all l_X7_253 (c_X7_all hm) (by decide) (Nat.le_of_ble_eq_true rfl) List.prefix_rfl rfl rfl (Nat.le_of_ble_eq_true rfl) rfl (dx dX7_both 15 rfl) ?_
            refine r_i2l C (dx dX7_both 16 rfl) ?_
            refine r_csP (as := [vl x.toInt64, vl 0, vl ((full (vN v)).toInt64)]) (st := []) (v := vi (b2i (inR x (2 ^ vN v)))) C X I_X7_in l_X7_67 (c_inF (by omega)) (by decide) (Nat.le_of_ble_eq_true rfl) List.prefix_rfl (Nat.le_of_ble_eq_true rfl) rfl (dx dX7_both 17 rfl) ?_
            refine rb_ne (b := inR x (2 ^ vN v)) (tgt := 42) C (dx dX7_both 18 rfl) (by decide) (fun c7 => ?_) (fun c7 => ?_)
            ·
              have c7 : (inR x (2 ^ vN v)) = true := c7
              refine r_aload_n C (dx dX7_both 23 rfl) rfl ?_
              refine r_iload_n C (dx dX7_both 24 rfl) rfl ?_
              refine r_iload_n C (dx dX7_both 25 rfl) rfl ?_
              refine r_iload_n C (dx dX7_both 26 rfl) rfl ?_
              refine r_cvW (as := [vi (nI μ), vi (nI ν), vi x]) (st := []) C X I_X7_bothOf l_X7_256 (c_X7_bothOf hm (m := μ) (n := ν) (by omega) (by omega) _) (by decide) (Nat.le_of_ble_eq_true rfl) List.prefix_rfl rfl rfl (Nat.le_of_ble_eq_true rfl) rfl (dx dX7_both 27 rfl) ?_
              rintro _ ⟨x8, rfl⟩
              refine rb_eq (b := x8) (tgt := 56) C (dx dX7_both 28 rfl) (by decide) (fun c9 => ?_) (fun c9 => ?_)
              ·
                have c9 : x8 = false := c9
                refine r_iconst (v := nI 0) C (dx dX7_both 31 rfl) rfl ?_
                exact F.1 _ _ _ _ .int rfl rfl (dx dX7_both 32 rfl) rfl ⟨⟨_, rfl⟩, hm, Kp.rf⟩
              ·
                have c9 : x8 = true := c9
                refine r_iconst (v := nI 1) C (dx dX7_both 29 rfl) rfl ?_
                refine r_goto (tgt := 57) C (dx dX7_both 30 rfl) (by decide) ?_
                exact F.1 _ _ _ _ .int rfl rfl (dx dX7_both 32 rfl) rfl ⟨⟨_, rfl⟩, hm, Kp.rf⟩
            ·
              have c7 : (inR x (2 ^ vN v)) = false := c7
              refine r_aload_n C (dx dX7_both 19 rfl) rfl ?_
              refine r_bipush (v := -2) C (dx dX7_both 20 rfl) rfl ?_
              refine r_cv (as := [vi (-2)]) (st := []) C X I_X7_refuse l_X7_83 (e_refuse hm (x := -2) (j := 2) (by decide) (by decide)) (by decide) (Nat.le_of_ble_eq_true rfl) List.prefix_rfl List.prefix_rfl rfl rfl (Nat.le_of_ble_eq_true rfl) rfl (dx dX7_both 21 rfl) ?_
              rintro _ h10 ⟨rfl, m9h10, qh10⟩ kkh10
              have mh10 : MilAt h10 k v := m9h10
              have ph10 : Kp k h h10 := qh10
              have kh10 : xK h10 = xK h := kkh10
              exact F.1 _ _ _ _ .int rfl rfl (dx dX7_both 22 rfl) kh10 ⟨⟨_, rfl⟩, mh10, ph10⟩)
set_option maxHeartbeats 4000000 in
theorem v_X7_odds {l : Launch} {h : Hp} {k : Nat} {v : Vg} (hm : MilAt h k v) (m : Int32) : Ms l yX7_odds cX7_odds 2 (some .long) 8 [vr 7 k, vi m] h (xK h) (fun r h' => PL r ∧ MilAt h' k v ∧ Kp k h h') := by
  refine Ms.of (by decide) (Nat.le_of_ble_eq_true rfl) (fun G C X F => ?_)
  have C : Cx G cX7_odds 2 RX7 := C
  show Rr G 0 [(0, vr 7 k), (1, vi m)] [] h
  have bP := hm.bP
  have bM := hm.bM
  have bN := hm.bN
  refine r_aload_n C (dx dX7_odds 0 rfl) rfl ?_
  refine r_iload_n C (dx dX7_odds 1 rfl) rfl ?_
  refine r_cvP (as := [vi m]) (st := []) (v := vi (b2i (inR m (vM v)))) C X I_X7_isMachine l_X7_241 (c_X7_isMachine hm _) (by decide) (Nat.le_of_ble_eq_true rfl) List.prefix_rfl rfl rfl (Nat.le_of_ble_eq_true rfl) rfl (dx dX7_odds 2 rfl) ?_
  refine rb_eq (b := inR m (vM v)) (tgt := 17) C (dx dX7_odds 3 rfl) (by decide) (fun c1 => ?_) (fun c1 => ?_)
  ·
    have c1 : (inR m (vM v)) = false := c1
    refine r_aload_n C (dx dX7_odds 9 rfl) rfl ?_
    refine r_bipush (v := -2) C (dx dX7_odds 10 rfl) rfl ?_
    refine r_cv (as := [vi (-2)]) (st := []) C X I_X7_refuse l_X7_83 (e_refuse hm (x := -2) (j := 2) (by decide) (by decide)) (by decide) (Nat.le_of_ble_eq_true rfl) List.prefix_rfl List.prefix_rfl rfl rfl (Nat.le_of_ble_eq_true rfl) rfl (dx dX7_odds 11 rfl) ?_
    rintro _ h2 ⟨rfl, m9h2, qh2⟩ kkh2
    have mh2 : MilAt h2 k v := m9h2
    have ph2 : Kp k h h2 := qh2
    have kh2 : xK h2 = xK h := kkh2
    refine r_i2l C (dx dX7_odds 12 rfl) ?_
    exact F.2.1 _ _ _ _ rfl (dx dX7_odds 13 rfl) kh2 ⟨⟨_, rfl⟩, mh2, ph2⟩
  ·
    have c1 : (inR m (vM v)) = true := c1
    obtain ⟨μ, hμ, rfl⟩ := inR_ex (n := (vM v)) (by omega) c1
    refine r_aload_n C (dx dX7_odds 4 rfl) rfl ?_
    refine r_iload_n C (dx dX7_odds 5 rfl) rfl ?_
    refine r_iload_n C (dx dX7_odds 6 rfl) rfl ?_
    refine r_cvW (as := [vi (nI μ), vi (nI μ)]) (st := []) C X I_X7_sumOf l_X7_264 (c_X7_sumOf hm (m := μ) (n := μ) (by omega) (by omega)) (by decide) (Nat.le_of_ble_eq_true rfl) List.prefix_rfl rfl rfl (Nat.le_of_ble_eq_true rfl) rfl (dx dX7_odds 7 rfl) ?_
    rintro _ ⟨x3, rfl⟩
    refine r_goto (tgt := 24) C (dx dX7_odds 8 rfl) (by decide) ?_
    exact F.2.1 _ _ _ _ rfl (dx dX7_odds 13 rfl) rfl ⟨⟨_, rfl⟩, hm, Kp.rf⟩
set_option maxHeartbeats 4000000 in
theorem v_X7_atOnce {l : Launch} {h : Hp} {k : Nat} {v : Vg} (hm : MilAt h k v) (m n : Int32) : Ms l yX7_atOnce cX7_atOnce 3 (some .long) 8 [vr 7 k, vi m, vi n] h (xK h) (fun r h' => PL r ∧ MilAt h' k v ∧ Kp k h h') := by
  refine Ms.of (by decide) (Nat.le_of_ble_eq_true rfl) (fun G C X F => ?_)
  have C : Cx G cX7_atOnce 3 RX7 := C
  show Rr G 0 [(0, vr 7 k), (1, vi m), (2, vi n)] [] h
  have bP := hm.bP
  have bM := hm.bM
  have bN := hm.bN
  refine r_aload_n C (dx dX7_atOnce 0 rfl) rfl ?_
  refine r_iload_n C (dx dX7_atOnce 1 rfl) rfl ?_
  refine r_cvP (as := [vi m]) (st := []) (v := vi (b2i (inR m (vM v)))) C X I_X7_isMachine l_X7_241 (c_X7_isMachine hm _) (by decide) (Nat.le_of_ble_eq_true rfl) List.prefix_rfl rfl rfl (Nat.le_of_ble_eq_true rfl) rfl (dx dX7_atOnce 2 rfl) ?_
  refine rb_eq (b := inR m (vM v)) (tgt := 30) C (dx dX7_atOnce 3 rfl) (by decide) (fun c1 => ?_) (fun c1 => ?_)
  ·
    have c1 : (inR m (vM v)) = false := c1
    refine r_aload_n C (dx dX7_atOnce 16 rfl) rfl ?_
    refine r_bipush (v := -2) C (dx dX7_atOnce 17 rfl) rfl ?_
    refine r_cv (as := [vi (-2)]) (st := []) C X I_X7_refuse l_X7_83 (e_refuse hm (x := -2) (j := 2) (by decide) (by decide)) (by decide) (Nat.le_of_ble_eq_true rfl) List.prefix_rfl List.prefix_rfl rfl rfl (Nat.le_of_ble_eq_true rfl) rfl (dx dX7_atOnce 18 rfl) ?_
    rintro _ h2 ⟨rfl, m9h2, qh2⟩ kkh2
    have mh2 : MilAt h2 k v := m9h2
    have ph2 : Kp k h h2 := qh2
    have kh2 : xK h2 = xK h := kkh2
    refine r_i2l C (dx dX7_atOnce 19 rfl) ?_
    exact F.2.1 _ _ _ _ rfl (dx dX7_atOnce 20 rfl) kh2 ⟨⟨_, rfl⟩, mh2, ph2⟩
  ·
    have c1 : (inR m (vM v)) = true := c1
    obtain ⟨μ, hμ, rfl⟩ := inR_ex (n := (vM v)) (by omega) c1
    refine r_aload_n C (dx dX7_atOnce 4 rfl) rfl ?_
    refine r_iload_n C (dx dX7_atOnce 5 rfl) rfl ?_
    refine r_cvP (as := [vi n]) (st := []) (v := vi (b2i (inR n (vM v)))) C X I_X7_isMachine l_X7_241 (c_X7_isMachine hm _) (by decide) (Nat.le_of_ble_eq_true rfl) List.prefix_rfl rfl rfl (Nat.le_of_ble_eq_true rfl) rfl (dx dX7_atOnce 6 rfl) ?_
    refine rb_eq (b := inR n (vM v)) (tgt := 30) C (dx dX7_atOnce 7 rfl) (by decide) (fun c3 => ?_) (fun c3 => ?_)
    ·
      have c3 : (inR n (vM v)) = false := c3
      refine r_aload_n C (dx dX7_atOnce 16 rfl) rfl ?_
      refine r_bipush (v := -2) C (dx dX7_atOnce 17 rfl) rfl ?_
      refine r_cv (as := [vi (-2)]) (st := []) C X I_X7_refuse l_X7_83 (e_refuse hm (x := -2) (j := 2) (by decide) (by decide)) (by decide) (Nat.le_of_ble_eq_true rfl) List.prefix_rfl List.prefix_rfl rfl rfl (Nat.le_of_ble_eq_true rfl) rfl (dx dX7_atOnce 18 rfl) ?_
      rintro _ h4 ⟨rfl, m9h4, qh4⟩ kkh4
      have mh4 : MilAt h4 k v := m9h4
      have ph4 : Kp k h h4 := qh4
      have kh4 : xK h4 = xK h := kkh4
      refine r_i2l C (dx dX7_atOnce 19 rfl) ?_
      exact F.2.1 _ _ _ _ rfl (dx dX7_atOnce 20 rfl) kh4 ⟨⟨_, rfl⟩, mh4, ph4⟩
    ·
      have c3 : (inR n (vM v)) = true := c3
      obtain ⟨ν, hν, rfl⟩ := inR_ex (n := (vM v)) (by omega) c3
      refine r_iload_n C (dx dX7_atOnce 8 rfl) rfl ?_
      refine r_iload_n C (dx dX7_atOnce 9 rfl) rfl ?_
      refine rn_eq (a := μ) (b := ν) (tgt := 30) C (by omega) (by omega) (dx dX7_atOnce 10 rfl) (by decide) (fun c5 => ?_) (fun c5 => ?_)
      · first
        | (omega; done)
        | (
            have c5 : μ = ν := c5
            refine r_aload_n C (dx dX7_atOnce 16 rfl) rfl ?_
            refine r_bipush (v := -2) C (dx dX7_atOnce 17 rfl) rfl ?_
            refine r_cv (as := [vi (-2)]) (st := []) C X I_X7_refuse l_X7_83 (e_refuse hm (x := -2) (j := 2) (by decide) (by decide)) (by decide) (Nat.le_of_ble_eq_true rfl) List.prefix_rfl List.prefix_rfl rfl rfl (Nat.le_of_ble_eq_true rfl) rfl (dx dX7_atOnce 18 rfl) ?_
            rintro _ h6 ⟨rfl, m9h6, qh6⟩ kkh6
            have mh6 : MilAt h6 k v := m9h6
            have ph6 : Kp k h h6 := qh6
            have kh6 : xK h6 = xK h := kkh6
            refine r_i2l C (dx dX7_atOnce 19 rfl) ?_
            exact F.2.1 _ _ _ _ rfl (dx dX7_atOnce 20 rfl) kh6 ⟨⟨_, rfl⟩, mh6, ph6⟩)
      · first
        | (omega; done)
        | (
            have c5 : ¬ μ = ν := c5
            refine r_aload_n C (dx dX7_atOnce 11 rfl) rfl ?_
            refine r_iload_n C (dx dX7_atOnce 12 rfl) rfl ?_
            refine r_iload_n C (dx dX7_atOnce 13 rfl) rfl ?_
            refine r_cvW (as := [vi (nI μ), vi (nI ν)]) (st := []) C X I_X7_sumOf l_X7_264 (c_X7_sumOf hm (m := μ) (n := ν) (by omega) (by omega)) (by decide) (Nat.le_of_ble_eq_true rfl) List.prefix_rfl rfl rfl (Nat.le_of_ble_eq_true rfl) rfl (dx dX7_atOnce 14 rfl) ?_
            rintro _ ⟨x7, rfl⟩
            refine r_goto (tgt := 37) C (dx dX7_atOnce 15 rfl) (by decide) ?_
            exact F.2.1 _ _ _ _ rfl (dx dX7_atOnce 20 rfl) rfl ⟨⟨_, rfl⟩, hm, Kp.rf⟩)
set_option maxHeartbeats 4000000 in
theorem v_X7_power {l : Launch} {h : Hp} {k : Nat} {v : Vg} (hm : MilAt h k v) (m o1 : Int32) : Ms l yX7_power cX7_power 3 (some .int) 8 [vr 7 k, vi m, vi o1] h (xK h) (fun r h' => PI r ∧ MilAt h' k v ∧ Kp k h h') := by
  refine Ms.of (by decide) (Nat.le_of_ble_eq_true rfl) (fun G C X F => ?_)
  have C : Cx G cX7_power 3 RX7 := C
  show Rr G 0 [(0, vr 7 k), (1, vi m), (2, vi o1)] [] h
  have bP := hm.bP
  have bM := hm.bM
  have bN := hm.bN
  refine r_aload_n C (dx dX7_power 0 rfl) rfl ?_
  refine r_iload_n C (dx dX7_power 1 rfl) rfl ?_
  refine r_cvP (as := [vi m]) (st := []) (v := vi (b2i (inR m (vM v)))) C X I_X7_isMachine l_X7_241 (c_X7_isMachine hm _) (by decide) (Nat.le_of_ble_eq_true rfl) List.prefix_rfl rfl rfl (Nat.le_of_ble_eq_true rfl) rfl (dx dX7_power 2 rfl) ?_
  refine rb_eq (b := inR m (vM v)) (tgt := 25) C (dx dX7_power 3 rfl) (by decide) (fun c1 => ?_) (fun c1 => ?_)
  ·
    have c1 : (inR m (vM v)) = false := c1
    refine r_aload_n C (dx dX7_power 13 rfl) rfl ?_
    refine r_bipush (v := -2) C (dx dX7_power 14 rfl) rfl ?_
    refine r_cv (as := [vi (-2)]) (st := []) C X I_X7_refuse l_X7_83 (e_refuse hm (x := -2) (j := 2) (by decide) (by decide)) (by decide) (Nat.le_of_ble_eq_true rfl) List.prefix_rfl List.prefix_rfl rfl rfl (Nat.le_of_ble_eq_true rfl) rfl (dx dX7_power 15 rfl) ?_
    rintro _ h2 ⟨rfl, m9h2, qh2⟩ kkh2
    have mh2 : MilAt h2 k v := m9h2
    have ph2 : Kp k h h2 := qh2
    have kh2 : xK h2 = xK h := kkh2
    exact F.1 _ _ _ _ .int rfl rfl (dx dX7_power 16 rfl) kh2 ⟨⟨_, rfl⟩, mh2, ph2⟩
  ·
    have c1 : (inR m (vM v)) = true := c1
    obtain ⟨μ, hμ, rfl⟩ := inR_ex (n := (vM v)) (by omega) c1
    refine r_aload_n C (dx dX7_power 4 rfl) rfl ?_
    refine r_iload_n C (dx dX7_power 5 rfl) rfl ?_
    refine r_cvP (as := [vi o1]) (st := []) (v := vi (b2i (inR o1 (vN v)))) C X I_X7_isOne l_X7_125 (c_X7_isOne hm _) (by decide) (Nat.le_of_ble_eq_true rfl) List.prefix_rfl rfl rfl (Nat.le_of_ble_eq_true rfl) rfl (dx dX7_power 6 rfl) ?_
    refine rb_eq (b := inR o1 (vN v)) (tgt := 25) C (dx dX7_power 7 rfl) (by decide) (fun c3 => ?_) (fun c3 => ?_)
    ·
      have c3 : (inR o1 (vN v)) = false := c3
      refine r_aload_n C (dx dX7_power 13 rfl) rfl ?_
      refine r_bipush (v := -2) C (dx dX7_power 14 rfl) rfl ?_
      refine r_cv (as := [vi (-2)]) (st := []) C X I_X7_refuse l_X7_83 (e_refuse hm (x := -2) (j := 2) (by decide) (by decide)) (by decide) (Nat.le_of_ble_eq_true rfl) List.prefix_rfl List.prefix_rfl rfl rfl (Nat.le_of_ble_eq_true rfl) rfl (dx dX7_power 15 rfl) ?_
      rintro _ h4 ⟨rfl, m9h4, qh4⟩ kkh4
      have mh4 : MilAt h4 k v := m9h4
      have ph4 : Kp k h h4 := qh4
      have kh4 : xK h4 = xK h := kkh4
      exact F.1 _ _ _ _ .int rfl rfl (dx dX7_power 16 rfl) kh4 ⟨⟨_, rfl⟩, mh4, ph4⟩
    ·
      have c3 : (inR o1 (vN v)) = true := c3
      obtain ⟨o19, ho19, rfl⟩ := inR_ex (n := (vN v)) (by omega) c3
      refine r_aload_n C (dx dX7_power 8 rfl) rfl ?_
      refine r_iload_n C (dx dX7_power 9 rfl) rfl ?_
      refine r_iload_n C (dx dX7_power 10 rfl) rfl ?_
      refine r_cvW (as := [vi (nI μ), vi (nI o19)]) (st := []) C X I_X7_powerOf l_X7_274 (c_X7_powerOf hm (m := μ) (o := o19) (by omega) (by omega)) (by decide) (Nat.le_of_ble_eq_true rfl) List.prefix_rfl rfl rfl (Nat.le_of_ble_eq_true rfl) rfl (dx dX7_power 11 rfl) ?_
      rintro _ ⟨x5, rfl⟩
      refine r_goto (tgt := 31) C (dx dX7_power 12 rfl) (by decide) ?_
      exact F.1 _ _ _ _ .int rfl rfl (dx dX7_power 16 rfl) rfl ⟨⟨_, rfl⟩, hm, Kp.rf⟩
set_option maxHeartbeats 4000000 in
theorem v_X7_first {l : Launch} {h : Hp} {k : Nat} {v : Vg} (hm : MilAt h k v)  : Ms l yX7_first cX7_first 6 (some .int) 8 [vr 7 k] h (xK h) (fun r h' => PI r ∧ MilAt h' k v ∧ Kp k h h') := by
  refine Ms.of (by decide) (Nat.le_of_ble_eq_true rfl) (fun G C X F => ?_)
  have C : Cx G cX7_first 6 RX7 := C
  show Rr G 0 [(0, vr 7 k)] [] h
  have bP := hm.bP
  have bM := hm.bM
  have bN := hm.bN
  refine r_iconst (v := -1) C (dx dX7_first 0 rfl) rfl ?_
  refine r_istore_n (ls' := [(0, vr 7 k), (1, vi (-1))]) C (dx dX7_first 1 rfl) (by decide) [1, 0] rfl ?_
  refine r_iconst (v := nI 0) C (dx dX7_first 2 rfl) rfl ?_
  refine r_istore_n (ls' := [(0, vr 7 k), (1, vi (-1)), (2, vi (nI 0))]) C (dx dX7_first 3 rfl) (by decide) [1, 2, 0] rfl ?_
  refine r_iconst (v := nI 0) C (dx dX7_first 4 rfl) rfl ?_
  refine r_istore_n (ls' := [(0, vr 7 k), (1, vi (-1)), (2, vi (nI 0)), (3, vi (nI 0))]) C (dx dX7_first 5 rfl) (by decide) [1, 2, 3, 0] rfl ?_
  refine loopU (Φ := fun p => ∀ (x1 : Int32), ∀ (x2 : Int32), Rr G 6 [(0, vr 7 k), (1, vi x1), (2, vi x2), (3, vi (nI p))] [] h) (N := vN v) ?_ ?_ 0 (by omega) (-1) (nI 0)
  ·
    intro  x1 x2
    refine r_iload_n C (dx dX7_first 6 rfl) rfl ?_
    refine r_aload_n C (dx dX7_first 7 rfl) rfl ?_
    refine g_X7_74 (x := nI (vN v)) C (dx dX7_first 8 rfl) hm.eN ?_
    refine rn_ge (a := vN v) (b := vN v) (tgt := 77) C (by omega) (by omega) (dx dX7_first 9 rfl) (by decide) (fun c1 => ?_) (fun c1 => ?_)
    · first
      | (omega; done)
      | (
          have c1 : vN v ≤ vN v := c1
          refine r_iload_n C (dx dX7_first 44 rfl) rfl ?_
          refine r_iconst (v := -1) C (dx dX7_first 45 rfl) rfl ?_
          refine r_icmp_ne (tgt := 91) C (dx dX7_first 46 rfl) (by decide) (fun c2 => ?_) (fun c2 => ?_)
          ·
            have c2 : ¬ x1 = -1 := c2
            refine r_iload_n C (dx dX7_first 51 rfl) rfl ?_
            exact F.1 _ _ _ _ .int rfl rfl (dx dX7_first 52 rfl) rfl ⟨⟨_, rfl⟩, hm, Kp.rf⟩
          ·
            have c2 : x1 = -1 := c2
            refine r_aload_n C (dx dX7_first 47 rfl) rfl ?_
            refine r_bipush (v := -5) C (dx dX7_first 48 rfl) rfl ?_
            refine r_cv (as := [vi (-5)]) (st := []) C X I_X7_refuse l_X7_83 (e_refuse hm (x := -5) (j := 5) (by decide) (by decide)) (by decide) (Nat.le_of_ble_eq_true rfl) List.prefix_rfl List.prefix_rfl rfl rfl (Nat.le_of_ble_eq_true rfl) rfl (dx dX7_first 49 rfl) ?_
            rintro _ h3 ⟨rfl, m9h3, qh3⟩ kkh3
            have mh3 : MilAt h3 k v := m9h3
            have ph3 : Kp k h h3 := qh3
            have kh3 : xK h3 = xK h := kkh3
            refine r_goto (tgt := 92) C (dx dX7_first 50 rfl) (by decide) ?_
            exact F.1 _ _ _ _ .int rfl rfl (dx dX7_first 52 rfl) kh3 ⟨⟨_, rfl⟩, mh3, ph3⟩)
    · first
      | (omega; done)
      | (
          have c1 : vN v < vN v := c1
          refine r_iconst (v := nI 0) C (dx dX7_first 10 rfl) rfl ?_
          refine r_istore (ls' := [(0, vr 7 k), (1, vi x1), (2, vi x2), (3, vi (nI (vN v))), (4, vi (nI 0))]) C (dx dX7_first 11 rfl) (by decide) [1, 2, 3, 4, 0] rfl ?_
          refine r_iconst (v := nI 0) C (dx dX7_first 12 rfl) rfl ?_
          refine r_istore (ls' := [(0, vr 7 k), (1, vi x1), (2, vi x2), (3, vi (nI (vN v))), (4, vi (nI 0)), (5, vi (nI 0))]) C (dx dX7_first 13 rfl) (by decide) [1, 2, 3, 4, 5, 0] rfl ?_
          refine loopU (Φ := fun q => ∀ (x4 : Int32), Rr G 20 [(0, vr 7 k), (1, vi x1), (2, vi x2), (3, vi (nI (vN v))), (4, vi x4), (5, vi (nI q))] [] h) (N := vM v) ?_ ?_ 0 (by omega) (nI 0)
          ·
            intro  x4
            refine r_iload C (dx dX7_first 14 rfl) rfl ?_
            refine r_aload_n C (dx dX7_first 15 rfl) rfl ?_
            refine g_X7_71 (x := nI (vM v)) C (dx dX7_first 16 rfl) hm.eM ?_
            refine rn_ge (a := vM v) (b := vM v) (tgt := 55) C (by omega) (by omega) (dx dX7_first 17 rfl) (by decide) (fun c4 => ?_) (fun c4 => ?_)
            · first
              | (omega; done)
            · first
              | (omega; done)
          ·
            intro q hq ihq x4
            refine r_iload C (dx dX7_first 14 rfl) rfl ?_
            refine r_aload_n C (dx dX7_first 15 rfl) rfl ?_
            refine g_X7_71 (x := nI (vM v)) C (dx dX7_first 16 rfl) hm.eM ?_
            refine rn_ge (a := q) (b := vM v) (tgt := 55) C (by omega) (by omega) (dx dX7_first 17 rfl) (by decide) (fun c7 => ?_) (fun c7 => ?_)
            · first
              | (omega; done)
            · first
              | (omega; done)
              | (
                  have c7 : q < vM v := c7
                  refine r_iload C (dx dX7_first 18 rfl) rfl ?_
                  refine r_aload_n C (dx dX7_first 19 rfl) rfl ?_
                  refine g_X7_49 C (dx dX7_first 20 rfl) ?_
                  refine r_iload C (dx dX7_first 21 rfl) rfl ?_
                  refine r_iald (j := q) (x := vF v 3 q) C rfl rfl (by decide) rfl (by omega) (dx dX7_first 22 rfl) (hm.e3 (by omega)) ?_
                  refine r_aload_n C (dx dX7_first 23 rfl) rfl ?_
                  refine r_iload C (dx dX7_first 24 rfl) rfl ?_
                  refine r_iload_n C (dx dX7_first 25 rfl) rfl ?_
                  refine r_cvW (as := [vi (nI q), vi (nI (vN v))]) (st := [vi (vF v 3 q), vi x4]) C X I_X7_powerOf l_X7_274 (c_X7_powerOf hm (m := q) (o := vN v) (by omega) (by omega)) (by decide) (Nat.le_of_ble_eq_true rfl) List.prefix_rfl rfl rfl (Nat.le_of_ble_eq_true rfl) rfl (dx dX7_first 26 rfl) ?_
                  rintro _ ⟨x9, rfl⟩
                  refine r_imul C (dx dX7_first 27 rfl) ?_
                  refine r_iadd C (dx dX7_first 28 rfl) ?_
                  refine r_istore (ls' := [(0, vr 7 k), (1, vi x1), (2, vi x2), (3, vi (nI (vN v))), (4, vi (x4 + ((vF v 3 q) * x9))), (5, vi (nI q))]) C (dx dX7_first 29 rfl) (by decide) [1, 2, 3, 4, 0, 5] rfl ?_
                  refine rn_iinc (a := q) (k := 1) (ls' := [(0, vr 7 k), (1, vi x1), (2, vi x2), (3, vi (nI (vN v))), (4, vi (x4 + ((vF v 3 q) * x9))), (5, vi (nI (q + 1)))]) C (dx dX7_first 30 rfl) rfl rfl (by decide) [1, 2, 3, 4, 5, 0] rfl ?_
                  refine r_goto (tgt := 20) C (dx dX7_first 31 rfl) (by decide) ?_
                  exact ihq (x4 + ((vF v 3 q) * x9))))
  ·
    intro p hp ihp x1 x2
    refine r_iload_n C (dx dX7_first 6 rfl) rfl ?_
    refine r_aload_n C (dx dX7_first 7 rfl) rfl ?_
    refine g_X7_74 (x := nI (vN v)) C (dx dX7_first 8 rfl) hm.eN ?_
    refine rn_ge (a := p) (b := vN v) (tgt := 77) C (by omega) (by omega) (dx dX7_first 9 rfl) (by decide) (fun c10 => ?_) (fun c10 => ?_)
    · first
      | (omega; done)
      | (
          have c10 : vN v ≤ p := c10
          refine r_iload_n C (dx dX7_first 44 rfl) rfl ?_
          refine r_iconst (v := -1) C (dx dX7_first 45 rfl) rfl ?_
          refine r_icmp_ne (tgt := 91) C (dx dX7_first 46 rfl) (by decide) (fun c11 => ?_) (fun c11 => ?_)
          ·
            have c11 : ¬ x1 = -1 := c11
            refine r_iload_n C (dx dX7_first 51 rfl) rfl ?_
            exact F.1 _ _ _ _ .int rfl rfl (dx dX7_first 52 rfl) rfl ⟨⟨_, rfl⟩, hm, Kp.rf⟩
          ·
            have c11 : x1 = -1 := c11
            refine r_aload_n C (dx dX7_first 47 rfl) rfl ?_
            refine r_bipush (v := -5) C (dx dX7_first 48 rfl) rfl ?_
            refine r_cv (as := [vi (-5)]) (st := []) C X I_X7_refuse l_X7_83 (e_refuse hm (x := -5) (j := 5) (by decide) (by decide)) (by decide) (Nat.le_of_ble_eq_true rfl) List.prefix_rfl List.prefix_rfl rfl rfl (Nat.le_of_ble_eq_true rfl) rfl (dx dX7_first 49 rfl) ?_
            rintro _ h12 ⟨rfl, m9h12, qh12⟩ kkh12
            have mh12 : MilAt h12 k v := m9h12
            have ph12 : Kp k h h12 := qh12
            have kh12 : xK h12 = xK h := kkh12
            refine r_goto (tgt := 92) C (dx dX7_first 50 rfl) (by decide) ?_
            exact F.1 _ _ _ _ .int rfl rfl (dx dX7_first 52 rfl) kh12 ⟨⟨_, rfl⟩, mh12, ph12⟩)
    · first
      | (omega; done)
      | (
          have c10 : p < vN v := c10
          refine r_iconst (v := nI 0) C (dx dX7_first 10 rfl) rfl ?_
          refine r_istore (ls' := [(0, vr 7 k), (1, vi x1), (2, vi x2), (3, vi (nI p)), (4, vi (nI 0))]) C (dx dX7_first 11 rfl) (by decide) [1, 2, 3, 4, 0] rfl ?_
          refine r_iconst (v := nI 0) C (dx dX7_first 12 rfl) rfl ?_
          refine r_istore (ls' := [(0, vr 7 k), (1, vi x1), (2, vi x2), (3, vi (nI p)), (4, vi (nI 0)), (5, vi (nI 0))]) C (dx dX7_first 13 rfl) (by decide) [1, 2, 3, 4, 5, 0] rfl ?_
          refine loopU (Φ := fun q => ∀ (x4 : Int32), Rr G 20 [(0, vr 7 k), (1, vi x1), (2, vi x2), (3, vi (nI p)), (4, vi x4), (5, vi (nI q))] [] h) (N := vM v) ?_ ?_ 0 (by omega) (nI 0)
          ·
            intro  x4
            refine r_iload C (dx dX7_first 14 rfl) rfl ?_
            refine r_aload_n C (dx dX7_first 15 rfl) rfl ?_
            refine g_X7_71 (x := nI (vM v)) C (dx dX7_first 16 rfl) hm.eM ?_
            refine rn_ge (a := vM v) (b := vM v) (tgt := 55) C (by omega) (by omega) (dx dX7_first 17 rfl) (by decide) (fun c13 => ?_) (fun c13 => ?_)
            · first
              | (omega; done)
              | (
                  have c13 : vM v ≤ vM v := c13
                  refine r_iload_n C (dx dX7_first 32 rfl) rfl ?_
                  refine r_iconst (v := -1) C (dx dX7_first 33 rfl) rfl ?_
                  refine r_icmp_eq (tgt := 66) C (dx dX7_first 34 rfl) (by decide) (fun c14 => ?_) (fun c14 => ?_)
                  ·
                    have c14 : x1 = -1 := c14
                    refine r_iload_n C (dx dX7_first 38 rfl) rfl ?_
                    refine r_istore_n (ls' := [(0, vr 7 k), (1, vi (nI p)), (2, vi x2), (3, vi (nI p)), (4, vi x4), (5, vi (nI (vM v)))]) C (dx dX7_first 39 rfl) (by decide) [1, 0, 2, 3, 4, 5] rfl ?_
                    refine r_iload C (dx dX7_first 40 rfl) rfl ?_
                    refine r_istore_n (ls' := [(0, vr 7 k), (1, vi (nI p)), (2, vi x4), (3, vi (nI p)), (4, vi x4), (5, vi (nI (vM v)))]) C (dx dX7_first 41 rfl) (by decide) [1, 2, 0, 3, 4, 5] rfl ?_
                    refine rn_iinc (a := p) (k := 1) (ls' := [(0, vr 7 k), (1, vi (nI p)), (2, vi x4), (3, vi (nI (p + 1))), (4, vi x4), (5, vi (nI (vM v)))]) C (dx dX7_first 42 rfl) rfl rfl (by decide) [1, 2, 3, 0, 4, 5] rfl ?_
                    refine r_goto (tgt := 6) C (dx dX7_first 43 rfl) (by decide) ?_
                    refine r_weak C [0, 1, 2, 3] rfl ?_
                    exact ihp (nI p) x4
                  ·
                    have c14 : ¬ x1 = -1 := c14
                    refine r_iload C (dx dX7_first 35 rfl) rfl ?_
                    refine r_iload_n C (dx dX7_first 36 rfl) rfl ?_
                    refine r_icmp_le (tgt := 71) C (dx dX7_first 37 rfl) (by decide) (fun c15 => ?_) (fun c15 => ?_)
                    ·
                      have c15 : x4 ≤ x2 := c15
                      refine rn_iinc (a := p) (k := 1) (ls' := [(0, vr 7 k), (1, vi x1), (2, vi x2), (3, vi (nI (p + 1))), (4, vi x4), (5, vi (nI (vM v)))]) C (dx dX7_first 42 rfl) rfl rfl (by decide) [1, 2, 3, 0, 4, 5] rfl ?_
                      refine r_goto (tgt := 6) C (dx dX7_first 43 rfl) (by decide) ?_
                      refine r_weak C [0, 1, 2, 3] rfl ?_
                      exact ihp x1 x2
                    ·
                      have c15 : ¬ x4 ≤ x2 := c15
                      refine r_iload_n C (dx dX7_first 38 rfl) rfl ?_
                      refine r_istore_n (ls' := [(0, vr 7 k), (1, vi (nI p)), (2, vi x2), (3, vi (nI p)), (4, vi x4), (5, vi (nI (vM v)))]) C (dx dX7_first 39 rfl) (by decide) [1, 0, 2, 3, 4, 5] rfl ?_
                      refine r_iload C (dx dX7_first 40 rfl) rfl ?_
                      refine r_istore_n (ls' := [(0, vr 7 k), (1, vi (nI p)), (2, vi x4), (3, vi (nI p)), (4, vi x4), (5, vi (nI (vM v)))]) C (dx dX7_first 41 rfl) (by decide) [1, 2, 0, 3, 4, 5] rfl ?_
                      refine rn_iinc (a := p) (k := 1) (ls' := [(0, vr 7 k), (1, vi (nI p)), (2, vi x4), (3, vi (nI (p + 1))), (4, vi x4), (5, vi (nI (vM v)))]) C (dx dX7_first 42 rfl) rfl rfl (by decide) [1, 2, 3, 0, 4, 5] rfl ?_
                      refine r_goto (tgt := 6) C (dx dX7_first 43 rfl) (by decide) ?_
                      refine r_weak C [0, 1, 2, 3] rfl ?_
                      exact ihp (nI p) x4)
            · first
              | (omega; done)
          ·
            intro q hq ihq x4
            refine r_iload C (dx dX7_first 14 rfl) rfl ?_
            refine r_aload_n C (dx dX7_first 15 rfl) rfl ?_
            refine g_X7_71 (x := nI (vM v)) C (dx dX7_first 16 rfl) hm.eM ?_
            refine rn_ge (a := q) (b := vM v) (tgt := 55) C (by omega) (by omega) (dx dX7_first 17 rfl) (by decide) (fun c17 => ?_) (fun c17 => ?_)
            · first
              | (omega; done)
              | (
                  have c17 : vM v ≤ q := c17
                  refine r_iload_n C (dx dX7_first 32 rfl) rfl ?_
                  refine r_iconst (v := -1) C (dx dX7_first 33 rfl) rfl ?_
                  refine r_icmp_eq (tgt := 66) C (dx dX7_first 34 rfl) (by decide) (fun c18 => ?_) (fun c18 => ?_)
                  ·
                    have c18 : x1 = -1 := c18
                    refine r_iload_n C (dx dX7_first 38 rfl) rfl ?_
                    refine r_istore_n (ls' := [(0, vr 7 k), (1, vi (nI p)), (2, vi x2), (3, vi (nI p)), (4, vi x4), (5, vi (nI q))]) C (dx dX7_first 39 rfl) (by decide) [1, 0, 2, 3, 4, 5] rfl ?_
                    refine r_iload C (dx dX7_first 40 rfl) rfl ?_
                    refine r_istore_n (ls' := [(0, vr 7 k), (1, vi (nI p)), (2, vi x4), (3, vi (nI p)), (4, vi x4), (5, vi (nI q))]) C (dx dX7_first 41 rfl) (by decide) [1, 2, 0, 3, 4, 5] rfl ?_
                    refine rn_iinc (a := p) (k := 1) (ls' := [(0, vr 7 k), (1, vi (nI p)), (2, vi x4), (3, vi (nI (p + 1))), (4, vi x4), (5, vi (nI q))]) C (dx dX7_first 42 rfl) rfl rfl (by decide) [1, 2, 3, 0, 4, 5] rfl ?_
                    refine r_goto (tgt := 6) C (dx dX7_first 43 rfl) (by decide) ?_
                    refine r_weak C [0, 1, 2, 3] rfl ?_
                    exact ihp (nI p) x4
                  ·
                    have c18 : ¬ x1 = -1 := c18
                    refine r_iload C (dx dX7_first 35 rfl) rfl ?_
                    refine r_iload_n C (dx dX7_first 36 rfl) rfl ?_
                    refine r_icmp_le (tgt := 71) C (dx dX7_first 37 rfl) (by decide) (fun c19 => ?_) (fun c19 => ?_)
                    ·
                      have c19 : x4 ≤ x2 := c19
                      refine rn_iinc (a := p) (k := 1) (ls' := [(0, vr 7 k), (1, vi x1), (2, vi x2), (3, vi (nI (p + 1))), (4, vi x4), (5, vi (nI q))]) C (dx dX7_first 42 rfl) rfl rfl (by decide) [1, 2, 3, 0, 4, 5] rfl ?_
                      refine r_goto (tgt := 6) C (dx dX7_first 43 rfl) (by decide) ?_
                      refine r_weak C [0, 1, 2, 3] rfl ?_
                      exact ihp x1 x2
                    ·
                      have c19 : ¬ x4 ≤ x2 := c19
                      refine r_iload_n C (dx dX7_first 38 rfl) rfl ?_
                      refine r_istore_n (ls' := [(0, vr 7 k), (1, vi (nI p)), (2, vi x2), (3, vi (nI p)), (4, vi x4), (5, vi (nI q))]) C (dx dX7_first 39 rfl) (by decide) [1, 0, 2, 3, 4, 5] rfl ?_
                      refine r_iload C (dx dX7_first 40 rfl) rfl ?_
                      refine r_istore_n (ls' := [(0, vr 7 k), (1, vi (nI p)), (2, vi x4), (3, vi (nI p)), (4, vi x4), (5, vi (nI q))]) C (dx dX7_first 41 rfl) (by decide) [1, 2, 0, 3, 4, 5] rfl ?_
                      refine rn_iinc (a := p) (k := 1) (ls' := [(0, vr 7 k), (1, vi (nI p)), (2, vi x4), (3, vi (nI (p + 1))), (4, vi x4), (5, vi (nI q))]) C (dx dX7_first 42 rfl) rfl rfl (by decide) [1, 2, 3, 0, 4, 5] rfl ?_
                      refine r_goto (tgt := 6) C (dx dX7_first 43 rfl) (by decide) ?_
                      refine r_weak C [0, 1, 2, 3] rfl ?_
                      exact ihp (nI p) x4)
            · first
              | (omega; done)
              | (
                  have c17 : q < vM v := c17
                  refine r_iload C (dx dX7_first 18 rfl) rfl ?_
                  refine r_aload_n C (dx dX7_first 19 rfl) rfl ?_
                  refine g_X7_49 C (dx dX7_first 20 rfl) ?_
                  refine r_iload C (dx dX7_first 21 rfl) rfl ?_
                  refine r_iald (j := q) (x := vF v 3 q) C rfl rfl (by decide) rfl (by omega) (dx dX7_first 22 rfl) (hm.e3 (by omega)) ?_
                  refine r_aload_n C (dx dX7_first 23 rfl) rfl ?_
                  refine r_iload C (dx dX7_first 24 rfl) rfl ?_
                  refine r_iload_n C (dx dX7_first 25 rfl) rfl ?_
                  refine r_cvW (as := [vi (nI q), vi (nI p)]) (st := [vi (vF v 3 q), vi x4]) C X I_X7_powerOf l_X7_274 (c_X7_powerOf hm (m := q) (o := p) (by omega) (by omega)) (by decide) (Nat.le_of_ble_eq_true rfl) List.prefix_rfl rfl rfl (Nat.le_of_ble_eq_true rfl) rfl (dx dX7_first 26 rfl) ?_
                  rintro _ ⟨x20, rfl⟩
                  refine r_imul C (dx dX7_first 27 rfl) ?_
                  refine r_iadd C (dx dX7_first 28 rfl) ?_
                  refine r_istore (ls' := [(0, vr 7 k), (1, vi x1), (2, vi x2), (3, vi (nI p)), (4, vi (x4 + ((vF v 3 q) * x20))), (5, vi (nI q))]) C (dx dX7_first 29 rfl) (by decide) [1, 2, 3, 4, 0, 5] rfl ?_
                  refine rn_iinc (a := q) (k := 1) (ls' := [(0, vr 7 k), (1, vi x1), (2, vi x2), (3, vi (nI p)), (4, vi (x4 + ((vF v 3 q) * x20))), (5, vi (nI (q + 1)))]) C (dx dX7_first 30 rfl) rfl rfl (by decide) [1, 2, 3, 4, 5, 0] rfl ?_
                  refine r_goto (tgt := 20) C (dx dX7_first 31 rfl) (by decide) ?_
                  exact ihq (x4 + ((vF v 3 q) * x20))))
set_option maxHeartbeats 4000000 in
theorem v_X7_bears {l : Launch} {h : Hp} {k : Nat} {v : Vg} (hm : MilAt h k v) (m : Int32) : Ms l yX7_bears cX7_bears 3 (some .int) 8 [vr 7 k, vi m] h (xK h) (fun r h' => PI r ∧ MilAt h' k v ∧ Kp k h h') := by
  refine Ms.of (by decide) (Nat.le_of_ble_eq_true rfl) (fun G C X F => ?_)
  have C : Cx G cX7_bears 3 RX7 := C
  show Rr G 0 [(0, vr 7 k), (1, vi m)] [] h
  have bP := hm.bP
  have bM := hm.bM
  have bN := hm.bN
  refine r_aload_n C (dx dX7_bears 0 rfl) rfl ?_
  refine r_iload_n C (dx dX7_bears 1 rfl) rfl ?_
  refine r_cvP (as := [vi m]) (st := []) (v := vi (b2i (inR m (vM v)))) C X I_X7_isMachine l_X7_241 (c_X7_isMachine hm _) (by decide) (Nat.le_of_ble_eq_true rfl) List.prefix_rfl rfl rfl (Nat.le_of_ble_eq_true rfl) rfl (dx dX7_bears 2 rfl) ?_
  refine rb_ne (b := inR m (vM v)) (tgt := 15) C (dx dX7_bears 3 rfl) (by decide) (fun c1 => ?_) (fun c1 => ?_)
  ·
    have c1 : (inR m (vM v)) = true := c1
    obtain ⟨μ, hμ, rfl⟩ := inR_ex (n := (vM v)) (by omega) c1
    refine r_aload_n C (dx dX7_bears 8 rfl) rfl ?_
    refine r_iload_n C (dx dX7_bears 9 rfl) rfl ?_
    refine r_cvW (as := [vi (nI μ)]) (st := []) C X I_X7_worstOf l_X7_314 (c_X7_worstOf hm (m := μ) (by omega)) (by decide) (Nat.le_of_ble_eq_true rfl) List.prefix_rfl rfl rfl (Nat.le_of_ble_eq_true rfl) rfl (dx dX7_bears 10 rfl) ?_
    rintro _ ⟨x2, rfl⟩
    refine r_istore_n (ls' := [(0, vr 7 k), (1, vi (nI μ)), (2, vi x2)]) C (dx dX7_bears 11 rfl) (by decide) [1, 2, 0] rfl ?_
    refine r_iload_n C (dx dX7_bears 12 rfl) rfl ?_
    refine r_if_ne (tgt := 34) C (dx dX7_bears 13 rfl) (by decide) (fun c3 => ?_) (fun c3 => ?_)
    ·
      have c3 : ¬ x2 = 0 := c3
      refine r_iload_n C (dx dX7_bears 18 rfl) rfl ?_
      refine r_iconst (v := nI 1) C (dx dX7_bears 19 rfl) rfl ?_
      refine r_isub C (dx dX7_bears 20 rfl) ?_
      exact F.1 _ _ _ _ .int rfl rfl (dx dX7_bears 21 rfl) rfl ⟨⟨_, rfl⟩, hm, Kp.rf⟩
    ·
      have c3 : x2 = 0 := c3
      refine r_aload_n C (dx dX7_bears 14 rfl) rfl ?_
      refine r_bipush (v := -5) C (dx dX7_bears 15 rfl) rfl ?_
      refine r_cv (as := [vi (-5)]) (st := []) C X I_X7_refuse l_X7_83 (e_refuse hm (x := -5) (j := 5) (by decide) (by decide)) (by decide) (Nat.le_of_ble_eq_true rfl) List.prefix_rfl List.prefix_rfl rfl rfl (Nat.le_of_ble_eq_true rfl) rfl (dx dX7_bears 16 rfl) ?_
      rintro _ h4 ⟨rfl, m9h4, qh4⟩ kkh4
      have mh4 : MilAt h4 k v := m9h4
      have ph4 : Kp k h h4 := qh4
      have kh4 : xK h4 = xK h := kkh4
      refine r_goto (tgt := 37) C (dx dX7_bears 17 rfl) (by decide) ?_
      exact F.1 _ _ _ _ .int rfl rfl (dx dX7_bears 21 rfl) kh4 ⟨⟨_, rfl⟩, mh4, ph4⟩
  ·
    have c1 : (inR m (vM v)) = false := c1
    refine r_aload_n C (dx dX7_bears 4 rfl) rfl ?_
    refine r_bipush (v := -2) C (dx dX7_bears 5 rfl) rfl ?_
    refine r_cv (as := [vi (-2)]) (st := []) C X I_X7_refuse l_X7_83 (e_refuse hm (x := -2) (j := 2) (by decide) (by decide)) (by decide) (Nat.le_of_ble_eq_true rfl) List.prefix_rfl List.prefix_rfl rfl rfl (Nat.le_of_ble_eq_true rfl) rfl (dx dX7_bears 6 rfl) ?_
    rintro _ h5 ⟨rfl, m9h5, qh5⟩ kkh5
    have mh5 : MilAt h5 k v := m9h5
    have ph5 : Kp k h h5 := qh5
    have kh5 : xK h5 = xK h := kkh5
    exact F.1 _ _ _ _ .int rfl rfl (dx dX7_bears 7 rfl) kh5 ⟨⟨_, rfl⟩, mh5, ph5⟩
set_option maxHeartbeats 4000000 in
theorem v_X7_least {l : Launch} {h : Hp} {k : Nat} {v : Vg} (hm : MilAt h k v)  : Ms l yX7_least cX7_least 3 (some .int) 8 [vr 7 k] h (xK h) (fun r h' => PI r ∧ MilAt h' k v ∧ Kp k h h') := by
  refine Ms.of (by decide) (Nat.le_of_ble_eq_true rfl) (fun G C X F => ?_)
  have C : Cx G cX7_least 3 RX7 := C
  show Rr G 0 [(0, vr 7 k)] [] h
  have bP := hm.bP
  have bM := hm.bM
  have bN := hm.bN
  obtain ⟨S, hS⟩ : ∃ S, S = 2 ^ vN v := ⟨_, rfl⟩
  have p8 := pow8 bN
  rw [← hS] at p8
  refine r_aload_n C (dx dX7_least 0 rfl) rfl ?_
  refine r_cvP (as := []) (st := []) (v := vi (nI (S - 1))) C X I_X7_all l_X7_253 (c_mallS hm hS) (by decide) (Nat.le_of_ble_eq_true rfl) List.prefix_rfl rfl rfl (Nat.le_of_ble_eq_true rfl) rfl (dx dX7_least 1 rfl) ?_
  refine r_istore_n (ls' := [(0, vr 7 k), (1, vi (nI (S - 1)))]) C (dx dX7_least 2 rfl) (by decide) [1, 0] rfl ?_
  refine r_aload_n C (dx dX7_least 3 rfl) rfl ?_
  refine r_cvP (as := []) (st := []) (v := vi (nI (S - 1))) C X I_X7_all l_X7_253 (c_mallS hm hS) (by decide) (Nat.le_of_ble_eq_true rfl) List.prefix_rfl rfl rfl (Nat.le_of_ble_eq_true rfl) rfl (dx dX7_least 4 rfl) ?_
  refine r_istore_n (ls' := [(0, vr 7 k), (1, vi (nI (S - 1))), (2, vi (nI (S - 1)))]) C (dx dX7_least 5 rfl) (by decide) [1, 2, 0] rfl ?_
  have key : ∀ j, j ≤ S → ∀ (x1 : Int32), Rr G 10 [(0, vr 7 k), (1, vi x1), (2, vi (nI j - nI 1))] [] h := by
    refine loopDn (Φ := fun j => j ≤ S → ∀ (x1 : Int32), Rr G 10 [(0, vr 7 k), (1, vi x1), (2, vi (nI j - nI 1))] [] h) ?_ ?_
    ·
      intro hj x1
      rw [show nI 0 - nI 1 = -1 from by decide]
      refine r_iload_n C (dx dX7_least 6 rfl) rfl ?_
      refine r_if_lt (tgt := 53) C (dx dX7_least 7 rfl) (by decide) (fun c1 => ?_) (fun c1 => ?_)
      ·
        have c1 : (-1 : Int32) < 0 := c1
        refine r_iload_n C (dx dX7_least 29 rfl) rfl ?_
        exact F.1 _ _ _ _ .int rfl rfl (dx dX7_least 30 rfl) rfl ⟨⟨_, rfl⟩, hm, Kp.rf⟩
      · exact absurd (show (-1 : Int32) < 0 by decide) c1
    ·
      intro j ihj hj x1
      rw [show nI (j + 1) - nI 1 = nI j from pk_sub (a := j + 1) (b := 1) (by omega)]
      refine r_iload_n C (dx dX7_least 6 rfl) rfl ?_
      refine r_if_lt (tgt := 53) C (dx dX7_least 7 rfl) (by decide) (fun c2 => ?_) (fun c2 => ?_)
      · exact absurd c2 (nI_pos (by omega))
      ·
        have c2 : ¬ nI j < 0 := c2
        refine r_aload_n C (dx dX7_least 8 rfl) rfl ?_
        refine r_aload_n C (dx dX7_least 9 rfl) rfl ?_
        refine r_cvP (as := []) (st := [vr 7 k]) (v := vi (nI (S - 1))) C X I_X7_all l_X7_253 (c_mallS hm hS) (by decide) (Nat.le_of_ble_eq_true rfl) List.prefix_rfl rfl rfl (Nat.le_of_ble_eq_true rfl) rfl (dx dX7_least 10 rfl) ?_
        refine r_iload_n C (dx dX7_least 11 rfl) rfl ?_
        refine r_iconst (v := -1) C (dx dX7_least 12 rfl) rfl ?_
        refine r_ixor C (dx dX7_least 13 rfl) ?_
        refine r_iand C (dx dX7_least 14 rfl) ?_
        refine r_iconst (v := nI 0) C (dx dX7_least 15 rfl) rfl ?_
        refine r_cvW (as := [vi ((nI (S - 1)) &&& ((nI j) ^^^ (-1))), vi (nI 0)]) (st := []) C X I_X7_anyWorks l_X7_317 (c_X7_anyWorks hm _ _) (by decide) (Nat.le_of_ble_eq_true rfl) List.prefix_rfl rfl rfl (Nat.le_of_ble_eq_true rfl) rfl (dx dX7_least 16 rfl) ?_
        rintro _ ⟨x3, rfl⟩
        refine rb_ne (b := x3) (tgt := 45) C (dx dX7_least 17 rfl) (by decide) (fun c4 => ?_) (fun c4 => ?_)
        ·
          have c4 : x3 = true := c4
          refine r_iload_n C (dx dX7_least 25 rfl) rfl ?_
          refine r_istore_n (ls' := [(0, vr 7 k), (1, vi x1), (2, vi (nI j))]) C (dx dX7_least 26 rfl) (by decide) [1, 0, 2] rfl ?_
          refine r_iinc (ls' := [(0, vr 7 k), (1, vi x1), (2, vi (nI j + (-1)))]) C (dx dX7_least 27 rfl) rfl rfl (by decide) [1, 2, 0] rfl ?_
          refine r_goto (tgt := 10) C (dx dX7_least 28 rfl) (by decide) ?_
          rw [add_m1]
          exact ihj (by omega) x1
        ·
          have c4 : x3 = false := c4
          refine r_iload_n C (dx dX7_least 18 rfl) rfl ?_
          refine r_csW (as := [vi (nI j)]) (st := []) C X I_X7_bits l_X7_268 (c_X7_bits _) (by decide) (Nat.le_of_ble_eq_true rfl) List.prefix_rfl (Nat.le_of_ble_eq_true rfl) rfl (dx dX7_least 19 rfl) ?_
          rintro _ ⟨x5, hx5, rfl⟩
          refine r_iload_n C (dx dX7_least 20 rfl) rfl ?_
          refine r_csW (as := [vi x1]) (st := [vi (nI x5)]) C X I_X7_bits l_X7_268 (c_X7_bits _) (by decide) (Nat.le_of_ble_eq_true rfl) List.prefix_rfl (Nat.le_of_ble_eq_true rfl) rfl (dx dX7_least 21 rfl) ?_
          rintro _ ⟨x6, hx6, rfl⟩
          refine rn_gt (a := x5) (b := x6) (tgt := 45) C (by omega) (by omega) (dx dX7_least 22 rfl) (by decide) (fun c7 => ?_) (fun c7 => ?_)
          · first
            | (omega; done)
            | (
                have c7 : x6 < x5 := c7
                refine r_iload_n C (dx dX7_least 25 rfl) rfl ?_
                refine r_istore_n (ls' := [(0, vr 7 k), (1, vi x1), (2, vi (nI j))]) C (dx dX7_least 26 rfl) (by decide) [1, 0, 2] rfl ?_
                refine r_iinc (ls' := [(0, vr 7 k), (1, vi x1), (2, vi (nI j + (-1)))]) C (dx dX7_least 27 rfl) rfl rfl (by decide) [1, 2, 0] rfl ?_
                refine r_goto (tgt := 10) C (dx dX7_least 28 rfl) (by decide) ?_
                rw [add_m1]
                exact ihj (by omega) x1)
          · first
            | (omega; done)
            | (
                have c7 : x5 ≤ x6 := c7
                refine r_iload_n C (dx dX7_least 23 rfl) rfl ?_
                refine r_goto (tgt := 46) C (dx dX7_least 24 rfl) (by decide) ?_
                refine r_istore_n (ls' := [(0, vr 7 k), (1, vi (nI j)), (2, vi (nI j))]) C (dx dX7_least 26 rfl) (by decide) [1, 0, 2] rfl ?_
                refine r_iinc (ls' := [(0, vr 7 k), (1, vi (nI j)), (2, vi (nI j + (-1)))]) C (dx dX7_least 27 rfl) rfl rfl (by decide) [1, 2, 0] rfl ?_
                refine r_goto (tgt := 10) C (dx dX7_least 28 rfl) (by decide) ?_
                rw [add_m1]
                exact ihj (by omega) (nI j))
  have k9 := key S (Nat.le_refl _) (nI (S - 1))
  rw [pk_sub (a := S) (b := 1) (by omega)] at k9
  exact k9
set_option maxHeartbeats 4000000 in
theorem v_X7_stolen {l : Launch} {h : Hp} {k : Nat} {v : Vg} (hm : MilAt h k v)  : Ms l yX7_stolen cX7_stolen 3 (some .int) 8 [vr 7 k] h (xK h) (fun r h' => PI r ∧ MilAt h' k v ∧ Kp k h h') := by
  refine Ms.of (by decide) (Nat.le_of_ble_eq_true rfl) (fun G C X F => ?_)
  have C : Cx G cX7_stolen 3 RX7 := C
  show Rr G 0 [(0, vr 7 k)] [] h
  have bP := hm.bP
  have bM := hm.bM
  have bN := hm.bN
  obtain ⟨S, hS⟩ : ∃ S, S = 2 ^ vP v := ⟨_, rfl⟩
  have p12 := pow12 bP
  rw [← hS] at p12
  refine r_iconst (v := nI 1) C (dx dX7_stolen 0 rfl) rfl ?_
  refine r_aload_n C (dx dX7_stolen 1 rfl) rfl ?_
  refine g_X7_64 (x := nI (vP v)) C (dx dX7_stolen 2 rfl) hm.eP ?_
  refine r_ishl C (dx dX7_stolen 3 rfl) ?_
  refine r_iconst (v := nI 1) C (dx dX7_stolen 4 rfl) rfl ?_
  refine r_isub C (dx dX7_stolen 5 rfl) ?_
  rw [show (nI 1 <<< (nI (vP v) &&& 31)) - nI 1 = nI (S - 1) from by rw [full_sh bP, hS]; rfl]
  refine r_istore_n (ls' := [(0, vr 7 k), (1, vi (nI (S - 1)))]) C (dx dX7_stolen 6 rfl) (by decide) [1, 0] rfl ?_
  refine r_iload_n C (dx dX7_stolen 7 rfl) rfl ?_
  refine r_istore_n (ls' := [(0, vr 7 k), (1, vi (nI (S - 1))), (2, vi (nI (S - 1)))]) C (dx dX7_stolen 8 rfl) (by decide) [1, 2, 0] rfl ?_
  have key : ∀ j, j ≤ S → ∀ (x1 : Int32), Rr G 11 [(0, vr 7 k), (1, vi x1), (2, vi (nI j - nI 1))] [] h := by
    refine loopDn (Φ := fun j => j ≤ S → ∀ (x1 : Int32), Rr G 11 [(0, vr 7 k), (1, vi x1), (2, vi (nI j - nI 1))] [] h) ?_ ?_
    ·
      intro hj x1
      rw [show nI 0 - nI 1 = -1 from by decide]
      refine r_iload_n C (dx dX7_stolen 9 rfl) rfl ?_
      refine r_if_lt (tgt := 50) C (dx dX7_stolen 10 rfl) (by decide) (fun c1 => ?_) (fun c1 => ?_)
      ·
        have c1 : (-1 : Int32) < 0 := c1
        refine r_iload_n C (dx dX7_stolen 28 rfl) rfl ?_
        exact F.1 _ _ _ _ .int rfl rfl (dx dX7_stolen 29 rfl) rfl ⟨⟨_, rfl⟩, hm, Kp.rf⟩
      · exact absurd (show (-1 : Int32) < 0 by decide) c1
    ·
      intro j ihj hj x1
      rw [show nI (j + 1) - nI 1 = nI j from pk_sub (a := j + 1) (b := 1) (by omega)]
      refine r_iload_n C (dx dX7_stolen 9 rfl) rfl ?_
      refine r_if_lt (tgt := 50) C (dx dX7_stolen 10 rfl) (by decide) (fun c2 => ?_) (fun c2 => ?_)
      · exact absurd c2 (nI_pos (by omega))
      ·
        have c2 : ¬ nI j < 0 := c2
        refine r_iload_n C (dx dX7_stolen 11 rfl) rfl ?_
        refine r_csW (as := [vi (nI j)]) (st := []) C X I_X7_bits l_X7_268 (c_X7_bits _) (by decide) (Nat.le_of_ble_eq_true rfl) List.prefix_rfl (Nat.le_of_ble_eq_true rfl) rfl (dx dX7_stolen 12 rfl) ?_
        rintro _ ⟨x3, hx3, rfl⟩
        refine r_iload_n C (dx dX7_stolen 13 rfl) rfl ?_
        refine r_csW (as := [vi x1]) (st := [vi (nI x3)]) C X I_X7_bits l_X7_268 (c_X7_bits _) (by decide) (Nat.le_of_ble_eq_true rfl) List.prefix_rfl (Nat.le_of_ble_eq_true rfl) rfl (dx dX7_stolen 14 rfl) ?_
        rintro _ ⟨x4, hx4, rfl⟩
        refine rn_gt (a := x3) (b := x4) (tgt := 42) C (by omega) (by omega) (dx dX7_stolen 15 rfl) (by decide) (fun c5 => ?_) (fun c5 => ?_)
        · first
          | (omega; done)
          | (
              have c5 : x4 < x3 := c5
              refine r_iload_n C (dx dX7_stolen 24 rfl) rfl ?_
              refine r_istore_n (ls' := [(0, vr 7 k), (1, vi x1), (2, vi (nI j))]) C (dx dX7_stolen 25 rfl) (by decide) [1, 0, 2] rfl ?_
              refine r_iinc (ls' := [(0, vr 7 k), (1, vi x1), (2, vi (nI j + (-1)))]) C (dx dX7_stolen 26 rfl) rfl rfl (by decide) [1, 2, 0] rfl ?_
              refine r_goto (tgt := 11) C (dx dX7_stolen 27 rfl) (by decide) ?_
              rw [add_m1]
              exact ihj (by omega) x1)
        · first
          | (omega; done)
          | (
              have c5 : x3 ≤ x4 := c5
              refine r_aload_n C (dx dX7_stolen 16 rfl) rfl ?_
              refine r_aload_n C (dx dX7_stolen 17 rfl) rfl ?_
              refine r_cvP (as := []) (st := [vr 7 k]) (v := vi (full (vN v))) C X I_X7_all l_X7_253 (c_X7_all hm) (by decide) (Nat.le_of_ble_eq_true rfl) List.prefix_rfl rfl rfl (Nat.le_of_ble_eq_true rfl) rfl (dx dX7_stolen 18 rfl) ?_
              refine r_iload_n C (dx dX7_stolen 19 rfl) rfl ?_
              refine r_cvW (as := [vi (full (vN v)), vi (nI j)]) (st := []) C X I_X7_anyWorks l_X7_317 (c_X7_anyWorks hm _ _) (by decide) (Nat.le_of_ble_eq_true rfl) List.prefix_rfl rfl rfl (Nat.le_of_ble_eq_true rfl) rfl (dx dX7_stolen 20 rfl) ?_
              rintro _ ⟨x6, rfl⟩
              refine rb_ne (b := x6) (tgt := 42) C (dx dX7_stolen 21 rfl) (by decide) (fun c7 => ?_) (fun c7 => ?_)
              ·
                have c7 : x6 = true := c7
                refine r_iload_n C (dx dX7_stolen 24 rfl) rfl ?_
                refine r_istore_n (ls' := [(0, vr 7 k), (1, vi x1), (2, vi (nI j))]) C (dx dX7_stolen 25 rfl) (by decide) [1, 0, 2] rfl ?_
                refine r_iinc (ls' := [(0, vr 7 k), (1, vi x1), (2, vi (nI j + (-1)))]) C (dx dX7_stolen 26 rfl) rfl rfl (by decide) [1, 2, 0] rfl ?_
                refine r_goto (tgt := 11) C (dx dX7_stolen 27 rfl) (by decide) ?_
                rw [add_m1]
                exact ihj (by omega) x1
              ·
                have c7 : x6 = false := c7
                refine r_iload_n C (dx dX7_stolen 22 rfl) rfl ?_
                refine r_goto (tgt := 43) C (dx dX7_stolen 23 rfl) (by decide) ?_
                refine r_istore_n (ls' := [(0, vr 7 k), (1, vi (nI j)), (2, vi (nI j))]) C (dx dX7_stolen 25 rfl) (by decide) [1, 0, 2] rfl ?_
                refine r_iinc (ls' := [(0, vr 7 k), (1, vi (nI j)), (2, vi (nI j + (-1)))]) C (dx dX7_stolen 26 rfl) rfl rfl (by decide) [1, 2, 0] rfl ?_
                refine r_goto (tgt := 11) C (dx dX7_stolen 27 rfl) (by decide) ?_
                rw [add_m1]
                exact ihj (by omega) (nI j))
  have k9 := key S (Nat.le_refl _) (nI (S - 1))
  rw [pk_sub (a := S) (b := 1) (by omega)] at k9
  exact k9
set_option maxHeartbeats 4000000 in
theorem v_X7_never {l : Launch} {h : Hp} {k : Nat} {v : Vg} (hm : MilAt h k v) (b : Bool) : Ms l yX7_never cX7_never 4 (some .int) 8 [vr 7 k, vi (b2i b)] h (xK h) (fun r h' => PI r ∧ MilAt h' k v ∧ Kp k h h') := by
  refine Ms.of (by decide) (Nat.le_of_ble_eq_true rfl) (fun G C X F => ?_)
  have C : Cx G cX7_never 4 RX7 := C
  show Rr G 0 [(0, vr 7 k), (1, vi (b2i b))] [] h
  have bP := hm.bP
  have bM := hm.bM
  have bN := hm.bN
  refine r_iconst (v := nI 0) C (dx dX7_never 0 rfl) rfl ?_
  refine r_istore_n (ls' := [(0, vr 7 k), (1, vi (b2i b)), (2, vi (nI 0))]) C (dx dX7_never 1 rfl) (by decide) [1, 2, 0] rfl ?_
  refine r_iload_n C (dx dX7_never 2 rfl) rfl ?_
  refine rb_eq (b := b) (tgt := 46) C (dx dX7_never 3 rfl) (by decide) (fun c1 => ?_) (fun c1 => ?_)
  ·
    have c1 : b = false := c1
    refine r_iconst (v := nI 1) C (dx dX7_never 28 rfl) rfl ?_
    refine r_aload_n C (dx dX7_never 29 rfl) rfl ?_
    refine g_X7_64 (x := nI (vP v)) C (dx dX7_never 30 rfl) hm.eP ?_
    refine r_ishl C (dx dX7_never 31 rfl) ?_
    refine r_iconst (v := nI 1) C (dx dX7_never 32 rfl) rfl ?_
    refine r_isub C (dx dX7_never 33 rfl) ?_
    refine r_aload_n C (dx dX7_never 34 rfl) rfl ?_
    refine r_aload_n C (dx dX7_never 35 rfl) rfl ?_
    refine r_cvP (as := []) (st := [vr 7 k, vi (((nI 1) <<< ((nI (vP v)) &&& 31)) - (nI 1))]) (v := vi (full (vN v))) C X I_X7_all l_X7_253 (c_X7_all hm) (by decide) (Nat.le_of_ble_eq_true rfl) List.prefix_rfl rfl rfl (Nat.le_of_ble_eq_true rfl) rfl (dx dX7_never 36 rfl) ?_
    refine r_cvW (as := [vi (full (vN v))]) (st := [vi (((nI 1) <<< ((nI (vP v)) &&& 31)) - (nI 1))]) C X I_X7_hasOf l_X7_247 (c_X7_hasOf hm _) (by decide) (Nat.le_of_ble_eq_true rfl) List.prefix_rfl rfl rfl (Nat.le_of_ble_eq_true rfl) rfl (dx dX7_never 37 rfl) ?_
    rintro _ ⟨x2, rfl⟩
    refine r_iconst (v := -1) C (dx dX7_never 38 rfl) rfl ?_
    refine r_ixor C (dx dX7_never 39 rfl) ?_
    refine r_iand C (dx dX7_never 40 rfl) ?_
    exact F.1 _ _ _ _ .int rfl rfl (dx dX7_never 41 rfl) rfl ⟨⟨_, rfl⟩, hm, Kp.rf⟩
  ·
    have c1 : b = true := c1
    refine r_iconst (v := nI 0) C (dx dX7_never 4 rfl) rfl ?_
    refine r_istore_n (ls' := [(0, vr 7 k), (1, vi (b2i b)), (2, vi (nI 0)), (3, vi (nI 0))]) C (dx dX7_never 5 rfl) (by decide) [1, 2, 3, 0] rfl ?_
    refine loopU (Φ := fun p => ∀ (x2 : Int32), Rr G 8 [(0, vr 7 k), (1, vi (b2i b)), (2, vi x2), (3, vi (nI p))] [] h) (N := vM v) ?_ ?_ 0 (by omega) (nI 0)
    ·
      intro  x2
      refine r_iload_n C (dx dX7_never 6 rfl) rfl ?_
      refine r_aload_n C (dx dX7_never 7 rfl) rfl ?_
      refine g_X7_71 (x := nI (vM v)) C (dx dX7_never 8 rfl) hm.eM ?_
      refine rn_ge (a := vM v) (b := vM v) (tgt := 44) C (by omega) (by omega) (dx dX7_never 9 rfl) (by decide) (fun c3 => ?_) (fun c3 => ?_)
      · first
        | (omega; done)
        | (
            have c3 : vM v ≤ vM v := c3
            refine r_iload_n C (dx dX7_never 26 rfl) rfl ?_
            exact F.1 _ _ _ _ .int rfl rfl (dx dX7_never 27 rfl) rfl ⟨⟨_, rfl⟩, hm, Kp.rf⟩)
      · first
        | (omega; done)
    ·
      intro p hp ihp x2
      refine r_iload_n C (dx dX7_never 6 rfl) rfl ?_
      refine r_aload_n C (dx dX7_never 7 rfl) rfl ?_
      refine g_X7_71 (x := nI (vM v)) C (dx dX7_never 8 rfl) hm.eM ?_
      refine rn_ge (a := p) (b := vM v) (tgt := 44) C (by omega) (by omega) (dx dX7_never 9 rfl) (by decide) (fun c6 => ?_) (fun c6 => ?_)
      · first
        | (omega; done)
        | (
            have c6 : vM v ≤ p := c6
            refine r_iload_n C (dx dX7_never 26 rfl) rfl ?_
            exact F.1 _ _ _ _ .int rfl rfl (dx dX7_never 27 rfl) rfl ⟨⟨_, rfl⟩, hm, Kp.rf⟩)
      · first
        | (omega; done)
        | (
            have c6 : p < vM v := c6
            refine r_iload_n C (dx dX7_never 10 rfl) rfl ?_
            refine r_aload_n C (dx dX7_never 11 rfl) rfl ?_
            refine r_iload_n C (dx dX7_never 12 rfl) rfl ?_
            refine r_aload_n C (dx dX7_never 13 rfl) rfl ?_
            refine r_cvP (as := []) (st := [vi (nI p), vr 7 k, vi x2]) (v := vi (full (vN v))) C X I_X7_all l_X7_253 (c_X7_all hm) (by decide) (Nat.le_of_ble_eq_true rfl) List.prefix_rfl rfl rfl (Nat.le_of_ble_eq_true rfl) rfl (dx dX7_never 14 rfl) ?_
            refine r_cvW (as := [vi (nI p), vi (full (vN v))]) (st := [vi x2]) C X I_X7_worksOf l_X7_250 (c_X7_worksOf hm (m := p) (by omega) _) (by decide) (Nat.le_of_ble_eq_true rfl) List.prefix_rfl rfl rfl (Nat.le_of_ble_eq_true rfl) rfl (dx dX7_never 15 rfl) ?_
            rintro _ ⟨x7, rfl⟩
            refine rb_eq (b := x7) (tgt := 33) C (dx dX7_never 16 rfl) (by decide) (fun c8 => ?_) (fun c8 => ?_)
            ·
              have c8 : x7 = false := c8
              refine r_iconst (v := nI 1) C (dx dX7_never 19 rfl) rfl ?_
              refine r_iload_n C (dx dX7_never 20 rfl) rfl ?_
              refine r_ishl C (dx dX7_never 21 rfl) ?_
              refine r_ior C (dx dX7_never 22 rfl) ?_
              refine r_istore_n (ls' := [(0, vr 7 k), (1, vi (b2i b)), (2, vi (x2 ||| ((nI 1) <<< ((nI p) &&& 31)))), (3, vi (nI p))]) C (dx dX7_never 23 rfl) (by decide) [1, 2, 0, 3] rfl ?_
              refine rn_iinc (a := p) (k := 1) (ls' := [(0, vr 7 k), (1, vi (b2i b)), (2, vi (x2 ||| ((nI 1) <<< ((nI p) &&& 31)))), (3, vi (nI (p + 1)))]) C (dx dX7_never 24 rfl) rfl rfl (by decide) [1, 2, 3, 0] rfl ?_
              refine r_goto (tgt := 8) C (dx dX7_never 25 rfl) (by decide) ?_
              exact ihp (x2 ||| ((nI 1) <<< ((nI p) &&& 31)))
            ·
              have c8 : x7 = true := c8
              refine r_iconst (v := nI 0) C (dx dX7_never 17 rfl) rfl ?_
              refine r_goto (tgt := 36) C (dx dX7_never 18 rfl) (by decide) ?_
              refine r_ior C (dx dX7_never 22 rfl) ?_
              refine r_istore_n (ls' := [(0, vr 7 k), (1, vi (b2i b)), (2, vi (x2 ||| (nI 0))), (3, vi (nI p))]) C (dx dX7_never 23 rfl) (by decide) [1, 2, 0, 3] rfl ?_
              refine rn_iinc (a := p) (k := 1) (ls' := [(0, vr 7 k), (1, vi (b2i b)), (2, vi (x2 ||| (nI 0))), (3, vi (nI (p + 1)))]) C (dx dX7_never 24 rfl) rfl rfl (by decide) [1, 2, 3, 0] rfl ?_
              refine r_goto (tgt := 8) C (dx dX7_never 25 rfl) (by decide) ?_
              exact ihp (x2 ||| (nI 0)))
set_option maxHeartbeats 4000000 in
theorem v_X7_with {l : Launch} {h : Hp} {k : Nat} {v : Vg} (hm : MilAt h k v) (m : Int32) : Ms l yX7_with cX7_with 4 (some .int) 8 [vr 7 k, vi m] h (xK h) (fun r h' => PI r ∧ MilAt h' k v ∧ Kp k h h') := by
  refine Ms.of (by decide) (Nat.le_of_ble_eq_true rfl) (fun G C X F => ?_)
  have C : Cx G cX7_with 4 RX7 := C
  show Rr G 0 [(0, vr 7 k), (1, vi m)] [] h
  have bP := hm.bP
  have bM := hm.bM
  have bN := hm.bN
  obtain ⟨S, hS⟩ : ∃ S, S = 2 ^ vN v := ⟨_, rfl⟩
  have p8 := pow8 bN
  rw [← hS] at p8
  refine r_aload_n C (dx dX7_with 0 rfl) rfl ?_
  refine r_iload_n C (dx dX7_with 1 rfl) rfl ?_
  refine r_cvP (as := [vi m]) (st := []) (v := vi (b2i (inR m (vM v)))) C X I_X7_isMachine l_X7_241 (c_X7_isMachine hm _) (by decide) (Nat.le_of_ble_eq_true rfl) List.prefix_rfl rfl rfl (Nat.le_of_ble_eq_true rfl) rfl (dx dX7_with 2 rfl) ?_
  refine rb_ne (b := inR m (vM v)) (tgt := 15) C (dx dX7_with 3 rfl) (by decide) (fun c1 => ?_) (fun c1 => ?_)
  ·
    have c1 : (inR m (vM v)) = true := c1
    obtain ⟨μ, hμ, rfl⟩ := inR_ex (n := (vM v)) (by omega) c1
    refine r_iconst (v := -1) C (dx dX7_with 8 rfl) rfl ?_
    refine r_istore_n (ls' := [(0, vr 7 k), (1, vi (nI μ)), (2, vi (-1))]) C (dx dX7_with 9 rfl) (by decide) [1, 2, 0] rfl ?_
    refine r_iconst (v := nI 0) C (dx dX7_with 10 rfl) rfl ?_
    refine r_istore_n (ls' := [(0, vr 7 k), (1, vi (nI μ)), (2, vi (-1)), (3, vi (nI 0))]) C (dx dX7_with 11 rfl) (by decide) [1, 2, 3, 0] rfl ?_
    refine loopU (Φ := fun p => ∀ (x2 : Int32), Rr G 19 [(0, vr 7 k), (1, vi (nI μ)), (2, vi x2), (3, vi (nI p))] [] h) (N := S) ?_ ?_ 0 (by omega) (-1)
    ·
      intro  x2
      refine r_iload_n C (dx dX7_with 12 rfl) rfl ?_
      refine r_aload_n C (dx dX7_with 13 rfl) rfl ?_
      refine r_cvP (as := []) (st := [vi (nI S)]) (v := vi (nI (S - 1))) C X I_X7_all l_X7_253 (c_mallS hm hS) (by decide) (Nat.le_of_ble_eq_true rfl) List.prefix_rfl rfl rfl (Nat.le_of_ble_eq_true rfl) rfl (dx dX7_with 14 rfl) ?_
      refine rn_gt (a := S) (b := S - 1) (tgt := 64) C (by omega) (by omega) (dx dX7_with 15 rfl) (by decide) (fun c2 => ?_) (fun c2 => ?_)
      · first
        | (omega; done)
        | (
            have c2 : S - 1 < S := c2
            refine r_iload_n C (dx dX7_with 35 rfl) rfl ?_
            refine r_iconst (v := -1) C (dx dX7_with 36 rfl) rfl ?_
            refine r_icmp_ne (tgt := 78) C (dx dX7_with 37 rfl) (by decide) (fun c3 => ?_) (fun c3 => ?_)
            ·
              have c3 : ¬ x2 = -1 := c3
              refine r_iload_n C (dx dX7_with 42 rfl) rfl ?_
              exact F.1 _ _ _ _ .int rfl rfl (dx dX7_with 43 rfl) rfl ⟨⟨_, rfl⟩, hm, Kp.rf⟩
            ·
              have c3 : x2 = -1 := c3
              refine r_aload_n C (dx dX7_with 38 rfl) rfl ?_
              refine r_bipush (v := -5) C (dx dX7_with 39 rfl) rfl ?_
              refine r_cv (as := [vi (-5)]) (st := []) C X I_X7_refuse l_X7_83 (e_refuse hm (x := -5) (j := 5) (by decide) (by decide)) (by decide) (Nat.le_of_ble_eq_true rfl) List.prefix_rfl List.prefix_rfl rfl rfl (Nat.le_of_ble_eq_true rfl) rfl (dx dX7_with 40 rfl) ?_
              rintro _ h4 ⟨rfl, m9h4, qh4⟩ kkh4
              have mh4 : MilAt h4 k v := m9h4
              have ph4 : Kp k h h4 := qh4
              have kh4 : xK h4 = xK h := kkh4
              refine r_goto (tgt := 79) C (dx dX7_with 41 rfl) (by decide) ?_
              exact F.1 _ _ _ _ .int rfl rfl (dx dX7_with 43 rfl) kh4 ⟨⟨_, rfl⟩, mh4, ph4⟩)
      · first
        | (omega; done)
    ·
      intro p hp ihp x2
      refine r_iload_n C (dx dX7_with 12 rfl) rfl ?_
      refine r_aload_n C (dx dX7_with 13 rfl) rfl ?_
      refine r_cvP (as := []) (st := [vi (nI p)]) (v := vi (nI (S - 1))) C X I_X7_all l_X7_253 (c_mallS hm hS) (by decide) (Nat.le_of_ble_eq_true rfl) List.prefix_rfl rfl rfl (Nat.le_of_ble_eq_true rfl) rfl (dx dX7_with 14 rfl) ?_
      refine rn_gt (a := p) (b := S - 1) (tgt := 64) C (by omega) (by omega) (dx dX7_with 15 rfl) (by decide) (fun c7 => ?_) (fun c7 => ?_)
      · first
        | (omega; done)
        | (
            have c7 : S - 1 < p := c7
            refine r_iload_n C (dx dX7_with 35 rfl) rfl ?_
            refine r_iconst (v := -1) C (dx dX7_with 36 rfl) rfl ?_
            refine r_icmp_ne (tgt := 78) C (dx dX7_with 37 rfl) (by decide) (fun c8 => ?_) (fun c8 => ?_)
            ·
              have c8 : ¬ x2 = -1 := c8
              refine r_iload_n C (dx dX7_with 42 rfl) rfl ?_
              exact F.1 _ _ _ _ .int rfl rfl (dx dX7_with 43 rfl) rfl ⟨⟨_, rfl⟩, hm, Kp.rf⟩
            ·
              have c8 : x2 = -1 := c8
              refine r_aload_n C (dx dX7_with 38 rfl) rfl ?_
              refine r_bipush (v := -5) C (dx dX7_with 39 rfl) rfl ?_
              refine r_cv (as := [vi (-5)]) (st := []) C X I_X7_refuse l_X7_83 (e_refuse hm (x := -5) (j := 5) (by decide) (by decide)) (by decide) (Nat.le_of_ble_eq_true rfl) List.prefix_rfl List.prefix_rfl rfl rfl (Nat.le_of_ble_eq_true rfl) rfl (dx dX7_with 40 rfl) ?_
              rintro _ h9 ⟨rfl, m9h9, qh9⟩ kkh9
              have mh9 : MilAt h9 k v := m9h9
              have ph9 : Kp k h h9 := qh9
              have kh9 : xK h9 = xK h := kkh9
              refine r_goto (tgt := 79) C (dx dX7_with 41 rfl) (by decide) ?_
              exact F.1 _ _ _ _ .int rfl rfl (dx dX7_with 43 rfl) kh9 ⟨⟨_, rfl⟩, mh9, ph9⟩)
      · first
        | (omega; done)
        | (
            have c7 : p ≤ S - 1 := c7
            refine r_aload_n C (dx dX7_with 16 rfl) rfl ?_
            refine r_iload_n C (dx dX7_with 17 rfl) rfl ?_
            refine r_iload_n C (dx dX7_with 18 rfl) rfl ?_
            refine r_cvW (as := [vi (nI μ), vi (nI p)]) (st := []) C X I_X7_worksOf l_X7_250 (c_X7_worksOf hm (m := μ) (by omega) _) (by decide) (Nat.le_of_ble_eq_true rfl) List.prefix_rfl rfl rfl (Nat.le_of_ble_eq_true rfl) rfl (dx dX7_with 19 rfl) ?_
            rintro _ ⟨x10, rfl⟩
            refine rb_eq (b := x10) (tgt := 56) C (dx dX7_with 20 rfl) (by decide) (fun c11 => ?_) (fun c11 => ?_)
            ·
              have c11 : x10 = false := c11
              refine r_iload_n C (dx dX7_with 31 rfl) rfl ?_
              refine r_istore_n (ls' := [(0, vr 7 k), (1, vi (nI μ)), (2, vi x2), (3, vi (nI p))]) C (dx dX7_with 32 rfl) (by decide) [1, 2, 0, 3] rfl ?_
              refine rn_iinc (a := p) (k := 1) (ls' := [(0, vr 7 k), (1, vi (nI μ)), (2, vi x2), (3, vi (nI (p + 1)))]) C (dx dX7_with 33 rfl) rfl rfl (by decide) [1, 2, 3, 0] rfl ?_
              refine r_goto (tgt := 19) C (dx dX7_with 34 rfl) (by decide) ?_
              exact ihp x2
            ·
              have c11 : x10 = true := c11
              refine r_iload_n C (dx dX7_with 21 rfl) rfl ?_
              refine r_iconst (v := -1) C (dx dX7_with 22 rfl) rfl ?_
              refine r_icmp_eq (tgt := 52) C (dx dX7_with 23 rfl) (by decide) (fun c12 => ?_) (fun c12 => ?_)
              ·
                have c12 : x2 = -1 := c12
                refine r_iload_n C (dx dX7_with 29 rfl) rfl ?_
                refine r_goto (tgt := 57) C (dx dX7_with 30 rfl) (by decide) ?_
                refine r_istore_n (ls' := [(0, vr 7 k), (1, vi (nI μ)), (2, vi (nI p)), (3, vi (nI p))]) C (dx dX7_with 32 rfl) (by decide) [1, 2, 0, 3] rfl ?_
                refine rn_iinc (a := p) (k := 1) (ls' := [(0, vr 7 k), (1, vi (nI μ)), (2, vi (nI p)), (3, vi (nI (p + 1)))]) C (dx dX7_with 33 rfl) rfl rfl (by decide) [1, 2, 3, 0] rfl ?_
                refine r_goto (tgt := 19) C (dx dX7_with 34 rfl) (by decide) ?_
                exact ihp (nI p)
              ·
                have c12 : ¬ x2 = -1 := c12
                refine r_iload_n C (dx dX7_with 24 rfl) rfl ?_
                refine r_csW (as := [vi (nI p)]) (st := []) C X I_X7_bits l_X7_268 (c_X7_bits _) (by decide) (Nat.le_of_ble_eq_true rfl) List.prefix_rfl (Nat.le_of_ble_eq_true rfl) rfl (dx dX7_with 25 rfl) ?_
                rintro _ ⟨x13, hx13, rfl⟩
                refine r_iload_n C (dx dX7_with 26 rfl) rfl ?_
                refine r_csW (as := [vi x2]) (st := [vi (nI x13)]) C X I_X7_bits l_X7_268 (c_X7_bits _) (by decide) (Nat.le_of_ble_eq_true rfl) List.prefix_rfl (Nat.le_of_ble_eq_true rfl) rfl (dx dX7_with 27 rfl) ?_
                rintro _ ⟨x14, hx14, rfl⟩
                refine rn_ge (a := x13) (b := x14) (tgt := 56) C (by omega) (by omega) (dx dX7_with 28 rfl) (by decide) (fun c15 => ?_) (fun c15 => ?_)
                · first
                  | (omega; done)
                  | (
                      have c15 : x14 ≤ x13 := c15
                      refine r_iload_n C (dx dX7_with 31 rfl) rfl ?_
                      refine r_istore_n (ls' := [(0, vr 7 k), (1, vi (nI μ)), (2, vi x2), (3, vi (nI p))]) C (dx dX7_with 32 rfl) (by decide) [1, 2, 0, 3] rfl ?_
                      refine rn_iinc (a := p) (k := 1) (ls' := [(0, vr 7 k), (1, vi (nI μ)), (2, vi x2), (3, vi (nI (p + 1)))]) C (dx dX7_with 33 rfl) rfl rfl (by decide) [1, 2, 3, 0] rfl ?_
                      refine r_goto (tgt := 19) C (dx dX7_with 34 rfl) (by decide) ?_
                      exact ihp x2)
                · first
                  | (omega; done)
                  | (
                      have c15 : x13 < x14 := c15
                      refine r_iload_n C (dx dX7_with 29 rfl) rfl ?_
                      refine r_goto (tgt := 57) C (dx dX7_with 30 rfl) (by decide) ?_
                      refine r_istore_n (ls' := [(0, vr 7 k), (1, vi (nI μ)), (2, vi (nI p)), (3, vi (nI p))]) C (dx dX7_with 32 rfl) (by decide) [1, 2, 0, 3] rfl ?_
                      refine rn_iinc (a := p) (k := 1) (ls' := [(0, vr 7 k), (1, vi (nI μ)), (2, vi (nI p)), (3, vi (nI (p + 1)))]) C (dx dX7_with 33 rfl) rfl rfl (by decide) [1, 2, 3, 0] rfl ?_
                      refine r_goto (tgt := 19) C (dx dX7_with 34 rfl) (by decide) ?_
                      exact ihp (nI p)))
  ·
    have c1 : (inR m (vM v)) = false := c1
    refine r_aload_n C (dx dX7_with 4 rfl) rfl ?_
    refine r_bipush (v := -2) C (dx dX7_with 5 rfl) rfl ?_
    refine r_cv (as := [vi (-2)]) (st := []) C X I_X7_refuse l_X7_83 (e_refuse hm (x := -2) (j := 2) (by decide) (by decide)) (by decide) (Nat.le_of_ble_eq_true rfl) List.prefix_rfl List.prefix_rfl rfl rfl (Nat.le_of_ble_eq_true rfl) rfl (dx dX7_with 6 rfl) ?_
    rintro _ h16 ⟨rfl, m9h16, qh16⟩ kkh16
    have mh16 : MilAt h16 k v := m9h16
    have ph16 : Kp k h h16 := qh16
    have kh16 : xK h16 = xK h := kkh16
    exact F.1 _ _ _ _ .int rfl rfl (dx dX7_with 7 rfl) kh16 ⟨⟨_, rfl⟩, mh16, ph16⟩
set_option maxHeartbeats 4000000 in
theorem v_X7_safe {l : Launch} {h : Hp} {k : Nat} {v : Vg} (hm : MilAt h k v) (x : Int32) : Ms l yX7_safe cX7_safe 4 (some .int) 8 [vr 7 k, vi x] h (xK h) (fun r h' => PI r ∧ MilAt h' k v ∧ Kp k h h') := by
  refine Ms.of (by decide) (Nat.le_of_ble_eq_true rfl) (fun G C X F => ?_)
  have C : Cx G cX7_safe 4 RX7 := C
  show Rr G 0 [(0, vr 7 k), (1, vi x)] [] h
  have bP := hm.bP
  have bM := hm.bM
  have bN := hm.bN
  refine r_iload_n C (dx dX7_safe 0 rfl) rfl ?_
  refine r_i2l C (dx dX7_safe 1 rfl) ?_
  refine r_lconst (v := 0) C (dx dX7_safe 2 rfl) rfl ?_
  refine r_ldc2 C n_X7_325 (dx dX7_safe 3 rfl) ?_
  refine r_csP (as := [vl x.toInt64, vl 0, vl 8]) (st := []) (v := vi (b2i (inR x 9))) C X I_X7_in l_X7_67 (c_inR (b := 8) (by decide) (by decide)) (by decide) (Nat.le_of_ble_eq_true rfl) List.prefix_rfl (Nat.le_of_ble_eq_true rfl) rfl (dx dX7_safe 4 rfl) ?_
  refine rb_ne (b := inR x 9) (tgt := 19) C (dx dX7_safe 5 rfl) (by decide) (fun c1 => ?_) (fun c1 => ?_)
  ·
    have c1 : (inR x 9) = true := c1
    refine r_iconst (v := nI 0) C (dx dX7_safe 10 rfl) rfl ?_
    refine r_istore_n (ls' := [(0, vr 7 k), (1, vi x), (2, vi (nI 0))]) C (dx dX7_safe 11 rfl) (by decide) [1, 2, 0] rfl ?_
    refine r_iconst (v := nI 0) C (dx dX7_safe 12 rfl) rfl ?_
    refine r_istore_n (ls' := [(0, vr 7 k), (1, vi x), (2, vi (nI 0)), (3, vi (nI 0))]) C (dx dX7_safe 13 rfl) (by decide) [1, 2, 3, 0] rfl ?_
    refine loopU (Φ := fun p => ∀ (x2 : Int32), Rr G 23 [(0, vr 7 k), (1, vi x), (2, vi x2), (3, vi (nI p))] [] h) (N := vM v) ?_ ?_ 0 (by omega) (nI 0)
    ·
      intro  x2
      refine r_iload_n C (dx dX7_safe 14 rfl) rfl ?_
      refine r_aload_n C (dx dX7_safe 15 rfl) rfl ?_
      refine g_X7_71 (x := nI (vM v)) C (dx dX7_safe 16 rfl) hm.eM ?_
      refine rn_ge (a := vM v) (b := vM v) (tgt := 56) C (by omega) (by omega) (dx dX7_safe 17 rfl) (by decide) (fun c2 => ?_) (fun c2 => ?_)
      · first
        | (omega; done)
        | (
            have c2 : vM v ≤ vM v := c2
            refine r_iload_n C (dx dX7_safe 33 rfl) rfl ?_
            exact F.1 _ _ _ _ .int rfl rfl (dx dX7_safe 34 rfl) rfl ⟨⟨_, rfl⟩, hm, Kp.rf⟩)
      · first
        | (omega; done)
    ·
      intro p hp ihp x2
      refine r_iload_n C (dx dX7_safe 14 rfl) rfl ?_
      refine r_aload_n C (dx dX7_safe 15 rfl) rfl ?_
      refine g_X7_71 (x := nI (vM v)) C (dx dX7_safe 16 rfl) hm.eM ?_
      refine rn_ge (a := p) (b := vM v) (tgt := 56) C (by omega) (by omega) (dx dX7_safe 17 rfl) (by decide) (fun c5 => ?_) (fun c5 => ?_)
      · first
        | (omega; done)
        | (
            have c5 : vM v ≤ p := c5
            refine r_iload_n C (dx dX7_safe 33 rfl) rfl ?_
            exact F.1 _ _ _ _ .int rfl rfl (dx dX7_safe 34 rfl) rfl ⟨⟨_, rfl⟩, hm, Kp.rf⟩)
      · first
        | (omega; done)
        | (
            have c5 : p < vM v := c5
            refine r_iload_n C (dx dX7_safe 18 rfl) rfl ?_
            refine r_aload_n C (dx dX7_safe 19 rfl) rfl ?_
            refine r_iload_n C (dx dX7_safe 20 rfl) rfl ?_
            refine r_cvW (as := [vi (nI p)]) (st := [vi x2]) C X I_X7_worstOf l_X7_314 (c_X7_worstOf hm (m := p) (by omega)) (by decide) (Nat.le_of_ble_eq_true rfl) List.prefix_rfl rfl rfl (Nat.le_of_ble_eq_true rfl) rfl (dx dX7_safe 21 rfl) ?_
            rintro _ ⟨x6, rfl⟩
            refine r_iload_n C (dx dX7_safe 22 rfl) rfl ?_
            refine r_icmp_le (tgt := 47) C (dx dX7_safe 23 rfl) (by decide) (fun c7 => ?_) (fun c7 => ?_)
            ·
              have c7 : x6 ≤ x := c7
              refine r_iconst (v := nI 0) C (dx dX7_safe 28 rfl) rfl ?_
              refine r_ior C (dx dX7_safe 29 rfl) ?_
              refine r_istore_n (ls' := [(0, vr 7 k), (1, vi x), (2, vi (x2 ||| (nI 0))), (3, vi (nI p))]) C (dx dX7_safe 30 rfl) (by decide) [1, 2, 0, 3] rfl ?_
              refine rn_iinc (a := p) (k := 1) (ls' := [(0, vr 7 k), (1, vi x), (2, vi (x2 ||| (nI 0))), (3, vi (nI (p + 1)))]) C (dx dX7_safe 31 rfl) rfl rfl (by decide) [1, 2, 3, 0] rfl ?_
              refine r_goto (tgt := 23) C (dx dX7_safe 32 rfl) (by decide) ?_
              exact ihp (x2 ||| (nI 0))
            ·
              have c7 : ¬ x6 ≤ x := c7
              refine r_iconst (v := nI 1) C (dx dX7_safe 24 rfl) rfl ?_
              refine r_iload_n C (dx dX7_safe 25 rfl) rfl ?_
              refine r_ishl C (dx dX7_safe 26 rfl) ?_
              refine r_goto (tgt := 48) C (dx dX7_safe 27 rfl) (by decide) ?_
              refine r_ior C (dx dX7_safe 29 rfl) ?_
              refine r_istore_n (ls' := [(0, vr 7 k), (1, vi x), (2, vi (x2 ||| ((nI 1) <<< ((nI p) &&& 31)))), (3, vi (nI p))]) C (dx dX7_safe 30 rfl) (by decide) [1, 2, 0, 3] rfl ?_
              refine rn_iinc (a := p) (k := 1) (ls' := [(0, vr 7 k), (1, vi x), (2, vi (x2 ||| ((nI 1) <<< ((nI p) &&& 31)))), (3, vi (nI (p + 1)))]) C (dx dX7_safe 31 rfl) rfl rfl (by decide) [1, 2, 3, 0] rfl ?_
              refine r_goto (tgt := 23) C (dx dX7_safe 32 rfl) (by decide) ?_
              exact ihp (x2 ||| ((nI 1) <<< ((nI p) &&& 31))))
  ·
    have c1 : (inR x 9) = false := c1
    refine r_aload_n C (dx dX7_safe 6 rfl) rfl ?_
    refine r_bipush (v := -2) C (dx dX7_safe 7 rfl) rfl ?_
    refine r_cv (as := [vi (-2)]) (st := []) C X I_X7_refuse l_X7_83 (e_refuse hm (x := -2) (j := 2) (by decide) (by decide)) (by decide) (Nat.le_of_ble_eq_true rfl) List.prefix_rfl List.prefix_rfl rfl rfl (Nat.le_of_ble_eq_true rfl) rfl (dx dX7_safe 8 rfl) ?_
    rintro _ h8 ⟨rfl, m9h8, qh8⟩ kkh8
    have mh8 : MilAt h8 k v := m9h8
    have ph8 : Kp k h h8 := qh8
    have kh8 : xK h8 = xK h := kkh8
    exact F.1 _ _ _ _ .int rfl rfl (dx dX7_safe 9 rfl) kh8 ⟨⟨_, rfl⟩, mh8, ph8⟩
set_option maxHeartbeats 4000000 in
theorem v_X7_alone {l : Launch} {h : Hp} {k : Nat} {v : Vg} (hm : MilAt h k v) (o1 : Int32) : Ms l yX7_alone cX7_alone 4 (some .int) 8 [vr 7 k, vi o1] h (xK h) (fun r h' => PI r ∧ MilAt h' k v ∧ Kp k h h') := by
  refine Ms.of (by decide) (Nat.le_of_ble_eq_true rfl) (fun G C X F => ?_)
  have C : Cx G cX7_alone 4 RX7 := C
  show Rr G 0 [(0, vr 7 k), (1, vi o1)] [] h
  have bP := hm.bP
  have bM := hm.bM
  have bN := hm.bN
  refine r_aload_n C (dx dX7_alone 0 rfl) rfl ?_
  refine r_iload_n C (dx dX7_alone 1 rfl) rfl ?_
  refine r_cvP (as := [vi o1]) (st := []) (v := vi (b2i (inR o1 (vN v)))) C X I_X7_isOne l_X7_125 (c_X7_isOne hm _) (by decide) (Nat.le_of_ble_eq_true rfl) List.prefix_rfl rfl rfl (Nat.le_of_ble_eq_true rfl) rfl (dx dX7_alone 2 rfl) ?_
  refine rb_ne (b := inR o1 (vN v)) (tgt := 15) C (dx dX7_alone 3 rfl) (by decide) (fun c1 => ?_) (fun c1 => ?_)
  ·
    have c1 : (inR o1 (vN v)) = true := c1
    obtain ⟨o19, ho19, rfl⟩ := inR_ex (n := (vN v)) (by omega) c1
    refine r_iconst (v := nI 0) C (dx dX7_alone 8 rfl) rfl ?_
    refine r_istore_n (ls' := [(0, vr 7 k), (1, vi (nI o19)), (2, vi (nI 0))]) C (dx dX7_alone 9 rfl) (by decide) [1, 2, 0] rfl ?_
    refine r_iconst (v := nI 0) C (dx dX7_alone 10 rfl) rfl ?_
    refine r_istore_n (ls' := [(0, vr 7 k), (1, vi (nI o19)), (2, vi (nI 0)), (3, vi (nI 0))]) C (dx dX7_alone 11 rfl) (by decide) [1, 2, 3, 0] rfl ?_
    refine loopU (Φ := fun p => ∀ (x2 : Int32), Rr G 19 [(0, vr 7 k), (1, vi (nI o19)), (2, vi x2), (3, vi (nI p))] [] h) (N := vM v) ?_ ?_ 0 (by omega) (nI 0)
    ·
      intro  x2
      refine r_iload_n C (dx dX7_alone 12 rfl) rfl ?_
      refine r_aload_n C (dx dX7_alone 13 rfl) rfl ?_
      refine g_X7_71 (x := nI (vM v)) C (dx dX7_alone 14 rfl) hm.eM ?_
      refine rn_ge (a := vM v) (b := vM v) (tgt := 54) C (by omega) (by omega) (dx dX7_alone 15 rfl) (by decide) (fun c2 => ?_) (fun c2 => ?_)
      · first
        | (omega; done)
        | (
            have c2 : vM v ≤ vM v := c2
            refine r_iload_n C (dx dX7_alone 33 rfl) rfl ?_
            exact F.1 _ _ _ _ .int rfl rfl (dx dX7_alone 34 rfl) rfl ⟨⟨_, rfl⟩, hm, Kp.rf⟩)
      · first
        | (omega; done)
    ·
      intro p hp ihp x2
      refine r_iload_n C (dx dX7_alone 12 rfl) rfl ?_
      refine r_aload_n C (dx dX7_alone 13 rfl) rfl ?_
      refine g_X7_71 (x := nI (vM v)) C (dx dX7_alone 14 rfl) hm.eM ?_
      refine rn_ge (a := p) (b := vM v) (tgt := 54) C (by omega) (by omega) (dx dX7_alone 15 rfl) (by decide) (fun c5 => ?_) (fun c5 => ?_)
      · first
        | (omega; done)
        | (
            have c5 : vM v ≤ p := c5
            refine r_iload_n C (dx dX7_alone 33 rfl) rfl ?_
            exact F.1 _ _ _ _ .int rfl rfl (dx dX7_alone 34 rfl) rfl ⟨⟨_, rfl⟩, hm, Kp.rf⟩)
      · first
        | (omega; done)
        | (
            have c5 : p < vM v := c5
            refine r_iload_n C (dx dX7_alone 16 rfl) rfl ?_
            refine r_aload_n C (dx dX7_alone 17 rfl) rfl ?_
            refine r_iload_n C (dx dX7_alone 18 rfl) rfl ?_
            refine r_iconst (v := nI 1) C (dx dX7_alone 19 rfl) rfl ?_
            refine r_iload_n C (dx dX7_alone 20 rfl) rfl ?_
            refine r_ishl C (dx dX7_alone 21 rfl) ?_
            refine r_cvW (as := [vi (nI p), vi ((nI 1) <<< ((nI o19) &&& 31))]) (st := [vi x2]) C X I_X7_worksOf l_X7_250 (c_X7_worksOf hm (m := p) (by omega) _) (by decide) (Nat.le_of_ble_eq_true rfl) List.prefix_rfl rfl rfl (Nat.le_of_ble_eq_true rfl) rfl (dx dX7_alone 22 rfl) ?_
            rintro _ ⟨x6, rfl⟩
            refine rb_eq (b := x6) (tgt := 45) C (dx dX7_alone 23 rfl) (by decide) (fun c7 => ?_) (fun c7 => ?_)
            ·
              have c7 : x6 = false := c7
              refine r_iconst (v := nI 0) C (dx dX7_alone 28 rfl) rfl ?_
              refine r_ior C (dx dX7_alone 29 rfl) ?_
              refine r_istore_n (ls' := [(0, vr 7 k), (1, vi (nI o19)), (2, vi (x2 ||| (nI 0))), (3, vi (nI p))]) C (dx dX7_alone 30 rfl) (by decide) [1, 2, 0, 3] rfl ?_
              refine rn_iinc (a := p) (k := 1) (ls' := [(0, vr 7 k), (1, vi (nI o19)), (2, vi (x2 ||| (nI 0))), (3, vi (nI (p + 1)))]) C (dx dX7_alone 31 rfl) rfl rfl (by decide) [1, 2, 3, 0] rfl ?_
              refine r_goto (tgt := 19) C (dx dX7_alone 32 rfl) (by decide) ?_
              exact ihp (x2 ||| (nI 0))
            ·
              have c7 : x6 = true := c7
              refine r_iconst (v := nI 1) C (dx dX7_alone 24 rfl) rfl ?_
              refine r_iload_n C (dx dX7_alone 25 rfl) rfl ?_
              refine r_ishl C (dx dX7_alone 26 rfl) ?_
              refine r_goto (tgt := 46) C (dx dX7_alone 27 rfl) (by decide) ?_
              refine r_ior C (dx dX7_alone 29 rfl) ?_
              refine r_istore_n (ls' := [(0, vr 7 k), (1, vi (nI o19)), (2, vi (x2 ||| ((nI 1) <<< ((nI p) &&& 31)))), (3, vi (nI p))]) C (dx dX7_alone 30 rfl) (by decide) [1, 2, 0, 3] rfl ?_
              refine rn_iinc (a := p) (k := 1) (ls' := [(0, vr 7 k), (1, vi (nI o19)), (2, vi (x2 ||| ((nI 1) <<< ((nI p) &&& 31)))), (3, vi (nI (p + 1)))]) C (dx dX7_alone 31 rfl) rfl rfl (by decide) [1, 2, 3, 0] rfl ?_
              refine r_goto (tgt := 19) C (dx dX7_alone 32 rfl) (by decide) ?_
              exact ihp (x2 ||| ((nI 1) <<< ((nI p) &&& 31))))
  ·
    have c1 : (inR o1 (vN v)) = false := c1
    refine r_aload_n C (dx dX7_alone 4 rfl) rfl ?_
    refine r_bipush (v := -2) C (dx dX7_alone 5 rfl) rfl ?_
    refine r_cv (as := [vi (-2)]) (st := []) C X I_X7_refuse l_X7_83 (e_refuse hm (x := -2) (j := 2) (by decide) (by decide)) (by decide) (Nat.le_of_ble_eq_true rfl) List.prefix_rfl List.prefix_rfl rfl rfl (Nat.le_of_ble_eq_true rfl) rfl (dx dX7_alone 6 rfl) ?_
    rintro _ h8 ⟨rfl, m9h8, qh8⟩ kkh8
    have mh8 : MilAt h8 k v := m9h8
    have ph8 : Kp k h h8 := qh8
    have kh8 : xK h8 = xK h := kkh8
    exact F.1 _ _ _ _ .int rfl rfl (dx dX7_alone 7 rfl) kh8 ⟨⟨_, rfl⟩, mh8, ph8⟩
set_option maxHeartbeats 4000000 in
theorem v_X7_key {l : Launch} {h : Hp} {k : Nat} {v : Vg} (hm : MilAt h k v)  : Ms l yX7_key cX7_key 7 (some .int) 8 [vr 7 k] h (xK h) (fun r h' => PI r ∧ MilAt h' k v ∧ Kp k h h') := by
  refine Ms.of (by decide) (Nat.le_of_ble_eq_true rfl) (fun G C X F => ?_)
  have C : Cx G cX7_key 7 RX7 := C
  show Rr G 0 [(0, vr 7 k)] [] h
  have bP := hm.bP
  have bM := hm.bM
  have bN := hm.bN
  refine r_iconst (v := -1) C (dx dX7_key 0 rfl) rfl ?_
  refine r_istore_n (ls' := [(0, vr 7 k), (1, vi (-1))]) C (dx dX7_key 1 rfl) (by decide) [1, 0] rfl ?_
  refine r_iconst (v := nI 0) C (dx dX7_key 2 rfl) rfl ?_
  refine r_istore_n (ls' := [(0, vr 7 k), (1, vi (-1)), (2, vi (nI 0))]) C (dx dX7_key 3 rfl) (by decide) [1, 2, 0] rfl ?_
  refine r_iconst (v := nI 0) C (dx dX7_key 4 rfl) rfl ?_
  refine r_istore_n (ls' := [(0, vr 7 k), (1, vi (-1)), (2, vi (nI 0)), (3, vi (nI 0))]) C (dx dX7_key 5 rfl) (by decide) [1, 2, 3, 0] rfl ?_
  refine loopU (Φ := fun p => ∀ (x1 : Int32), ∀ (x2 : Int32), Rr G 6 [(0, vr 7 k), (1, vi x1), (2, vi x2), (3, vi (nI p))] [] h) (N := vN v) ?_ ?_ 0 (by omega) (-1) (nI 0)
  ·
    intro  x1 x2
    refine r_iload_n C (dx dX7_key 6 rfl) rfl ?_
    refine r_aload_n C (dx dX7_key 7 rfl) rfl ?_
    refine g_X7_74 (x := nI (vN v)) C (dx dX7_key 8 rfl) hm.eN ?_
    refine rn_ge (a := vN v) (b := vN v) (tgt := 89) C (by omega) (by omega) (dx dX7_key 9 rfl) (by decide) (fun c1 => ?_) (fun c1 => ?_)
    · first
      | (omega; done)
      | (
          have c1 : vN v ≤ vN v := c1
          refine r_iload_n C (dx dX7_key 51 rfl) rfl ?_
          refine r_iconst (v := -1) C (dx dX7_key 52 rfl) rfl ?_
          refine r_icmp_ne (tgt := 103) C (dx dX7_key 53 rfl) (by decide) (fun c2 => ?_) (fun c2 => ?_)
          ·
            have c2 : ¬ x1 = -1 := c2
            refine r_iload_n C (dx dX7_key 58 rfl) rfl ?_
            exact F.1 _ _ _ _ .int rfl rfl (dx dX7_key 59 rfl) rfl ⟨⟨_, rfl⟩, hm, Kp.rf⟩
          ·
            have c2 : x1 = -1 := c2
            refine r_aload_n C (dx dX7_key 54 rfl) rfl ?_
            refine r_bipush (v := -5) C (dx dX7_key 55 rfl) rfl ?_
            refine r_cv (as := [vi (-5)]) (st := []) C X I_X7_refuse l_X7_83 (e_refuse hm (x := -5) (j := 5) (by decide) (by decide)) (by decide) (Nat.le_of_ble_eq_true rfl) List.prefix_rfl List.prefix_rfl rfl rfl (Nat.le_of_ble_eq_true rfl) rfl (dx dX7_key 56 rfl) ?_
            rintro _ h3 ⟨rfl, m9h3, qh3⟩ kkh3
            have mh3 : MilAt h3 k v := m9h3
            have ph3 : Kp k h h3 := qh3
            have kh3 : xK h3 = xK h := kkh3
            refine r_goto (tgt := 104) C (dx dX7_key 57 rfl) (by decide) ?_
            exact F.1 _ _ _ _ .int rfl rfl (dx dX7_key 59 rfl) kh3 ⟨⟨_, rfl⟩, mh3, ph3⟩)
    · first
      | (omega; done)
      | (
          have c1 : vN v < vN v := c1
          refine r_aload_n C (dx dX7_key 10 rfl) rfl ?_
          refine r_iconst (v := nI 1) C (dx dX7_key 11 rfl) rfl ?_
          refine r_iload_n C (dx dX7_key 12 rfl) rfl ?_
          refine r_ishl C (dx dX7_key 13 rfl) ?_
          refine r_cvW (as := [vi ((nI 1) <<< ((nI (vN v)) &&& 31))]) (st := []) C X I_X7_hasOf l_X7_247 (c_X7_hasOf hm _) (by decide) (Nat.le_of_ble_eq_true rfl) List.prefix_rfl rfl rfl (Nat.le_of_ble_eq_true rfl) rfl (dx dX7_key 14 rfl) ?_
          rintro _ ⟨x4, rfl⟩
          refine r_istore (ls' := [(0, vr 7 k), (1, vi x1), (2, vi x2), (3, vi (nI (vN v))), (4, vi x4)]) C (dx dX7_key 15 rfl) (by decide) [1, 2, 3, 4, 0] rfl ?_
          refine r_iconst (v := nI 0) C (dx dX7_key 16 rfl) rfl ?_
          refine r_istore (ls' := [(0, vr 7 k), (1, vi x1), (2, vi x2), (3, vi (nI (vN v))), (4, vi x4), (5, vi (nI 0))]) C (dx dX7_key 17 rfl) (by decide) [1, 2, 3, 4, 5, 0] rfl ?_
          refine r_iconst (v := nI 0) C (dx dX7_key 18 rfl) rfl ?_
          refine r_istore (ls' := [(0, vr 7 k), (1, vi x1), (2, vi x2), (3, vi (nI (vN v))), (4, vi x4), (5, vi (nI 0)), (6, vi (nI 0))]) C (dx dX7_key 19 rfl) (by decide) [1, 2, 3, 4, 5, 6, 0] rfl ?_
          refine loopU (Φ := fun q => ∀ (x5 : Int32), Rr G 29 [(0, vr 7 k), (1, vi x1), (2, vi x2), (3, vi (nI (vN v))), (4, vi x4), (5, vi x5), (6, vi (nI q))] [] h) (N := vM v) ?_ ?_ 0 (by omega) (nI 0)
          ·
            intro  x5
            refine r_iload C (dx dX7_key 20 rfl) rfl ?_
            refine r_aload_n C (dx dX7_key 21 rfl) rfl ?_
            refine g_X7_71 (x := nI (vM v)) C (dx dX7_key 22 rfl) hm.eM ?_
            refine rn_ge (a := vM v) (b := vM v) (tgt := 67) C (by omega) (by omega) (dx dX7_key 23 rfl) (by decide) (fun c5 => ?_) (fun c5 => ?_)
            · first
              | (omega; done)
            · first
              | (omega; done)
          ·
            intro q hq ihq x5
            refine r_iload C (dx dX7_key 20 rfl) rfl ?_
            refine r_aload_n C (dx dX7_key 21 rfl) rfl ?_
            refine g_X7_71 (x := nI (vM v)) C (dx dX7_key 22 rfl) hm.eM ?_
            refine rn_ge (a := q) (b := vM v) (tgt := 67) C (by omega) (by omega) (dx dX7_key 23 rfl) (by decide) (fun c8 => ?_) (fun c8 => ?_)
            · first
              | (omega; done)
            · first
              | (omega; done)
              | (
                  have c8 : q < vM v := c8
                  refine r_iload C (dx dX7_key 24 rfl) rfl ?_
                  refine r_aload_n C (dx dX7_key 25 rfl) rfl ?_
                  refine g_X7_46 C (dx dX7_key 26 rfl) ?_
                  refine r_iload C (dx dX7_key 27 rfl) rfl ?_
                  refine r_iald (j := q) (x := vF v 2 q) C rfl rfl (by decide) rfl (by omega) (dx dX7_key 28 rfl) (hm.e2 (by omega)) ?_
                  refine r_iload C (dx dX7_key 29 rfl) rfl ?_
                  refine r_iand C (dx dX7_key 30 rfl) ?_
                  refine r_if_eq (tgt := 57) C (dx dX7_key 31 rfl) (by decide) (fun c10 => ?_) (fun c10 => ?_)
                  ·
                    have c10 : (vF v 2 q) &&& x4 = 0 := c10
                    refine r_iconst (v := nI 0) C (dx dX7_key 34 rfl) rfl ?_
                    refine r_iadd C (dx dX7_key 35 rfl) ?_
                    refine r_istore (ls' := [(0, vr 7 k), (1, vi x1), (2, vi x2), (3, vi (nI (vN v))), (4, vi x4), (5, vi (x5 + (nI 0))), (6, vi (nI q))]) C (dx dX7_key 36 rfl) (by decide) [1, 2, 3, 4, 5, 0, 6] rfl ?_
                    refine rn_iinc (a := q) (k := 1) (ls' := [(0, vr 7 k), (1, vi x1), (2, vi x2), (3, vi (nI (vN v))), (4, vi x4), (5, vi (x5 + (nI 0))), (6, vi (nI (q + 1)))]) C (dx dX7_key 37 rfl) rfl rfl (by decide) [1, 2, 3, 4, 5, 6, 0] rfl ?_
                    refine r_goto (tgt := 29) C (dx dX7_key 38 rfl) (by decide) ?_
                    exact ihq (x5 + (nI 0))
                  ·
                    have c10 : ¬ (vF v 2 q) &&& x4 = 0 := c10
                    refine r_iconst (v := nI 1) C (dx dX7_key 32 rfl) rfl ?_
                    refine r_goto (tgt := 58) C (dx dX7_key 33 rfl) (by decide) ?_
                    refine r_iadd C (dx dX7_key 35 rfl) ?_
                    refine r_istore (ls' := [(0, vr 7 k), (1, vi x1), (2, vi x2), (3, vi (nI (vN v))), (4, vi x4), (5, vi (x5 + (nI 1))), (6, vi (nI q))]) C (dx dX7_key 36 rfl) (by decide) [1, 2, 3, 4, 5, 0, 6] rfl ?_
                    refine rn_iinc (a := q) (k := 1) (ls' := [(0, vr 7 k), (1, vi x1), (2, vi x2), (3, vi (nI (vN v))), (4, vi x4), (5, vi (x5 + (nI 1))), (6, vi (nI (q + 1)))]) C (dx dX7_key 37 rfl) rfl rfl (by decide) [1, 2, 3, 4, 5, 6, 0] rfl ?_
                    refine r_goto (tgt := 29) C (dx dX7_key 38 rfl) (by decide) ?_
                    exact ihq (x5 + (nI 1))))
  ·
    intro p hp ihp x1 x2
    refine r_iload_n C (dx dX7_key 6 rfl) rfl ?_
    refine r_aload_n C (dx dX7_key 7 rfl) rfl ?_
    refine g_X7_74 (x := nI (vN v)) C (dx dX7_key 8 rfl) hm.eN ?_
    refine rn_ge (a := p) (b := vN v) (tgt := 89) C (by omega) (by omega) (dx dX7_key 9 rfl) (by decide) (fun c11 => ?_) (fun c11 => ?_)
    · first
      | (omega; done)
      | (
          have c11 : vN v ≤ p := c11
          refine r_iload_n C (dx dX7_key 51 rfl) rfl ?_
          refine r_iconst (v := -1) C (dx dX7_key 52 rfl) rfl ?_
          refine r_icmp_ne (tgt := 103) C (dx dX7_key 53 rfl) (by decide) (fun c12 => ?_) (fun c12 => ?_)
          ·
            have c12 : ¬ x1 = -1 := c12
            refine r_iload_n C (dx dX7_key 58 rfl) rfl ?_
            exact F.1 _ _ _ _ .int rfl rfl (dx dX7_key 59 rfl) rfl ⟨⟨_, rfl⟩, hm, Kp.rf⟩
          ·
            have c12 : x1 = -1 := c12
            refine r_aload_n C (dx dX7_key 54 rfl) rfl ?_
            refine r_bipush (v := -5) C (dx dX7_key 55 rfl) rfl ?_
            refine r_cv (as := [vi (-5)]) (st := []) C X I_X7_refuse l_X7_83 (e_refuse hm (x := -5) (j := 5) (by decide) (by decide)) (by decide) (Nat.le_of_ble_eq_true rfl) List.prefix_rfl List.prefix_rfl rfl rfl (Nat.le_of_ble_eq_true rfl) rfl (dx dX7_key 56 rfl) ?_
            rintro _ h13 ⟨rfl, m9h13, qh13⟩ kkh13
            have mh13 : MilAt h13 k v := m9h13
            have ph13 : Kp k h h13 := qh13
            have kh13 : xK h13 = xK h := kkh13
            refine r_goto (tgt := 104) C (dx dX7_key 57 rfl) (by decide) ?_
            exact F.1 _ _ _ _ .int rfl rfl (dx dX7_key 59 rfl) kh13 ⟨⟨_, rfl⟩, mh13, ph13⟩)
    · first
      | (omega; done)
      | (
          have c11 : p < vN v := c11
          refine r_aload_n C (dx dX7_key 10 rfl) rfl ?_
          refine r_iconst (v := nI 1) C (dx dX7_key 11 rfl) rfl ?_
          refine r_iload_n C (dx dX7_key 12 rfl) rfl ?_
          refine r_ishl C (dx dX7_key 13 rfl) ?_
          refine r_cvW (as := [vi ((nI 1) <<< ((nI p) &&& 31))]) (st := []) C X I_X7_hasOf l_X7_247 (c_X7_hasOf hm _) (by decide) (Nat.le_of_ble_eq_true rfl) List.prefix_rfl rfl rfl (Nat.le_of_ble_eq_true rfl) rfl (dx dX7_key 14 rfl) ?_
          rintro _ ⟨x14, rfl⟩
          refine r_istore (ls' := [(0, vr 7 k), (1, vi x1), (2, vi x2), (3, vi (nI p)), (4, vi x14)]) C (dx dX7_key 15 rfl) (by decide) [1, 2, 3, 4, 0] rfl ?_
          refine r_iconst (v := nI 0) C (dx dX7_key 16 rfl) rfl ?_
          refine r_istore (ls' := [(0, vr 7 k), (1, vi x1), (2, vi x2), (3, vi (nI p)), (4, vi x14), (5, vi (nI 0))]) C (dx dX7_key 17 rfl) (by decide) [1, 2, 3, 4, 5, 0] rfl ?_
          refine r_iconst (v := nI 0) C (dx dX7_key 18 rfl) rfl ?_
          refine r_istore (ls' := [(0, vr 7 k), (1, vi x1), (2, vi x2), (3, vi (nI p)), (4, vi x14), (5, vi (nI 0)), (6, vi (nI 0))]) C (dx dX7_key 19 rfl) (by decide) [1, 2, 3, 4, 5, 6, 0] rfl ?_
          refine loopU (Φ := fun q => ∀ (x5 : Int32), Rr G 29 [(0, vr 7 k), (1, vi x1), (2, vi x2), (3, vi (nI p)), (4, vi x14), (5, vi x5), (6, vi (nI q))] [] h) (N := vM v) ?_ ?_ 0 (by omega) (nI 0)
          ·
            intro  x5
            refine r_iload C (dx dX7_key 20 rfl) rfl ?_
            refine r_aload_n C (dx dX7_key 21 rfl) rfl ?_
            refine g_X7_71 (x := nI (vM v)) C (dx dX7_key 22 rfl) hm.eM ?_
            refine rn_ge (a := vM v) (b := vM v) (tgt := 67) C (by omega) (by omega) (dx dX7_key 23 rfl) (by decide) (fun c15 => ?_) (fun c15 => ?_)
            · first
              | (omega; done)
              | (
                  have c15 : vM v ≤ vM v := c15
                  refine r_iload_n C (dx dX7_key 39 rfl) rfl ?_
                  refine r_iconst (v := -1) C (dx dX7_key 40 rfl) rfl ?_
                  refine r_icmp_eq (tgt := 78) C (dx dX7_key 41 rfl) (by decide) (fun c16 => ?_) (fun c16 => ?_)
                  ·
                    have c16 : x1 = -1 := c16
                    refine r_iload_n C (dx dX7_key 45 rfl) rfl ?_
                    refine r_istore_n (ls' := [(0, vr 7 k), (1, vi (nI p)), (2, vi x2), (3, vi (nI p)), (4, vi x14), (5, vi x5), (6, vi (nI (vM v)))]) C (dx dX7_key 46 rfl) (by decide) [1, 0, 2, 3, 4, 5, 6] rfl ?_
                    refine r_iload C (dx dX7_key 47 rfl) rfl ?_
                    refine r_istore_n (ls' := [(0, vr 7 k), (1, vi (nI p)), (2, vi x5), (3, vi (nI p)), (4, vi x14), (5, vi x5), (6, vi (nI (vM v)))]) C (dx dX7_key 48 rfl) (by decide) [1, 2, 0, 3, 4, 5, 6] rfl ?_
                    refine rn_iinc (a := p) (k := 1) (ls' := [(0, vr 7 k), (1, vi (nI p)), (2, vi x5), (3, vi (nI (p + 1))), (4, vi x14), (5, vi x5), (6, vi (nI (vM v)))]) C (dx dX7_key 49 rfl) rfl rfl (by decide) [1, 2, 3, 0, 4, 5, 6] rfl ?_
                    refine r_goto (tgt := 6) C (dx dX7_key 50 rfl) (by decide) ?_
                    refine r_weak C [0, 1, 2, 3] rfl ?_
                    exact ihp (nI p) x5
                  ·
                    have c16 : ¬ x1 = -1 := c16
                    refine r_iload C (dx dX7_key 42 rfl) rfl ?_
                    refine r_iload_n C (dx dX7_key 43 rfl) rfl ?_
                    refine r_icmp_le (tgt := 83) C (dx dX7_key 44 rfl) (by decide) (fun c17 => ?_) (fun c17 => ?_)
                    ·
                      have c17 : x5 ≤ x2 := c17
                      refine rn_iinc (a := p) (k := 1) (ls' := [(0, vr 7 k), (1, vi x1), (2, vi x2), (3, vi (nI (p + 1))), (4, vi x14), (5, vi x5), (6, vi (nI (vM v)))]) C (dx dX7_key 49 rfl) rfl rfl (by decide) [1, 2, 3, 0, 4, 5, 6] rfl ?_
                      refine r_goto (tgt := 6) C (dx dX7_key 50 rfl) (by decide) ?_
                      refine r_weak C [0, 1, 2, 3] rfl ?_
                      exact ihp x1 x2
                    ·
                      have c17 : ¬ x5 ≤ x2 := c17
                      refine r_iload_n C (dx dX7_key 45 rfl) rfl ?_
                      refine r_istore_n (ls' := [(0, vr 7 k), (1, vi (nI p)), (2, vi x2), (3, vi (nI p)), (4, vi x14), (5, vi x5), (6, vi (nI (vM v)))]) C (dx dX7_key 46 rfl) (by decide) [1, 0, 2, 3, 4, 5, 6] rfl ?_
                      refine r_iload C (dx dX7_key 47 rfl) rfl ?_
                      refine r_istore_n (ls' := [(0, vr 7 k), (1, vi (nI p)), (2, vi x5), (3, vi (nI p)), (4, vi x14), (5, vi x5), (6, vi (nI (vM v)))]) C (dx dX7_key 48 rfl) (by decide) [1, 2, 0, 3, 4, 5, 6] rfl ?_
                      refine rn_iinc (a := p) (k := 1) (ls' := [(0, vr 7 k), (1, vi (nI p)), (2, vi x5), (3, vi (nI (p + 1))), (4, vi x14), (5, vi x5), (6, vi (nI (vM v)))]) C (dx dX7_key 49 rfl) rfl rfl (by decide) [1, 2, 3, 0, 4, 5, 6] rfl ?_
                      refine r_goto (tgt := 6) C (dx dX7_key 50 rfl) (by decide) ?_
                      refine r_weak C [0, 1, 2, 3] rfl ?_
                      exact ihp (nI p) x5)
            · first
              | (omega; done)
          ·
            intro q hq ihq x5
            refine r_iload C (dx dX7_key 20 rfl) rfl ?_
            refine r_aload_n C (dx dX7_key 21 rfl) rfl ?_
            refine g_X7_71 (x := nI (vM v)) C (dx dX7_key 22 rfl) hm.eM ?_
            refine rn_ge (a := q) (b := vM v) (tgt := 67) C (by omega) (by omega) (dx dX7_key 23 rfl) (by decide) (fun c19 => ?_) (fun c19 => ?_)
            · first
              | (omega; done)
              | (
                  have c19 : vM v ≤ q := c19
                  refine r_iload_n C (dx dX7_key 39 rfl) rfl ?_
                  refine r_iconst (v := -1) C (dx dX7_key 40 rfl) rfl ?_
                  refine r_icmp_eq (tgt := 78) C (dx dX7_key 41 rfl) (by decide) (fun c20 => ?_) (fun c20 => ?_)
                  ·
                    have c20 : x1 = -1 := c20
                    refine r_iload_n C (dx dX7_key 45 rfl) rfl ?_
                    refine r_istore_n (ls' := [(0, vr 7 k), (1, vi (nI p)), (2, vi x2), (3, vi (nI p)), (4, vi x14), (5, vi x5), (6, vi (nI q))]) C (dx dX7_key 46 rfl) (by decide) [1, 0, 2, 3, 4, 5, 6] rfl ?_
                    refine r_iload C (dx dX7_key 47 rfl) rfl ?_
                    refine r_istore_n (ls' := [(0, vr 7 k), (1, vi (nI p)), (2, vi x5), (3, vi (nI p)), (4, vi x14), (5, vi x5), (6, vi (nI q))]) C (dx dX7_key 48 rfl) (by decide) [1, 2, 0, 3, 4, 5, 6] rfl ?_
                    refine rn_iinc (a := p) (k := 1) (ls' := [(0, vr 7 k), (1, vi (nI p)), (2, vi x5), (3, vi (nI (p + 1))), (4, vi x14), (5, vi x5), (6, vi (nI q))]) C (dx dX7_key 49 rfl) rfl rfl (by decide) [1, 2, 3, 0, 4, 5, 6] rfl ?_
                    refine r_goto (tgt := 6) C (dx dX7_key 50 rfl) (by decide) ?_
                    refine r_weak C [0, 1, 2, 3] rfl ?_
                    exact ihp (nI p) x5
                  ·
                    have c20 : ¬ x1 = -1 := c20
                    refine r_iload C (dx dX7_key 42 rfl) rfl ?_
                    refine r_iload_n C (dx dX7_key 43 rfl) rfl ?_
                    refine r_icmp_le (tgt := 83) C (dx dX7_key 44 rfl) (by decide) (fun c21 => ?_) (fun c21 => ?_)
                    ·
                      have c21 : x5 ≤ x2 := c21
                      refine rn_iinc (a := p) (k := 1) (ls' := [(0, vr 7 k), (1, vi x1), (2, vi x2), (3, vi (nI (p + 1))), (4, vi x14), (5, vi x5), (6, vi (nI q))]) C (dx dX7_key 49 rfl) rfl rfl (by decide) [1, 2, 3, 0, 4, 5, 6] rfl ?_
                      refine r_goto (tgt := 6) C (dx dX7_key 50 rfl) (by decide) ?_
                      refine r_weak C [0, 1, 2, 3] rfl ?_
                      exact ihp x1 x2
                    ·
                      have c21 : ¬ x5 ≤ x2 := c21
                      refine r_iload_n C (dx dX7_key 45 rfl) rfl ?_
                      refine r_istore_n (ls' := [(0, vr 7 k), (1, vi (nI p)), (2, vi x2), (3, vi (nI p)), (4, vi x14), (5, vi x5), (6, vi (nI q))]) C (dx dX7_key 46 rfl) (by decide) [1, 0, 2, 3, 4, 5, 6] rfl ?_
                      refine r_iload C (dx dX7_key 47 rfl) rfl ?_
                      refine r_istore_n (ls' := [(0, vr 7 k), (1, vi (nI p)), (2, vi x5), (3, vi (nI p)), (4, vi x14), (5, vi x5), (6, vi (nI q))]) C (dx dX7_key 48 rfl) (by decide) [1, 2, 0, 3, 4, 5, 6] rfl ?_
                      refine rn_iinc (a := p) (k := 1) (ls' := [(0, vr 7 k), (1, vi (nI p)), (2, vi x5), (3, vi (nI (p + 1))), (4, vi x14), (5, vi x5), (6, vi (nI q))]) C (dx dX7_key 49 rfl) rfl rfl (by decide) [1, 2, 3, 0, 4, 5, 6] rfl ?_
                      refine r_goto (tgt := 6) C (dx dX7_key 50 rfl) (by decide) ?_
                      refine r_weak C [0, 1, 2, 3] rfl ?_
                      exact ihp (nI p) x5)
            · first
              | (omega; done)
              | (
                  have c19 : q < vM v := c19
                  refine r_iload C (dx dX7_key 24 rfl) rfl ?_
                  refine r_aload_n C (dx dX7_key 25 rfl) rfl ?_
                  refine g_X7_46 C (dx dX7_key 26 rfl) ?_
                  refine r_iload C (dx dX7_key 27 rfl) rfl ?_
                  refine r_iald (j := q) (x := vF v 2 q) C rfl rfl (by decide) rfl (by omega) (dx dX7_key 28 rfl) (hm.e2 (by omega)) ?_
                  refine r_iload C (dx dX7_key 29 rfl) rfl ?_
                  refine r_iand C (dx dX7_key 30 rfl) ?_
                  refine r_if_eq (tgt := 57) C (dx dX7_key 31 rfl) (by decide) (fun c22 => ?_) (fun c22 => ?_)
                  ·
                    have c22 : (vF v 2 q) &&& x14 = 0 := c22
                    refine r_iconst (v := nI 0) C (dx dX7_key 34 rfl) rfl ?_
                    refine r_iadd C (dx dX7_key 35 rfl) ?_
                    refine r_istore (ls' := [(0, vr 7 k), (1, vi x1), (2, vi x2), (3, vi (nI p)), (4, vi x14), (5, vi (x5 + (nI 0))), (6, vi (nI q))]) C (dx dX7_key 36 rfl) (by decide) [1, 2, 3, 4, 5, 0, 6] rfl ?_
                    refine rn_iinc (a := q) (k := 1) (ls' := [(0, vr 7 k), (1, vi x1), (2, vi x2), (3, vi (nI p)), (4, vi x14), (5, vi (x5 + (nI 0))), (6, vi (nI (q + 1)))]) C (dx dX7_key 37 rfl) rfl rfl (by decide) [1, 2, 3, 4, 5, 6, 0] rfl ?_
                    refine r_goto (tgt := 29) C (dx dX7_key 38 rfl) (by decide) ?_
                    exact ihq (x5 + (nI 0))
                  ·
                    have c22 : ¬ (vF v 2 q) &&& x14 = 0 := c22
                    refine r_iconst (v := nI 1) C (dx dX7_key 32 rfl) rfl ?_
                    refine r_goto (tgt := 58) C (dx dX7_key 33 rfl) (by decide) ?_
                    refine r_iadd C (dx dX7_key 35 rfl) ?_
                    refine r_istore (ls' := [(0, vr 7 k), (1, vi x1), (2, vi x2), (3, vi (nI p)), (4, vi x14), (5, vi (x5 + (nI 1))), (6, vi (nI q))]) C (dx dX7_key 36 rfl) (by decide) [1, 2, 3, 4, 5, 0, 6] rfl ?_
                    refine rn_iinc (a := q) (k := 1) (ls' := [(0, vr 7 k), (1, vi x1), (2, vi x2), (3, vi (nI p)), (4, vi x14), (5, vi (x5 + (nI 1))), (6, vi (nI (q + 1)))]) C (dx dX7_key 37 rfl) rfl rfl (by decide) [1, 2, 3, 4, 5, 6, 0] rfl ?_
                    refine r_goto (tgt := 29) C (dx dX7_key 38 rfl) (by decide) ?_
                    exact ihq (x5 + (nI 1))))
set_option maxHeartbeats 4000000 in
theorem v_X7_idle {l : Launch} {h : Hp} {k : Nat} {v : Vg} (hm : MilAt h k v)  : Ms l yX7_idle cX7_idle 5 (some .int) 8 [vr 7 k] h (xK h) (fun r h' => PI r ∧ MilAt h' k v ∧ Kp k h h') := by
  refine Ms.of (by decide) (Nat.le_of_ble_eq_true rfl) (fun G C X F => ?_)
  have C : Cx G cX7_idle 5 RX7 := C
  show Rr G 0 [(0, vr 7 k)] [] h
  have bP := hm.bP
  have bM := hm.bM
  have bN := hm.bN
  refine r_iconst (v := nI 0) C (dx dX7_idle 0 rfl) rfl ?_
  refine r_istore_n (ls' := [(0, vr 7 k), (1, vi (nI 0))]) C (dx dX7_idle 1 rfl) (by decide) [1, 0] rfl ?_
  refine r_iconst (v := nI 0) C (dx dX7_idle 2 rfl) rfl ?_
  refine r_istore_n (ls' := [(0, vr 7 k), (1, vi (nI 0)), (2, vi (nI 0))]) C (dx dX7_idle 3 rfl) (by decide) [1, 2, 0] rfl ?_
  refine loopU (Φ := fun p => ∀ (x1 : Int32), Rr G 4 [(0, vr 7 k), (1, vi x1), (2, vi (nI p))] [] h) (N := vN v) ?_ ?_ 0 (by omega) (nI 0)
  ·
    intro  x1
    refine r_iload_n C (dx dX7_idle 4 rfl) rfl ?_
    refine r_aload_n C (dx dX7_idle 5 rfl) rfl ?_
    refine g_X7_74 (x := nI (vN v)) C (dx dX7_idle 6 rfl) hm.eN ?_
    refine rn_ge (a := vN v) (b := vN v) (tgt := 70) C (by omega) (by omega) (dx dX7_idle 7 rfl) (by decide) (fun c1 => ?_) (fun c1 => ?_)
    · first
      | (omega; done)
      | (
          have c1 : vN v ≤ vN v := c1
          refine r_iload_n C (dx dX7_idle 41 rfl) rfl ?_
          exact F.1 _ _ _ _ .int rfl rfl (dx dX7_idle 42 rfl) rfl ⟨⟨_, rfl⟩, hm, Kp.rf⟩)
    · first
      | (omega; done)
      | (
          have c1 : vN v < vN v := c1
          refine r_iconst (v := nI 0) C (dx dX7_idle 8 rfl) rfl ?_
          refine r_istore_n (ls' := [(0, vr 7 k), (1, vi x1), (2, vi (nI (vN v))), (3, vi (nI 0))]) C (dx dX7_idle 9 rfl) (by decide) [1, 2, 3, 0] rfl ?_
          refine r_iconst (v := nI 0) C (dx dX7_idle 10 rfl) rfl ?_
          refine r_istore (ls' := [(0, vr 7 k), (1, vi x1), (2, vi (nI (vN v))), (3, vi (nI 0)), (4, vi (nI 0))]) C (dx dX7_idle 11 rfl) (by decide) [1, 2, 3, 4, 0] rfl ?_
          refine loopU (Φ := fun q => ∀ (x3 : Int32), Rr G 17 [(0, vr 7 k), (1, vi x1), (2, vi (nI (vN v))), (3, vi x3), (4, vi (nI q))] [] h) (N := vM v) ?_ ?_ 0 (by omega) (nI 0)
          ·
            intro  x3
            refine r_iload C (dx dX7_idle 12 rfl) rfl ?_
            refine r_aload_n C (dx dX7_idle 13 rfl) rfl ?_
            refine g_X7_71 (x := nI (vM v)) C (dx dX7_idle 14 rfl) hm.eM ?_
            refine rn_ge (a := vM v) (b := vM v) (tgt := 50) C (by omega) (by omega) (dx dX7_idle 15 rfl) (by decide) (fun c2 => ?_) (fun c2 => ?_)
            · first
              | (omega; done)
            · first
              | (omega; done)
          ·
            intro q hq ihq x3
            refine r_iload C (dx dX7_idle 12 rfl) rfl ?_
            refine r_aload_n C (dx dX7_idle 13 rfl) rfl ?_
            refine g_X7_71 (x := nI (vM v)) C (dx dX7_idle 14 rfl) hm.eM ?_
            refine rn_ge (a := q) (b := vM v) (tgt := 50) C (by omega) (by omega) (dx dX7_idle 15 rfl) (by decide) (fun c6 => ?_) (fun c6 => ?_)
            · first
              | (omega; done)
            · first
              | (omega; done)
              | (
                  have c6 : q < vM v := c6
                  refine r_iload_n C (dx dX7_idle 16 rfl) rfl ?_
                  refine r_aload_n C (dx dX7_idle 17 rfl) rfl ?_
                  refine r_iload C (dx dX7_idle 18 rfl) rfl ?_
                  refine r_iload_n C (dx dX7_idle 19 rfl) rfl ?_
                  refine r_cvW (as := [vi (nI q), vi (nI (vN v))]) (st := [vi x3]) C X I_X7_powerOf l_X7_274 (c_X7_powerOf hm (m := q) (o := vN v) (by omega) (by omega)) (by decide) (Nat.le_of_ble_eq_true rfl) List.prefix_rfl rfl rfl (Nat.le_of_ble_eq_true rfl) rfl (dx dX7_idle 20 rfl) ?_
                  rintro _ ⟨x8, rfl⟩
                  refine r_if_le (tgt := 41) C (dx dX7_idle 21 rfl) (by decide) (fun c9 => ?_) (fun c9 => ?_)
                  ·
                    have c9 : x8 ≤ 0 := c9
                    refine r_iconst (v := nI 0) C (dx dX7_idle 24 rfl) rfl ?_
                    refine r_ior C (dx dX7_idle 25 rfl) ?_
                    refine r_istore_n (ls' := [(0, vr 7 k), (1, vi x1), (2, vi (nI (vN v))), (3, vi (x3 ||| (nI 0))), (4, vi (nI q))]) C (dx dX7_idle 26 rfl) (by decide) [1, 2, 3, 0, 4] rfl ?_
                    refine rn_iinc (a := q) (k := 1) (ls' := [(0, vr 7 k), (1, vi x1), (2, vi (nI (vN v))), (3, vi (x3 ||| (nI 0))), (4, vi (nI (q + 1)))]) C (dx dX7_idle 27 rfl) rfl rfl (by decide) [1, 2, 3, 4, 0] rfl ?_
                    refine r_goto (tgt := 17) C (dx dX7_idle 28 rfl) (by decide) ?_
                    exact ihq (x3 ||| (nI 0))
                  ·
                    have c9 : ¬ x8 ≤ 0 := c9
                    refine r_iconst (v := nI 1) C (dx dX7_idle 22 rfl) rfl ?_
                    refine r_goto (tgt := 42) C (dx dX7_idle 23 rfl) (by decide) ?_
                    refine r_ior C (dx dX7_idle 25 rfl) ?_
                    refine r_istore_n (ls' := [(0, vr 7 k), (1, vi x1), (2, vi (nI (vN v))), (3, vi (x3 ||| (nI 1))), (4, vi (nI q))]) C (dx dX7_idle 26 rfl) (by decide) [1, 2, 3, 0, 4] rfl ?_
                    refine rn_iinc (a := q) (k := 1) (ls' := [(0, vr 7 k), (1, vi x1), (2, vi (nI (vN v))), (3, vi (x3 ||| (nI 1))), (4, vi (nI (q + 1)))]) C (dx dX7_idle 27 rfl) rfl rfl (by decide) [1, 2, 3, 4, 0] rfl ?_
                    refine r_goto (tgt := 17) C (dx dX7_idle 28 rfl) (by decide) ?_
                    exact ihq (x3 ||| (nI 1))))
  ·
    intro p hp ihp x1
    refine r_iload_n C (dx dX7_idle 4 rfl) rfl ?_
    refine r_aload_n C (dx dX7_idle 5 rfl) rfl ?_
    refine g_X7_74 (x := nI (vN v)) C (dx dX7_idle 6 rfl) hm.eN ?_
    refine rn_ge (a := p) (b := vN v) (tgt := 70) C (by omega) (by omega) (dx dX7_idle 7 rfl) (by decide) (fun c10 => ?_) (fun c10 => ?_)
    · first
      | (omega; done)
      | (
          have c10 : vN v ≤ p := c10
          refine r_iload_n C (dx dX7_idle 41 rfl) rfl ?_
          exact F.1 _ _ _ _ .int rfl rfl (dx dX7_idle 42 rfl) rfl ⟨⟨_, rfl⟩, hm, Kp.rf⟩)
    · first
      | (omega; done)
      | (
          have c10 : p < vN v := c10
          refine r_iconst (v := nI 0) C (dx dX7_idle 8 rfl) rfl ?_
          refine r_istore_n (ls' := [(0, vr 7 k), (1, vi x1), (2, vi (nI p)), (3, vi (nI 0))]) C (dx dX7_idle 9 rfl) (by decide) [1, 2, 3, 0] rfl ?_
          refine r_iconst (v := nI 0) C (dx dX7_idle 10 rfl) rfl ?_
          refine r_istore (ls' := [(0, vr 7 k), (1, vi x1), (2, vi (nI p)), (3, vi (nI 0)), (4, vi (nI 0))]) C (dx dX7_idle 11 rfl) (by decide) [1, 2, 3, 4, 0] rfl ?_
          refine loopU (Φ := fun q => ∀ (x3 : Int32), Rr G 17 [(0, vr 7 k), (1, vi x1), (2, vi (nI p)), (3, vi x3), (4, vi (nI q))] [] h) (N := vM v) ?_ ?_ 0 (by omega) (nI 0)
          ·
            intro  x3
            refine r_iload C (dx dX7_idle 12 rfl) rfl ?_
            refine r_aload_n C (dx dX7_idle 13 rfl) rfl ?_
            refine g_X7_71 (x := nI (vM v)) C (dx dX7_idle 14 rfl) hm.eM ?_
            refine rn_ge (a := vM v) (b := vM v) (tgt := 50) C (by omega) (by omega) (dx dX7_idle 15 rfl) (by decide) (fun c11 => ?_) (fun c11 => ?_)
            · first
              | (omega; done)
              | (
                  have c11 : vM v ≤ vM v := c11
                  refine r_iload_n C (dx dX7_idle 29 rfl) rfl ?_
                  refine r_iload_n C (dx dX7_idle 30 rfl) rfl ?_
                  refine r_if_eq (tgt := 59) C (dx dX7_idle 31 rfl) (by decide) (fun c12 => ?_) (fun c12 => ?_)
                  ·
                    have c12 : x3 = 0 := c12
                    refine r_iconst (v := nI 1) C (dx dX7_idle 34 rfl) rfl ?_
                    refine r_iload_n C (dx dX7_idle 35 rfl) rfl ?_
                    refine r_ishl C (dx dX7_idle 36 rfl) ?_
                    refine r_ior C (dx dX7_idle 37 rfl) ?_
                    refine r_istore_n (ls' := [(0, vr 7 k), (1, vi (x1 ||| ((nI 1) <<< ((nI p) &&& 31)))), (2, vi (nI p)), (3, vi x3), (4, vi (nI (vM v)))]) C (dx dX7_idle 38 rfl) (by decide) [1, 0, 2, 3, 4] rfl ?_
                    refine rn_iinc (a := p) (k := 1) (ls' := [(0, vr 7 k), (1, vi (x1 ||| ((nI 1) <<< ((nI p) &&& 31)))), (2, vi (nI (p + 1))), (3, vi x3), (4, vi (nI (vM v)))]) C (dx dX7_idle 39 rfl) rfl rfl (by decide) [1, 2, 0, 3, 4] rfl ?_
                    refine r_goto (tgt := 4) C (dx dX7_idle 40 rfl) (by decide) ?_
                    refine r_weak C [0, 1, 2] rfl ?_
                    exact ihp (x1 ||| ((nI 1) <<< ((nI p) &&& 31)))
                  ·
                    have c12 : ¬ x3 = 0 := c12
                    refine r_iconst (v := nI 0) C (dx dX7_idle 32 rfl) rfl ?_
                    refine r_goto (tgt := 62) C (dx dX7_idle 33 rfl) (by decide) ?_
                    refine r_ior C (dx dX7_idle 37 rfl) ?_
                    refine r_istore_n (ls' := [(0, vr 7 k), (1, vi (x1 ||| (nI 0))), (2, vi (nI p)), (3, vi x3), (4, vi (nI (vM v)))]) C (dx dX7_idle 38 rfl) (by decide) [1, 0, 2, 3, 4] rfl ?_
                    refine rn_iinc (a := p) (k := 1) (ls' := [(0, vr 7 k), (1, vi (x1 ||| (nI 0))), (2, vi (nI (p + 1))), (3, vi x3), (4, vi (nI (vM v)))]) C (dx dX7_idle 39 rfl) rfl rfl (by decide) [1, 2, 0, 3, 4] rfl ?_
                    refine r_goto (tgt := 4) C (dx dX7_idle 40 rfl) (by decide) ?_
                    refine r_weak C [0, 1, 2] rfl ?_
                    exact ihp (x1 ||| (nI 0)))
            · first
              | (omega; done)
          ·
            intro q hq ihq x3
            refine r_iload C (dx dX7_idle 12 rfl) rfl ?_
            refine r_aload_n C (dx dX7_idle 13 rfl) rfl ?_
            refine g_X7_71 (x := nI (vM v)) C (dx dX7_idle 14 rfl) hm.eM ?_
            refine rn_ge (a := q) (b := vM v) (tgt := 50) C (by omega) (by omega) (dx dX7_idle 15 rfl) (by decide) (fun c15 => ?_) (fun c15 => ?_)
            · first
              | (omega; done)
              | (
                  have c15 : vM v ≤ q := c15
                  refine r_iload_n C (dx dX7_idle 29 rfl) rfl ?_
                  refine r_iload_n C (dx dX7_idle 30 rfl) rfl ?_
                  refine r_if_eq (tgt := 59) C (dx dX7_idle 31 rfl) (by decide) (fun c16 => ?_) (fun c16 => ?_)
                  ·
                    have c16 : x3 = 0 := c16
                    refine r_iconst (v := nI 1) C (dx dX7_idle 34 rfl) rfl ?_
                    refine r_iload_n C (dx dX7_idle 35 rfl) rfl ?_
                    refine r_ishl C (dx dX7_idle 36 rfl) ?_
                    refine r_ior C (dx dX7_idle 37 rfl) ?_
                    refine r_istore_n (ls' := [(0, vr 7 k), (1, vi (x1 ||| ((nI 1) <<< ((nI p) &&& 31)))), (2, vi (nI p)), (3, vi x3), (4, vi (nI q))]) C (dx dX7_idle 38 rfl) (by decide) [1, 0, 2, 3, 4] rfl ?_
                    refine rn_iinc (a := p) (k := 1) (ls' := [(0, vr 7 k), (1, vi (x1 ||| ((nI 1) <<< ((nI p) &&& 31)))), (2, vi (nI (p + 1))), (3, vi x3), (4, vi (nI q))]) C (dx dX7_idle 39 rfl) rfl rfl (by decide) [1, 2, 0, 3, 4] rfl ?_
                    refine r_goto (tgt := 4) C (dx dX7_idle 40 rfl) (by decide) ?_
                    refine r_weak C [0, 1, 2] rfl ?_
                    exact ihp (x1 ||| ((nI 1) <<< ((nI p) &&& 31)))
                  ·
                    have c16 : ¬ x3 = 0 := c16
                    refine r_iconst (v := nI 0) C (dx dX7_idle 32 rfl) rfl ?_
                    refine r_goto (tgt := 62) C (dx dX7_idle 33 rfl) (by decide) ?_
                    refine r_ior C (dx dX7_idle 37 rfl) ?_
                    refine r_istore_n (ls' := [(0, vr 7 k), (1, vi (x1 ||| (nI 0))), (2, vi (nI p)), (3, vi x3), (4, vi (nI q))]) C (dx dX7_idle 38 rfl) (by decide) [1, 0, 2, 3, 4] rfl ?_
                    refine rn_iinc (a := p) (k := 1) (ls' := [(0, vr 7 k), (1, vi (x1 ||| (nI 0))), (2, vi (nI (p + 1))), (3, vi x3), (4, vi (nI q))]) C (dx dX7_idle 39 rfl) rfl rfl (by decide) [1, 2, 0, 3, 4] rfl ?_
                    refine r_goto (tgt := 4) C (dx dX7_idle 40 rfl) (by decide) ?_
                    refine r_weak C [0, 1, 2] rfl ?_
                    exact ihp (x1 ||| (nI 0)))
            · first
              | (omega; done)
              | (
                  have c15 : q < vM v := c15
                  refine r_iload_n C (dx dX7_idle 16 rfl) rfl ?_
                  refine r_aload_n C (dx dX7_idle 17 rfl) rfl ?_
                  refine r_iload C (dx dX7_idle 18 rfl) rfl ?_
                  refine r_iload_n C (dx dX7_idle 19 rfl) rfl ?_
                  refine r_cvW (as := [vi (nI q), vi (nI p)]) (st := [vi x3]) C X I_X7_powerOf l_X7_274 (c_X7_powerOf hm (m := q) (o := p) (by omega) (by omega)) (by decide) (Nat.le_of_ble_eq_true rfl) List.prefix_rfl rfl rfl (Nat.le_of_ble_eq_true rfl) rfl (dx dX7_idle 20 rfl) ?_
                  rintro _ ⟨x17, rfl⟩
                  refine r_if_le (tgt := 41) C (dx dX7_idle 21 rfl) (by decide) (fun c18 => ?_) (fun c18 => ?_)
                  ·
                    have c18 : x17 ≤ 0 := c18
                    refine r_iconst (v := nI 0) C (dx dX7_idle 24 rfl) rfl ?_
                    refine r_ior C (dx dX7_idle 25 rfl) ?_
                    refine r_istore_n (ls' := [(0, vr 7 k), (1, vi x1), (2, vi (nI p)), (3, vi (x3 ||| (nI 0))), (4, vi (nI q))]) C (dx dX7_idle 26 rfl) (by decide) [1, 2, 3, 0, 4] rfl ?_
                    refine rn_iinc (a := q) (k := 1) (ls' := [(0, vr 7 k), (1, vi x1), (2, vi (nI p)), (3, vi (x3 ||| (nI 0))), (4, vi (nI (q + 1)))]) C (dx dX7_idle 27 rfl) rfl rfl (by decide) [1, 2, 3, 4, 0] rfl ?_
                    refine r_goto (tgt := 17) C (dx dX7_idle 28 rfl) (by decide) ?_
                    exact ihq (x3 ||| (nI 0))
                  ·
                    have c18 : ¬ x17 ≤ 0 := c18
                    refine r_iconst (v := nI 1) C (dx dX7_idle 22 rfl) rfl ?_
                    refine r_goto (tgt := 42) C (dx dX7_idle 23 rfl) (by decide) ?_
                    refine r_ior C (dx dX7_idle 25 rfl) ?_
                    refine r_istore_n (ls' := [(0, vr 7 k), (1, vi x1), (2, vi (nI p)), (3, vi (x3 ||| (nI 1))), (4, vi (nI q))]) C (dx dX7_idle 26 rfl) (by decide) [1, 2, 3, 0, 4] rfl ?_
                    refine rn_iinc (a := q) (k := 1) (ls' := [(0, vr 7 k), (1, vi x1), (2, vi (nI p)), (3, vi (x3 ||| (nI 1))), (4, vi (nI (q + 1)))]) C (dx dX7_idle 27 rfl) rfl rfl (by decide) [1, 2, 3, 4, 0] rfl ?_
                    refine r_goto (tgt := 17) C (dx dX7_idle 28 rfl) (by decide) ?_
                    exact ihq (x3 ||| (nI 1))))
set_option maxHeartbeats 4000000 in
theorem v_X7_room {l : Launch} {h : Hp} {k : Nat} {v : Vg} (hm : MilAt h k v)  : Ms l yX7_room cX7_room 3 (some .int) 8 [vr 7 k] h (xK h) (fun r h' => PI r ∧ MilAt h' k v ∧ Kp k h h') := by
  refine Ms.of (by decide) (Nat.le_of_ble_eq_true rfl) (fun G C X F => ?_)
  have C : Cx G cX7_room 3 RX7 := C
  show Rr G 0 [(0, vr 7 k)] [] h
  have bP := hm.bP
  have bM := hm.bM
  have bN := hm.bN
  refine r_iconst (v := nI 0) C (dx dX7_room 0 rfl) rfl ?_
  refine r_istore_n (ls' := [(0, vr 7 k), (1, vi (nI 0))]) C (dx dX7_room 1 rfl) (by decide) [1, 0] rfl ?_
  refine r_iconst (v := nI 0) C (dx dX7_room 2 rfl) rfl ?_
  refine r_istore_n (ls' := [(0, vr 7 k), (1, vi (nI 0)), (2, vi (nI 0))]) C (dx dX7_room 3 rfl) (by decide) [1, 2, 0] rfl ?_
  refine loopU (Φ := fun p => ∀ (x1 : Int32), Rr G 4 [(0, vr 7 k), (1, vi x1), (2, vi (nI p))] [] h) (N := vN v) ?_ ?_ 0 (by omega) (nI 0)
  ·
    intro  x1
    refine r_iload_n C (dx dX7_room 4 rfl) rfl ?_
    refine r_aload_n C (dx dX7_room 5 rfl) rfl ?_
    refine g_X7_74 (x := nI (vN v)) C (dx dX7_room 6 rfl) hm.eN ?_
    refine rn_ge (a := vN v) (b := vN v) (tgt := 35) C (by omega) (by omega) (dx dX7_room 7 rfl) (by decide) (fun c1 => ?_) (fun c1 => ?_)
    · first
      | (omega; done)
      | (
          have c1 : vN v ≤ vN v := c1
          refine r_iload_n C (dx dX7_room 23 rfl) rfl ?_
          exact F.1 _ _ _ _ .int rfl rfl (dx dX7_room 24 rfl) rfl ⟨⟨_, rfl⟩, hm, Kp.rf⟩)
    · first
      | (omega; done)
  ·
    intro p hp ihp x1
    refine r_iload_n C (dx dX7_room 4 rfl) rfl ?_
    refine r_aload_n C (dx dX7_room 5 rfl) rfl ?_
    refine g_X7_74 (x := nI (vN v)) C (dx dX7_room 6 rfl) hm.eN ?_
    refine rn_ge (a := p) (b := vN v) (tgt := 35) C (by omega) (by omega) (dx dX7_room 7 rfl) (by decide) (fun c3 => ?_) (fun c3 => ?_)
    · first
      | (omega; done)
      | (
          have c3 : vN v ≤ p := c3
          refine r_iload_n C (dx dX7_room 23 rfl) rfl ?_
          exact F.1 _ _ _ _ .int rfl rfl (dx dX7_room 24 rfl) rfl ⟨⟨_, rfl⟩, hm, Kp.rf⟩)
    · first
      | (omega; done)
      | (
          have c3 : p < vN v := c3
          refine r_iload_n C (dx dX7_room 8 rfl) rfl ?_
          refine r_aload_n C (dx dX7_room 9 rfl) rfl ?_
          refine g_X7_54 C (dx dX7_room 10 rfl) ?_
          refine r_iload_n C (dx dX7_room 11 rfl) rfl ?_
          refine r_aald4 (j := p) C rfl rfl (by decide) rfl (by omega) (dx dX7_room 12 rfl) ?_
          refine r_iconst (v := nI 0) C (dx dX7_room 13 rfl) rfl ?_
          refine r_iald (j := 0) (x := vF v 4 p) C rfl rfl (by decide) rfl (by omega) (dx dX7_room 14 rfl) (hm.eo (by omega) (by omega)) ?_
          refine r_aload_n C (dx dX7_room 15 rfl) rfl ?_
          refine r_iload_n C (dx dX7_room 16 rfl) rfl ?_
          refine r_cvW (as := [vi (nI p)]) (st := [vi (vF v 4 p), vi x1]) C X I_X7_piecesOf l_X7_129 (c_X7_piecesOf hm _) (by decide) (Nat.le_of_ble_eq_true rfl) List.prefix_rfl rfl rfl (Nat.le_of_ble_eq_true rfl) rfl (dx dX7_room 17 rfl) ?_
          rintro _ ⟨x4, rfl⟩
          refine r_isub C (dx dX7_room 18 rfl) ?_
          refine r_iadd C (dx dX7_room 19 rfl) ?_
          refine r_istore_n (ls' := [(0, vr 7 k), (1, vi (x1 + ((vF v 4 p) - x4))), (2, vi (nI p))]) C (dx dX7_room 20 rfl) (by decide) [1, 0, 2] rfl ?_
          refine rn_iinc (a := p) (k := 1) (ls' := [(0, vr 7 k), (1, vi (x1 + ((vF v 4 p) - x4))), (2, vi (nI (p + 1)))]) C (dx dX7_room 21 rfl) rfl rfl (by decide) [1, 2, 0] rfl ?_
          refine r_goto (tgt := 4) C (dx dX7_room 22 rfl) (by decide) ?_
          exact ihp (x1 + ((vF v 4 p) - x4)))
set_option maxHeartbeats 4000000 in
theorem v_X7_judge {l : Launch} {h : Hp} {k : Nat} {v : Vg} {g : Sg} (hm : MilAt h k v) (hs : MshAt h k g) (m s n : Int32) : Ms l yX7_judge cX7_judge 6 (some .int) 8 [vr 7 k, vi m, vi s, vi n] h (xK h) (fun r h' => PI r ∧ MilAt h' k v ∧ Kp k h h') := by
  refine Ms.of (by decide) (Nat.le_of_ble_eq_true rfl) (fun G C X F => ?_)
  have C : Cx G cX7_judge 6 RX7 := C
  show Rr G 0 [(0, vr 7 k), (1, vi m), (2, vi s), (3, vi n)] [] h
  have bP := hm.bP
  have bM := hm.bM
  have bN := hm.bN
  refine r_aload_n C (dx dX7_judge 0 rfl) rfl ?_
  refine r_iload_n C (dx dX7_judge 1 rfl) rfl ?_
  refine r_cvP (as := [vi m]) (st := []) (v := vi (b2i (inR m (vM v)))) C X I_X7_isMachine l_X7_241 (c_X7_isMachine hm _) (by decide) (Nat.le_of_ble_eq_true rfl) List.prefix_rfl rfl rfl (Nat.le_of_ble_eq_true rfl) rfl (dx dX7_judge 2 rfl) ?_
  refine rb_ne (b := inR m (vM v)) (tgt := 15) C (dx dX7_judge 3 rfl) (by decide) (fun c1 => ?_) (fun c1 => ?_)
  ·
    have c1 : (inR m (vM v)) = true := c1
    obtain ⟨μ, hμ, rfl⟩ := inR_ex (n := (vM v)) (by omega) c1
    refine r_aload_n C (dx dX7_judge 8 rfl) rfl ?_
    refine r_iload_n C (dx dX7_judge 9 rfl) rfl ?_
    refine r_iload_n C (dx dX7_judge 10 rfl) rfl ?_
    refine r_cv (as := [vi s, vi n]) (st := []) C X I_X7_noTold l_X7_329 (v_X7_noTold hm hs _ _) (by decide) (Nat.le_of_ble_eq_true rfl) List.prefix_rfl List.prefix_rfl rfl rfl (Nat.le_of_ble_eq_true rfl) rfl (dx dX7_judge 11 rfl) ?_
    rintro _ h2 ⟨rfl, m9h2, qh2⟩ kkh2
    have mh2 : MilAt h2 k v := m9h2
    have ph2 : Kp k h h2 := qh2
    have kh2 : xK h2 = xK h := kkh2
    refine r_istore (ls' := [(0, vr 7 k), (1, vi (nI μ)), (2, vi s), (3, vi n), (4, vi (tfV g s n))]) C (dx dX7_judge 12 rfl) (by decide) [1, 2, 3, 4, 0] rfl ?_
    refine r_iload C (dx dX7_judge 13 rfl) rfl ?_
    refine r_if_eq (tgt := 31) C (dx dX7_judge 14 rfl) (by decide) (fun c3 => ?_) (fun c3 => ?_)
    ·
      have c3 : tfV g s n = 0 := c3
      obtain ⟨σ, hσ, ν, hν, rfl, rfl⟩ := tf_ok2 c3
      refine r_iconst (v := nI 0) C (dx dX7_judge 17 rfl) rfl ?_
      refine r_istore (ls' := [(0, vr 7 k), (1, vi (nI μ)), (2, vi (nI σ)), (3, vi (nI ν)), (4, vi (tfV g (nI σ) (nI ν))), (5, vi (nI 0))]) C (dx dX7_judge 18 rfl) (by decide) [1, 2, 3, 4, 5, 0] rfl ?_
      refine loopU (Φ := fun p => Rr G 34 [(0, vr 7 k), (1, vi (nI μ)), (2, vi (nI σ)), (3, vi (nI ν)), (4, vi (tfV g (nI σ) (nI ν))), (5, vi (nI p))] [] h2) (N := ν) ?_ ?_ 0 (by omega) 
      ·
        refine r_iload C (dx dX7_judge 19 rfl) rfl ?_
        refine r_iload_n C (dx dX7_judge 20 rfl) rfl ?_
        refine rn_ge (a := ν) (b := ν) (tgt := 64) C (by omega) (by omega) (dx dX7_judge 21 rfl) (by decide) (fun c4 => ?_) (fun c4 => ?_)
        · first
          | (omega; done)
          | (
              have c4 : ν ≤ ν := c4
              refine r_iconst (v := -1) C (dx dX7_judge 34 rfl) rfl ?_
              exact F.1 _ _ _ _ .int rfl rfl (dx dX7_judge 35 rfl) kh2 ⟨⟨_, rfl⟩, mh2, ph2⟩)
        · first
          | (omega; done)
      ·
        intro p hp ihp
        refine r_iload C (dx dX7_judge 19 rfl) rfl ?_
        refine r_iload_n C (dx dX7_judge 20 rfl) rfl ?_
        refine rn_ge (a := p) (b := ν) (tgt := 64) C (by omega) (by omega) (dx dX7_judge 21 rfl) (by decide) (fun c8 => ?_) (fun c8 => ?_)
        · first
          | (omega; done)
          | (
              have c8 : ν ≤ p := c8
              refine r_iconst (v := -1) C (dx dX7_judge 34 rfl) rfl ?_
              exact F.1 _ _ _ _ .int rfl rfl (dx dX7_judge 35 rfl) kh2 ⟨⟨_, rfl⟩, mh2, ph2⟩)
        · first
          | (omega; done)
          | (
              have c8 : p < ν := c8
              refine r_aload_n C (dx dX7_judge 22 rfl) rfl ?_
              refine r_iload_n C (dx dX7_judge 23 rfl) rfl ?_
              refine r_aload_n C (dx dX7_judge 24 rfl) rfl ?_
              refine r_iload_n C (dx dX7_judge 25 rfl) rfl ?_
              refine r_iload C (dx dX7_judge 26 rfl) rfl ?_
              refine r_cvW (as := [vi (nI σ), vi (nI p)]) (st := [vi (nI μ), vr 7 k]) C X I_X7_comeOn l_X7_332 (c_X7_comeOn mh2 (σ := σ) (i := p) (by omega) (by omega)) (by decide) (Nat.le_of_ble_eq_true rfl) (pfx_eq kh2) rfl rfl (Nat.le_of_ble_eq_true rfl) rfl (dx dX7_judge 27 rfl) ?_
              rintro _ ⟨x9, rfl⟩
              refine r_cvW (as := [vi (nI μ), vi x9]) (st := []) C X I_X7_worksOf l_X7_250 (c_X7_worksOf mh2 (m := μ) (by omega) _) (by decide) (Nat.le_of_ble_eq_true rfl) (pfx_eq kh2) rfl rfl (Nat.le_of_ble_eq_true rfl) rfl (dx dX7_judge 28 rfl) ?_
              rintro _ ⟨x10, rfl⟩
              refine rb_ne (b := x10) (tgt := 58) C (dx dX7_judge 29 rfl) (by decide) (fun c11 => ?_) (fun c11 => ?_)
              ·
                have c11 : x10 = true := c11
                refine rn_iinc (a := p) (k := 1) (ls' := [(0, vr 7 k), (1, vi (nI μ)), (2, vi (nI σ)), (3, vi (nI ν)), (4, vi (tfV g (nI σ) (nI ν))), (5, vi (nI (p + 1)))]) C (dx dX7_judge 32 rfl) rfl rfl (by decide) [1, 2, 3, 4, 5, 0] rfl ?_
                refine r_goto (tgt := 34) C (dx dX7_judge 33 rfl) (by decide) ?_
                exact ihp 
              ·
                have c11 : x10 = false := c11
                refine r_iload C (dx dX7_judge 30 rfl) rfl ?_
                exact F.1 _ _ _ _ .int rfl rfl (dx dX7_judge 31 rfl) kh2 ⟨⟨_, rfl⟩, mh2, ph2⟩)
    ·
      have c3 : ¬ tfV g s n = 0 := c3
      refine r_iload C (dx dX7_judge 15 rfl) rfl ?_
      exact F.1 _ _ _ _ .int rfl rfl (dx dX7_judge 16 rfl) kh2 ⟨⟨_, rfl⟩, mh2, ph2⟩
  ·
    have c1 : (inR m (vM v)) = false := c1
    refine r_aload_n C (dx dX7_judge 4 rfl) rfl ?_
    refine r_bipush (v := -2) C (dx dX7_judge 5 rfl) rfl ?_
    refine r_cv (as := [vi (-2)]) (st := []) C X I_X7_refuse l_X7_83 (e_refuse hm (x := -2) (j := 2) (by decide) (by decide)) (by decide) (Nat.le_of_ble_eq_true rfl) List.prefix_rfl List.prefix_rfl rfl rfl (Nat.le_of_ble_eq_true rfl) rfl (dx dX7_judge 6 rfl) ?_
    rintro _ h12 ⟨rfl, m9h12, qh12⟩ kkh12
    have mh12 : MilAt h12 k v := m9h12
    have ph12 : Kp k h h12 := qh12
    have kh12 : xK h12 = xK h := kkh12
    exact F.1 _ _ _ _ .int rfl rfl (dx dX7_judge 7 rfl) kh12 ⟨⟨_, rfl⟩, mh12, ph12⟩
set_option maxHeartbeats 4000000 in
theorem v_X7_told {l : Launch} {h : Hp} {k : Nat} {v : Vg} {g : Sg} (hm : MilAt h k v) (hs : MshAt h k g) (s n : Int32) : Ms l yX7_told cX7_told 7 (some .int) 8 [vr 7 k, vi s, vi n] h (xK h) (fun r h' => PI r ∧ MilAt h' k v ∧ Kp k h h') := by
  refine Ms.of (by decide) (Nat.le_of_ble_eq_true rfl) (fun G C X F => ?_)
  have C : Cx G cX7_told 7 RX7 := C
  show Rr G 0 [(0, vr 7 k), (1, vi s), (2, vi n)] [] h
  have bP := hm.bP
  have bM := hm.bM
  have bN := hm.bN
  refine r_aload_n C (dx dX7_told 0 rfl) rfl ?_
  refine r_iload_n C (dx dX7_told 1 rfl) rfl ?_
  refine r_iload_n C (dx dX7_told 2 rfl) rfl ?_
  refine r_cv (as := [vi s, vi n]) (st := []) C X I_X7_noTold l_X7_329 (v_X7_noTold hm hs _ _) (by decide) (Nat.le_of_ble_eq_true rfl) List.prefix_rfl List.prefix_rfl rfl rfl (Nat.le_of_ble_eq_true rfl) rfl (dx dX7_told 3 rfl) ?_
  rintro _ h1 ⟨rfl, m9h1, qh1⟩ kkh1
  have mh1 : MilAt h1 k v := m9h1
  have ph1 : Kp k h h1 := qh1
  have kh1 : xK h1 = xK h := kkh1
  refine r_istore_n (ls' := [(0, vr 7 k), (1, vi s), (2, vi n), (3, vi (tfV g s n))]) C (dx dX7_told 4 rfl) (by decide) [1, 2, 3, 0] rfl ?_
  refine r_iload_n C (dx dX7_told 5 rfl) rfl ?_
  refine r_if_eq (tgt := 13) C (dx dX7_told 6 rfl) (by decide) (fun c2 => ?_) (fun c2 => ?_)
  ·
    have c2 : tfV g s n = 0 := c2
    obtain ⟨σ, hσ, ν, hν, rfl, rfl⟩ := tf_ok2 c2
    refine r_iconst (v := nI 0) C (dx dX7_told 9 rfl) rfl ?_
    refine r_istore (ls' := [(0, vr 7 k), (1, vi (nI σ)), (2, vi (nI ν)), (3, vi (tfV g (nI σ) (nI ν))), (4, vi (nI 0))]) C (dx dX7_told 10 rfl) (by decide) [1, 2, 3, 4, 0] rfl ?_
    refine r_iconst (v := nI 0) C (dx dX7_told 11 rfl) rfl ?_
    refine r_istore (ls' := [(0, vr 7 k), (1, vi (nI σ)), (2, vi (nI ν)), (3, vi (tfV g (nI σ) (nI ν))), (4, vi (nI 0)), (5, vi (nI 0))]) C (dx dX7_told 12 rfl) (by decide) [1, 2, 3, 4, 5, 0] rfl ?_
    refine loopU (Φ := fun p => ∀ (x4 : Int32), Rr G 19 [(0, vr 7 k), (1, vi (nI σ)), (2, vi (nI ν)), (3, vi (tfV g (nI σ) (nI ν))), (4, vi x4), (5, vi (nI p))] [] h1) (N := ν) ?_ ?_ 0 (by omega) (nI 0)
    ·
      intro  x4
      refine r_iload C (dx dX7_told 13 rfl) rfl ?_
      refine r_iload_n C (dx dX7_told 14 rfl) rfl ?_
      refine rn_ge (a := ν) (b := ν) (tgt := 81) C (by omega) (by omega) (dx dX7_told 15 rfl) (by decide) (fun c3 => ?_) (fun c3 => ?_)
      · first
        | (omega; done)
        | (
            have c3 : ν ≤ ν := c3
            refine r_iload C (dx dX7_told 43 rfl) rfl ?_
            exact F.1 _ _ _ _ .int rfl rfl (dx dX7_told 44 rfl) kh1 ⟨⟨_, rfl⟩, mh1, ph1⟩)
      · first
        | (omega; done)
        | (
            have c3 : ν < ν := c3
            refine r_iconst (v := nI 0) C (dx dX7_told 16 rfl) rfl ?_
            refine r_istore (ls' := [(0, vr 7 k), (1, vi (nI σ)), (2, vi (nI ν)), (3, vi (tfV g (nI σ) (nI ν))), (4, vi x4), (5, vi (nI ν)), (6, vi (nI 0))]) C (dx dX7_told 17 rfl) (by decide) [1, 2, 3, 4, 5, 6, 0] rfl ?_
            refine loopU (Φ := fun q => ∀ (x4 : Int32), Rr G 28 [(0, vr 7 k), (1, vi (nI σ)), (2, vi (nI ν)), (3, vi (tfV g (nI σ) (nI ν))), (4, vi x4), (5, vi (nI ν)), (6, vi (nI q))] [] h1) (N := vM v) ?_ ?_ 0 (by omega) x4
            ·
              intro  x4
              refine r_iload C (dx dX7_told 18 rfl) rfl ?_
              refine r_aload_n C (dx dX7_told 19 rfl) rfl ?_
              refine g_X7_71 (x := nI (vM v)) C (dx dX7_told 20 rfl) mh1.eM ?_
              refine rn_ge (a := vM v) (b := vM v) (tgt := 75) C (by omega) (by omega) (dx dX7_told 21 rfl) (by decide) (fun c4 => ?_) (fun c4 => ?_)
              · first
                | (omega; done)
              · first
                | (omega; done)
            ·
              intro q hq ihq x4
              refine r_iload C (dx dX7_told 18 rfl) rfl ?_
              refine r_aload_n C (dx dX7_told 19 rfl) rfl ?_
              refine g_X7_71 (x := nI (vM v)) C (dx dX7_told 20 rfl) mh1.eM ?_
              refine rn_ge (a := q) (b := vM v) (tgt := 75) C (by omega) (by omega) (dx dX7_told 21 rfl) (by decide) (fun c8 => ?_) (fun c8 => ?_)
              · first
                | (omega; done)
              · first
                | (omega; done)
                | (
                    have c8 : q < vM v := c8
                    refine r_iload C (dx dX7_told 22 rfl) rfl ?_
                    refine r_aload_n C (dx dX7_told 23 rfl) rfl ?_
                    refine r_iload C (dx dX7_told 24 rfl) rfl ?_
                    refine r_aload_n C (dx dX7_told 25 rfl) rfl ?_
                    refine r_iload_n C (dx dX7_told 26 rfl) rfl ?_
                    refine r_iload C (dx dX7_told 27 rfl) rfl ?_
                    refine r_cvW (as := [vi (nI σ), vi (nI ν)]) (st := [vi (nI q), vr 7 k, vi x4]) C X I_X7_comeOn l_X7_332 (c_X7_comeOn mh1 (σ := σ) (i := ν) (by omega) (by omega)) (by decide) (Nat.le_of_ble_eq_true rfl) (pfx_eq kh1) rfl rfl (Nat.le_of_ble_eq_true rfl) rfl (dx dX7_told 28 rfl) ?_
                    rintro _ ⟨x9, rfl⟩
                    refine r_cvW (as := [vi (nI q), vi x9]) (st := [vi x4]) C X I_X7_worksOf l_X7_250 (c_X7_worksOf mh1 (m := q) (by omega) _) (by decide) (Nat.le_of_ble_eq_true rfl) (pfx_eq kh1) rfl rfl (Nat.le_of_ble_eq_true rfl) rfl (dx dX7_told 29 rfl) ?_
                    rintro _ ⟨x10, rfl⟩
                    refine rb_eq (b := x10) (tgt := 65) C (dx dX7_told 30 rfl) (by decide) (fun c11 => ?_) (fun c11 => ?_)
                    ·
                      have c11 : x10 = false := c11
                      refine r_iconst (v := nI 0) C (dx dX7_told 36 rfl) rfl ?_
                      refine r_iadd C (dx dX7_told 37 rfl) ?_
                      refine r_istore (ls' := [(0, vr 7 k), (1, vi (nI σ)), (2, vi (nI ν)), (3, vi (tfV g (nI σ) (nI ν))), (4, vi (x4 + (nI 0))), (5, vi (nI ν)), (6, vi (nI q))]) C (dx dX7_told 38 rfl) (by decide) [1, 2, 3, 4, 0, 5, 6] rfl ?_
                      refine rn_iinc (a := q) (k := 1) (ls' := [(0, vr 7 k), (1, vi (nI σ)), (2, vi (nI ν)), (3, vi (tfV g (nI σ) (nI ν))), (4, vi (x4 + (nI 0))), (5, vi (nI ν)), (6, vi (nI (q + 1)))]) C (dx dX7_told 39 rfl) rfl rfl (by decide) [1, 2, 3, 4, 5, 6, 0] rfl ?_
                      refine r_goto (tgt := 28) C (dx dX7_told 40 rfl) (by decide) ?_
                      exact ihq (x4 + (nI 0))
                    ·
                      have c11 : x10 = true := c11
                      refine r_aload_n C (dx dX7_told 31 rfl) rfl ?_
                      refine g_X7_49 C (dx dX7_told 32 rfl) ?_
                      refine r_iload C (dx dX7_told 33 rfl) rfl ?_
                      refine r_iald (j := q) (x := vF v 3 q) C rfl rfl (by decide) rfl (by omega) (dx dX7_told 34 rfl) (mh1.e3 (by omega)) ?_
                      refine r_goto (tgt := 66) C (dx dX7_told 35 rfl) (by decide) ?_
                      refine r_iadd C (dx dX7_told 37 rfl) ?_
                      refine r_istore (ls' := [(0, vr 7 k), (1, vi (nI σ)), (2, vi (nI ν)), (3, vi (tfV g (nI σ) (nI ν))), (4, vi (x4 + (vF v 3 q))), (5, vi (nI ν)), (6, vi (nI q))]) C (dx dX7_told 38 rfl) (by decide) [1, 2, 3, 4, 0, 5, 6] rfl ?_
                      refine rn_iinc (a := q) (k := 1) (ls' := [(0, vr 7 k), (1, vi (nI σ)), (2, vi (nI ν)), (3, vi (tfV g (nI σ) (nI ν))), (4, vi (x4 + (vF v 3 q))), (5, vi (nI ν)), (6, vi (nI (q + 1)))]) C (dx dX7_told 39 rfl) rfl rfl (by decide) [1, 2, 3, 4, 5, 6, 0] rfl ?_
                      refine r_goto (tgt := 28) C (dx dX7_told 40 rfl) (by decide) ?_
                      exact ihq (x4 + (vF v 3 q))))
    ·
      intro p hp ihp x4
      refine r_iload C (dx dX7_told 13 rfl) rfl ?_
      refine r_iload_n C (dx dX7_told 14 rfl) rfl ?_
      refine rn_ge (a := p) (b := ν) (tgt := 81) C (by omega) (by omega) (dx dX7_told 15 rfl) (by decide) (fun c12 => ?_) (fun c12 => ?_)
      · first
        | (omega; done)
        | (
            have c12 : ν ≤ p := c12
            refine r_iload C (dx dX7_told 43 rfl) rfl ?_
            exact F.1 _ _ _ _ .int rfl rfl (dx dX7_told 44 rfl) kh1 ⟨⟨_, rfl⟩, mh1, ph1⟩)
      · first
        | (omega; done)
        | (
            have c12 : p < ν := c12
            refine r_iconst (v := nI 0) C (dx dX7_told 16 rfl) rfl ?_
            refine r_istore (ls' := [(0, vr 7 k), (1, vi (nI σ)), (2, vi (nI ν)), (3, vi (tfV g (nI σ) (nI ν))), (4, vi x4), (5, vi (nI p)), (6, vi (nI 0))]) C (dx dX7_told 17 rfl) (by decide) [1, 2, 3, 4, 5, 6, 0] rfl ?_
            refine loopU (Φ := fun q => ∀ (x4 : Int32), Rr G 28 [(0, vr 7 k), (1, vi (nI σ)), (2, vi (nI ν)), (3, vi (tfV g (nI σ) (nI ν))), (4, vi x4), (5, vi (nI p)), (6, vi (nI q))] [] h1) (N := vM v) ?_ ?_ 0 (by omega) x4
            ·
              intro  x4
              refine r_iload C (dx dX7_told 18 rfl) rfl ?_
              refine r_aload_n C (dx dX7_told 19 rfl) rfl ?_
              refine g_X7_71 (x := nI (vM v)) C (dx dX7_told 20 rfl) mh1.eM ?_
              refine rn_ge (a := vM v) (b := vM v) (tgt := 75) C (by omega) (by omega) (dx dX7_told 21 rfl) (by decide) (fun c13 => ?_) (fun c13 => ?_)
              · first
                | (omega; done)
                | (
                    have c13 : vM v ≤ vM v := c13
                    refine rn_iinc (a := p) (k := 1) (ls' := [(0, vr 7 k), (1, vi (nI σ)), (2, vi (nI ν)), (3, vi (tfV g (nI σ) (nI ν))), (4, vi x4), (5, vi (nI (p + 1))), (6, vi (nI (vM v)))]) C (dx dX7_told 41 rfl) rfl rfl (by decide) [1, 2, 3, 4, 5, 0, 6] rfl ?_
                    refine r_goto (tgt := 19) C (dx dX7_told 42 rfl) (by decide) ?_
                    refine r_weak C [0, 1, 2, 3, 4, 5] rfl ?_
                    exact ihp x4)
              · first
                | (omega; done)
            ·
              intro q hq ihq x4
              refine r_iload C (dx dX7_told 18 rfl) rfl ?_
              refine r_aload_n C (dx dX7_told 19 rfl) rfl ?_
              refine g_X7_71 (x := nI (vM v)) C (dx dX7_told 20 rfl) mh1.eM ?_
              refine rn_ge (a := q) (b := vM v) (tgt := 75) C (by omega) (by omega) (dx dX7_told 21 rfl) (by decide) (fun c17 => ?_) (fun c17 => ?_)
              · first
                | (omega; done)
                | (
                    have c17 : vM v ≤ q := c17
                    refine rn_iinc (a := p) (k := 1) (ls' := [(0, vr 7 k), (1, vi (nI σ)), (2, vi (nI ν)), (3, vi (tfV g (nI σ) (nI ν))), (4, vi x4), (5, vi (nI (p + 1))), (6, vi (nI q))]) C (dx dX7_told 41 rfl) rfl rfl (by decide) [1, 2, 3, 4, 5, 0, 6] rfl ?_
                    refine r_goto (tgt := 19) C (dx dX7_told 42 rfl) (by decide) ?_
                    refine r_weak C [0, 1, 2, 3, 4, 5] rfl ?_
                    exact ihp x4)
              · first
                | (omega; done)
                | (
                    have c17 : q < vM v := c17
                    refine r_iload C (dx dX7_told 22 rfl) rfl ?_
                    refine r_aload_n C (dx dX7_told 23 rfl) rfl ?_
                    refine r_iload C (dx dX7_told 24 rfl) rfl ?_
                    refine r_aload_n C (dx dX7_told 25 rfl) rfl ?_
                    refine r_iload_n C (dx dX7_told 26 rfl) rfl ?_
                    refine r_iload C (dx dX7_told 27 rfl) rfl ?_
                    refine r_cvW (as := [vi (nI σ), vi (nI p)]) (st := [vi (nI q), vr 7 k, vi x4]) C X I_X7_comeOn l_X7_332 (c_X7_comeOn mh1 (σ := σ) (i := p) (by omega) (by omega)) (by decide) (Nat.le_of_ble_eq_true rfl) (pfx_eq kh1) rfl rfl (Nat.le_of_ble_eq_true rfl) rfl (dx dX7_told 28 rfl) ?_
                    rintro _ ⟨x18, rfl⟩
                    refine r_cvW (as := [vi (nI q), vi x18]) (st := [vi x4]) C X I_X7_worksOf l_X7_250 (c_X7_worksOf mh1 (m := q) (by omega) _) (by decide) (Nat.le_of_ble_eq_true rfl) (pfx_eq kh1) rfl rfl (Nat.le_of_ble_eq_true rfl) rfl (dx dX7_told 29 rfl) ?_
                    rintro _ ⟨x19, rfl⟩
                    refine rb_eq (b := x19) (tgt := 65) C (dx dX7_told 30 rfl) (by decide) (fun c20 => ?_) (fun c20 => ?_)
                    ·
                      have c20 : x19 = false := c20
                      refine r_iconst (v := nI 0) C (dx dX7_told 36 rfl) rfl ?_
                      refine r_iadd C (dx dX7_told 37 rfl) ?_
                      refine r_istore (ls' := [(0, vr 7 k), (1, vi (nI σ)), (2, vi (nI ν)), (3, vi (tfV g (nI σ) (nI ν))), (4, vi (x4 + (nI 0))), (5, vi (nI p)), (6, vi (nI q))]) C (dx dX7_told 38 rfl) (by decide) [1, 2, 3, 4, 0, 5, 6] rfl ?_
                      refine rn_iinc (a := q) (k := 1) (ls' := [(0, vr 7 k), (1, vi (nI σ)), (2, vi (nI ν)), (3, vi (tfV g (nI σ) (nI ν))), (4, vi (x4 + (nI 0))), (5, vi (nI p)), (6, vi (nI (q + 1)))]) C (dx dX7_told 39 rfl) rfl rfl (by decide) [1, 2, 3, 4, 5, 6, 0] rfl ?_
                      refine r_goto (tgt := 28) C (dx dX7_told 40 rfl) (by decide) ?_
                      exact ihq (x4 + (nI 0))
                    ·
                      have c20 : x19 = true := c20
                      refine r_aload_n C (dx dX7_told 31 rfl) rfl ?_
                      refine g_X7_49 C (dx dX7_told 32 rfl) ?_
                      refine r_iload C (dx dX7_told 33 rfl) rfl ?_
                      refine r_iald (j := q) (x := vF v 3 q) C rfl rfl (by decide) rfl (by omega) (dx dX7_told 34 rfl) (mh1.e3 (by omega)) ?_
                      refine r_goto (tgt := 66) C (dx dX7_told 35 rfl) (by decide) ?_
                      refine r_iadd C (dx dX7_told 37 rfl) ?_
                      refine r_istore (ls' := [(0, vr 7 k), (1, vi (nI σ)), (2, vi (nI ν)), (3, vi (tfV g (nI σ) (nI ν))), (4, vi (x4 + (vF v 3 q))), (5, vi (nI p)), (6, vi (nI q))]) C (dx dX7_told 38 rfl) (by decide) [1, 2, 3, 4, 0, 5, 6] rfl ?_
                      refine rn_iinc (a := q) (k := 1) (ls' := [(0, vr 7 k), (1, vi (nI σ)), (2, vi (nI ν)), (3, vi (tfV g (nI σ) (nI ν))), (4, vi (x4 + (vF v 3 q))), (5, vi (nI p)), (6, vi (nI (q + 1)))]) C (dx dX7_told 39 rfl) rfl rfl (by decide) [1, 2, 3, 4, 5, 6, 0] rfl ?_
                      refine r_goto (tgt := 28) C (dx dX7_told 40 rfl) (by decide) ?_
                      exact ihq (x4 + (vF v 3 q))))
  ·
    have c2 : ¬ tfV g s n = 0 := c2
    refine r_iload_n C (dx dX7_told 7 rfl) rfl ?_
    exact F.1 _ _ _ _ .int rfl rfl (dx dX7_told 8 rfl) kh1 ⟨⟨_, rfl⟩, mh1, ph1⟩

set_option maxHeartbeats 4000000 in
theorem v_X7_status {l : Launch} {h : Hp} {k : Nat} {v : Vg} (hm : MilAt h k v) (x : Int32) : Ms l yX7_status cX7_status 4 (some .int) 8 [vr 7 k, vi x] h (xK h) (fun r h' => PI r ∧ MilAt h' k v ∧ Kp k h h') := by
  refine Ms.of (by decide) (Nat.le_of_ble_eq_true rfl) (fun G C X F => ?_)
  have C : Cx G cX7_status 4 RX7 := C
  show Rr G 0 [(0, vr 7 k), (1, vi x)] [] h
  have bP := hm.bP
  have bM := hm.bM
  have bN := hm.bN
  refine r_iconst (v := nI 0) C (dx dX7_status 0 rfl) rfl ?_
  refine r_istore_n (ls' := [(0, vr 7 k), (1, vi x), (2, vi (nI 0))]) C (dx dX7_status 1 rfl) (by decide) [1, 2, 0] rfl ?_
  refine r_iload_n C (dx dX7_status 2 rfl) rfl ?_
  rcases sw_c 10 x with ⟨j9, hj9, e9⟩ | e9
  · rcases (show j9 = 0 ∨ j9 = 1 ∨ j9 = 2 ∨ j9 = 3 ∨ j9 = 4 ∨ j9 = 5 ∨ j9 = 6 ∨ j9 = 7 ∨ j9 = 8 ∨ j9 = 9 by omega) with e8 | e8 | e8 | e8 | e8 | e8 | e8 | e8 | e8 | e8
    ·
      rw [e8] at e9; subst e9
      refine r_tabIn (off := 53) (tgt := 56) C (dx dX7_status 3 rfl) (by decide) (by decide) (by decide) (by decide) ?_
      refine r_aload_n C (dx dX7_status 4 rfl) rfl ?_
      refine g_X7_64 (x := nI (vP v)) C (dx dX7_status 5 rfl) hm.eP ?_
      exact F.1 _ _ _ _ .int rfl rfl (dx dX7_status 6 rfl) rfl ⟨⟨_, rfl⟩, hm, Kp.rf⟩
    ·
      rw [e8] at e9; subst e9
      refine r_tabIn (off := 58) (tgt := 61) C (dx dX7_status 3 rfl) (by decide) (by decide) (by decide) (by decide) ?_
      refine r_aload_n C (dx dX7_status 7 rfl) rfl ?_
      refine g_X7_71 (x := nI (vM v)) C (dx dX7_status 8 rfl) hm.eM ?_
      exact F.1 _ _ _ _ .int rfl rfl (dx dX7_status 9 rfl) rfl ⟨⟨_, rfl⟩, hm, Kp.rf⟩
    ·
      rw [e8] at e9; subst e9
      refine r_tabIn (off := 63) (tgt := 66) C (dx dX7_status 3 rfl) (by decide) (by decide) (by decide) (by decide) ?_
      refine r_aload_n C (dx dX7_status 10 rfl) rfl ?_
      refine g_X7_74 (x := nI (vN v)) C (dx dX7_status 11 rfl) hm.eN ?_
      exact F.1 _ _ _ _ .int rfl rfl (dx dX7_status 12 rfl) rfl ⟨⟨_, rfl⟩, hm, Kp.rf⟩
    ·
      rw [e8] at e9; subst e9
      refine r_tabIn (off := 68) (tgt := 71) C (dx dX7_status 3 rfl) (by decide) (by decide) (by decide) (by decide) ?_
      refine r_aload_n C (dx dX7_status 13 rfl) rfl ?_
      refine r_cvW (as := []) (st := []) C X I_X7_crossOnes l_X7_322 (c_X7_crossOnes hm) (by decide) (Nat.le_of_ble_eq_true rfl) List.prefix_rfl rfl rfl (Nat.le_of_ble_eq_true rfl) rfl (dx dX7_status 14 rfl) ?_
      rintro _ ⟨x1, rfl⟩
      refine r_csW (as := [vi x1]) (st := []) C X I_X7_bits l_X7_268 (c_X7_bits _) (by decide) (Nat.le_of_ble_eq_true rfl) List.prefix_rfl (Nat.le_of_ble_eq_true rfl) rfl (dx dX7_status 15 rfl) ?_
      rintro _ ⟨x2, hx2, rfl⟩
      exact F.1 _ _ _ _ .int rfl rfl (dx dX7_status 16 rfl) rfl ⟨⟨_, rfl⟩, hm, Kp.rf⟩
    ·
      rw [e8] at e9; subst e9
      refine r_tabIn (off := 76) (tgt := 79) C (dx dX7_status 3 rfl) (by decide) (by decide) (by decide) (by decide) ?_
      refine r_iconst (v := nI 0) C (dx dX7_status 17 rfl) rfl ?_
      refine r_istore_n (ls' := [(0, vr 7 k), (1, vi (nI 4)), (2, vi (nI 0)), (3, vi (nI 0))]) C (dx dX7_status 18 rfl) (by decide) [1, 2, 3, 0] rfl ?_
      refine loopU (Φ := fun p => ∀ (x2 : Int32), Rr G 81 [(0, vr 7 k), (1, vi (nI 4)), (2, vi x2), (3, vi (nI p))] [] h) (N := vN v) ?_ ?_ 0 (by omega) (nI 0)
      ·
        intro  x2
        refine r_iload_n C (dx dX7_status 19 rfl) rfl ?_
        refine r_aload_n C (dx dX7_status 20 rfl) rfl ?_
        refine g_X7_74 (x := nI (vN v)) C (dx dX7_status 21 rfl) hm.eN ?_
        refine rn_ge (a := vN v) (b := vN v) (tgt := 103) C (by omega) (by omega) (dx dX7_status 22 rfl) (by decide) (fun c3 => ?_) (fun c3 => ?_)
        · first
          | (omega; done)
          | (
              have c3 : vN v ≤ vN v := c3
              refine r_iload_n C (dx dX7_status 31 rfl) rfl ?_
              exact F.1 _ _ _ _ .int rfl rfl (dx dX7_status 32 rfl) rfl ⟨⟨_, rfl⟩, hm, Kp.rf⟩)
        · first
          | (omega; done)
      ·
        intro p hp ihp x2
        refine r_iload_n C (dx dX7_status 19 rfl) rfl ?_
        refine r_aload_n C (dx dX7_status 20 rfl) rfl ?_
        refine g_X7_74 (x := nI (vN v)) C (dx dX7_status 21 rfl) hm.eN ?_
        refine rn_ge (a := p) (b := vN v) (tgt := 103) C (by omega) (by omega) (dx dX7_status 22 rfl) (by decide) (fun c5 => ?_) (fun c5 => ?_)
        · first
          | (omega; done)
          | (
              have c5 : vN v ≤ p := c5
              refine r_iload_n C (dx dX7_status 31 rfl) rfl ?_
              exact F.1 _ _ _ _ .int rfl rfl (dx dX7_status 32 rfl) rfl ⟨⟨_, rfl⟩, hm, Kp.rf⟩)
        · first
          | (omega; done)
          | (
              have c5 : p < vN v := c5
              refine r_iload_n C (dx dX7_status 23 rfl) rfl ?_
              refine r_aload_n C (dx dX7_status 24 rfl) rfl ?_
              refine r_iload_n C (dx dX7_status 25 rfl) rfl ?_
              refine r_cvW (as := [vi (nI p)]) (st := [vi x2]) C X I_X7_piecesOf l_X7_129 (c_X7_piecesOf hm _) (by decide) (Nat.le_of_ble_eq_true rfl) List.prefix_rfl rfl rfl (Nat.le_of_ble_eq_true rfl) rfl (dx dX7_status 26 rfl) ?_
              rintro _ ⟨x6, rfl⟩
              refine r_iadd C (dx dX7_status 27 rfl) ?_
              refine r_istore_n (ls' := [(0, vr 7 k), (1, vi (nI 4)), (2, vi (x2 + x6)), (3, vi (nI p))]) C (dx dX7_status 28 rfl) (by decide) [1, 2, 0, 3] rfl ?_
              refine rn_iinc (a := p) (k := 1) (ls' := [(0, vr 7 k), (1, vi (nI 4)), (2, vi (x2 + x6)), (3, vi (nI (p + 1)))]) C (dx dX7_status 29 rfl) rfl rfl (by decide) [1, 2, 3, 0] rfl ?_
              refine r_goto (tgt := 81) C (dx dX7_status 30 rfl) (by decide) ?_
              exact ihp (x2 + x6))
    ·
      rw [e8] at e9; subst e9
      refine r_tabIn (off := 102) (tgt := 105) C (dx dX7_status 3 rfl) (by decide) (by decide) (by decide) (by decide) ?_
      refine r_aload_n C (dx dX7_status 33 rfl) rfl ?_
      refine g_X7_339 (x := xI h k 18) C (dx dX7_status 34 rfl) rfl ?_
      exact F.1 _ _ _ _ .int rfl rfl (dx dX7_status 35 rfl) rfl ⟨⟨_, rfl⟩, hm, Kp.rf⟩
    ·
      rw [e8] at e9; subst e9
      refine r_tabIn (off := 107) (tgt := 110) C (dx dX7_status 3 rfl) (by decide) (by decide) (by decide) (by decide) ?_
      refine r_aload_n C (dx dX7_status 36 rfl) rfl ?_
      refine g_X7_347 (x := xI h k 19) C (dx dX7_status 37 rfl) rfl ?_
      exact F.1 _ _ _ _ .int rfl rfl (dx dX7_status 38 rfl) rfl ⟨⟨_, rfl⟩, hm, Kp.rf⟩
    ·
      rw [e8] at e9; subst e9
      refine r_tabIn (off := 112) (tgt := 115) C (dx dX7_status 3 rfl) (by decide) (by decide) (by decide) (by decide) ?_
      refine r_aload_n C (dx dX7_status 39 rfl) rfl ?_
      refine g_X7_138 (x := xI h k 8) C (dx dX7_status 40 rfl) rfl ?_
      exact F.1 _ _ _ _ .int rfl rfl (dx dX7_status 41 rfl) rfl ⟨⟨_, rfl⟩, hm, Kp.rf⟩
    ·
      rw [e8] at e9; subst e9
      refine r_tabIn (off := 117) (tgt := 120) C (dx dX7_status 3 rfl) (by decide) (by decide) (by decide) (by decide) ?_
      refine r_aload_n C (dx dX7_status 42 rfl) rfl ?_
      refine g_X7_57 (x := vS v) C (dx dX7_status 43 rfl) hm.eS ?_
      exact F.1 _ _ _ _ .int rfl rfl (dx dX7_status 44 rfl) rfl ⟨⟨_, rfl⟩, hm, Kp.rf⟩
    ·
      rw [e8] at e9; subst e9
      refine r_tabIn (off := 122) (tgt := 125) C (dx dX7_status 3 rfl) (by decide) (by decide) (by decide) (by decide) ?_
      refine r_iconst (v := nI 0) C (dx dX7_status 45 rfl) rfl ?_
      refine r_istore_n (ls' := [(0, vr 7 k), (1, vi (nI 9)), (2, vi (nI 0)), (3, vi (nI 0))]) C (dx dX7_status 46 rfl) (by decide) [1, 2, 3, 0] rfl ?_
      refine loopU (Φ := fun p => ∀ (x2 : Int32), Rr G 127 [(0, vr 7 k), (1, vi (nI 9)), (2, vi x2), (3, vi (nI p))] [] h) (N := 8) ?_ ?_ 0 (by omega) (nI 0)
      ·
        intro  x2
        refine r_iload_n C (dx dX7_status 47 rfl) rfl ?_
        refine r_bipush (v := nI 8) C (dx dX7_status 48 rfl) rfl ?_
        refine rn_ge (a := 8) (b := 8) (tgt := 156) C (by omega) (by omega) (dx dX7_status 49 rfl) (by decide) (fun c7 => ?_) (fun c7 => ?_)
        · first
          | (omega; done)
          | (
              have c7 : 8 ≤ 8 := c7
              refine r_iload_n C (dx dX7_status 63 rfl) rfl ?_
              exact F.1 _ _ _ _ .int rfl rfl (dx dX7_status 64 rfl) rfl ⟨⟨_, rfl⟩, hm, Kp.rf⟩)
        · first
          | (omega; done)
      ·
        intro p hp ihp x2
        refine r_iload_n C (dx dX7_status 47 rfl) rfl ?_
        refine r_bipush (v := nI 8) C (dx dX7_status 48 rfl) rfl ?_
        refine rn_ge (a := p) (b := 8) (tgt := 156) C (by omega) (by omega) (dx dX7_status 49 rfl) (by decide) (fun c9 => ?_) (fun c9 => ?_)
        · first
          | (omega; done)
          | (
              have c9 : 8 ≤ p := c9
              refine r_iload_n C (dx dX7_status 63 rfl) rfl ?_
              exact F.1 _ _ _ _ .int rfl rfl (dx dX7_status 64 rfl) rfl ⟨⟨_, rfl⟩, hm, Kp.rf⟩)
        · first
          | (omega; done)
          | (
              have c9 : p < 8 := c9
              refine r_iload_n C (dx dX7_status 50 rfl) rfl ?_
              refine r_aload_n C (dx dX7_status 51 rfl) rfl ?_
              refine g_X7_7 C (dx dX7_status 52 rfl) ?_
              refine r_iload_n C (dx dX7_status 53 rfl) rfl ?_
              refine r_iald (j := p) (x := xI h (k + 1) p) C rfl rfl (by decide) rfl (by omega) (dx dX7_status 54 rfl) rfl ?_
              refine r_if_eq (tgt := 147) C (dx dX7_status 55 rfl) (by decide) (fun c10 => ?_) (fun c10 => ?_)
              ·
                have c10 : xI h (k + 1) p = 0 := c10
                refine r_iconst (v := nI 0) C (dx dX7_status 58 rfl) rfl ?_
                refine r_iadd C (dx dX7_status 59 rfl) ?_
                refine r_istore_n (ls' := [(0, vr 7 k), (1, vi (nI 9)), (2, vi (x2 + (nI 0))), (3, vi (nI p))]) C (dx dX7_status 60 rfl) (by decide) [1, 2, 0, 3] rfl ?_
                refine rn_iinc (a := p) (k := 1) (ls' := [(0, vr 7 k), (1, vi (nI 9)), (2, vi (x2 + (nI 0))), (3, vi (nI (p + 1)))]) C (dx dX7_status 61 rfl) rfl rfl (by decide) [1, 2, 3, 0] rfl ?_
                refine r_goto (tgt := 127) C (dx dX7_status 62 rfl) (by decide) ?_
                exact ihp (x2 + (nI 0))
              ·
                have c10 : ¬ xI h (k + 1) p = 0 := c10
                refine r_iconst (v := nI 1) C (dx dX7_status 56 rfl) rfl ?_
                refine r_goto (tgt := 148) C (dx dX7_status 57 rfl) (by decide) ?_
                refine r_iadd C (dx dX7_status 59 rfl) ?_
                refine r_istore_n (ls' := [(0, vr 7 k), (1, vi (nI 9)), (2, vi (x2 + (nI 1))), (3, vi (nI p))]) C (dx dX7_status 60 rfl) (by decide) [1, 2, 0, 3] rfl ?_
                refine rn_iinc (a := p) (k := 1) (ls' := [(0, vr 7 k), (1, vi (nI 9)), (2, vi (x2 + (nI 1))), (3, vi (nI (p + 1)))]) C (dx dX7_status 61 rfl) rfl rfl (by decide) [1, 2, 3, 0] rfl ?_
                refine r_goto (tgt := 127) C (dx dX7_status 62 rfl) (by decide) ?_
                exact ihp (x2 + (nI 1)))
  ·
    refine r_tabOut (tgt := 158) C (dx dX7_status 3 rfl) (by omega) (by decide) ?_
    refine r_iload_n C (dx dX7_status 65 rfl) rfl ?_
    refine r_i2l C (dx dX7_status 66 rfl) ?_
    refine r_ldc2 C n_X7_357 (dx dX7_status 67 rfl) ?_
    refine r_ldc2 C n_X7_359 (dx dX7_status 68 rfl) ?_
    refine r_csP (as := [vl x.toInt64, vl 12, vl 16]) (st := []) (v := vi (b2i (btwB x 12 16))) C X I_X7_in l_X7_67 (c_inB (a := 12) (b := 16) (by decide) (by decide)) (by decide) (Nat.le_of_ble_eq_true rfl) List.prefix_rfl (Nat.le_of_ble_eq_true rfl) rfl (dx dX7_status 69 rfl) ?_
    refine rb_eq (b := btwB x 12 16) (tgt := 184) C (dx dX7_status 70 rfl) (by decide) (fun c11 => ?_) (fun c11 => ?_)
    ·
      have c11 : (btwB x 12 16) = false := c11
      refine r_iconst (v := -1) C (dx dX7_status 78 rfl) rfl ?_
      exact F.1 _ _ _ _ .int rfl rfl (dx dX7_status 79 rfl) rfl ⟨⟨_, rfl⟩, hm, Kp.rf⟩
    ·
      have c11 : (btwB x 12 16) = true := c11
      obtain ⟨x9, hx9, hx92, rfl⟩ := btw_ex (a := 12) (b := 16) (by omega) (by omega) c11
      refine r_aload_n C (dx dX7_status 71 rfl) rfl ?_
      refine g_X7_37 C (dx dX7_status 72 rfl) ?_
      refine r_iload_n C (dx dX7_status 73 rfl) rfl ?_
      refine r_bipush (v := nI 10) C (dx dX7_status 74 rfl) rfl ?_
      refine rn_isub (a := x9) (b := 10) C (by omega) (dx dX7_status 75 rfl) ?_
      refine r_iald (j := x9 - 10) (x := xI h (k + 17) (x9 - 10)) C rfl rfl (by decide) rfl (by omega) (dx dX7_status 76 rfl) rfl ?_
      refine r_goto (tgt := 185) C (dx dX7_status 77 rfl) (by decide) ?_
      exact F.1 _ _ _ _ .int rfl rfl (dx dX7_status 79 rfl) rfl ⟨⟨_, rfl⟩, hm, Kp.rf⟩

