/-! PART 57b: answers that both give by the same function -/
theorem prtB_e {v : Vg} {p x : Int32} : prtB v p x = (inR p (vP v) && inR x 2) := by rw [← btw_R (b := 1) (by omega), btw9]; rfl
set_option maxHeartbeats 4000000 in
theorem e_partOf {l : Launch} {h : Hp} {k : Nat} {v : Vg} (hm : MilAt h k v) (p x : Int32) : Ms l yX7_partOf cX7_partOf 3 (some .int) 4 [vr 7 k, vi p, vi x] h (xK h) (fun r h' => r = some (vi (prtA v p x)) ∧ MilAt h' k v ∧ Kp k h h') := by
  refine Ms.of (by decide) (Nat.le_of_ble_eq_true rfl) (fun G C X F => ?_)
  have C : Cx G cX7_partOf 3 RX7 := C
  show Rr G 0 [(0, vr 7 k), (1, vi p), (2, vi x)] [] h
  have bP := hm.bP
  have bM := hm.bM
  have bN := hm.bN
  refine r_aload_n C (dx dX7_partOf 0 rfl) rfl ?_
  refine r_iload_n C (dx dX7_partOf 1 rfl) rfl ?_
  refine r_cvP (as := [vi p]) (st := []) (v := vi (b2i (inR p (vP v)))) C X I_X7_isPart l_X7_132 (c_X7_isPart hm _) (by decide) (Nat.le_of_ble_eq_true rfl) List.prefix_rfl rfl rfl (Nat.le_of_ble_eq_true rfl) rfl (dx dX7_partOf 2 rfl) ?_
  refine rb_eq (b := inR p (vP v)) (tgt := 18) C (dx dX7_partOf 3 rfl) (by decide) (fun c1 => ?_) (fun c1 => ?_)
  ·
    have c1 : (inR p (vP v)) = false := c1
    refine r_aload_n C (dx dX7_partOf 10 rfl) rfl ?_
    refine r_bipush (v := -2) C (dx dX7_partOf 11 rfl) rfl ?_
    refine r_cv (as := [vi (-2)]) (st := []) C X I_X7_refuse l_X7_83 (e_refuse hm (x := -2) (j := 2) (by decide) (by decide)) (by decide) (Nat.le_of_ble_eq_true rfl) List.prefix_rfl List.prefix_rfl rfl rfl (Nat.le_of_ble_eq_true rfl) rfl (dx dX7_partOf 12 rfl) ?_
    rintro _ h2 ⟨rfl, m9h2, qh2⟩ kkh2
    have mh2 : MilAt h2 k v := m9h2
    have ph2 : Kp k h h2 := qh2
    have kh2 : xK h2 = xK h := kkh2
    have eA : prtA v p x = -2 := by (simp [prtA, prtB_e, show inR 0 2 = true by decide, c1] <;> rfl)
    exact F.1 _ _ _ _ .int rfl rfl (dx dX7_partOf 13 rfl) kh2 ⟨by (rw [eA]; first | done | rfl), by exact mh2, ph2⟩
  ·
    have c1 : (inR p (vP v)) = true := c1
    obtain ⟨π, hπ, rfl⟩ := inR_ex (n := (vP v)) (by omega) c1
    refine r_iload_n C (dx dX7_partOf 4 rfl) rfl ?_
    refine r_i2l C (dx dX7_partOf 5 rfl) ?_
    refine r_lconst (v := 0) C (dx dX7_partOf 6 rfl) rfl ?_
    refine r_lconst (v := 1) C (dx dX7_partOf 7 rfl) rfl ?_
    refine r_csP (as := [vl x.toInt64, vl 0, vl 1]) (st := []) (v := vi (b2i (inR x 2))) C X I_X7_in l_X7_67 (c_inR (b := 1) (by decide) (by decide)) (by decide) (Nat.le_of_ble_eq_true rfl) List.prefix_rfl (Nat.le_of_ble_eq_true rfl) rfl (dx dX7_partOf 8 rfl) ?_
    refine rb_ne (b := inR x 2) (tgt := 25) C (dx dX7_partOf 9 rfl) (by decide) (fun c3 => ?_) (fun c3 => ?_)
    ·
      have c3 : (inR x 2) = true := c3
      refine r_iload_n C (dx dX7_partOf 14 rfl) rfl ?_
      refine r_if_ne (tgt := 38) C (dx dX7_partOf 15 rfl) (by decide) (fun c4 => ?_) (fun c4 => ?_)
      ·
        have c4 : ¬ x = 0 := c4
        refine r_aload_n C (dx dX7_partOf 21 rfl) rfl ?_
        refine g_X7_43 C (dx dX7_partOf 22 rfl) ?_
        refine r_iload_n C (dx dX7_partOf 23 rfl) rfl ?_
        refine r_iald (j := π) (x := vF v 1 π) C rfl rfl (by decide) rfl (by omega) (dx dX7_partOf 24 rfl) (hm.e1 (by omega)) ?_
        have eA : prtA v (nI π) x = vF v 1 π := by (simp [prtA, prtB_e, show inR 0 2 = true by decide, clN (show π < 2 ^ 31 by omega), c1, c3, c4] <;> rfl)
        exact F.1 _ _ _ _ .int rfl rfl (dx dX7_partOf 25 rfl) rfl ⟨by (rw [eA]; first | done | rfl), by exact hm, Kp.rf⟩
      ·
        have c4 : x = 0 := c4
        refine r_aload_n C (dx dX7_partOf 16 rfl) rfl ?_
        refine g_X7_40 C (dx dX7_partOf 17 rfl) ?_
        refine r_iload_n C (dx dX7_partOf 18 rfl) rfl ?_
        refine r_iald (j := π) (x := vF v 0 π) C rfl rfl (by decide) rfl (by omega) (dx dX7_partOf 19 rfl) (hm.e0 (by omega)) ?_
        refine r_goto (tgt := 44) C (dx dX7_partOf 20 rfl) (by decide) ?_
        have eA : prtA v (nI π) x = vF v 0 π := by (simp [prtA, prtB_e, show inR 0 2 = true by decide, clN (show π < 2 ^ 31 by omega), c1, c3, c4] <;> rfl)
        exact F.1 _ _ _ _ .int rfl rfl (dx dX7_partOf 25 rfl) rfl ⟨by (rw [eA]; first | done | rfl), by exact hm, Kp.rf⟩
    ·
      have c3 : (inR x 2) = false := c3
      refine r_aload_n C (dx dX7_partOf 10 rfl) rfl ?_
      refine r_bipush (v := -2) C (dx dX7_partOf 11 rfl) rfl ?_
      refine r_cv (as := [vi (-2)]) (st := []) C X I_X7_refuse l_X7_83 (e_refuse hm (x := -2) (j := 2) (by decide) (by decide)) (by decide) (Nat.le_of_ble_eq_true rfl) List.prefix_rfl List.prefix_rfl rfl rfl (Nat.le_of_ble_eq_true rfl) rfl (dx dX7_partOf 12 rfl) ?_
      rintro _ h5 ⟨rfl, m9h5, qh5⟩ kkh5
      have mh5 : MilAt h5 k v := m9h5
      have ph5 : Kp k h h5 := qh5
      have kh5 : xK h5 = xK h := kkh5
      have eA : prtA v (nI π) x = -2 := by (simp [prtA, prtB_e, show inR 0 2 = true by decide, clN (show π < 2 ^ 31 by omega), c1, c3] <;> rfl)
      exact F.1 _ _ _ _ .int rfl rfl (dx dX7_partOf 13 rfl) kh5 ⟨by (rw [eA]; first | done | rfl), by exact mh5, ph5⟩
