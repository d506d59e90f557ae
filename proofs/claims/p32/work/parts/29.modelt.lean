/-! PART 29: the reference: rows copied, told days, the tape fed -/
theorem MshAt.mv {h h1 : Hp} {k : Nat} {g : Sg} (a : MshAt h k g) (f : Fr (k + 13) (k + 14) h h1) : MshAt h1 k g := fun s hs => by
  rcases a s hs with ⟨a1, a2⟩ | ⟨t, n, a1, a2, a3, a4, a5, a6, a7, a8⟩ | ⟨κ, b, a1, a2, a3, a4, a5, a6, a7, a8⟩
  · exact Or.inl ⟨(f.I (by omega) _).trans a1, a2⟩
  · exact Or.inr (Or.inl ⟨t, n, a1, a2, (f.I (by omega) _).trans a3, (f.I (by omega) _).trans a4, (f.I (by omega) _).trans a5, a6, a7, fun i hi => (f.L (by omega) i).trans (a8 i hi)⟩)
  · exact Or.inr (Or.inr ⟨κ, b, a1, a2, a3, (f.I (by omega) _).trans a4, (f.I (by omega) _).trans a5, (f.I (by omega) _).trans a6, a7, a8⟩)
theorem MsR.fr {h h1 : Hp} {k s : Nat} {g : Sg} (a : MsR h k g s) (hs : s < 8) (f : Fr (k + 13) (k + 14) h h1) : MsR h1 k g s := by
  obtain ⟨t, n, a1, a2, a3, a4, a5, a6, a7, a8⟩ := a
  exact ⟨t, n, a1, a2, (f.I (by omega) _).trans a3, (f.I (by omega) _).trans a4, (f.I (by omega) _).trans a5, a6, a7, fun i hi => (f.L (by omega) i).trans (a8 i hi)⟩
theorem cp_row {g : Sg} {p q : Int32} {z1 z2 i j n : Nat} (e1 : szV g p = nI z1) (e2 : szV g q = nI z2) (h1 : z1 ≤ 40) (h2 : z2 ≤ 40) (hi : i < 2 ^ 31) (hj : j < 2 ^ 31) (hn : n < 2 ^ 31) : cpOk g p q (nI i) (nI j) (nI n) = decide (i + n ≤ z1 ∧ j + n ≤ z2) := by
  have key : ∀ a z : Nat, a < 2 ^ 31 → z ≤ 40 → (nI a ≤ nI z - nI n ↔ a + n ≤ z) := fun a z ha hz => by
    rw [Int32.le_iff_toInt_le, nI_toInt ha]
    have e2 : (nI z - nI n).toInt = (z : Int) - n := by
      rw [Int32.toInt_sub, nI_toInt (by omega), nI_toInt hn]
      exact Int.bmod_eq_of_le (by omega) (by omega)
    rw [e2]; omega
  unfold cpOk
  rw [e1, e2, decide_eq_true (nI_pos hn), decide_eq_true (nI_pos hi), decide_eq_true (nI_pos hj), decide_eq_decide.mpr (key i z1 hi h1), decide_eq_decide.mpr (key j z2 hj h2), Bool.true_and, Bool.true_and, Bool.true_and, ← Bool.decide_and]
theorem cp2_step {E F G9 : Nat → Int64} {ξ ι p : Nat} (q : ∀ i, i < 40 → E i = if ξ ≤ i ∧ i < ξ + p then F (ι + (i - ξ)) else G9 i) : ∀ i, i < 40 → (if i = ξ + p then F (ι + p) else E i) = if ξ ≤ i ∧ i < ξ + (p + 1) then F (ι + (i - ξ)) else G9 i := fun i hi => by
  by_cases e : i = ξ + p
  · subst e
    rw [if_pos rfl, if_pos ⟨by omega, by omega⟩, show ξ + p - ξ = p by omega]
  · rw [if_neg e, q i hi]
    by_cases c : ξ ≤ i ∧ i < ξ + p
    · rw [if_pos c, if_pos ⟨c.1, by omega⟩]
    · rw [if_neg c, if_neg (by omega)]
theorem tf_no {g : Sg} {s n : Int32} (h1 : inR s 8 = true) (h2 : inR n 21 = true) (c : ¬ nrA g s = 0) : tfV g s n = nrA g s := by
  unfold nrA at c ⊢
  unfold tfV
  rw [if_pos h1] at c ⊢
  rw [if_pos ⟨h1, h2⟩, if_neg c]
theorem tf_row {g : Sg} {σ n z : Nat} (hσ : σ < 8) (hn : n < 21) (e : rfV g (nI σ) = nI 0) (ez : szV g (nI σ) = nI z) (hz : z ≤ 40) : tfV g (nI σ) (nI n) = if n ≤ z then nI 0 else -2 := by
  unfold tfV
  rw [if_pos ⟨inN (by omega) hσ, inN (by omega) hn⟩, e, ez, if_pos (show nI 0 = 0 from rfl)]
  by_cases h : n ≤ z
  · rw [if_pos h, if_pos ((nI_leI (by omega) (by omega)).mpr h)]
  · rw [if_neg h, if_neg (fun q => h ((nI_leI (by omega) (by omega)).mp q))]
theorem tf_ok2 {g : Sg} {s n : Int32} (h : tfV g s n = 0) : ∃ σ, σ < 8 ∧ ∃ ν, ν < 21 ∧ s = nI σ ∧ n = nI ν := by
  unfold tfV at h
  split at h
  · next c =>
    obtain ⟨σ, hσ, rfl⟩ := inR_ex (by omega) c.1
    obtain ⟨ν, hν, rfl⟩ := inR_ex (by omega) c.2
    exact ⟨σ, hσ, ν, hν, rfl, rfl⟩
  · exact absurd h (by decide)
theorem tf_in {g : Sg} {s n : Int32} (h : ¬ (inR s 8 = true ∧ inR n 21 = true)) : tfV g s n = -2 := by unfold tfV; rw [if_neg h]
/-- what feeding changes -/
def TC (k b : Nat) : Prop := b = k ∨ b = k + 16 ∨ b = k + 17
theorem TC.lo {k b : Nat} (q : TC k b) : k ≤ b ∧ b < k + 32 := by unfold TC at q; omega
theorem Kp.tc {k : Nat} {h h1 : Hp} (f : Fr (k + 17) (k + 18) h h1) : Fs (TC k) h h1 := f.fs.mono (fun b q => by unfold TC; omega)
set_option maxHeartbeats 4000000 in
theorem c_X7_copy {l : Launch} {h : Hp} {k : Nat} {v : Vg} {g : Sg} (hm : MilAt h k v) (hs : MshAt h k g) (p q i j n : Int32) : Ms l yX7_copy cX7_copy 7 (some .int) 4 [vr 7 k, vi p, vi q, vi i, vi j, vi n] h (xK h) (fun r h' => r = some (vi (copA g p q i j n)) ∧ (∃ v', MilAt h' k v') ∧ MshAt h' k (copG g p q i j n) ∧ Ks k h h') := by
  refine Ms.of (by decide) (Nat.le_of_ble_eq_true rfl) (fun G C X F => ?_)
  have C : Cx G cX7_copy 7 RX7 := C
  show Rr G 0 [(0, vr 7 k), (1, vi p), (2, vi q), (3, vi i), (4, vi j), (5, vi n)] [] h
  have bP := hm.bP
  have bM := hm.bM
  have bN := hm.bN
  refine r_iload_n C (dx dX7_copy 0 rfl) rfl ?_
  refine r_i2l C (dx dX7_copy 1 rfl) ?_
  refine r_lconst (v := 0) C (dx dX7_copy 2 rfl) rfl ?_
  refine r_ldc2 C n_X7_77 (dx dX7_copy 3 rfl) ?_
  refine r_csP (as := [vl p.toInt64, vl 0, vl 7]) (st := []) (v := vi (b2i (inR p 8))) C X I_X7_in l_X7_67 (c_inR (b := 7) (by decide) (by decide)) (by decide) (Nat.le_of_ble_eq_true rfl) List.prefix_rfl (Nat.le_of_ble_eq_true rfl) rfl (dx dX7_copy 4 rfl) ?_
  refine rb_eq (b := inR p 8) (tgt := 24) C (dx dX7_copy 5 rfl) (by decide) (fun c1 => ?_) (fun c1 => ?_)
  ·
    have c1 : (inR p 8) = false := c1
    refine r_aload_n C (dx dX7_copy 12 rfl) rfl ?_
    refine r_bipush (v := -2) C (dx dX7_copy 13 rfl) rfl ?_
    refine r_cv (as := [vi (-2)]) (st := []) C X I_X7_refuse l_X7_83 (c_X7_refuse hm (x := -2) (j := 2) (by decide) (by decide)) (by decide) (Nat.le_of_ble_eq_true rfl) List.prefix_rfl List.prefix_rfl rfl rfl (Nat.le_of_ble_eq_true rfl) rfl (dx dX7_copy 14 rfl) ?_
    rintro _ h2 ⟨rfl, ⟨wh2, m9h2, s9h2⟩, qh2⟩ kkh2
    obtain ⟨vh2, mh2, zh2⟩ : ∃ v9, MilAt h2 k v9 ∧ Sz v v9 := ⟨_, m9h2, s9h2⟩
    have ph2 : Kp k h h2 := qh2
    have kh2 : xK h2 = xK h := kkh2
    obtain ⟨ah2, bh2, ch2⟩ := zh2
    have eA : copA g p q i j n = -2 := by simp [copA, copG, copF, cpOk, c1]
    have eG : copG g p q i j n = g := by simp [copA, copG, copF, cpOk, c1]
    exact F.1 _ _ _ _ _ rfl rfl (dx dX7_copy 15 rfl) kh2 (show some (vi (-2)) = some (vi (copA g p q i j n)) ∧ (∃ v', MilAt h2 k v') ∧ MshAt h2 k (copG g p q i j n) ∧ Ks k h h2 from by rw [eA, eG]; exact ⟨rfl, ⟨_, mh2⟩, hs.kp ph2, ph2.ks⟩)
  ·
    have c1 : (inR p 8) = true := c1
    obtain ⟨π, hπ, rfl⟩ := inR_ex (n := 8) (by omega) c1
    refine r_iload_n C (dx dX7_copy 6 rfl) rfl ?_
    refine r_i2l C (dx dX7_copy 7 rfl) ?_
    refine r_lconst (v := 0) C (dx dX7_copy 8 rfl) rfl ?_
    refine r_ldc2 C n_X7_77 (dx dX7_copy 9 rfl) ?_
    refine r_csP (as := [vl q.toInt64, vl 0, vl 7]) (st := []) (v := vi (b2i (inR q 8))) C X I_X7_in l_X7_67 (c_inR (b := 7) (by decide) (by decide)) (by decide) (Nat.le_of_ble_eq_true rfl) List.prefix_rfl (Nat.le_of_ble_eq_true rfl) rfl (dx dX7_copy 10 rfl) ?_
    refine rb_ne (b := inR q 8) (tgt := 31) C (dx dX7_copy 11 rfl) (by decide) (fun c3 => ?_) (fun c3 => ?_)
    ·
      have c3 : (inR q 8) = true := c3
      obtain ⟨θ, hθ, rfl⟩ := inR_ex (n := 8) (by omega) c3
      rcases hs π hπ with ⟨a11, a21⟩ | ⟨τ1, ν1, a11, a21, a31, a41, a51, a61, a71, a81⟩ | ⟨κ1, b1, a11, a21, a31, a41, a51, a61, a71, a81⟩
      ·
        obtain ⟨e01, e11, e21, e31, e41, e51, e61⟩ := sh_bare hπ a21
        rcases hs θ hθ with ⟨a12, a22⟩ | ⟨τ2, ν2, a12, a22, a32, a42, a52, a62, a72, a82⟩ | ⟨κ2, b2, a12, a22, a32, a42, a52, a62, a72, a82⟩
        ·
          obtain ⟨e02, e12, e22, e32, e42, e52, e62⟩ := sh_bare hθ a22
          refine r_aload_n C (dx dX7_copy 16 rfl) rfl ?_
          refine g_X7_7 C (dx dX7_copy 17 rfl) ?_
          refine r_iload_n C (dx dX7_copy 18 rfl) rfl ?_
          refine r_iald (j := π) (x := nI 0) C rfl rfl (by decide) rfl (by omega) (dx dX7_copy 19 rfl) a11 ?_
          refine r_iconst (v := nI 2) C (dx dX7_copy 20 rfl) rfl ?_
          refine rn_eq (a := 0) (b := 2) (tgt := 86) C (by omega) (by omega) (dx dX7_copy 21 rfl) (by decide) (fun c4 => ?_) (fun c4 => ?_)
          · first
            | (omega; done)
            | (
                have c4 : 0 = 2 := c4
                refine r_aload_n C (dx dX7_copy 49 rfl) rfl ?_
                refine r_bipush (v := -3) C (dx dX7_copy 50 rfl) rfl ?_
                refine r_cv (as := [vi (-3)]) (st := []) C X I_X7_refuse l_X7_83 (c_X7_refuse hm (x := -3) (j := 3) (by decide) (by decide)) (by decide) (Nat.le_of_ble_eq_true rfl) List.prefix_rfl List.prefix_rfl rfl rfl (Nat.le_of_ble_eq_true rfl) rfl (dx dX7_copy 51 rfl) ?_
                rintro _ h5 ⟨rfl, ⟨wh5, m9h5, s9h5⟩, qh5⟩ kkh5
                obtain ⟨vh5, mh5, zh5⟩ : ∃ v9, MilAt h5 k v9 ∧ Sz v v9 := ⟨_, m9h5, s9h5⟩
                have ph5 : Kp k h h5 := qh5
                have kh5 : xK h5 = xK h := kkh5
                obtain ⟨ah5, bh5, ch5⟩ := zh5
                have eA : copA g (nI π) (nI θ) i j n = -3 := by simp [copA, copG, copF, cpOk, c1, c3, c4, e01, e11, e21, e31, e41, e51, e61, e02, e12, e22, e32, e42, e52, e62, clN (show π < 2 ^ 31 by omega), clN (show θ < 2 ^ 31 by omega), inR_nI (show π < 2 ^ 31 by omega), inR_nI (show θ < 2 ^ 31 by omega), show π < 8 by omega, show θ < 8 by omega]
                have eG : copG g (nI π) (nI θ) i j n = g := by simp [copA, copG, copF, cpOk, c1, c3, c4, e01, e11, e21, e31, e41, e51, e61, e02, e12, e22, e32, e42, e52, e62, clN (show π < 2 ^ 31 by omega), clN (show θ < 2 ^ 31 by omega), inR_nI (show π < 2 ^ 31 by omega), inR_nI (show θ < 2 ^ 31 by omega), show π < 8 by omega, show θ < 8 by omega]
                exact F.1 _ _ _ _ _ rfl rfl (dx dX7_copy 52 rfl) kh5 (show some (vi (-3)) = some (vi (copA g (nI π) (nI θ) i j n)) ∧ (∃ v', MilAt h5 k v') ∧ MshAt h5 k (copG g (nI π) (nI θ) i j n) ∧ Ks k h h5 from by rw [eA, eG]; exact ⟨rfl, ⟨_, mh5⟩, hs.kp ph5, ph5.ks⟩))
          · first
            | (omega; done)
            | (
                have c4 : ¬ 0 = 2 := c4
                refine r_aload_n C (dx dX7_copy 22 rfl) rfl ?_
                refine g_X7_7 C (dx dX7_copy 23 rfl) ?_
                refine r_iload_n C (dx dX7_copy 24 rfl) rfl ?_
                refine r_iald (j := θ) (x := nI 0) C rfl rfl (by decide) rfl (by omega) (dx dX7_copy 25 rfl) a12 ?_
                refine r_iconst (v := nI 2) C (dx dX7_copy 26 rfl) rfl ?_
                refine rn_eq (a := 0) (b := 2) (tgt := 86) C (by omega) (by omega) (dx dX7_copy 27 rfl) (by decide) (fun c6 => ?_) (fun c6 => ?_)
                ·
                  have c6 : 0 = 2 := c6
                  exact absurd c6 c4
                · first
                  | (omega; done)
                  | (
                      have c6 : ¬ 0 = 2 := c6
                      refine r_aload_n C (dx dX7_copy 28 rfl) rfl ?_
                      refine g_X7_7 C (dx dX7_copy 29 rfl) ?_
                      refine r_iload_n C (dx dX7_copy 30 rfl) rfl ?_
                      refine r_iald (j := π) (x := nI 0) C rfl rfl (by decide) rfl (by omega) (dx dX7_copy 31 rfl) a11 ?_
                      refine r_iconst (v := nI 1) C (dx dX7_copy 32 rfl) rfl ?_
                      refine rn_ne (a := 0) (b := 1) (tgt := 93) C (by omega) (by omega) (dx dX7_copy 33 rfl) (by decide) (fun c7 => ?_) (fun c7 => ?_)
                      · first
                        | (omega; done)
                        | (
                            have c7 : ¬ 0 = 1 := c7
                            refine r_aload_n C (dx dX7_copy 53 rfl) rfl ?_
                            refine g_X7_7 C (dx dX7_copy 54 rfl) ?_
                            refine r_iload_n C (dx dX7_copy 55 rfl) rfl ?_
                            refine r_iald (j := π) (x := nI 0) C rfl rfl (by decide) rfl (by omega) (dx dX7_copy 56 rfl) a11 ?_
                            refine r_if_eq (tgt := 111) C (dx dX7_copy 57 rfl) (by decide) (fun _ => ?_) (fun c8 => (show False from by revert c8; decide).elim)
                            refine r_aload_n C (dx dX7_copy 63 rfl) rfl ?_
                            refine r_bipush (v := -4) C (dx dX7_copy 64 rfl) rfl ?_
                            refine r_cv (as := [vi (-4)]) (st := []) C X I_X7_refuse l_X7_83 (c_X7_refuse hm (x := -4) (j := 4) (by decide) (by decide)) (by decide) (Nat.le_of_ble_eq_true rfl) List.prefix_rfl List.prefix_rfl rfl rfl (Nat.le_of_ble_eq_true rfl) rfl (dx dX7_copy 65 rfl) ?_
                            rintro _ h9 ⟨rfl, ⟨wh9, m9h9, s9h9⟩, qh9⟩ kkh9
                            obtain ⟨vh9, mh9, zh9⟩ : ∃ v9, MilAt h9 k v9 ∧ Sz v v9 := ⟨_, m9h9, s9h9⟩
                            have ph9 : Kp k h h9 := qh9
                            have kh9 : xK h9 = xK h := kkh9
                            obtain ⟨ah9, bh9, ch9⟩ := zh9
                            have eA : copA g (nI π) (nI θ) i j n = -4 := by simp [copA, copG, copF, cpOk, c1, c3, c4, c6, c7, e01, e11, e21, e31, e41, e51, e61, e02, e12, e22, e32, e42, e52, e62, clN (show π < 2 ^ 31 by omega), clN (show θ < 2 ^ 31 by omega), inR_nI (show π < 2 ^ 31 by omega), inR_nI (show θ < 2 ^ 31 by omega), show π < 8 by omega, show θ < 8 by omega]
                            have eG : copG g (nI π) (nI θ) i j n = g := by simp [copA, copG, copF, cpOk, c1, c3, c4, c6, c7, e01, e11, e21, e31, e41, e51, e61, e02, e12, e22, e32, e42, e52, e62, clN (show π < 2 ^ 31 by omega), clN (show θ < 2 ^ 31 by omega), inR_nI (show π < 2 ^ 31 by omega), inR_nI (show θ < 2 ^ 31 by omega), show π < 8 by omega, show θ < 8 by omega]
                            exact F.1 _ _ _ _ _ rfl rfl (dx dX7_copy 66 rfl) kh9 (show some (vi (-4)) = some (vi (copA g (nI π) (nI θ) i j n)) ∧ (∃ v', MilAt h9 k v') ∧ MshAt h9 k (copG g (nI π) (nI θ) i j n) ∧ Ks k h h9 from by rw [eA, eG]; exact ⟨rfl, ⟨_, mh9⟩, hs.kp ph9, ph9.ks⟩))
                      · first
                        | (omega; done)
                        | (
                            have c7 : 0 = 1 := c7
                            refine r_aload_n C (dx dX7_copy 34 rfl) rfl ?_
                            refine g_X7_7 C (dx dX7_copy 35 rfl) ?_
                            refine r_iload_n C (dx dX7_copy 36 rfl) rfl ?_
                            refine r_iald (j := θ) (x := nI 0) C rfl rfl (by decide) rfl (by omega) (dx dX7_copy 37 rfl) a12 ?_
                            refine r_iconst (v := nI 1) C (dx dX7_copy 38 rfl) rfl ?_
                            refine rn_ne (a := 0) (b := 1) (tgt := 93) C (by omega) (by omega) (dx dX7_copy 39 rfl) (by decide) (fun c10 => ?_) (fun c10 => ?_)
                            ·
                              have c10 : ¬ 0 = 1 := c10
                              exact absurd c7 c10
                            · first
                              | (omega; done)
                              | (
                                  have c10 : 0 = 1 := c10
                                  refine r_aload_n C (dx dX7_copy 40 rfl) rfl ?_
                                  refine g_X7_13 C (dx dX7_copy 41 rfl) ?_
                                  refine r_iload_n C (dx dX7_copy 42 rfl) rfl ?_
                                  refine r_iald (j := π) (x := xI h (k + 2) π) C rfl rfl (by decide) rfl (by omega) (dx dX7_copy 43 rfl) rfl ?_
                                  refine r_aload_n C (dx dX7_copy 44 rfl) rfl ?_
                                  refine g_X7_13 C (dx dX7_copy 45 rfl) ?_
                                  refine r_iload_n C (dx dX7_copy 46 rfl) rfl ?_
                                  refine r_iald (j := θ) (x := xI h (k + 2) θ) C rfl rfl (by decide) rfl (by omega) (dx dX7_copy 47 rfl) rfl ?_
                                  refine r_icmp_eq (tgt := 93) C (dx dX7_copy 48 rfl) (by decide) (fun c11 => ?_) (fun c11 => ?_)
                                  ·
                                    have c11 : xI h (k + 2) π = xI h (k + 2) θ := c11
                                    refine r_aload_n C (dx dX7_copy 53 rfl) rfl ?_
                                    refine g_X7_7 C (dx dX7_copy 54 rfl) ?_
                                    refine r_iload_n C (dx dX7_copy 55 rfl) rfl ?_
                                    refine r_iald (j := π) (x := nI 0) C rfl rfl (by decide) rfl (by omega) (dx dX7_copy 56 rfl) a11 ?_
                                    refine r_if_eq (tgt := 111) C (dx dX7_copy 57 rfl) (by decide) (fun _ => ?_) (fun c12 => (show False from by revert c12; decide).elim)
                                    refine r_aload_n C (dx dX7_copy 63 rfl) rfl ?_
                                    refine r_bipush (v := -4) C (dx dX7_copy 64 rfl) rfl ?_
                                    refine r_cv (as := [vi (-4)]) (st := []) C X I_X7_refuse l_X7_83 (c_X7_refuse hm (x := -4) (j := 4) (by decide) (by decide)) (by decide) (Nat.le_of_ble_eq_true rfl) List.prefix_rfl List.prefix_rfl rfl rfl (Nat.le_of_ble_eq_true rfl) rfl (dx dX7_copy 65 rfl) ?_
                                    rintro _ h13 ⟨rfl, ⟨wh13, m9h13, s9h13⟩, qh13⟩ kkh13
                                    obtain ⟨vh13, mh13, zh13⟩ : ∃ v9, MilAt h13 k v9 ∧ Sz v v9 := ⟨_, m9h13, s9h13⟩
                                    have ph13 : Kp k h h13 := qh13
                                    have kh13 : xK h13 = xK h := kkh13
                                    obtain ⟨ah13, bh13, ch13⟩ := zh13
                                    have eA : copA g (nI π) (nI θ) i j n = -4 := by simp [copA, copG, copF, cpOk, c1, c3, c4, c6, c7, c10, c11, e01, e11, e21, e31, e41, e51, e61, e02, e12, e22, e32, e42, e52, e62, clN (show π < 2 ^ 31 by omega), clN (show θ < 2 ^ 31 by omega), inR_nI (show π < 2 ^ 31 by omega), inR_nI (show θ < 2 ^ 31 by omega), show π < 8 by omega, show θ < 8 by omega]
                                    have eG : copG g (nI π) (nI θ) i j n = g := by simp [copA, copG, copF, cpOk, c1, c3, c4, c6, c7, c10, c11, e01, e11, e21, e31, e41, e51, e61, e02, e12, e22, e32, e42, e52, e62, clN (show π < 2 ^ 31 by omega), clN (show θ < 2 ^ 31 by omega), inR_nI (show π < 2 ^ 31 by omega), inR_nI (show θ < 2 ^ 31 by omega), show π < 8 by omega, show θ < 8 by omega]
                                    exact F.1 _ _ _ _ _ rfl rfl (dx dX7_copy 66 rfl) kh13 (show some (vi (-4)) = some (vi (copA g (nI π) (nI θ) i j n)) ∧ (∃ v', MilAt h13 k v') ∧ MshAt h13 k (copG g (nI π) (nI θ) i j n) ∧ Ks k h h13 from by rw [eA, eG]; exact ⟨rfl, ⟨_, mh13⟩, hs.kp ph13, ph13.ks⟩)
                                  ·
                                    have c11 : ¬ xI h (k + 2) π = xI h (k + 2) θ := c11
                                    refine r_aload_n C (dx dX7_copy 49 rfl) rfl ?_
                                    refine r_bipush (v := -3) C (dx dX7_copy 50 rfl) rfl ?_
                                    refine r_cv (as := [vi (-3)]) (st := []) C X I_X7_refuse l_X7_83 (c_X7_refuse hm (x := -3) (j := 3) (by decide) (by decide)) (by decide) (Nat.le_of_ble_eq_true rfl) List.prefix_rfl List.prefix_rfl rfl rfl (Nat.le_of_ble_eq_true rfl) rfl (dx dX7_copy 51 rfl) ?_
                                    rintro _ h14 ⟨rfl, ⟨wh14, m9h14, s9h14⟩, qh14⟩ kkh14
                                    obtain ⟨vh14, mh14, zh14⟩ : ∃ v9, MilAt h14 k v9 ∧ Sz v v9 := ⟨_, m9h14, s9h14⟩
                                    have ph14 : Kp k h h14 := qh14
                                    have kh14 : xK h14 = xK h := kkh14
                                    obtain ⟨ah14, bh14, ch14⟩ := zh14
                                    have eA : copA g (nI π) (nI θ) i j n = -3 := by simp [copA, copG, copF, cpOk, c1, c3, c4, c6, c7, c10, c11, e01, e11, e21, e31, e41, e51, e61, e02, e12, e22, e32, e42, e52, e62, clN (show π < 2 ^ 31 by omega), clN (show θ < 2 ^ 31 by omega), inR_nI (show π < 2 ^ 31 by omega), inR_nI (show θ < 2 ^ 31 by omega), show π < 8 by omega, show θ < 8 by omega]
                                    have eG : copG g (nI π) (nI θ) i j n = g := by simp [copA, copG, copF, cpOk, c1, c3, c4, c6, c7, c10, c11, e01, e11, e21, e31, e41, e51, e61, e02, e12, e22, e32, e42, e52, e62, clN (show π < 2 ^ 31 by omega), clN (show θ < 2 ^ 31 by omega), inR_nI (show π < 2 ^ 31 by omega), inR_nI (show θ < 2 ^ 31 by omega), show π < 8 by omega, show θ < 8 by omega]
                                    exact F.1 _ _ _ _ _ rfl rfl (dx dX7_copy 52 rfl) kh14 (show some (vi (-3)) = some (vi (copA g (nI π) (nI θ) i j n)) ∧ (∃ v', MilAt h14 k v') ∧ MshAt h14 k (copG g (nI π) (nI θ) i j n) ∧ Ks k h h14 from by rw [eA, eG]; exact ⟨rfl, ⟨_, mh14⟩, hs.kp ph14, ph14.ks⟩)))))
        ·
          obtain ⟨e02, e12, e22, e32, e42, e52, e62⟩ := sh_row hθ a12 a62 a72
          refine r_aload_n C (dx dX7_copy 16 rfl) rfl ?_
          refine g_X7_7 C (dx dX7_copy 17 rfl) ?_
          refine r_iload_n C (dx dX7_copy 18 rfl) rfl ?_
          refine r_iald (j := π) (x := nI 0) C rfl rfl (by decide) rfl (by omega) (dx dX7_copy 19 rfl) a11 ?_
          refine r_iconst (v := nI 2) C (dx dX7_copy 20 rfl) rfl ?_
          refine rn_eq (a := 0) (b := 2) (tgt := 86) C (by omega) (by omega) (dx dX7_copy 21 rfl) (by decide) (fun c15 => ?_) (fun c15 => ?_)
          · first
            | (omega; done)
            | (
                have c15 : 0 = 2 := c15
                refine r_aload_n C (dx dX7_copy 49 rfl) rfl ?_
                refine r_bipush (v := -3) C (dx dX7_copy 50 rfl) rfl ?_
                refine r_cv (as := [vi (-3)]) (st := []) C X I_X7_refuse l_X7_83 (c_X7_refuse hm (x := -3) (j := 3) (by decide) (by decide)) (by decide) (Nat.le_of_ble_eq_true rfl) List.prefix_rfl List.prefix_rfl rfl rfl (Nat.le_of_ble_eq_true rfl) rfl (dx dX7_copy 51 rfl) ?_
                rintro _ h16 ⟨rfl, ⟨wh16, m9h16, s9h16⟩, qh16⟩ kkh16
                obtain ⟨vh16, mh16, zh16⟩ : ∃ v9, MilAt h16 k v9 ∧ Sz v v9 := ⟨_, m9h16, s9h16⟩
                have ph16 : Kp k h h16 := qh16
                have kh16 : xK h16 = xK h := kkh16
                obtain ⟨ah16, bh16, ch16⟩ := zh16
                have eA : copA g (nI π) (nI θ) i j n = -3 := by simp [copA, copG, copF, cpOk, c1, c3, c15, e01, e11, e21, e31, e41, e51, e61, e02, e12, e22, e32, e42, e52, e62, clN (show π < 2 ^ 31 by omega), clN (show θ < 2 ^ 31 by omega), inR_nI (show π < 2 ^ 31 by omega), inR_nI (show θ < 2 ^ 31 by omega), show π < 8 by omega, show θ < 8 by omega]
                have eG : copG g (nI π) (nI θ) i j n = g := by simp [copA, copG, copF, cpOk, c1, c3, c15, e01, e11, e21, e31, e41, e51, e61, e02, e12, e22, e32, e42, e52, e62, clN (show π < 2 ^ 31 by omega), clN (show θ < 2 ^ 31 by omega), inR_nI (show π < 2 ^ 31 by omega), inR_nI (show θ < 2 ^ 31 by omega), show π < 8 by omega, show θ < 8 by omega]
                exact F.1 _ _ _ _ _ rfl rfl (dx dX7_copy 52 rfl) kh16 (show some (vi (-3)) = some (vi (copA g (nI π) (nI θ) i j n)) ∧ (∃ v', MilAt h16 k v') ∧ MshAt h16 k (copG g (nI π) (nI θ) i j n) ∧ Ks k h h16 from by rw [eA, eG]; exact ⟨rfl, ⟨_, mh16⟩, hs.kp ph16, ph16.ks⟩))
          · first
            | (omega; done)
            | (
                have c15 : ¬ 0 = 2 := c15
                refine r_aload_n C (dx dX7_copy 22 rfl) rfl ?_
                refine g_X7_7 C (dx dX7_copy 23 rfl) ?_
                refine r_iload_n C (dx dX7_copy 24 rfl) rfl ?_
                refine r_iald (j := θ) (x := nI 1) C rfl rfl (by decide) rfl (by omega) (dx dX7_copy 25 rfl) a32 ?_
                refine r_iconst (v := nI 2) C (dx dX7_copy 26 rfl) rfl ?_
                refine rn_eq (a := 1) (b := 2) (tgt := 86) C (by omega) (by omega) (dx dX7_copy 27 rfl) (by decide) (fun c17 => ?_) (fun c17 => ?_)
                · first
                  | (omega; done)
                  | (
                      have c17 : 1 = 2 := c17
                      refine r_aload_n C (dx dX7_copy 49 rfl) rfl ?_
                      refine r_bipush (v := -3) C (dx dX7_copy 50 rfl) rfl ?_
                      refine r_cv (as := [vi (-3)]) (st := []) C X I_X7_refuse l_X7_83 (c_X7_refuse hm (x := -3) (j := 3) (by decide) (by decide)) (by decide) (Nat.le_of_ble_eq_true rfl) List.prefix_rfl List.prefix_rfl rfl rfl (Nat.le_of_ble_eq_true rfl) rfl (dx dX7_copy 51 rfl) ?_
                      rintro _ h18 ⟨rfl, ⟨wh18, m9h18, s9h18⟩, qh18⟩ kkh18
                      obtain ⟨vh18, mh18, zh18⟩ : ∃ v9, MilAt h18 k v9 ∧ Sz v v9 := ⟨_, m9h18, s9h18⟩
                      have ph18 : Kp k h h18 := qh18
                      have kh18 : xK h18 = xK h := kkh18
                      obtain ⟨ah18, bh18, ch18⟩ := zh18
                      have eA : copA g (nI π) (nI θ) i j n = -3 := by simp [copA, copG, copF, cpOk, c1, c3, c15, c17, e01, e11, e21, e31, e41, e51, e61, e02, e12, e22, e32, e42, e52, e62, clN (show π < 2 ^ 31 by omega), clN (show θ < 2 ^ 31 by omega), inR_nI (show π < 2 ^ 31 by omega), inR_nI (show θ < 2 ^ 31 by omega), show π < 8 by omega, show θ < 8 by omega]
                      have eG : copG g (nI π) (nI θ) i j n = g := by simp [copA, copG, copF, cpOk, c1, c3, c15, c17, e01, e11, e21, e31, e41, e51, e61, e02, e12, e22, e32, e42, e52, e62, clN (show π < 2 ^ 31 by omega), clN (show θ < 2 ^ 31 by omega), inR_nI (show π < 2 ^ 31 by omega), inR_nI (show θ < 2 ^ 31 by omega), show π < 8 by omega, show θ < 8 by omega]
                      exact F.1 _ _ _ _ _ rfl rfl (dx dX7_copy 52 rfl) kh18 (show some (vi (-3)) = some (vi (copA g (nI π) (nI θ) i j n)) ∧ (∃ v', MilAt h18 k v') ∧ MshAt h18 k (copG g (nI π) (nI θ) i j n) ∧ Ks k h h18 from by rw [eA, eG]; exact ⟨rfl, ⟨_, mh18⟩, hs.kp ph18, ph18.ks⟩))
                · first
                  | (omega; done)
                  | (
                      have c17 : ¬ 1 = 2 := c17
                      refine r_aload_n C (dx dX7_copy 28 rfl) rfl ?_
                      refine g_X7_7 C (dx dX7_copy 29 rfl) ?_
                      refine r_iload_n C (dx dX7_copy 30 rfl) rfl ?_
                      refine r_iald (j := π) (x := nI 0) C rfl rfl (by decide) rfl (by omega) (dx dX7_copy 31 rfl) a11 ?_
                      refine r_iconst (v := nI 1) C (dx dX7_copy 32 rfl) rfl ?_
                      refine rn_ne (a := 0) (b := 1) (tgt := 93) C (by omega) (by omega) (dx dX7_copy 33 rfl) (by decide) (fun c19 => ?_) (fun c19 => ?_)
                      · first
                        | (omega; done)
                        | (
                            have c19 : ¬ 0 = 1 := c19
                            refine r_aload_n C (dx dX7_copy 53 rfl) rfl ?_
                            refine g_X7_7 C (dx dX7_copy 54 rfl) ?_
                            refine r_iload_n C (dx dX7_copy 55 rfl) rfl ?_
                            refine r_iald (j := π) (x := nI 0) C rfl rfl (by decide) rfl (by omega) (dx dX7_copy 56 rfl) a11 ?_
                            refine r_if_eq (tgt := 111) C (dx dX7_copy 57 rfl) (by decide) (fun _ => ?_) (fun c20 => (show False from by revert c20; decide).elim)
                            refine r_aload_n C (dx dX7_copy 63 rfl) rfl ?_
                            refine r_bipush (v := -4) C (dx dX7_copy 64 rfl) rfl ?_
                            refine r_cv (as := [vi (-4)]) (st := []) C X I_X7_refuse l_X7_83 (c_X7_refuse hm (x := -4) (j := 4) (by decide) (by decide)) (by decide) (Nat.le_of_ble_eq_true rfl) List.prefix_rfl List.prefix_rfl rfl rfl (Nat.le_of_ble_eq_true rfl) rfl (dx dX7_copy 65 rfl) ?_
                            rintro _ h21 ⟨rfl, ⟨wh21, m9h21, s9h21⟩, qh21⟩ kkh21
                            obtain ⟨vh21, mh21, zh21⟩ : ∃ v9, MilAt h21 k v9 ∧ Sz v v9 := ⟨_, m9h21, s9h21⟩
                            have ph21 : Kp k h h21 := qh21
                            have kh21 : xK h21 = xK h := kkh21
                            obtain ⟨ah21, bh21, ch21⟩ := zh21
                            have eA : copA g (nI π) (nI θ) i j n = -4 := by simp [copA, copG, copF, cpOk, c1, c3, c15, c17, c19, e01, e11, e21, e31, e41, e51, e61, e02, e12, e22, e32, e42, e52, e62, clN (show π < 2 ^ 31 by omega), clN (show θ < 2 ^ 31 by omega), inR_nI (show π < 2 ^ 31 by omega), inR_nI (show θ < 2 ^ 31 by omega), show π < 8 by omega, show θ < 8 by omega]
                            have eG : copG g (nI π) (nI θ) i j n = g := by simp [copA, copG, copF, cpOk, c1, c3, c15, c17, c19, e01, e11, e21, e31, e41, e51, e61, e02, e12, e22, e32, e42, e52, e62, clN (show π < 2 ^ 31 by omega), clN (show θ < 2 ^ 31 by omega), inR_nI (show π < 2 ^ 31 by omega), inR_nI (show θ < 2 ^ 31 by omega), show π < 8 by omega, show θ < 8 by omega]
                            exact F.1 _ _ _ _ _ rfl rfl (dx dX7_copy 66 rfl) kh21 (show some (vi (-4)) = some (vi (copA g (nI π) (nI θ) i j n)) ∧ (∃ v', MilAt h21 k v') ∧ MshAt h21 k (copG g (nI π) (nI θ) i j n) ∧ Ks k h h21 from by rw [eA, eG]; exact ⟨rfl, ⟨_, mh21⟩, hs.kp ph21, ph21.ks⟩))
                      · first
                        | (omega; done)
                        | (
                            have c19 : 0 = 1 := c19
                            refine r_aload_n C (dx dX7_copy 34 rfl) rfl ?_
                            refine g_X7_7 C (dx dX7_copy 35 rfl) ?_
                            refine r_iload_n C (dx dX7_copy 36 rfl) rfl ?_
                            refine r_iald (j := θ) (x := nI 1) C rfl rfl (by decide) rfl (by omega) (dx dX7_copy 37 rfl) a32 ?_
                            refine r_iconst (v := nI 1) C (dx dX7_copy 38 rfl) rfl ?_
                            refine rn_ne (a := 1) (b := 1) (tgt := 93) C (by omega) (by omega) (dx dX7_copy 39 rfl) (by decide) (fun c22 => ?_) (fun c22 => ?_)
                            · first
                              | (omega; done)
                              | (
                                  have c22 : ¬ 1 = 1 := c22
                                  refine r_aload_n C (dx dX7_copy 53 rfl) rfl ?_
                                  refine g_X7_7 C (dx dX7_copy 54 rfl) ?_
                                  refine r_iload_n C (dx dX7_copy 55 rfl) rfl ?_
                                  refine r_iald (j := π) (x := nI 0) C rfl rfl (by decide) rfl (by omega) (dx dX7_copy 56 rfl) a11 ?_
                                  refine r_if_eq (tgt := 111) C (dx dX7_copy 57 rfl) (by decide) (fun _ => ?_) (fun c23 => (show False from by revert c23; decide).elim)
                                  refine r_aload_n C (dx dX7_copy 63 rfl) rfl ?_
                                  refine r_bipush (v := -4) C (dx dX7_copy 64 rfl) rfl ?_
                                  refine r_cv (as := [vi (-4)]) (st := []) C X I_X7_refuse l_X7_83 (c_X7_refuse hm (x := -4) (j := 4) (by decide) (by decide)) (by decide) (Nat.le_of_ble_eq_true rfl) List.prefix_rfl List.prefix_rfl rfl rfl (Nat.le_of_ble_eq_true rfl) rfl (dx dX7_copy 65 rfl) ?_
                                  rintro _ h24 ⟨rfl, ⟨wh24, m9h24, s9h24⟩, qh24⟩ kkh24
                                  obtain ⟨vh24, mh24, zh24⟩ : ∃ v9, MilAt h24 k v9 ∧ Sz v v9 := ⟨_, m9h24, s9h24⟩
                                  have ph24 : Kp k h h24 := qh24
                                  have kh24 : xK h24 = xK h := kkh24
                                  obtain ⟨ah24, bh24, ch24⟩ := zh24
                                  have eA : copA g (nI π) (nI θ) i j n = -4 := by simp [copA, copG, copF, cpOk, c1, c3, c15, c17, c19, c22, e01, e11, e21, e31, e41, e51, e61, e02, e12, e22, e32, e42, e52, e62, clN (show π < 2 ^ 31 by omega), clN (show θ < 2 ^ 31 by omega), inR_nI (show π < 2 ^ 31 by omega), inR_nI (show θ < 2 ^ 31 by omega), show π < 8 by omega, show θ < 8 by omega]
                                  have eG : copG g (nI π) (nI θ) i j n = g := by simp [copA, copG, copF, cpOk, c1, c3, c15, c17, c19, c22, e01, e11, e21, e31, e41, e51, e61, e02, e12, e22, e32, e42, e52, e62, clN (show π < 2 ^ 31 by omega), clN (show θ < 2 ^ 31 by omega), inR_nI (show π < 2 ^ 31 by omega), inR_nI (show θ < 2 ^ 31 by omega), show π < 8 by omega, show θ < 8 by omega]
                                  exact F.1 _ _ _ _ _ rfl rfl (dx dX7_copy 66 rfl) kh24 (show some (vi (-4)) = some (vi (copA g (nI π) (nI θ) i j n)) ∧ (∃ v', MilAt h24 k v') ∧ MshAt h24 k (copG g (nI π) (nI θ) i j n) ∧ Ks k h h24 from by rw [eA, eG]; exact ⟨rfl, ⟨_, mh24⟩, hs.kp ph24, ph24.ks⟩))
                            · first
                              | (omega; done)
                              | (
                                  have c22 : 1 = 1 := c22
                                  refine r_aload_n C (dx dX7_copy 40 rfl) rfl ?_
                                  refine g_X7_13 C (dx dX7_copy 41 rfl) ?_
                                  refine r_iload_n C (dx dX7_copy 42 rfl) rfl ?_
                                  refine r_iald (j := π) (x := xI h (k + 2) π) C rfl rfl (by decide) rfl (by omega) (dx dX7_copy 43 rfl) rfl ?_
                                  refine r_aload_n C (dx dX7_copy 44 rfl) rfl ?_
                                  refine g_X7_13 C (dx dX7_copy 45 rfl) ?_
                                  refine r_iload_n C (dx dX7_copy 46 rfl) rfl ?_
                                  refine r_iald (j := θ) (x := nI τ2) C rfl rfl (by decide) rfl (by omega) (dx dX7_copy 47 rfl) a42 ?_
                                  refine r_icmp_eq (tgt := 93) C (dx dX7_copy 48 rfl) (by decide) (fun c25 => ?_) (fun c25 => ?_)
                                  ·
                                    have c25 : xI h (k + 2) π = nI τ2 := c25
                                    refine r_aload_n C (dx dX7_copy 53 rfl) rfl ?_
                                    refine g_X7_7 C (dx dX7_copy 54 rfl) ?_
                                    refine r_iload_n C (dx dX7_copy 55 rfl) rfl ?_
                                    refine r_iald (j := π) (x := nI 0) C rfl rfl (by decide) rfl (by omega) (dx dX7_copy 56 rfl) a11 ?_
                                    refine r_if_eq (tgt := 111) C (dx dX7_copy 57 rfl) (by decide) (fun _ => ?_) (fun c26 => (show False from by revert c26; decide).elim)
                                    refine r_aload_n C (dx dX7_copy 63 rfl) rfl ?_
                                    refine r_bipush (v := -4) C (dx dX7_copy 64 rfl) rfl ?_
                                    refine r_cv (as := [vi (-4)]) (st := []) C X I_X7_refuse l_X7_83 (c_X7_refuse hm (x := -4) (j := 4) (by decide) (by decide)) (by decide) (Nat.le_of_ble_eq_true rfl) List.prefix_rfl List.prefix_rfl rfl rfl (Nat.le_of_ble_eq_true rfl) rfl (dx dX7_copy 65 rfl) ?_
                                    rintro _ h27 ⟨rfl, ⟨wh27, m9h27, s9h27⟩, qh27⟩ kkh27
                                    obtain ⟨vh27, mh27, zh27⟩ : ∃ v9, MilAt h27 k v9 ∧ Sz v v9 := ⟨_, m9h27, s9h27⟩
                                    have ph27 : Kp k h h27 := qh27
                                    have kh27 : xK h27 = xK h := kkh27
                                    obtain ⟨ah27, bh27, ch27⟩ := zh27
                                    have eA : copA g (nI π) (nI θ) i j n = -4 := by simp [copA, copG, copF, cpOk, c1, c3, c15, c17, c19, c22, c25, e01, e11, e21, e31, e41, e51, e61, e02, e12, e22, e32, e42, e52, e62, clN (show π < 2 ^ 31 by omega), clN (show θ < 2 ^ 31 by omega), inR_nI (show π < 2 ^ 31 by omega), inR_nI (show θ < 2 ^ 31 by omega), show π < 8 by omega, show θ < 8 by omega]
                                    have eG : copG g (nI π) (nI θ) i j n = g := by simp [copA, copG, copF, cpOk, c1, c3, c15, c17, c19, c22, c25, e01, e11, e21, e31, e41, e51, e61, e02, e12, e22, e32, e42, e52, e62, clN (show π < 2 ^ 31 by omega), clN (show θ < 2 ^ 31 by omega), inR_nI (show π < 2 ^ 31 by omega), inR_nI (show θ < 2 ^ 31 by omega), show π < 8 by omega, show θ < 8 by omega]
                                    exact F.1 _ _ _ _ _ rfl rfl (dx dX7_copy 66 rfl) kh27 (show some (vi (-4)) = some (vi (copA g (nI π) (nI θ) i j n)) ∧ (∃ v', MilAt h27 k v') ∧ MshAt h27 k (copG g (nI π) (nI θ) i j n) ∧ Ks k h h27 from by rw [eA, eG]; exact ⟨rfl, ⟨_, mh27⟩, hs.kp ph27, ph27.ks⟩)
                                  ·
                                    have c25 : ¬ xI h (k + 2) π = nI τ2 := c25
                                    refine r_aload_n C (dx dX7_copy 49 rfl) rfl ?_
                                    refine r_bipush (v := -3) C (dx dX7_copy 50 rfl) rfl ?_
                                    refine r_cv (as := [vi (-3)]) (st := []) C X I_X7_refuse l_X7_83 (c_X7_refuse hm (x := -3) (j := 3) (by decide) (by decide)) (by decide) (Nat.le_of_ble_eq_true rfl) List.prefix_rfl List.prefix_rfl rfl rfl (Nat.le_of_ble_eq_true rfl) rfl (dx dX7_copy 51 rfl) ?_
                                    rintro _ h28 ⟨rfl, ⟨wh28, m9h28, s9h28⟩, qh28⟩ kkh28
                                    obtain ⟨vh28, mh28, zh28⟩ : ∃ v9, MilAt h28 k v9 ∧ Sz v v9 := ⟨_, m9h28, s9h28⟩
                                    have ph28 : Kp k h h28 := qh28
                                    have kh28 : xK h28 = xK h := kkh28
                                    obtain ⟨ah28, bh28, ch28⟩ := zh28
                                    have eA : copA g (nI π) (nI θ) i j n = -3 := by simp [copA, copG, copF, cpOk, c1, c3, c15, c17, c19, c22, c25, e01, e11, e21, e31, e41, e51, e61, e02, e12, e22, e32, e42, e52, e62, clN (show π < 2 ^ 31 by omega), clN (show θ < 2 ^ 31 by omega), inR_nI (show π < 2 ^ 31 by omega), inR_nI (show θ < 2 ^ 31 by omega), show π < 8 by omega, show θ < 8 by omega]
                                    have eG : copG g (nI π) (nI θ) i j n = g := by simp [copA, copG, copF, cpOk, c1, c3, c15, c17, c19, c22, c25, e01, e11, e21, e31, e41, e51, e61, e02, e12, e22, e32, e42, e52, e62, clN (show π < 2 ^ 31 by omega), clN (show θ < 2 ^ 31 by omega), inR_nI (show π < 2 ^ 31 by omega), inR_nI (show θ < 2 ^ 31 by omega), show π < 8 by omega, show θ < 8 by omega]
                                    exact F.1 _ _ _ _ _ rfl rfl (dx dX7_copy 52 rfl) kh28 (show some (vi (-3)) = some (vi (copA g (nI π) (nI θ) i j n)) ∧ (∃ v', MilAt h28 k v') ∧ MshAt h28 k (copG g (nI π) (nI θ) i j n) ∧ Ks k h h28 from by rw [eA, eG]; exact ⟨rfl, ⟨_, mh28⟩, hs.kp ph28, ph28.ks⟩)))))
        ·
          obtain ⟨e02, e12, e22, e32, e42, e52, e62, e72⟩ := sh_hold hθ a22 a72 a82
          refine r_aload_n C (dx dX7_copy 16 rfl) rfl ?_
          refine g_X7_7 C (dx dX7_copy 17 rfl) ?_
          refine r_iload_n C (dx dX7_copy 18 rfl) rfl ?_
          refine r_iald (j := π) (x := nI 0) C rfl rfl (by decide) rfl (by omega) (dx dX7_copy 19 rfl) a11 ?_
          refine r_iconst (v := nI 2) C (dx dX7_copy 20 rfl) rfl ?_
          refine rn_eq (a := 0) (b := 2) (tgt := 86) C (by omega) (by omega) (dx dX7_copy 21 rfl) (by decide) (fun c29 => ?_) (fun c29 => ?_)
          · first
            | (omega; done)
            | (
                have c29 : 0 = 2 := c29
                refine r_aload_n C (dx dX7_copy 49 rfl) rfl ?_
                refine r_bipush (v := -3) C (dx dX7_copy 50 rfl) rfl ?_
                refine r_cv (as := [vi (-3)]) (st := []) C X I_X7_refuse l_X7_83 (c_X7_refuse hm (x := -3) (j := 3) (by decide) (by decide)) (by decide) (Nat.le_of_ble_eq_true rfl) List.prefix_rfl List.prefix_rfl rfl rfl (Nat.le_of_ble_eq_true rfl) rfl (dx dX7_copy 51 rfl) ?_
                rintro _ h30 ⟨rfl, ⟨wh30, m9h30, s9h30⟩, qh30⟩ kkh30
                obtain ⟨vh30, mh30, zh30⟩ : ∃ v9, MilAt h30 k v9 ∧ Sz v v9 := ⟨_, m9h30, s9h30⟩
                have ph30 : Kp k h h30 := qh30
                have kh30 : xK h30 = xK h := kkh30
                obtain ⟨ah30, bh30, ch30⟩ := zh30
                have eA : copA g (nI π) (nI θ) i j n = -3 := by simp [copA, copG, copF, cpOk, c1, c3, c29, e01, e11, e21, e31, e41, e51, e61, e02, e12, e22, e32, e42, e52, e62, e72, clN (show π < 2 ^ 31 by omega), clN (show θ < 2 ^ 31 by omega), inR_nI (show π < 2 ^ 31 by omega), inR_nI (show θ < 2 ^ 31 by omega), show π < 8 by omega, show θ < 8 by omega]
                have eG : copG g (nI π) (nI θ) i j n = g := by simp [copA, copG, copF, cpOk, c1, c3, c29, e01, e11, e21, e31, e41, e51, e61, e02, e12, e22, e32, e42, e52, e62, e72, clN (show π < 2 ^ 31 by omega), clN (show θ < 2 ^ 31 by omega), inR_nI (show π < 2 ^ 31 by omega), inR_nI (show θ < 2 ^ 31 by omega), show π < 8 by omega, show θ < 8 by omega]
                exact F.1 _ _ _ _ _ rfl rfl (dx dX7_copy 52 rfl) kh30 (show some (vi (-3)) = some (vi (copA g (nI π) (nI θ) i j n)) ∧ (∃ v', MilAt h30 k v') ∧ MshAt h30 k (copG g (nI π) (nI θ) i j n) ∧ Ks k h h30 from by rw [eA, eG]; exact ⟨rfl, ⟨_, mh30⟩, hs.kp ph30, ph30.ks⟩))
          · first
            | (omega; done)
            | (
                have c29 : ¬ 0 = 2 := c29
                refine r_aload_n C (dx dX7_copy 22 rfl) rfl ?_
                refine g_X7_7 C (dx dX7_copy 23 rfl) ?_
                refine r_iload_n C (dx dX7_copy 24 rfl) rfl ?_
                refine r_iald (j := θ) (x := nI 2) C rfl rfl (by decide) rfl (by omega) (dx dX7_copy 25 rfl) a42 ?_
                refine r_iconst (v := nI 2) C (dx dX7_copy 26 rfl) rfl ?_
                refine rn_eq (a := 2) (b := 2) (tgt := 86) C (by omega) (by omega) (dx dX7_copy 27 rfl) (by decide) (fun c31 => ?_) (fun c31 => ?_)
                · first
                  | (omega; done)
                  | (
                      have c31 : 2 = 2 := c31
                      refine r_aload_n C (dx dX7_copy 49 rfl) rfl ?_
                      refine r_bipush (v := -3) C (dx dX7_copy 50 rfl) rfl ?_
                      refine r_cv (as := [vi (-3)]) (st := []) C X I_X7_refuse l_X7_83 (c_X7_refuse hm (x := -3) (j := 3) (by decide) (by decide)) (by decide) (Nat.le_of_ble_eq_true rfl) List.prefix_rfl List.prefix_rfl rfl rfl (Nat.le_of_ble_eq_true rfl) rfl (dx dX7_copy 51 rfl) ?_
                      rintro _ h32 ⟨rfl, ⟨wh32, m9h32, s9h32⟩, qh32⟩ kkh32
                      obtain ⟨vh32, mh32, zh32⟩ : ∃ v9, MilAt h32 k v9 ∧ Sz v v9 := ⟨_, m9h32, s9h32⟩
                      have ph32 : Kp k h h32 := qh32
                      have kh32 : xK h32 = xK h := kkh32
                      obtain ⟨ah32, bh32, ch32⟩ := zh32
                      have eA : copA g (nI π) (nI θ) i j n = -3 := by simp [copA, copG, copF, cpOk, c1, c3, c29, c31, e01, e11, e21, e31, e41, e51, e61, e02, e12, e22, e32, e42, e52, e62, e72, clN (show π < 2 ^ 31 by omega), clN (show θ < 2 ^ 31 by omega), inR_nI (show π < 2 ^ 31 by omega), inR_nI (show θ < 2 ^ 31 by omega), show π < 8 by omega, show θ < 8 by omega]
                      have eG : copG g (nI π) (nI θ) i j n = g := by simp [copA, copG, copF, cpOk, c1, c3, c29, c31, e01, e11, e21, e31, e41, e51, e61, e02, e12, e22, e32, e42, e52, e62, e72, clN (show π < 2 ^ 31 by omega), clN (show θ < 2 ^ 31 by omega), inR_nI (show π < 2 ^ 31 by omega), inR_nI (show θ < 2 ^ 31 by omega), show π < 8 by omega, show θ < 8 by omega]
                      exact F.1 _ _ _ _ _ rfl rfl (dx dX7_copy 52 rfl) kh32 (show some (vi (-3)) = some (vi (copA g (nI π) (nI θ) i j n)) ∧ (∃ v', MilAt h32 k v') ∧ MshAt h32 k (copG g (nI π) (nI θ) i j n) ∧ Ks k h h32 from by rw [eA, eG]; exact ⟨rfl, ⟨_, mh32⟩, hs.kp ph32, ph32.ks⟩))
                · first
                  | (omega; done)
                  | (
                      have c31 : ¬ 2 = 2 := c31
                      refine r_aload_n C (dx dX7_copy 28 rfl) rfl ?_
                      refine g_X7_7 C (dx dX7_copy 29 rfl) ?_
                      refine r_iload_n C (dx dX7_copy 30 rfl) rfl ?_
                      refine r_iald (j := π) (x := nI 0) C rfl rfl (by decide) rfl (by omega) (dx dX7_copy 31 rfl) a11 ?_
                      refine r_iconst (v := nI 1) C (dx dX7_copy 32 rfl) rfl ?_
                      refine rn_ne (a := 0) (b := 1) (tgt := 93) C (by omega) (by omega) (dx dX7_copy 33 rfl) (by decide) (fun c33 => ?_) (fun c33 => ?_)
                      · first
                        | (omega; done)
                        | (
                            have c33 : ¬ 0 = 1 := c33
                            refine r_aload_n C (dx dX7_copy 53 rfl) rfl ?_
                            refine g_X7_7 C (dx dX7_copy 54 rfl) ?_
                            refine r_iload_n C (dx dX7_copy 55 rfl) rfl ?_
                            refine r_iald (j := π) (x := nI 0) C rfl rfl (by decide) rfl (by omega) (dx dX7_copy 56 rfl) a11 ?_
                            refine r_if_eq (tgt := 111) C (dx dX7_copy 57 rfl) (by decide) (fun _ => ?_) (fun c34 => (show False from by revert c34; decide).elim)
                            refine r_aload_n C (dx dX7_copy 63 rfl) rfl ?_
                            refine r_bipush (v := -4) C (dx dX7_copy 64 rfl) rfl ?_
                            refine r_cv (as := [vi (-4)]) (st := []) C X I_X7_refuse l_X7_83 (c_X7_refuse hm (x := -4) (j := 4) (by decide) (by decide)) (by decide) (Nat.le_of_ble_eq_true rfl) List.prefix_rfl List.prefix_rfl rfl rfl (Nat.le_of_ble_eq_true rfl) rfl (dx dX7_copy 65 rfl) ?_
                            rintro _ h35 ⟨rfl, ⟨wh35, m9h35, s9h35⟩, qh35⟩ kkh35
                            obtain ⟨vh35, mh35, zh35⟩ : ∃ v9, MilAt h35 k v9 ∧ Sz v v9 := ⟨_, m9h35, s9h35⟩
                            have ph35 : Kp k h h35 := qh35
                            have kh35 : xK h35 = xK h := kkh35
                            obtain ⟨ah35, bh35, ch35⟩ := zh35
                            have eA : copA g (nI π) (nI θ) i j n = -4 := by simp [copA, copG, copF, cpOk, c1, c3, c29, c31, c33, e01, e11, e21, e31, e41, e51, e61, e02, e12, e22, e32, e42, e52, e62, e72, clN (show π < 2 ^ 31 by omega), clN (show θ < 2 ^ 31 by omega), inR_nI (show π < 2 ^ 31 by omega), inR_nI (show θ < 2 ^ 31 by omega), show π < 8 by omega, show θ < 8 by omega]
                            have eG : copG g (nI π) (nI θ) i j n = g := by simp [copA, copG, copF, cpOk, c1, c3, c29, c31, c33, e01, e11, e21, e31, e41, e51, e61, e02, e12, e22, e32, e42, e52, e62, e72, clN (show π < 2 ^ 31 by omega), clN (show θ < 2 ^ 31 by omega), inR_nI (show π < 2 ^ 31 by omega), inR_nI (show θ < 2 ^ 31 by omega), show π < 8 by omega, show θ < 8 by omega]
                            exact F.1 _ _ _ _ _ rfl rfl (dx dX7_copy 66 rfl) kh35 (show some (vi (-4)) = some (vi (copA g (nI π) (nI θ) i j n)) ∧ (∃ v', MilAt h35 k v') ∧ MshAt h35 k (copG g (nI π) (nI θ) i j n) ∧ Ks k h h35 from by rw [eA, eG]; exact ⟨rfl, ⟨_, mh35⟩, hs.kp ph35, ph35.ks⟩))
                      · first
                        | (omega; done)
                        | (
                            have c33 : 0 = 1 := c33
                            refine r_aload_n C (dx dX7_copy 34 rfl) rfl ?_
                            refine g_X7_7 C (dx dX7_copy 35 rfl) ?_
                            refine r_iload_n C (dx dX7_copy 36 rfl) rfl ?_
                            refine r_iald (j := θ) (x := nI 2) C rfl rfl (by decide) rfl (by omega) (dx dX7_copy 37 rfl) a42 ?_
                            refine r_iconst (v := nI 1) C (dx dX7_copy 38 rfl) rfl ?_
                            refine rn_ne (a := 2) (b := 1) (tgt := 93) C (by omega) (by omega) (dx dX7_copy 39 rfl) (by decide) (fun c36 => ?_) (fun c36 => ?_)
                            · first
                              | (omega; done)
                              | (
                                  have c36 : ¬ 2 = 1 := c36
                                  refine r_aload_n C (dx dX7_copy 53 rfl) rfl ?_
                                  refine g_X7_7 C (dx dX7_copy 54 rfl) ?_
                                  refine r_iload_n C (dx dX7_copy 55 rfl) rfl ?_
                                  refine r_iald (j := π) (x := nI 0) C rfl rfl (by decide) rfl (by omega) (dx dX7_copy 56 rfl) a11 ?_
                                  refine r_if_eq (tgt := 111) C (dx dX7_copy 57 rfl) (by decide) (fun _ => ?_) (fun c37 => (show False from by revert c37; decide).elim)
                                  refine r_aload_n C (dx dX7_copy 63 rfl) rfl ?_
                                  refine r_bipush (v := -4) C (dx dX7_copy 64 rfl) rfl ?_
                                  refine r_cv (as := [vi (-4)]) (st := []) C X I_X7_refuse l_X7_83 (c_X7_refuse hm (x := -4) (j := 4) (by decide) (by decide)) (by decide) (Nat.le_of_ble_eq_true rfl) List.prefix_rfl List.prefix_rfl rfl rfl (Nat.le_of_ble_eq_true rfl) rfl (dx dX7_copy 65 rfl) ?_
                                  rintro _ h38 ⟨rfl, ⟨wh38, m9h38, s9h38⟩, qh38⟩ kkh38
                                  obtain ⟨vh38, mh38, zh38⟩ : ∃ v9, MilAt h38 k v9 ∧ Sz v v9 := ⟨_, m9h38, s9h38⟩
                                  have ph38 : Kp k h h38 := qh38
                                  have kh38 : xK h38 = xK h := kkh38
                                  obtain ⟨ah38, bh38, ch38⟩ := zh38
                                  have eA : copA g (nI π) (nI θ) i j n = -4 := by simp [copA, copG, copF, cpOk, c1, c3, c29, c31, c33, c36, e01, e11, e21, e31, e41, e51, e61, e02, e12, e22, e32, e42, e52, e62, e72, clN (show π < 2 ^ 31 by omega), clN (show θ < 2 ^ 31 by omega), inR_nI (show π < 2 ^ 31 by omega), inR_nI (show θ < 2 ^ 31 by omega), show π < 8 by omega, show θ < 8 by omega]
                                  have eG : copG g (nI π) (nI θ) i j n = g := by simp [copA, copG, copF, cpOk, c1, c3, c29, c31, c33, c36, e01, e11, e21, e31, e41, e51, e61, e02, e12, e22, e32, e42, e52, e62, e72, clN (show π < 2 ^ 31 by omega), clN (show θ < 2 ^ 31 by omega), inR_nI (show π < 2 ^ 31 by omega), inR_nI (show θ < 2 ^ 31 by omega), show π < 8 by omega, show θ < 8 by omega]
                                  exact F.1 _ _ _ _ _ rfl rfl (dx dX7_copy 66 rfl) kh38 (show some (vi (-4)) = some (vi (copA g (nI π) (nI θ) i j n)) ∧ (∃ v', MilAt h38 k v') ∧ MshAt h38 k (copG g (nI π) (nI θ) i j n) ∧ Ks k h h38 from by rw [eA, eG]; exact ⟨rfl, ⟨_, mh38⟩, hs.kp ph38, ph38.ks⟩))
                            · first
                              | (omega; done)
                              | (
                                  have c36 : 2 = 1 := c36
                                  refine r_aload_n C (dx dX7_copy 40 rfl) rfl ?_
                                  refine g_X7_13 C (dx dX7_copy 41 rfl) ?_
                                  refine r_iload_n C (dx dX7_copy 42 rfl) rfl ?_
                                  refine r_iald (j := π) (x := xI h (k + 2) π) C rfl rfl (by decide) rfl (by omega) (dx dX7_copy 43 rfl) rfl ?_
                                  refine r_aload_n C (dx dX7_copy 44 rfl) rfl ?_
                                  refine g_X7_13 C (dx dX7_copy 45 rfl) ?_
                                  refine r_iload_n C (dx dX7_copy 46 rfl) rfl ?_
                                  refine r_iald (j := θ) (x := xI h (k + 2) θ) C rfl rfl (by decide) rfl (by omega) (dx dX7_copy 47 rfl) rfl ?_
                                  refine r_icmp_eq (tgt := 93) C (dx dX7_copy 48 rfl) (by decide) (fun c39 => ?_) (fun c39 => ?_)
                                  ·
                                    have c39 : xI h (k + 2) π = xI h (k + 2) θ := c39
                                    refine r_aload_n C (dx dX7_copy 53 rfl) rfl ?_
                                    refine g_X7_7 C (dx dX7_copy 54 rfl) ?_
                                    refine r_iload_n C (dx dX7_copy 55 rfl) rfl ?_
                                    refine r_iald (j := π) (x := nI 0) C rfl rfl (by decide) rfl (by omega) (dx dX7_copy 56 rfl) a11 ?_
                                    refine r_if_eq (tgt := 111) C (dx dX7_copy 57 rfl) (by decide) (fun _ => ?_) (fun c40 => (show False from by revert c40; decide).elim)
                                    refine r_aload_n C (dx dX7_copy 63 rfl) rfl ?_
                                    refine r_bipush (v := -4) C (dx dX7_copy 64 rfl) rfl ?_
                                    refine r_cv (as := [vi (-4)]) (st := []) C X I_X7_refuse l_X7_83 (c_X7_refuse hm (x := -4) (j := 4) (by decide) (by decide)) (by decide) (Nat.le_of_ble_eq_true rfl) List.prefix_rfl List.prefix_rfl rfl rfl (Nat.le_of_ble_eq_true rfl) rfl (dx dX7_copy 65 rfl) ?_
                                    rintro _ h41 ⟨rfl, ⟨wh41, m9h41, s9h41⟩, qh41⟩ kkh41
                                    obtain ⟨vh41, mh41, zh41⟩ : ∃ v9, MilAt h41 k v9 ∧ Sz v v9 := ⟨_, m9h41, s9h41⟩
                                    have ph41 : Kp k h h41 := qh41
                                    have kh41 : xK h41 = xK h := kkh41
                                    obtain ⟨ah41, bh41, ch41⟩ := zh41
                                    have eA : copA g (nI π) (nI θ) i j n = -4 := by simp [copA, copG, copF, cpOk, c1, c3, c29, c31, c33, c36, c39, e01, e11, e21, e31, e41, e51, e61, e02, e12, e22, e32, e42, e52, e62, e72, clN (show π < 2 ^ 31 by omega), clN (show θ < 2 ^ 31 by omega), inR_nI (show π < 2 ^ 31 by omega), inR_nI (show θ < 2 ^ 31 by omega), show π < 8 by omega, show θ < 8 by omega]
                                    have eG : copG g (nI π) (nI θ) i j n = g := by simp [copA, copG, copF, cpOk, c1, c3, c29, c31, c33, c36, c39, e01, e11, e21, e31, e41, e51, e61, e02, e12, e22, e32, e42, e52, e62, e72, clN (show π < 2 ^ 31 by omega), clN (show θ < 2 ^ 31 by omega), inR_nI (show π < 2 ^ 31 by omega), inR_nI (show θ < 2 ^ 31 by omega), show π < 8 by omega, show θ < 8 by omega]
                                    exact F.1 _ _ _ _ _ rfl rfl (dx dX7_copy 66 rfl) kh41 (show some (vi (-4)) = some (vi (copA g (nI π) (nI θ) i j n)) ∧ (∃ v', MilAt h41 k v') ∧ MshAt h41 k (copG g (nI π) (nI θ) i j n) ∧ Ks k h h41 from by rw [eA, eG]; exact ⟨rfl, ⟨_, mh41⟩, hs.kp ph41, ph41.ks⟩)
                                  ·
                                    have c39 : ¬ xI h (k + 2) π = xI h (k + 2) θ := c39
                                    refine r_aload_n C (dx dX7_copy 49 rfl) rfl ?_
                                    refine r_bipush (v := -3) C (dx dX7_copy 50 rfl) rfl ?_
                                    refine r_cv (as := [vi (-3)]) (st := []) C X I_X7_refuse l_X7_83 (c_X7_refuse hm (x := -3) (j := 3) (by decide) (by decide)) (by decide) (Nat.le_of_ble_eq_true rfl) List.prefix_rfl List.prefix_rfl rfl rfl (Nat.le_of_ble_eq_true rfl) rfl (dx dX7_copy 51 rfl) ?_
                                    rintro _ h42 ⟨rfl, ⟨wh42, m9h42, s9h42⟩, qh42⟩ kkh42
                                    obtain ⟨vh42, mh42, zh42⟩ : ∃ v9, MilAt h42 k v9 ∧ Sz v v9 := ⟨_, m9h42, s9h42⟩
                                    have ph42 : Kp k h h42 := qh42
                                    have kh42 : xK h42 = xK h := kkh42
                                    obtain ⟨ah42, bh42, ch42⟩ := zh42
                                    have eA : copA g (nI π) (nI θ) i j n = -3 := by simp [copA, copG, copF, cpOk, c1, c3, c29, c31, c33, c36, c39, e01, e11, e21, e31, e41, e51, e61, e02, e12, e22, e32, e42, e52, e62, e72, clN (show π < 2 ^ 31 by omega), clN (show θ < 2 ^ 31 by omega), inR_nI (show π < 2 ^ 31 by omega), inR_nI (show θ < 2 ^ 31 by omega), show π < 8 by omega, show θ < 8 by omega]
                                    have eG : copG g (nI π) (nI θ) i j n = g := by simp [copA, copG, copF, cpOk, c1, c3, c29, c31, c33, c36, c39, e01, e11, e21, e31, e41, e51, e61, e02, e12, e22, e32, e42, e52, e62, e72, clN (show π < 2 ^ 31 by omega), clN (show θ < 2 ^ 31 by omega), inR_nI (show π < 2 ^ 31 by omega), inR_nI (show θ < 2 ^ 31 by omega), show π < 8 by omega, show θ < 8 by omega]
                                    exact F.1 _ _ _ _ _ rfl rfl (dx dX7_copy 52 rfl) kh42 (show some (vi (-3)) = some (vi (copA g (nI π) (nI θ) i j n)) ∧ (∃ v', MilAt h42 k v') ∧ MshAt h42 k (copG g (nI π) (nI θ) i j n) ∧ Ks k h h42 from by rw [eA, eG]; exact ⟨rfl, ⟨_, mh42⟩, hs.kp ph42, ph42.ks⟩)))))
      ·
        obtain ⟨e01, e11, e21, e31, e41, e51, e61⟩ := sh_row hπ a11 a61 a71
        rcases hs θ hθ with ⟨a12, a22⟩ | ⟨τ2, ν2, a12, a22, a32, a42, a52, a62, a72, a82⟩ | ⟨κ2, b2, a12, a22, a32, a42, a52, a62, a72, a82⟩
        ·
          obtain ⟨e02, e12, e22, e32, e42, e52, e62⟩ := sh_bare hθ a22
          refine r_aload_n C (dx dX7_copy 16 rfl) rfl ?_
          refine g_X7_7 C (dx dX7_copy 17 rfl) ?_
          refine r_iload_n C (dx dX7_copy 18 rfl) rfl ?_
          refine r_iald (j := π) (x := nI 1) C rfl rfl (by decide) rfl (by omega) (dx dX7_copy 19 rfl) a31 ?_
          refine r_iconst (v := nI 2) C (dx dX7_copy 20 rfl) rfl ?_
          refine rn_eq (a := 1) (b := 2) (tgt := 86) C (by omega) (by omega) (dx dX7_copy 21 rfl) (by decide) (fun c43 => ?_) (fun c43 => ?_)
          · first
            | (omega; done)
            | (
                have c43 : 1 = 2 := c43
                refine r_aload_n C (dx dX7_copy 49 rfl) rfl ?_
                refine r_bipush (v := -3) C (dx dX7_copy 50 rfl) rfl ?_
                refine r_cv (as := [vi (-3)]) (st := []) C X I_X7_refuse l_X7_83 (c_X7_refuse hm (x := -3) (j := 3) (by decide) (by decide)) (by decide) (Nat.le_of_ble_eq_true rfl) List.prefix_rfl List.prefix_rfl rfl rfl (Nat.le_of_ble_eq_true rfl) rfl (dx dX7_copy 51 rfl) ?_
                rintro _ h44 ⟨rfl, ⟨wh44, m9h44, s9h44⟩, qh44⟩ kkh44
                obtain ⟨vh44, mh44, zh44⟩ : ∃ v9, MilAt h44 k v9 ∧ Sz v v9 := ⟨_, m9h44, s9h44⟩
                have ph44 : Kp k h h44 := qh44
                have kh44 : xK h44 = xK h := kkh44
                obtain ⟨ah44, bh44, ch44⟩ := zh44
                have eA : copA g (nI π) (nI θ) i j n = -3 := by simp [copA, copG, copF, cpOk, c1, c3, c43, e01, e11, e21, e31, e41, e51, e61, e02, e12, e22, e32, e42, e52, e62, clN (show π < 2 ^ 31 by omega), clN (show θ < 2 ^ 31 by omega), inR_nI (show π < 2 ^ 31 by omega), inR_nI (show θ < 2 ^ 31 by omega), show π < 8 by omega, show θ < 8 by omega]
                have eG : copG g (nI π) (nI θ) i j n = g := by simp [copA, copG, copF, cpOk, c1, c3, c43, e01, e11, e21, e31, e41, e51, e61, e02, e12, e22, e32, e42, e52, e62, clN (show π < 2 ^ 31 by omega), clN (show θ < 2 ^ 31 by omega), inR_nI (show π < 2 ^ 31 by omega), inR_nI (show θ < 2 ^ 31 by omega), show π < 8 by omega, show θ < 8 by omega]
                exact F.1 _ _ _ _ _ rfl rfl (dx dX7_copy 52 rfl) kh44 (show some (vi (-3)) = some (vi (copA g (nI π) (nI θ) i j n)) ∧ (∃ v', MilAt h44 k v') ∧ MshAt h44 k (copG g (nI π) (nI θ) i j n) ∧ Ks k h h44 from by rw [eA, eG]; exact ⟨rfl, ⟨_, mh44⟩, hs.kp ph44, ph44.ks⟩))
          · first
            | (omega; done)
            | (
                have c43 : ¬ 1 = 2 := c43
                refine r_aload_n C (dx dX7_copy 22 rfl) rfl ?_
                refine g_X7_7 C (dx dX7_copy 23 rfl) ?_
                refine r_iload_n C (dx dX7_copy 24 rfl) rfl ?_
                refine r_iald (j := θ) (x := nI 0) C rfl rfl (by decide) rfl (by omega) (dx dX7_copy 25 rfl) a12 ?_
                refine r_iconst (v := nI 2) C (dx dX7_copy 26 rfl) rfl ?_
                refine rn_eq (a := 0) (b := 2) (tgt := 86) C (by omega) (by omega) (dx dX7_copy 27 rfl) (by decide) (fun c45 => ?_) (fun c45 => ?_)
                · first
                  | (omega; done)
                  | (
                      have c45 : 0 = 2 := c45
                      refine r_aload_n C (dx dX7_copy 49 rfl) rfl ?_
                      refine r_bipush (v := -3) C (dx dX7_copy 50 rfl) rfl ?_
                      refine r_cv (as := [vi (-3)]) (st := []) C X I_X7_refuse l_X7_83 (c_X7_refuse hm (x := -3) (j := 3) (by decide) (by decide)) (by decide) (Nat.le_of_ble_eq_true rfl) List.prefix_rfl List.prefix_rfl rfl rfl (Nat.le_of_ble_eq_true rfl) rfl (dx dX7_copy 51 rfl) ?_
                      rintro _ h46 ⟨rfl, ⟨wh46, m9h46, s9h46⟩, qh46⟩ kkh46
                      obtain ⟨vh46, mh46, zh46⟩ : ∃ v9, MilAt h46 k v9 ∧ Sz v v9 := ⟨_, m9h46, s9h46⟩
                      have ph46 : Kp k h h46 := qh46
                      have kh46 : xK h46 = xK h := kkh46
                      obtain ⟨ah46, bh46, ch46⟩ := zh46
                      have eA : copA g (nI π) (nI θ) i j n = -3 := by simp [copA, copG, copF, cpOk, c1, c3, c43, c45, e01, e11, e21, e31, e41, e51, e61, e02, e12, e22, e32, e42, e52, e62, clN (show π < 2 ^ 31 by omega), clN (show θ < 2 ^ 31 by omega), inR_nI (show π < 2 ^ 31 by omega), inR_nI (show θ < 2 ^ 31 by omega), show π < 8 by omega, show θ < 8 by omega]
                      have eG : copG g (nI π) (nI θ) i j n = g := by simp [copA, copG, copF, cpOk, c1, c3, c43, c45, e01, e11, e21, e31, e41, e51, e61, e02, e12, e22, e32, e42, e52, e62, clN (show π < 2 ^ 31 by omega), clN (show θ < 2 ^ 31 by omega), inR_nI (show π < 2 ^ 31 by omega), inR_nI (show θ < 2 ^ 31 by omega), show π < 8 by omega, show θ < 8 by omega]
                      exact F.1 _ _ _ _ _ rfl rfl (dx dX7_copy 52 rfl) kh46 (show some (vi (-3)) = some (vi (copA g (nI π) (nI θ) i j n)) ∧ (∃ v', MilAt h46 k v') ∧ MshAt h46 k (copG g (nI π) (nI θ) i j n) ∧ Ks k h h46 from by rw [eA, eG]; exact ⟨rfl, ⟨_, mh46⟩, hs.kp ph46, ph46.ks⟩))
                · first
                  | (omega; done)
                  | (
                      have c45 : ¬ 0 = 2 := c45
                      refine r_aload_n C (dx dX7_copy 28 rfl) rfl ?_
                      refine g_X7_7 C (dx dX7_copy 29 rfl) ?_
                      refine r_iload_n C (dx dX7_copy 30 rfl) rfl ?_
                      refine r_iald (j := π) (x := nI 1) C rfl rfl (by decide) rfl (by omega) (dx dX7_copy 31 rfl) a31 ?_
                      refine r_iconst (v := nI 1) C (dx dX7_copy 32 rfl) rfl ?_
                      refine rn_ne (a := 1) (b := 1) (tgt := 93) C (by omega) (by omega) (dx dX7_copy 33 rfl) (by decide) (fun c47 => ?_) (fun c47 => ?_)
                      · first
                        | (omega; done)
                        | (
                            have c47 : ¬ 1 = 1 := c47
                            refine r_aload_n C (dx dX7_copy 53 rfl) rfl ?_
                            refine g_X7_7 C (dx dX7_copy 54 rfl) ?_
                            refine r_iload_n C (dx dX7_copy 55 rfl) rfl ?_
                            refine r_iald (j := π) (x := nI 1) C rfl rfl (by decide) rfl (by omega) (dx dX7_copy 56 rfl) a31 ?_
                            refine r_if_eq (tgt := 111) C (dx dX7_copy 57 rfl) (by decide) (fun c48 => (show False from by revert c48; decide).elim) (fun _ => ?_)
                            refine r_aload_n C (dx dX7_copy 58 rfl) rfl ?_
                            refine g_X7_7 C (dx dX7_copy 59 rfl) ?_
                            refine r_iload_n C (dx dX7_copy 60 rfl) rfl ?_
                            refine r_iald (j := θ) (x := nI 0) C rfl rfl (by decide) rfl (by omega) (dx dX7_copy 61 rfl) a12 ?_
                            refine r_if_ne (tgt := 118) C (dx dX7_copy 62 rfl) (by decide) (fun c49 => (show False from by revert c49; decide).elim) (fun _ => ?_)
                            refine r_aload_n C (dx dX7_copy 63 rfl) rfl ?_
                            refine r_bipush (v := -4) C (dx dX7_copy 64 rfl) rfl ?_
                            refine r_cv (as := [vi (-4)]) (st := []) C X I_X7_refuse l_X7_83 (c_X7_refuse hm (x := -4) (j := 4) (by decide) (by decide)) (by decide) (Nat.le_of_ble_eq_true rfl) List.prefix_rfl List.prefix_rfl rfl rfl (Nat.le_of_ble_eq_true rfl) rfl (dx dX7_copy 65 rfl) ?_
                            rintro _ h50 ⟨rfl, ⟨wh50, m9h50, s9h50⟩, qh50⟩ kkh50
                            obtain ⟨vh50, mh50, zh50⟩ : ∃ v9, MilAt h50 k v9 ∧ Sz v v9 := ⟨_, m9h50, s9h50⟩
                            have ph50 : Kp k h h50 := qh50
                            have kh50 : xK h50 = xK h := kkh50
                            obtain ⟨ah50, bh50, ch50⟩ := zh50
                            have eA : copA g (nI π) (nI θ) i j n = -4 := by simp [copA, copG, copF, cpOk, c1, c3, c43, c45, c47, e01, e11, e21, e31, e41, e51, e61, e02, e12, e22, e32, e42, e52, e62, clN (show π < 2 ^ 31 by omega), clN (show θ < 2 ^ 31 by omega), inR_nI (show π < 2 ^ 31 by omega), inR_nI (show θ < 2 ^ 31 by omega), show π < 8 by omega, show θ < 8 by omega]
                            have eG : copG g (nI π) (nI θ) i j n = g := by simp [copA, copG, copF, cpOk, c1, c3, c43, c45, c47, e01, e11, e21, e31, e41, e51, e61, e02, e12, e22, e32, e42, e52, e62, clN (show π < 2 ^ 31 by omega), clN (show θ < 2 ^ 31 by omega), inR_nI (show π < 2 ^ 31 by omega), inR_nI (show θ < 2 ^ 31 by omega), show π < 8 by omega, show θ < 8 by omega]
                            exact F.1 _ _ _ _ _ rfl rfl (dx dX7_copy 66 rfl) kh50 (show some (vi (-4)) = some (vi (copA g (nI π) (nI θ) i j n)) ∧ (∃ v', MilAt h50 k v') ∧ MshAt h50 k (copG g (nI π) (nI θ) i j n) ∧ Ks k h h50 from by rw [eA, eG]; exact ⟨rfl, ⟨_, mh50⟩, hs.kp ph50, ph50.ks⟩))
                      · first
                        | (omega; done)
                        | (
                            have c47 : 1 = 1 := c47
                            refine r_aload_n C (dx dX7_copy 34 rfl) rfl ?_
                            refine g_X7_7 C (dx dX7_copy 35 rfl) ?_
                            refine r_iload_n C (dx dX7_copy 36 rfl) rfl ?_
                            refine r_iald (j := θ) (x := nI 0) C rfl rfl (by decide) rfl (by omega) (dx dX7_copy 37 rfl) a12 ?_
                            refine r_iconst (v := nI 1) C (dx dX7_copy 38 rfl) rfl ?_
                            refine rn_ne (a := 0) (b := 1) (tgt := 93) C (by omega) (by omega) (dx dX7_copy 39 rfl) (by decide) (fun c51 => ?_) (fun c51 => ?_)
                            · first
                              | (omega; done)
                              | (
                                  have c51 : ¬ 0 = 1 := c51
                                  refine r_aload_n C (dx dX7_copy 53 rfl) rfl ?_
                                  refine g_X7_7 C (dx dX7_copy 54 rfl) ?_
                                  refine r_iload_n C (dx dX7_copy 55 rfl) rfl ?_
                                  refine r_iald (j := π) (x := nI 1) C rfl rfl (by decide) rfl (by omega) (dx dX7_copy 56 rfl) a31 ?_
                                  refine r_if_eq (tgt := 111) C (dx dX7_copy 57 rfl) (by decide) (fun c52 => (show False from by revert c52; decide).elim) (fun _ => ?_)
                                  refine r_aload_n C (dx dX7_copy 58 rfl) rfl ?_
                                  refine g_X7_7 C (dx dX7_copy 59 rfl) ?_
                                  refine r_iload_n C (dx dX7_copy 60 rfl) rfl ?_
                                  refine r_iald (j := θ) (x := nI 0) C rfl rfl (by decide) rfl (by omega) (dx dX7_copy 61 rfl) a12 ?_
                                  refine r_if_ne (tgt := 118) C (dx dX7_copy 62 rfl) (by decide) (fun c53 => (show False from by revert c53; decide).elim) (fun _ => ?_)
                                  refine r_aload_n C (dx dX7_copy 63 rfl) rfl ?_
                                  refine r_bipush (v := -4) C (dx dX7_copy 64 rfl) rfl ?_
                                  refine r_cv (as := [vi (-4)]) (st := []) C X I_X7_refuse l_X7_83 (c_X7_refuse hm (x := -4) (j := 4) (by decide) (by decide)) (by decide) (Nat.le_of_ble_eq_true rfl) List.prefix_rfl List.prefix_rfl rfl rfl (Nat.le_of_ble_eq_true rfl) rfl (dx dX7_copy 65 rfl) ?_
                                  rintro _ h54 ⟨rfl, ⟨wh54, m9h54, s9h54⟩, qh54⟩ kkh54
                                  obtain ⟨vh54, mh54, zh54⟩ : ∃ v9, MilAt h54 k v9 ∧ Sz v v9 := ⟨_, m9h54, s9h54⟩
                                  have ph54 : Kp k h h54 := qh54
                                  have kh54 : xK h54 = xK h := kkh54
                                  obtain ⟨ah54, bh54, ch54⟩ := zh54
                                  have eA : copA g (nI π) (nI θ) i j n = -4 := by simp [copA, copG, copF, cpOk, c1, c3, c43, c45, c47, c51, e01, e11, e21, e31, e41, e51, e61, e02, e12, e22, e32, e42, e52, e62, clN (show π < 2 ^ 31 by omega), clN (show θ < 2 ^ 31 by omega), inR_nI (show π < 2 ^ 31 by omega), inR_nI (show θ < 2 ^ 31 by omega), show π < 8 by omega, show θ < 8 by omega]
                                  have eG : copG g (nI π) (nI θ) i j n = g := by simp [copA, copG, copF, cpOk, c1, c3, c43, c45, c47, c51, e01, e11, e21, e31, e41, e51, e61, e02, e12, e22, e32, e42, e52, e62, clN (show π < 2 ^ 31 by omega), clN (show θ < 2 ^ 31 by omega), inR_nI (show π < 2 ^ 31 by omega), inR_nI (show θ < 2 ^ 31 by omega), show π < 8 by omega, show θ < 8 by omega]
                                  exact F.1 _ _ _ _ _ rfl rfl (dx dX7_copy 66 rfl) kh54 (show some (vi (-4)) = some (vi (copA g (nI π) (nI θ) i j n)) ∧ (∃ v', MilAt h54 k v') ∧ MshAt h54 k (copG g (nI π) (nI θ) i j n) ∧ Ks k h h54 from by rw [eA, eG]; exact ⟨rfl, ⟨_, mh54⟩, hs.kp ph54, ph54.ks⟩))
                            · first
                              | (omega; done)
                              | (
                                  have c51 : 0 = 1 := c51
                                  refine r_aload_n C (dx dX7_copy 40 rfl) rfl ?_
                                  refine g_X7_13 C (dx dX7_copy 41 rfl) ?_
                                  refine r_iload_n C (dx dX7_copy 42 rfl) rfl ?_
                                  refine r_iald (j := π) (x := nI τ1) C rfl rfl (by decide) rfl (by omega) (dx dX7_copy 43 rfl) a41 ?_
                                  refine r_aload_n C (dx dX7_copy 44 rfl) rfl ?_
                                  refine g_X7_13 C (dx dX7_copy 45 rfl) ?_
                                  refine r_iload_n C (dx dX7_copy 46 rfl) rfl ?_
                                  refine r_iald (j := θ) (x := xI h (k + 2) θ) C rfl rfl (by decide) rfl (by omega) (dx dX7_copy 47 rfl) rfl ?_
                                  refine r_icmp_eq (tgt := 93) C (dx dX7_copy 48 rfl) (by decide) (fun c55 => ?_) (fun c55 => ?_)
                                  ·
                                    have c55 : nI τ1 = xI h (k + 2) θ := c55
                                    refine r_aload_n C (dx dX7_copy 53 rfl) rfl ?_
                                    refine g_X7_7 C (dx dX7_copy 54 rfl) ?_
                                    refine r_iload_n C (dx dX7_copy 55 rfl) rfl ?_
                                    refine r_iald (j := π) (x := nI 1) C rfl rfl (by decide) rfl (by omega) (dx dX7_copy 56 rfl) a31 ?_
                                    refine r_if_eq (tgt := 111) C (dx dX7_copy 57 rfl) (by decide) (fun c56 => (show False from by revert c56; decide).elim) (fun _ => ?_)
                                    refine r_aload_n C (dx dX7_copy 58 rfl) rfl ?_
                                    refine g_X7_7 C (dx dX7_copy 59 rfl) ?_
                                    refine r_iload_n C (dx dX7_copy 60 rfl) rfl ?_
                                    refine r_iald (j := θ) (x := nI 0) C rfl rfl (by decide) rfl (by omega) (dx dX7_copy 61 rfl) a12 ?_
                                    refine r_if_ne (tgt := 118) C (dx dX7_copy 62 rfl) (by decide) (fun c57 => (show False from by revert c57; decide).elim) (fun _ => ?_)
                                    refine r_aload_n C (dx dX7_copy 63 rfl) rfl ?_
                                    refine r_bipush (v := -4) C (dx dX7_copy 64 rfl) rfl ?_
                                    refine r_cv (as := [vi (-4)]) (st := []) C X I_X7_refuse l_X7_83 (c_X7_refuse hm (x := -4) (j := 4) (by decide) (by decide)) (by decide) (Nat.le_of_ble_eq_true rfl) List.prefix_rfl List.prefix_rfl rfl rfl (Nat.le_of_ble_eq_true rfl) rfl (dx dX7_copy 65 rfl) ?_
                                    rintro _ h58 ⟨rfl, ⟨wh58, m9h58, s9h58⟩, qh58⟩ kkh58
                                    obtain ⟨vh58, mh58, zh58⟩ : ∃ v9, MilAt h58 k v9 ∧ Sz v v9 := ⟨_, m9h58, s9h58⟩
                                    have ph58 : Kp k h h58 := qh58
                                    have kh58 : xK h58 = xK h := kkh58
                                    obtain ⟨ah58, bh58, ch58⟩ := zh58
                                    have eA : copA g (nI π) (nI θ) i j n = -4 := by simp [copA, copG, copF, cpOk, c1, c3, c43, c45, c47, c51, c55, e01, e11, e21, e31, e41, e51, e61, e02, e12, e22, e32, e42, e52, e62, clN (show π < 2 ^ 31 by omega), clN (show θ < 2 ^ 31 by omega), inR_nI (show π < 2 ^ 31 by omega), inR_nI (show θ < 2 ^ 31 by omega), show π < 8 by omega, show θ < 8 by omega]
                                    have eG : copG g (nI π) (nI θ) i j n = g := by simp [copA, copG, copF, cpOk, c1, c3, c43, c45, c47, c51, c55, e01, e11, e21, e31, e41, e51, e61, e02, e12, e22, e32, e42, e52, e62, clN (show π < 2 ^ 31 by omega), clN (show θ < 2 ^ 31 by omega), inR_nI (show π < 2 ^ 31 by omega), inR_nI (show θ < 2 ^ 31 by omega), show π < 8 by omega, show θ < 8 by omega]
                                    exact F.1 _ _ _ _ _ rfl rfl (dx dX7_copy 66 rfl) kh58 (show some (vi (-4)) = some (vi (copA g (nI π) (nI θ) i j n)) ∧ (∃ v', MilAt h58 k v') ∧ MshAt h58 k (copG g (nI π) (nI θ) i j n) ∧ Ks k h h58 from by rw [eA, eG]; exact ⟨rfl, ⟨_, mh58⟩, hs.kp ph58, ph58.ks⟩)
                                  ·
                                    have c55 : ¬ nI τ1 = xI h (k + 2) θ := c55
                                    refine r_aload_n C (dx dX7_copy 49 rfl) rfl ?_
                                    refine r_bipush (v := -3) C (dx dX7_copy 50 rfl) rfl ?_
                                    refine r_cv (as := [vi (-3)]) (st := []) C X I_X7_refuse l_X7_83 (c_X7_refuse hm (x := -3) (j := 3) (by decide) (by decide)) (by decide) (Nat.le_of_ble_eq_true rfl) List.prefix_rfl List.prefix_rfl rfl rfl (Nat.le_of_ble_eq_true rfl) rfl (dx dX7_copy 51 rfl) ?_
                                    rintro _ h59 ⟨rfl, ⟨wh59, m9h59, s9h59⟩, qh59⟩ kkh59
                                    obtain ⟨vh59, mh59, zh59⟩ : ∃ v9, MilAt h59 k v9 ∧ Sz v v9 := ⟨_, m9h59, s9h59⟩
                                    have ph59 : Kp k h h59 := qh59
                                    have kh59 : xK h59 = xK h := kkh59
                                    obtain ⟨ah59, bh59, ch59⟩ := zh59
                                    have eA : copA g (nI π) (nI θ) i j n = -3 := by simp [copA, copG, copF, cpOk, c1, c3, c43, c45, c47, c51, c55, e01, e11, e21, e31, e41, e51, e61, e02, e12, e22, e32, e42, e52, e62, clN (show π < 2 ^ 31 by omega), clN (show θ < 2 ^ 31 by omega), inR_nI (show π < 2 ^ 31 by omega), inR_nI (show θ < 2 ^ 31 by omega), show π < 8 by omega, show θ < 8 by omega]
                                    have eG : copG g (nI π) (nI θ) i j n = g := by simp [copA, copG, copF, cpOk, c1, c3, c43, c45, c47, c51, c55, e01, e11, e21, e31, e41, e51, e61, e02, e12, e22, e32, e42, e52, e62, clN (show π < 2 ^ 31 by omega), clN (show θ < 2 ^ 31 by omega), inR_nI (show π < 2 ^ 31 by omega), inR_nI (show θ < 2 ^ 31 by omega), show π < 8 by omega, show θ < 8 by omega]
                                    exact F.1 _ _ _ _ _ rfl rfl (dx dX7_copy 52 rfl) kh59 (show some (vi (-3)) = some (vi (copA g (nI π) (nI θ) i j n)) ∧ (∃ v', MilAt h59 k v') ∧ MshAt h59 k (copG g (nI π) (nI θ) i j n) ∧ Ks k h h59 from by rw [eA, eG]; exact ⟨rfl, ⟨_, mh59⟩, hs.kp ph59, ph59.ks⟩)))))
        ·
          obtain ⟨e02, e12, e22, e32, e42, e52, e62⟩ := sh_row hθ a12 a62 a72
          refine r_aload_n C (dx dX7_copy 16 rfl) rfl ?_
          refine g_X7_7 C (dx dX7_copy 17 rfl) ?_
          refine r_iload_n C (dx dX7_copy 18 rfl) rfl ?_
          refine r_iald (j := π) (x := nI 1) C rfl rfl (by decide) rfl (by omega) (dx dX7_copy 19 rfl) a31 ?_
          refine r_iconst (v := nI 2) C (dx dX7_copy 20 rfl) rfl ?_
          refine rn_eq (a := 1) (b := 2) (tgt := 86) C (by omega) (by omega) (dx dX7_copy 21 rfl) (by decide) (fun c60 => ?_) (fun c60 => ?_)
          · first
            | (omega; done)
            | (
                have c60 : 1 = 2 := c60
                refine r_aload_n C (dx dX7_copy 49 rfl) rfl ?_
                refine r_bipush (v := -3) C (dx dX7_copy 50 rfl) rfl ?_
                refine r_cv (as := [vi (-3)]) (st := []) C X I_X7_refuse l_X7_83 (c_X7_refuse hm (x := -3) (j := 3) (by decide) (by decide)) (by decide) (Nat.le_of_ble_eq_true rfl) List.prefix_rfl List.prefix_rfl rfl rfl (Nat.le_of_ble_eq_true rfl) rfl (dx dX7_copy 51 rfl) ?_
                rintro _ h61 ⟨rfl, ⟨wh61, m9h61, s9h61⟩, qh61⟩ kkh61
                obtain ⟨vh61, mh61, zh61⟩ : ∃ v9, MilAt h61 k v9 ∧ Sz v v9 := ⟨_, m9h61, s9h61⟩
                have ph61 : Kp k h h61 := qh61
                have kh61 : xK h61 = xK h := kkh61
                obtain ⟨ah61, bh61, ch61⟩ := zh61
                have eA : copA g (nI π) (nI θ) i j n = -3 := by simp [copA, copG, copF, cpOk, c1, c3, c60, e01, e11, e21, e31, e41, e51, e61, e02, e12, e22, e32, e42, e52, e62, clN (show π < 2 ^ 31 by omega), clN (show θ < 2 ^ 31 by omega), inR_nI (show π < 2 ^ 31 by omega), inR_nI (show θ < 2 ^ 31 by omega), show π < 8 by omega, show θ < 8 by omega, nI_eq (show τ1 < 2 ^ 31 by omega) (show τ2 < 2 ^ 31 by omega)]
                have eG : copG g (nI π) (nI θ) i j n = g := by simp [copA, copG, copF, cpOk, c1, c3, c60, e01, e11, e21, e31, e41, e51, e61, e02, e12, e22, e32, e42, e52, e62, clN (show π < 2 ^ 31 by omega), clN (show θ < 2 ^ 31 by omega), inR_nI (show π < 2 ^ 31 by omega), inR_nI (show θ < 2 ^ 31 by omega), show π < 8 by omega, show θ < 8 by omega, nI_eq (show τ1 < 2 ^ 31 by omega) (show τ2 < 2 ^ 31 by omega)]
                exact F.1 _ _ _ _ _ rfl rfl (dx dX7_copy 52 rfl) kh61 (show some (vi (-3)) = some (vi (copA g (nI π) (nI θ) i j n)) ∧ (∃ v', MilAt h61 k v') ∧ MshAt h61 k (copG g (nI π) (nI θ) i j n) ∧ Ks k h h61 from by rw [eA, eG]; exact ⟨rfl, ⟨_, mh61⟩, hs.kp ph61, ph61.ks⟩))
          · first
            | (omega; done)
            | (
                have c60 : ¬ 1 = 2 := c60
                refine r_aload_n C (dx dX7_copy 22 rfl) rfl ?_
                refine g_X7_7 C (dx dX7_copy 23 rfl) ?_
                refine r_iload_n C (dx dX7_copy 24 rfl) rfl ?_
                refine r_iald (j := θ) (x := nI 1) C rfl rfl (by decide) rfl (by omega) (dx dX7_copy 25 rfl) a32 ?_
                refine r_iconst (v := nI 2) C (dx dX7_copy 26 rfl) rfl ?_
                refine rn_eq (a := 1) (b := 2) (tgt := 86) C (by omega) (by omega) (dx dX7_copy 27 rfl) (by decide) (fun c62 => ?_) (fun c62 => ?_)
                ·
                  have c62 : 1 = 2 := c62
                  exact absurd c62 c60
                · first
                  | (omega; done)
                  | (
                      have c62 : ¬ 1 = 2 := c62
                      refine r_aload_n C (dx dX7_copy 28 rfl) rfl ?_
                      refine g_X7_7 C (dx dX7_copy 29 rfl) ?_
                      refine r_iload_n C (dx dX7_copy 30 rfl) rfl ?_
                      refine r_iald (j := π) (x := nI 1) C rfl rfl (by decide) rfl (by omega) (dx dX7_copy 31 rfl) a31 ?_
                      refine r_iconst (v := nI 1) C (dx dX7_copy 32 rfl) rfl ?_
                      refine rn_ne (a := 1) (b := 1) (tgt := 93) C (by omega) (by omega) (dx dX7_copy 33 rfl) (by decide) (fun c63 => ?_) (fun c63 => ?_)
                      · first
                        | (omega; done)
                        | (
                            have c63 : ¬ 1 = 1 := c63
                            refine r_aload_n C (dx dX7_copy 53 rfl) rfl ?_
                            refine g_X7_7 C (dx dX7_copy 54 rfl) ?_
                            refine r_iload_n C (dx dX7_copy 55 rfl) rfl ?_
                            refine r_iald (j := π) (x := nI 1) C rfl rfl (by decide) rfl (by omega) (dx dX7_copy 56 rfl) a31 ?_
                            refine r_if_eq (tgt := 111) C (dx dX7_copy 57 rfl) (by decide) (fun c64 => (show False from by revert c64; decide).elim) (fun _ => ?_)
                            refine r_aload_n C (dx dX7_copy 58 rfl) rfl ?_
                            refine g_X7_7 C (dx dX7_copy 59 rfl) ?_
                            refine r_iload_n C (dx dX7_copy 60 rfl) rfl ?_
                            refine r_iald (j := θ) (x := nI 1) C rfl rfl (by decide) rfl (by omega) (dx dX7_copy 61 rfl) a32 ?_
                            refine r_if_ne (tgt := 118) C (dx dX7_copy 62 rfl) (by decide) (fun _ => ?_) (fun c65 => (show False from by revert c65; decide).elim)
                            refine r_iload C (dx dX7_copy 67 rfl) rfl ?_
                            refine r_if_lt (tgt := 181) C (dx dX7_copy 68 rfl) (by decide) (fun c66 => ?_) (fun c66 => ?_)
                            ·
                              have c66 : n < 0 := c66
                              refine r_aload_n C (dx dX7_copy 101 rfl) rfl ?_
                              refine r_bipush (v := -2) C (dx dX7_copy 102 rfl) rfl ?_
                              refine r_cv (as := [vi (-2)]) (st := []) C X I_X7_refuse l_X7_83 (c_X7_refuse hm (x := -2) (j := 2) (by decide) (by decide)) (by decide) (Nat.le_of_ble_eq_true rfl) List.prefix_rfl List.prefix_rfl rfl rfl (Nat.le_of_ble_eq_true rfl) rfl (dx dX7_copy 103 rfl) ?_
                              rintro _ h67 ⟨rfl, ⟨wh67, m9h67, s9h67⟩, qh67⟩ kkh67
                              obtain ⟨vh67, mh67, zh67⟩ : ∃ v9, MilAt h67 k v9 ∧ Sz v v9 := ⟨_, m9h67, s9h67⟩
                              have ph67 : Kp k h h67 := qh67
                              have kh67 : xK h67 = xK h := kkh67
                              obtain ⟨ah67, bh67, ch67⟩ := zh67
                              have eA : copA g (nI π) (nI θ) i j n = -2 := by simp [copA, copG, copF, cpOk, c1, c3, c60, c62, c63, (fun n9 => inR_neg (n := n9) c66 : ∀ n9, inR n n9 = false), c66, e01, e11, e21, e31, e41, e51, e61, e02, e12, e22, e32, e42, e52, e62, clN (show π < 2 ^ 31 by omega), clN (show θ < 2 ^ 31 by omega), inR_nI (show π < 2 ^ 31 by omega), inR_nI (show θ < 2 ^ 31 by omega), show π < 8 by omega, show θ < 8 by omega, nI_eq (show τ1 < 2 ^ 31 by omega) (show τ2 < 2 ^ 31 by omega)]
                              have eG : copG g (nI π) (nI θ) i j n = g := by simp [copA, copG, copF, cpOk, c1, c3, c60, c62, c63, (fun n9 => inR_neg (n := n9) c66 : ∀ n9, inR n n9 = false), c66, e01, e11, e21, e31, e41, e51, e61, e02, e12, e22, e32, e42, e52, e62, clN (show π < 2 ^ 31 by omega), clN (show θ < 2 ^ 31 by omega), inR_nI (show π < 2 ^ 31 by omega), inR_nI (show θ < 2 ^ 31 by omega), show π < 8 by omega, show θ < 8 by omega, nI_eq (show τ1 < 2 ^ 31 by omega) (show τ2 < 2 ^ 31 by omega)]
                              exact F.1 _ _ _ _ _ rfl rfl (dx dX7_copy 104 rfl) kh67 (show some (vi (-2)) = some (vi (copA g (nI π) (nI θ) i j n)) ∧ (∃ v', MilAt h67 k v') ∧ MshAt h67 k (copG g (nI π) (nI θ) i j n) ∧ Ks k h h67 from by rw [eA, eG]; exact ⟨rfl, ⟨_, mh67⟩, hs.kp ph67, ph67.ks⟩)
                            ·
                              have c66 : ¬ n < 0 := c66
                              obtain ⟨ν, hν, rfl⟩ := nI_of c66
                              refine r_iload_n C (dx dX7_copy 69 rfl) rfl ?_
                              refine r_if_lt (tgt := 181) C (dx dX7_copy 70 rfl) (by decide) (fun c68 => ?_) (fun c68 => ?_)
                              ·
                                have c68 : i < 0 := c68
                                refine r_aload_n C (dx dX7_copy 101 rfl) rfl ?_
                                refine r_bipush (v := -2) C (dx dX7_copy 102 rfl) rfl ?_
                                refine r_cv (as := [vi (-2)]) (st := []) C X I_X7_refuse l_X7_83 (c_X7_refuse hm (x := -2) (j := 2) (by decide) (by decide)) (by decide) (Nat.le_of_ble_eq_true rfl) List.prefix_rfl List.prefix_rfl rfl rfl (Nat.le_of_ble_eq_true rfl) rfl (dx dX7_copy 103 rfl) ?_
                                rintro _ h69 ⟨rfl, ⟨wh69, m9h69, s9h69⟩, qh69⟩ kkh69
                                obtain ⟨vh69, mh69, zh69⟩ : ∃ v9, MilAt h69 k v9 ∧ Sz v v9 := ⟨_, m9h69, s9h69⟩
                                have ph69 : Kp k h h69 := qh69
                                have kh69 : xK h69 = xK h := kkh69
                                obtain ⟨ah69, bh69, ch69⟩ := zh69
                                have eA : copA g (nI π) (nI θ) i j (nI ν) = -2 := by simp [copA, copG, copF, cpOk, c1, c3, c60, c62, c63, c66, (fun n9 => inR_neg (n := n9) c68 : ∀ n9, inR i n9 = false), c68, e01, e11, e21, e31, e41, e51, e61, e02, e12, e22, e32, e42, e52, e62, clN (show π < 2 ^ 31 by omega), clN (show θ < 2 ^ 31 by omega), clN (show ν < 2 ^ 31 by omega), inR_nI (show π < 2 ^ 31 by omega), inR_nI (show θ < 2 ^ 31 by omega), inR_nI (show ν < 2 ^ 31 by omega), show π < 8 by omega, show θ < 8 by omega, nI_eq (show τ1 < 2 ^ 31 by omega) (show τ2 < 2 ^ 31 by omega)]
                                have eG : copG g (nI π) (nI θ) i j (nI ν) = g := by simp [copA, copG, copF, cpOk, c1, c3, c60, c62, c63, c66, (fun n9 => inR_neg (n := n9) c68 : ∀ n9, inR i n9 = false), c68, e01, e11, e21, e31, e41, e51, e61, e02, e12, e22, e32, e42, e52, e62, clN (show π < 2 ^ 31 by omega), clN (show θ < 2 ^ 31 by omega), clN (show ν < 2 ^ 31 by omega), inR_nI (show π < 2 ^ 31 by omega), inR_nI (show θ < 2 ^ 31 by omega), inR_nI (show ν < 2 ^ 31 by omega), show π < 8 by omega, show θ < 8 by omega, nI_eq (show τ1 < 2 ^ 31 by omega) (show τ2 < 2 ^ 31 by omega)]
                                exact F.1 _ _ _ _ _ rfl rfl (dx dX7_copy 104 rfl) kh69 (show some (vi (-2)) = some (vi (copA g (nI π) (nI θ) i j (nI ν))) ∧ (∃ v', MilAt h69 k v') ∧ MshAt h69 k (copG g (nI π) (nI θ) i j (nI ν)) ∧ Ks k h h69 from by rw [eA, eG]; exact ⟨rfl, ⟨_, mh69⟩, hs.kp ph69, ph69.ks⟩)
                              ·
                                have c68 : ¬ i < 0 := c68
                                obtain ⟨ι, hι, rfl⟩ := nI_of c68
                                refine r_iload C (dx dX7_copy 71 rfl) rfl ?_
                                refine r_if_lt (tgt := 181) C (dx dX7_copy 72 rfl) (by decide) (fun c70 => ?_) (fun c70 => ?_)
                                ·
                                  have c70 : j < 0 := c70
                                  refine r_aload_n C (dx dX7_copy 101 rfl) rfl ?_
                                  refine r_bipush (v := -2) C (dx dX7_copy 102 rfl) rfl ?_
                                  refine r_cv (as := [vi (-2)]) (st := []) C X I_X7_refuse l_X7_83 (c_X7_refuse hm (x := -2) (j := 2) (by decide) (by decide)) (by decide) (Nat.le_of_ble_eq_true rfl) List.prefix_rfl List.prefix_rfl rfl rfl (Nat.le_of_ble_eq_true rfl) rfl (dx dX7_copy 103 rfl) ?_
                                  rintro _ h71 ⟨rfl, ⟨wh71, m9h71, s9h71⟩, qh71⟩ kkh71
                                  obtain ⟨vh71, mh71, zh71⟩ : ∃ v9, MilAt h71 k v9 ∧ Sz v v9 := ⟨_, m9h71, s9h71⟩
                                  have ph71 : Kp k h h71 := qh71
                                  have kh71 : xK h71 = xK h := kkh71
                                  obtain ⟨ah71, bh71, ch71⟩ := zh71
                                  have eA : copA g (nI π) (nI θ) (nI ι) j (nI ν) = -2 := by simp [copA, copG, copF, cpOk, c1, c3, c60, c62, c63, c66, c68, (fun n9 => inR_neg (n := n9) c70 : ∀ n9, inR j n9 = false), c70, e01, e11, e21, e31, e41, e51, e61, e02, e12, e22, e32, e42, e52, e62, clN (show π < 2 ^ 31 by omega), clN (show θ < 2 ^ 31 by omega), clN (show ν < 2 ^ 31 by omega), clN (show ι < 2 ^ 31 by omega), inR_nI (show π < 2 ^ 31 by omega), inR_nI (show θ < 2 ^ 31 by omega), inR_nI (show ν < 2 ^ 31 by omega), inR_nI (show ι < 2 ^ 31 by omega), show π < 8 by omega, show θ < 8 by omega, nI_eq (show τ1 < 2 ^ 31 by omega) (show τ2 < 2 ^ 31 by omega)]
                                  have eG : copG g (nI π) (nI θ) (nI ι) j (nI ν) = g := by simp [copA, copG, copF, cpOk, c1, c3, c60, c62, c63, c66, c68, (fun n9 => inR_neg (n := n9) c70 : ∀ n9, inR j n9 = false), c70, e01, e11, e21, e31, e41, e51, e61, e02, e12, e22, e32, e42, e52, e62, clN (show π < 2 ^ 31 by omega), clN (show θ < 2 ^ 31 by omega), clN (show ν < 2 ^ 31 by omega), clN (show ι < 2 ^ 31 by omega), inR_nI (show π < 2 ^ 31 by omega), inR_nI (show θ < 2 ^ 31 by omega), inR_nI (show ν < 2 ^ 31 by omega), inR_nI (show ι < 2 ^ 31 by omega), show π < 8 by omega, show θ < 8 by omega, nI_eq (show τ1 < 2 ^ 31 by omega) (show τ2 < 2 ^ 31 by omega)]
                                  exact F.1 _ _ _ _ _ rfl rfl (dx dX7_copy 104 rfl) kh71 (show some (vi (-2)) = some (vi (copA g (nI π) (nI θ) (nI ι) j (nI ν))) ∧ (∃ v', MilAt h71 k v') ∧ MshAt h71 k (copG g (nI π) (nI θ) (nI ι) j (nI ν)) ∧ Ks k h h71 from by rw [eA, eG]; exact ⟨rfl, ⟨_, mh71⟩, hs.kp ph71, ph71.ks⟩)
                                ·
                                  have c70 : ¬ j < 0 := c70
                                  obtain ⟨ξ, hξ, rfl⟩ := nI_of c70
                                  refine r_iload C (dx dX7_copy 73 rfl) rfl ?_
                                  refine r_aload_n C (dx dX7_copy 74 rfl) rfl ?_
                                  refine g_X7_16 C (dx dX7_copy 75 rfl) ?_
                                  refine r_iload_n C (dx dX7_copy 76 rfl) rfl ?_
                                  refine r_iald (j := π) (x := nI ν1) C rfl rfl (by decide) rfl (by omega) (dx dX7_copy 77 rfl) a51 ?_
                                  refine rn_gt (a := ν) (b := ν1) (tgt := 181) C (by omega) (by omega) (dx dX7_copy 78 rfl) (by decide) (fun c72 => ?_) (fun c72 => ?_)
                                  · first
                                    | (omega; done)
                                    | (
                                        have c72 : ν1 < ν := c72
                                        refine r_aload_n C (dx dX7_copy 101 rfl) rfl ?_
                                        refine r_bipush (v := -2) C (dx dX7_copy 102 rfl) rfl ?_
                                        refine r_cv (as := [vi (-2)]) (st := []) C X I_X7_refuse l_X7_83 (c_X7_refuse hm (x := -2) (j := 2) (by decide) (by decide)) (by decide) (Nat.le_of_ble_eq_true rfl) List.prefix_rfl List.prefix_rfl rfl rfl (Nat.le_of_ble_eq_true rfl) rfl (dx dX7_copy 103 rfl) ?_
                                        rintro _ h73 ⟨rfl, ⟨wh73, m9h73, s9h73⟩, qh73⟩ kkh73
                                        obtain ⟨vh73, mh73, zh73⟩ : ∃ v9, MilAt h73 k v9 ∧ Sz v v9 := ⟨_, m9h73, s9h73⟩
                                        have ph73 : Kp k h h73 := qh73
                                        have kh73 : xK h73 = xK h := kkh73
                                        obtain ⟨ah73, bh73, ch73⟩ := zh73
                                        have eA : copA g (nI π) (nI θ) (nI ι) (nI ξ) (nI ν) = -2 := by (have hq : ¬ (ι + ν ≤ ν1 ∧ ξ + ν ≤ ν2) := by omega); (have hq2 := cp_row e31 e32 (i := ι) (j := ξ) (n := ν) (by omega) (by omega) (by omega) (by omega) (by omega)); rw [decide_eq_false hq] at hq2; simp [copA, copG, copF, c1, c3, c60, c62, c63, c66, c68, c70, c72, e01, e11, e21, e31, e41, e51, e61, e02, e12, e22, e32, e42, e52, e62, clN (show π < 2 ^ 31 by omega), clN (show θ < 2 ^ 31 by omega), clN (show ν < 2 ^ 31 by omega), clN (show ι < 2 ^ 31 by omega), clN (show ξ < 2 ^ 31 by omega), inR_nI (show π < 2 ^ 31 by omega), inR_nI (show θ < 2 ^ 31 by omega), inR_nI (show ν < 2 ^ 31 by omega), inR_nI (show ι < 2 ^ 31 by omega), inR_nI (show ξ < 2 ^ 31 by omega), hq2, show π < 8 by omega, show θ < 8 by omega, nI_eq (show τ1 < 2 ^ 31 by omega) (show τ2 < 2 ^ 31 by omega)]
                                        have eG : copG g (nI π) (nI θ) (nI ι) (nI ξ) (nI ν) = g := by (have hq : ¬ (ι + ν ≤ ν1 ∧ ξ + ν ≤ ν2) := by omega); (have hq2 := cp_row e31 e32 (i := ι) (j := ξ) (n := ν) (by omega) (by omega) (by omega) (by omega) (by omega)); rw [decide_eq_false hq] at hq2; simp [copA, copG, copF, c1, c3, c60, c62, c63, c66, c68, c70, c72, e01, e11, e21, e31, e41, e51, e61, e02, e12, e22, e32, e42, e52, e62, clN (show π < 2 ^ 31 by omega), clN (show θ < 2 ^ 31 by omega), clN (show ν < 2 ^ 31 by omega), clN (show ι < 2 ^ 31 by omega), clN (show ξ < 2 ^ 31 by omega), inR_nI (show π < 2 ^ 31 by omega), inR_nI (show θ < 2 ^ 31 by omega), inR_nI (show ν < 2 ^ 31 by omega), inR_nI (show ι < 2 ^ 31 by omega), inR_nI (show ξ < 2 ^ 31 by omega), hq2, show π < 8 by omega, show θ < 8 by omega, nI_eq (show τ1 < 2 ^ 31 by omega) (show τ2 < 2 ^ 31 by omega)]
                                        exact F.1 _ _ _ _ _ rfl rfl (dx dX7_copy 104 rfl) kh73 (show some (vi (-2)) = some (vi (copA g (nI π) (nI θ) (nI ι) (nI ξ) (nI ν))) ∧ (∃ v', MilAt h73 k v') ∧ MshAt h73 k (copG g (nI π) (nI θ) (nI ι) (nI ξ) (nI ν)) ∧ Ks k h h73 from by rw [eA, eG]; exact ⟨rfl, ⟨_, mh73⟩, hs.kp ph73, ph73.ks⟩))
                                  · first
                                    | (omega; done)
                                    | (
                                        have c72 : ν ≤ ν1 := c72
                                        refine r_iload C (dx dX7_copy 79 rfl) rfl ?_
                                        refine r_aload_n C (dx dX7_copy 80 rfl) rfl ?_
                                        refine g_X7_16 C (dx dX7_copy 81 rfl) ?_
                                        refine r_iload_n C (dx dX7_copy 82 rfl) rfl ?_
                                        refine r_iald (j := θ) (x := nI ν2) C rfl rfl (by decide) rfl (by omega) (dx dX7_copy 83 rfl) a52 ?_
                                        refine rn_gt (a := ν) (b := ν2) (tgt := 181) C (by omega) (by omega) (dx dX7_copy 84 rfl) (by decide) (fun c74 => ?_) (fun c74 => ?_)
                                        · first
                                          | (omega; done)
                                          | (
                                              have c74 : ν2 < ν := c74
                                              refine r_aload_n C (dx dX7_copy 101 rfl) rfl ?_
                                              refine r_bipush (v := -2) C (dx dX7_copy 102 rfl) rfl ?_
                                              refine r_cv (as := [vi (-2)]) (st := []) C X I_X7_refuse l_X7_83 (c_X7_refuse hm (x := -2) (j := 2) (by decide) (by decide)) (by decide) (Nat.le_of_ble_eq_true rfl) List.prefix_rfl List.prefix_rfl rfl rfl (Nat.le_of_ble_eq_true rfl) rfl (dx dX7_copy 103 rfl) ?_
                                              rintro _ h75 ⟨rfl, ⟨wh75, m9h75, s9h75⟩, qh75⟩ kkh75
                                              obtain ⟨vh75, mh75, zh75⟩ : ∃ v9, MilAt h75 k v9 ∧ Sz v v9 := ⟨_, m9h75, s9h75⟩
                                              have ph75 : Kp k h h75 := qh75
                                              have kh75 : xK h75 = xK h := kkh75
                                              obtain ⟨ah75, bh75, ch75⟩ := zh75
                                              have eA : copA g (nI π) (nI θ) (nI ι) (nI ξ) (nI ν) = -2 := by (have hq : ¬ (ι + ν ≤ ν1 ∧ ξ + ν ≤ ν2) := by omega); (have hq2 := cp_row e31 e32 (i := ι) (j := ξ) (n := ν) (by omega) (by omega) (by omega) (by omega) (by omega)); rw [decide_eq_false hq] at hq2; simp [copA, copG, copF, c1, c3, c60, c62, c63, c66, c68, c70, c72, c74, e01, e11, e21, e31, e41, e51, e61, e02, e12, e22, e32, e42, e52, e62, clN (show π < 2 ^ 31 by omega), clN (show θ < 2 ^ 31 by omega), clN (show ν < 2 ^ 31 by omega), clN (show ι < 2 ^ 31 by omega), clN (show ξ < 2 ^ 31 by omega), inR_nI (show π < 2 ^ 31 by omega), inR_nI (show θ < 2 ^ 31 by omega), inR_nI (show ν < 2 ^ 31 by omega), inR_nI (show ι < 2 ^ 31 by omega), inR_nI (show ξ < 2 ^ 31 by omega), hq2, show π < 8 by omega, show θ < 8 by omega, nI_eq (show τ1 < 2 ^ 31 by omega) (show τ2 < 2 ^ 31 by omega)]
                                              have eG : copG g (nI π) (nI θ) (nI ι) (nI ξ) (nI ν) = g := by (have hq : ¬ (ι + ν ≤ ν1 ∧ ξ + ν ≤ ν2) := by omega); (have hq2 := cp_row e31 e32 (i := ι) (j := ξ) (n := ν) (by omega) (by omega) (by omega) (by omega) (by omega)); rw [decide_eq_false hq] at hq2; simp [copA, copG, copF, c1, c3, c60, c62, c63, c66, c68, c70, c72, c74, e01, e11, e21, e31, e41, e51, e61, e02, e12, e22, e32, e42, e52, e62, clN (show π < 2 ^ 31 by omega), clN (show θ < 2 ^ 31 by omega), clN (show ν < 2 ^ 31 by omega), clN (show ι < 2 ^ 31 by omega), clN (show ξ < 2 ^ 31 by omega), inR_nI (show π < 2 ^ 31 by omega), inR_nI (show θ < 2 ^ 31 by omega), inR_nI (show ν < 2 ^ 31 by omega), inR_nI (show ι < 2 ^ 31 by omega), inR_nI (show ξ < 2 ^ 31 by omega), hq2, show π < 8 by omega, show θ < 8 by omega, nI_eq (show τ1 < 2 ^ 31 by omega) (show τ2 < 2 ^ 31 by omega)]
                                              exact F.1 _ _ _ _ _ rfl rfl (dx dX7_copy 104 rfl) kh75 (show some (vi (-2)) = some (vi (copA g (nI π) (nI θ) (nI ι) (nI ξ) (nI ν))) ∧ (∃ v', MilAt h75 k v') ∧ MshAt h75 k (copG g (nI π) (nI θ) (nI ι) (nI ξ) (nI ν)) ∧ Ks k h h75 from by rw [eA, eG]; exact ⟨rfl, ⟨_, mh75⟩, hs.kp ph75, ph75.ks⟩))
                                        · first
                                          | (omega; done)
                                          | (
                                              have c74 : ν ≤ ν2 := c74
                                              refine r_iload_n C (dx dX7_copy 85 rfl) rfl ?_
                                              refine r_aload_n C (dx dX7_copy 86 rfl) rfl ?_
                                              refine g_X7_16 C (dx dX7_copy 87 rfl) ?_
                                              refine r_iload_n C (dx dX7_copy 88 rfl) rfl ?_
                                              refine r_iald (j := π) (x := nI ν1) C rfl rfl (by decide) rfl (by omega) (dx dX7_copy 89 rfl) a51 ?_
                                              refine r_iload C (dx dX7_copy 90 rfl) rfl ?_
                                              refine rn_isub (a := ν1) (b := ν) C (by omega) (dx dX7_copy 91 rfl) ?_
                                              refine rn_gt (a := ι) (b := ν1 - ν) (tgt := 181) C (by omega) (by omega) (dx dX7_copy 92 rfl) (by decide) (fun c76 => ?_) (fun c76 => ?_)
                                              · first
                                                | (omega; done)
                                                | (
                                                    have c76 : ν1 - ν < ι := c76
                                                    refine r_aload_n C (dx dX7_copy 101 rfl) rfl ?_
                                                    refine r_bipush (v := -2) C (dx dX7_copy 102 rfl) rfl ?_
                                                    refine r_cv (as := [vi (-2)]) (st := []) C X I_X7_refuse l_X7_83 (c_X7_refuse hm (x := -2) (j := 2) (by decide) (by decide)) (by decide) (Nat.le_of_ble_eq_true rfl) List.prefix_rfl List.prefix_rfl rfl rfl (Nat.le_of_ble_eq_true rfl) rfl (dx dX7_copy 103 rfl) ?_
                                                    rintro _ h77 ⟨rfl, ⟨wh77, m9h77, s9h77⟩, qh77⟩ kkh77
                                                    obtain ⟨vh77, mh77, zh77⟩ : ∃ v9, MilAt h77 k v9 ∧ Sz v v9 := ⟨_, m9h77, s9h77⟩
                                                    have ph77 : Kp k h h77 := qh77
                                                    have kh77 : xK h77 = xK h := kkh77
                                                    obtain ⟨ah77, bh77, ch77⟩ := zh77
                                                    have eA : copA g (nI π) (nI θ) (nI ι) (nI ξ) (nI ν) = -2 := by (have hq : ¬ (ι + ν ≤ ν1 ∧ ξ + ν ≤ ν2) := by omega); (have hq2 := cp_row e31 e32 (i := ι) (j := ξ) (n := ν) (by omega) (by omega) (by omega) (by omega) (by omega)); rw [decide_eq_false hq] at hq2; simp [copA, copG, copF, c1, c3, c60, c62, c63, c66, c68, c70, c72, c74, c76, e01, e11, e21, e31, e41, e51, e61, e02, e12, e22, e32, e42, e52, e62, clN (show π < 2 ^ 31 by omega), clN (show θ < 2 ^ 31 by omega), clN (show ν < 2 ^ 31 by omega), clN (show ι < 2 ^ 31 by omega), clN (show ξ < 2 ^ 31 by omega), inR_nI (show π < 2 ^ 31 by omega), inR_nI (show θ < 2 ^ 31 by omega), inR_nI (show ν < 2 ^ 31 by omega), inR_nI (show ι < 2 ^ 31 by omega), inR_nI (show ξ < 2 ^ 31 by omega), hq2, show π < 8 by omega, show θ < 8 by omega, nI_eq (show τ1 < 2 ^ 31 by omega) (show τ2 < 2 ^ 31 by omega)]
                                                    have eG : copG g (nI π) (nI θ) (nI ι) (nI ξ) (nI ν) = g := by (have hq : ¬ (ι + ν ≤ ν1 ∧ ξ + ν ≤ ν2) := by omega); (have hq2 := cp_row e31 e32 (i := ι) (j := ξ) (n := ν) (by omega) (by omega) (by omega) (by omega) (by omega)); rw [decide_eq_false hq] at hq2; simp [copA, copG, copF, c1, c3, c60, c62, c63, c66, c68, c70, c72, c74, c76, e01, e11, e21, e31, e41, e51, e61, e02, e12, e22, e32, e42, e52, e62, clN (show π < 2 ^ 31 by omega), clN (show θ < 2 ^ 31 by omega), clN (show ν < 2 ^ 31 by omega), clN (show ι < 2 ^ 31 by omega), clN (show ξ < 2 ^ 31 by omega), inR_nI (show π < 2 ^ 31 by omega), inR_nI (show θ < 2 ^ 31 by omega), inR_nI (show ν < 2 ^ 31 by omega), inR_nI (show ι < 2 ^ 31 by omega), inR_nI (show ξ < 2 ^ 31 by omega), hq2, show π < 8 by omega, show θ < 8 by omega, nI_eq (show τ1 < 2 ^ 31 by omega) (show τ2 < 2 ^ 31 by omega)]
                                                    exact F.1 _ _ _ _ _ rfl rfl (dx dX7_copy 104 rfl) kh77 (show some (vi (-2)) = some (vi (copA g (nI π) (nI θ) (nI ι) (nI ξ) (nI ν))) ∧ (∃ v', MilAt h77 k v') ∧ MshAt h77 k (copG g (nI π) (nI θ) (nI ι) (nI ξ) (nI ν)) ∧ Ks k h h77 from by rw [eA, eG]; exact ⟨rfl, ⟨_, mh77⟩, hs.kp ph77, ph77.ks⟩))
                                              · first
                                                | (omega; done)
                                                | (
                                                    have c76 : ι ≤ ν1 - ν := c76
                                                    refine r_iload C (dx dX7_copy 93 rfl) rfl ?_
                                                    refine r_aload_n C (dx dX7_copy 94 rfl) rfl ?_
                                                    refine g_X7_16 C (dx dX7_copy 95 rfl) ?_
                                                    refine r_iload_n C (dx dX7_copy 96 rfl) rfl ?_
                                                    refine r_iald (j := θ) (x := nI ν2) C rfl rfl (by decide) rfl (by omega) (dx dX7_copy 97 rfl) a52 ?_
                                                    refine r_iload C (dx dX7_copy 98 rfl) rfl ?_
                                                    refine rn_isub (a := ν2) (b := ν) C (by omega) (dx dX7_copy 99 rfl) ?_
                                                    refine rn_le (a := ξ) (b := ν2 - ν) (tgt := 188) C (by omega) (by omega) (dx dX7_copy 100 rfl) (by decide) (fun c78 => ?_) (fun c78 => ?_)
                                                    · first
                                                      | (omega; done)
                                                      | (
                                                          have c78 : ξ ≤ ν2 - ν := c78
                                                          refine r_iconst (v := nI 0) C (dx dX7_copy 105 rfl) rfl ?_
                                                          refine r_istore (ls' := [(0, vr 7 k), (1, vi (nI π)), (2, vi (nI θ)), (3, vi (nI ι)), (4, vi (nI ξ)), (5, vi (nI ν)), (6, vi (nI 0))]) C (dx dX7_copy 106 rfl) (by decide) [1, 2, 3, 4, 5, 6, 0] rfl ?_
                                                          refine loopU (Φ := fun p => ∀ h9, (∀ t, t < p → xL h9 (k + 13) t = gE g π (ι + t)) → Fr (k + 13) (k + 14) h h9 → xK h9 = xK h → Rr G 191 [(0, vr 7 k), (1, vi (nI π)), (2, vi (nI θ)), (3, vi (nI ι)), (4, vi (nI ξ)), (5, vi (nI ν)), (6, vi (nI p))] [] h9) (N := ν) ?_ ?_ 0 (by omega) _ (fun i hi => absurd hi (by omega)) Fr.rf rfl
                                                          ·
                                                            intro h9 q9 f9 k9
                                                            refine r_iload C (dx dX7_copy 107 rfl) rfl ?_
                                                            refine r_iload C (dx dX7_copy 108 rfl) rfl ?_
                                                            refine rn_ge (a := ν) (b := ν) (tgt := 222) C (by omega) (by omega) (dx dX7_copy 109 rfl) (by decide) (fun c79 => ?_) (fun c79 => ?_)
                                                            · first
                                                              | (omega; done)
                                                              | (
                                                                  have c79 : ν ≤ ν := c79
                                                                  refine r_iconst (v := nI 0) C (dx dX7_copy 124 rfl) rfl ?_
                                                                  refine r_istore (ls' := [(0, vr 7 k), (1, vi (nI π)), (2, vi (nI θ)), (3, vi (nI ι)), (4, vi (nI ξ)), (5, vi (nI ν)), (6, vi (nI 0))]) C (dx dX7_copy 125 rfl) (by decide) [1, 2, 3, 4, 5, 6, 0] rfl ?_
                                                                  have r9 := MsR.fr (show MsR h k g θ from ⟨_, _, a12, a22, a32, a42, a52, a62, a72, a82⟩) hθ f9
                                                                  refine loopU (Φ := fun p => ∀ h8, (∀ i, i < 40 → xL h8 (k + 5 + θ) i = if ξ ≤ i ∧ i < ξ + p then gE g π (ι + (i - ξ)) else gE g θ i) → (∀ t, t < ν → xL h8 (k + 13) t = gE g π (ι + t)) → Fr (k + 5 + θ) (k + 5 + θ + 1) h9 h8 → xK h8 = xK h → Rr G 225 [(0, vr 7 k), (1, vi (nI π)), (2, vi (nI θ)), (3, vi (nI ι)), (4, vi (nI ξ)), (5, vi (nI ν)), (6, vi (nI p))] [] h8) (N := ν) ?_ ?_ 0 (by omega) _ (fun i hi => by rw [if_neg (by omega), f9.L (by omega)]; exact a82 i hi) q9 Fr.rf k9
                                                                  ·
                                                                    intro h8 q8 u8 f8 k8
                                                                    have s9 : MshAt h8 k (pCp g π θ ι ξ ν) := msh_els (hs.mv f9) hθ r9 f8 (fun i hi => by rw [q8 i hi]; rfl)
                                                                    have g9 : Fr (k + 1) (k + 17) h h8 := (f9.mono (by omega) (by omega)).tr (f8.mono (by omega) (by omega))
                                                                    refine r_iload C (dx dX7_copy 126 rfl) rfl ?_
                                                                    refine r_iload C (dx dX7_copy 127 rfl) rfl ?_
                                                                    refine rn_ge (a := ν) (b := ν) (tgt := 257) C (by omega) (by omega) (dx dX7_copy 128 rfl) (by decide) (fun c80 => ?_) (fun c80 => ?_)
                                                                    · first
                                                                      | (omega; done)
                                                                      | (
                                                                          have c80 : ν ≤ ν := c80
                                                                          refine r_iload C (dx dX7_copy 143 rfl) rfl ?_
                                                                          have eA : copA g (nI π) (nI θ) (nI ι) (nI ξ) (nI ν) = nI ν := by simp [copA, copG, copF, c1, c3, c60, c62, c63, c66, c68, c70, c72, c74, c76, c78, c79, c80, e01, e11, e21, e31, e41, e51, e61, e02, e12, e22, e32, e42, e52, e62, clN (show π < 2 ^ 31 by omega), clN (show θ < 2 ^ 31 by omega), clN (show ν < 2 ^ 31 by omega), clN (show ι < 2 ^ 31 by omega), clN (show ξ < 2 ^ 31 by omega), inR_nI (show π < 2 ^ 31 by omega), inR_nI (show θ < 2 ^ 31 by omega), inR_nI (show ν < 2 ^ 31 by omega), inR_nI (show ι < 2 ^ 31 by omega), inR_nI (show ξ < 2 ^ 31 by omega), show π < 8 by omega, show θ < 8 by omega, nI_eq (show τ1 < 2 ^ 31 by omega) (show τ2 < 2 ^ 31 by omega), cp_row e31 e32 (by omega) (by omega) (show ι < 2 ^ 31 by omega) (show ξ < 2 ^ 31 by omega) (show ν < 2 ^ 31 by omega), show ι + ν ≤ ν1 by omega, show ξ + ν ≤ ν2 by omega]
                                                                          have eG : copG g (nI π) (nI θ) (nI ι) (nI ξ) (nI ν) = pCp g π θ ι ξ ν := by simp [copA, copG, copF, c1, c3, c60, c62, c63, c66, c68, c70, c72, c74, c76, c78, c79, c80, e01, e11, e21, e31, e41, e51, e61, e02, e12, e22, e32, e42, e52, e62, clN (show π < 2 ^ 31 by omega), clN (show θ < 2 ^ 31 by omega), clN (show ν < 2 ^ 31 by omega), clN (show ι < 2 ^ 31 by omega), clN (show ξ < 2 ^ 31 by omega), inR_nI (show π < 2 ^ 31 by omega), inR_nI (show θ < 2 ^ 31 by omega), inR_nI (show ν < 2 ^ 31 by omega), inR_nI (show ι < 2 ^ 31 by omega), inR_nI (show ξ < 2 ^ 31 by omega), show π < 8 by omega, show θ < 8 by omega, nI_eq (show τ1 < 2 ^ 31 by omega) (show τ2 < 2 ^ 31 by omega), cp_row e31 e32 (by omega) (by omega) (show ι < 2 ^ 31 by omega) (show ξ < 2 ^ 31 by omega) (show ν < 2 ^ 31 by omega), show ι + ν ≤ ν1 by omega, show ξ + ν ≤ ν2 by omega]
                                                                          exact F.1 _ _ _ _ _ rfl rfl (dx dX7_copy 144 rfl) k8 (show some (vi (nI ν)) = some (vi (copA g (nI π) (nI θ) (nI ι) (nI ξ) (nI ν))) ∧ (∃ v', MilAt h8 k v') ∧ MshAt h8 k (copG g (nI π) (nI θ) (nI ι) (nI ξ) (nI ν)) ∧ Ks k h h8 from by rw [eA, eG]; exact ⟨rfl, ⟨_, hm.fr g9 (by omega)⟩, s9, (Ks.fr g9 (by omega) (by omega))⟩))
                                                                    · first
                                                                      | (omega; done)
                                                                  ·
                                                                    intro p hp ih h8 q8 u8 f8 k8
                                                                    refine r_iload C (dx dX7_copy 126 rfl) rfl ?_
                                                                    refine r_iload C (dx dX7_copy 127 rfl) rfl ?_
                                                                    refine rn_ge (a := p) (b := ν) (tgt := 257) C (by omega) (by omega) (dx dX7_copy 128 rfl) (by decide) (fun c81 => ?_) (fun c81 => ?_)
                                                                    · first
                                                                      | (omega; done)
                                                                      | (
                                                                          have c81 : ν ≤ p := c81
                                                                          refine r_iload C (dx dX7_copy 143 rfl) rfl ?_
                                                                          have eA : copA g (nI π) (nI θ) (nI ι) (nI ξ) (nI ν) = nI ν := by simp [copA, copG, copF, c1, c3, c60, c62, c63, c66, c68, c70, c72, c74, c76, c78, c79, c81, e01, e11, e21, e31, e41, e51, e61, e02, e12, e22, e32, e42, e52, e62, clN (show π < 2 ^ 31 by omega), clN (show θ < 2 ^ 31 by omega), clN (show ν < 2 ^ 31 by omega), clN (show ι < 2 ^ 31 by omega), clN (show ξ < 2 ^ 31 by omega), inR_nI (show π < 2 ^ 31 by omega), inR_nI (show θ < 2 ^ 31 by omega), inR_nI (show ν < 2 ^ 31 by omega), inR_nI (show ι < 2 ^ 31 by omega), inR_nI (show ξ < 2 ^ 31 by omega), show π < 8 by omega, show θ < 8 by omega, nI_eq (show τ1 < 2 ^ 31 by omega) (show τ2 < 2 ^ 31 by omega), cp_row e31 e32 (by omega) (by omega) (show ι < 2 ^ 31 by omega) (show ξ < 2 ^ 31 by omega) (show ν < 2 ^ 31 by omega), show ι + ν ≤ ν1 by omega, show ξ + ν ≤ ν2 by omega]
                                                                          have eG : copG g (nI π) (nI θ) (nI ι) (nI ξ) (nI ν) = g := by simp [copA, copG, copF, c1, c3, c60, c62, c63, c66, c68, c70, c72, c74, c76, c78, c79, c81, e01, e11, e21, e31, e41, e51, e61, e02, e12, e22, e32, e42, e52, e62, clN (show π < 2 ^ 31 by omega), clN (show θ < 2 ^ 31 by omega), clN (show ν < 2 ^ 31 by omega), clN (show ι < 2 ^ 31 by omega), clN (show ξ < 2 ^ 31 by omega), inR_nI (show π < 2 ^ 31 by omega), inR_nI (show θ < 2 ^ 31 by omega), inR_nI (show ν < 2 ^ 31 by omega), inR_nI (show ι < 2 ^ 31 by omega), inR_nI (show ξ < 2 ^ 31 by omega), show π < 8 by omega, show θ < 8 by omega, nI_eq (show τ1 < 2 ^ 31 by omega) (show τ2 < 2 ^ 31 by omega), cp_row e31 e32 (by omega) (by omega) (show ι < 2 ^ 31 by omega) (show ξ < 2 ^ 31 by omega) (show ν < 2 ^ 31 by omega), show ι + ν ≤ ν1 by omega, show ξ + ν ≤ ν2 by omega]
                                                                          exact F.1 _ _ _ _ _ rfl rfl (dx dX7_copy 144 rfl) k8 (show some (vi (nI ν)) = some (vi (copA g (nI π) (nI θ) (nI ι) (nI ξ) (nI ν))) ∧ (∃ v', MilAt h8 k v') ∧ MshAt h8 k (copG g (nI π) (nI θ) (nI ι) (nI ξ) (nI ν)) ∧ Ks k h h8 from by rw [eA, eG]; exact ⟨rfl, ⟨_, hm⟩, hs, Ks.rf⟩))
                                                                    · first
                                                                      | (omega; done)
                                                                      | (
                                                                          have c81 : p < ν := c81
                                                                          refine r_aload_n C (dx dX7_copy 129 rfl) rfl ?_
                                                                          refine g_X7_21 C (dx dX7_copy 130 rfl) ?_
                                                                          refine r_iload_n C (dx dX7_copy 131 rfl) rfl ?_
                                                                          refine r_aald5 (j := θ) C rfl rfl (by decide) rfl (by omega) (dx dX7_copy 132 rfl) ?_
                                                                          refine r_iload C (dx dX7_copy 133 rfl) rfl ?_
                                                                          refine r_iload C (dx dX7_copy 134 rfl) rfl ?_
                                                                          refine rn_iadd (a := ξ) (b := p) C (dx dX7_copy 135 rfl) ?_
                                                                          refine r_aload_n C (dx dX7_copy 136 rfl) rfl ?_
                                                                          refine g_X7_24 C (dx dX7_copy 137 rfl) ?_
                                                                          refine r_iload C (dx dX7_copy 138 rfl) rfl ?_
                                                                          refine r_lald (j := p) (x := gE g π (ι + p)) C rfl rfl (by decide) rfl (by omega) (dx dX7_copy 139 rfl) (u8 _ (by omega)) ?_
                                                                          refine r_last (j := ξ + p) C rfl rfl (by decide) rfl (by omega) (dx dX7_copy 140 rfl) ?_
                                                                          refine rn_iinc (a := p) (k := 1) (ls' := [(0, vr 7 k), (1, vi (nI π)), (2, vi (nI θ)), (3, vi (nI ι)), (4, vi (nI ξ)), (5, vi (nI ν)), (6, vi (nI (p + 1)))]) C (dx dX7_copy 141 rfl) rfl rfl (by decide) [1, 2, 3, 4, 5, 6, 0] rfl ?_
                                                                          refine r_goto (tgt := 225) C (dx dX7_copy 142 rfl) (by decide) ?_
                                                                          exact ih _ (fun i hi => by rw [sL_at]; exact cp2_step q8 i hi) (fun t ht => by rw [sL_ne (by omega)]; exact u8 t ht) (f8.tr (Fr.sL (by omega) (by omega))) k8))
                                                            · first
                                                              | (omega; done)
                                                          ·
                                                            intro p hp ih h9 q9 f9 k9
                                                            refine r_iload C (dx dX7_copy 107 rfl) rfl ?_
                                                            refine r_iload C (dx dX7_copy 108 rfl) rfl ?_
                                                            refine rn_ge (a := p) (b := ν) (tgt := 222) C (by omega) (by omega) (dx dX7_copy 109 rfl) (by decide) (fun c82 => ?_) (fun c82 => ?_)
                                                            · first
                                                              | (omega; done)
                                                              | (
                                                                  have c82 : ν ≤ p := c82
                                                                  refine r_iconst (v := nI 0) C (dx dX7_copy 124 rfl) rfl ?_
                                                                  refine r_istore (ls' := [(0, vr 7 k), (1, vi (nI π)), (2, vi (nI θ)), (3, vi (nI ι)), (4, vi (nI ξ)), (5, vi (nI ν)), (6, vi (nI 0))]) C (dx dX7_copy 125 rfl) (by decide) [1, 2, 3, 4, 5, 6, 0] rfl ?_
                                                                  have r9 := MsR.fr (show MsR h k g θ from ⟨_, _, a12, a22, a32, a42, a52, a62, a72, a82⟩) hθ f9
                                                                  refine loopU (Φ := fun p => ∀ h8, (∀ i, i < 40 → xL h8 (k + 5 + θ) i = if ξ ≤ i ∧ i < ξ + p then gE g π (ι + (i - ξ)) else gE g θ i) → (∀ t, t < ν → xL h8 (k + 13) t = gE g π (ι + t)) → Fr (k + 5 + θ) (k + 5 + θ + 1) h9 h8 → xK h8 = xK h → Rr G 225 [(0, vr 7 k), (1, vi (nI π)), (2, vi (nI θ)), (3, vi (nI ι)), (4, vi (nI ξ)), (5, vi (nI ν)), (6, vi (nI p))] [] h8) (N := ν) ?_ ?_ 0 (by omega) _ (fun i hi => by rw [if_neg (by omega), f9.L (by omega)]; exact a82 i hi) q9 Fr.rf k9
                                                                  ·
                                                                    intro h8 q8 u8 f8 k8
                                                                    have s9 : MshAt h8 k (pCp g π θ ι ξ ν) := msh_els (hs.mv f9) hθ r9 f8 (fun i hi => by rw [q8 i hi]; rfl)
                                                                    have g9 : Fr (k + 1) (k + 17) h h8 := (f9.mono (by omega) (by omega)).tr (f8.mono (by omega) (by omega))
                                                                    refine r_iload C (dx dX7_copy 126 rfl) rfl ?_
                                                                    refine r_iload C (dx dX7_copy 127 rfl) rfl ?_
                                                                    refine rn_ge (a := ν) (b := ν) (tgt := 257) C (by omega) (by omega) (dx dX7_copy 128 rfl) (by decide) (fun c83 => ?_) (fun c83 => ?_)
                                                                    · first
                                                                      | (omega; done)
                                                                      | (
                                                                          have c83 : ν ≤ ν := c83
                                                                          refine r_iload C (dx dX7_copy 143 rfl) rfl ?_
                                                                          have eA : copA g (nI π) (nI θ) (nI ι) (nI ξ) (nI ν) = nI ν := by simp [copA, copG, copF, c1, c3, c60, c62, c63, c66, c68, c70, c72, c74, c76, c78, c82, c83, e01, e11, e21, e31, e41, e51, e61, e02, e12, e22, e32, e42, e52, e62, clN (show π < 2 ^ 31 by omega), clN (show θ < 2 ^ 31 by omega), clN (show ν < 2 ^ 31 by omega), clN (show ι < 2 ^ 31 by omega), clN (show ξ < 2 ^ 31 by omega), inR_nI (show π < 2 ^ 31 by omega), inR_nI (show θ < 2 ^ 31 by omega), inR_nI (show ν < 2 ^ 31 by omega), inR_nI (show ι < 2 ^ 31 by omega), inR_nI (show ξ < 2 ^ 31 by omega), show π < 8 by omega, show θ < 8 by omega, nI_eq (show τ1 < 2 ^ 31 by omega) (show τ2 < 2 ^ 31 by omega), cp_row e31 e32 (by omega) (by omega) (show ι < 2 ^ 31 by omega) (show ξ < 2 ^ 31 by omega) (show ν < 2 ^ 31 by omega), show ι + ν ≤ ν1 by omega, show ξ + ν ≤ ν2 by omega]
                                                                          have eG : copG g (nI π) (nI θ) (nI ι) (nI ξ) (nI ν) = pCp g π θ ι ξ ν := by simp [copA, copG, copF, c1, c3, c60, c62, c63, c66, c68, c70, c72, c74, c76, c78, c82, c83, e01, e11, e21, e31, e41, e51, e61, e02, e12, e22, e32, e42, e52, e62, clN (show π < 2 ^ 31 by omega), clN (show θ < 2 ^ 31 by omega), clN (show ν < 2 ^ 31 by omega), clN (show ι < 2 ^ 31 by omega), clN (show ξ < 2 ^ 31 by omega), inR_nI (show π < 2 ^ 31 by omega), inR_nI (show θ < 2 ^ 31 by omega), inR_nI (show ν < 2 ^ 31 by omega), inR_nI (show ι < 2 ^ 31 by omega), inR_nI (show ξ < 2 ^ 31 by omega), show π < 8 by omega, show θ < 8 by omega, nI_eq (show τ1 < 2 ^ 31 by omega) (show τ2 < 2 ^ 31 by omega), cp_row e31 e32 (by omega) (by omega) (show ι < 2 ^ 31 by omega) (show ξ < 2 ^ 31 by omega) (show ν < 2 ^ 31 by omega), show ι + ν ≤ ν1 by omega, show ξ + ν ≤ ν2 by omega]
                                                                          exact F.1 _ _ _ _ _ rfl rfl (dx dX7_copy 144 rfl) k8 (show some (vi (nI ν)) = some (vi (copA g (nI π) (nI θ) (nI ι) (nI ξ) (nI ν))) ∧ (∃ v', MilAt h8 k v') ∧ MshAt h8 k (copG g (nI π) (nI θ) (nI ι) (nI ξ) (nI ν)) ∧ Ks k h h8 from by rw [eA, eG]; exact ⟨rfl, ⟨_, hm.fr g9 (by omega)⟩, s9, (Ks.fr g9 (by omega) (by omega))⟩))
                                                                    · first
                                                                      | (omega; done)
                                                                  ·
                                                                    intro p hp ih h8 q8 u8 f8 k8
                                                                    refine r_iload C (dx dX7_copy 126 rfl) rfl ?_
                                                                    refine r_iload C (dx dX7_copy 127 rfl) rfl ?_
                                                                    refine rn_ge (a := p) (b := ν) (tgt := 257) C (by omega) (by omega) (dx dX7_copy 128 rfl) (by decide) (fun c84 => ?_) (fun c84 => ?_)
                                                                    · first
                                                                      | (omega; done)
                                                                      | (
                                                                          have c84 : ν ≤ p := c84
                                                                          refine r_iload C (dx dX7_copy 143 rfl) rfl ?_
                                                                          have eA : copA g (nI π) (nI θ) (nI ι) (nI ξ) (nI ν) = nI ν := by simp [copA, copG, copF, c1, c3, c60, c62, c63, c66, c68, c70, c72, c74, c76, c78, c82, c84, e01, e11, e21, e31, e41, e51, e61, e02, e12, e22, e32, e42, e52, e62, clN (show π < 2 ^ 31 by omega), clN (show θ < 2 ^ 31 by omega), clN (show ν < 2 ^ 31 by omega), clN (show ι < 2 ^ 31 by omega), clN (show ξ < 2 ^ 31 by omega), inR_nI (show π < 2 ^ 31 by omega), inR_nI (show θ < 2 ^ 31 by omega), inR_nI (show ν < 2 ^ 31 by omega), inR_nI (show ι < 2 ^ 31 by omega), inR_nI (show ξ < 2 ^ 31 by omega), show π < 8 by omega, show θ < 8 by omega, nI_eq (show τ1 < 2 ^ 31 by omega) (show τ2 < 2 ^ 31 by omega), cp_row e31 e32 (by omega) (by omega) (show ι < 2 ^ 31 by omega) (show ξ < 2 ^ 31 by omega) (show ν < 2 ^ 31 by omega), show ι + ν ≤ ν1 by omega, show ξ + ν ≤ ν2 by omega]
                                                                          have eG : copG g (nI π) (nI θ) (nI ι) (nI ξ) (nI ν) = g := by simp [copA, copG, copF, c1, c3, c60, c62, c63, c66, c68, c70, c72, c74, c76, c78, c82, c84, e01, e11, e21, e31, e41, e51, e61, e02, e12, e22, e32, e42, e52, e62, clN (show π < 2 ^ 31 by omega), clN (show θ < 2 ^ 31 by omega), clN (show ν < 2 ^ 31 by omega), clN (show ι < 2 ^ 31 by omega), clN (show ξ < 2 ^ 31 by omega), inR_nI (show π < 2 ^ 31 by omega), inR_nI (show θ < 2 ^ 31 by omega), inR_nI (show ν < 2 ^ 31 by omega), inR_nI (show ι < 2 ^ 31 by omega), inR_nI (show ξ < 2 ^ 31 by omega), show π < 8 by omega, show θ < 8 by omega, nI_eq (show τ1 < 2 ^ 31 by omega) (show τ2 < 2 ^ 31 by omega), cp_row e31 e32 (by omega) (by omega) (show ι < 2 ^ 31 by omega) (show ξ < 2 ^ 31 by omega) (show ν < 2 ^ 31 by omega), show ι + ν ≤ ν1 by omega, show ξ + ν ≤ ν2 by omega]
                                                                          exact F.1 _ _ _ _ _ rfl rfl (dx dX7_copy 144 rfl) k8 (show some (vi (nI ν)) = some (vi (copA g (nI π) (nI θ) (nI ι) (nI ξ) (nI ν))) ∧ (∃ v', MilAt h8 k v') ∧ MshAt h8 k (copG g (nI π) (nI θ) (nI ι) (nI ξ) (nI ν)) ∧ Ks k h h8 from by rw [eA, eG]; exact ⟨rfl, ⟨_, hm⟩, hs, Ks.rf⟩))
                                                                    · first
                                                                      | (omega; done)
                                                                      | (
                                                                          have c84 : p < ν := c84
                                                                          refine r_aload_n C (dx dX7_copy 129 rfl) rfl ?_
                                                                          refine g_X7_21 C (dx dX7_copy 130 rfl) ?_
                                                                          refine r_iload_n C (dx dX7_copy 131 rfl) rfl ?_
                                                                          refine r_aald5 (j := θ) C rfl rfl (by decide) rfl (by omega) (dx dX7_copy 132 rfl) ?_
                                                                          refine r_iload C (dx dX7_copy 133 rfl) rfl ?_
                                                                          refine r_iload C (dx dX7_copy 134 rfl) rfl ?_
                                                                          refine rn_iadd (a := ξ) (b := p) C (dx dX7_copy 135 rfl) ?_
                                                                          refine r_aload_n C (dx dX7_copy 136 rfl) rfl ?_
                                                                          refine g_X7_24 C (dx dX7_copy 137 rfl) ?_
                                                                          refine r_iload C (dx dX7_copy 138 rfl) rfl ?_
                                                                          refine r_lald (j := p) (x := gE g π (ι + p)) C rfl rfl (by decide) rfl (by omega) (dx dX7_copy 139 rfl) (u8 _ (by omega)) ?_
                                                                          refine r_last (j := ξ + p) C rfl rfl (by decide) rfl (by omega) (dx dX7_copy 140 rfl) ?_
                                                                          refine rn_iinc (a := p) (k := 1) (ls' := [(0, vr 7 k), (1, vi (nI π)), (2, vi (nI θ)), (3, vi (nI ι)), (4, vi (nI ξ)), (5, vi (nI ν)), (6, vi (nI (p + 1)))]) C (dx dX7_copy 141 rfl) rfl rfl (by decide) [1, 2, 3, 4, 5, 6, 0] rfl ?_
                                                                          refine r_goto (tgt := 225) C (dx dX7_copy 142 rfl) (by decide) ?_
                                                                          exact ih _ (fun i hi => by rw [sL_at]; exact cp2_step q8 i hi) (fun t ht => by rw [sL_ne (by omega)]; exact u8 t ht) (f8.tr (Fr.sL (by omega) (by omega))) k8))
                                                            · first
                                                              | (omega; done)
                                                              | (
                                                                  have c82 : p < ν := c82
                                                                  refine r_aload_n C (dx dX7_copy 110 rfl) rfl ?_
                                                                  refine g_X7_24 C (dx dX7_copy 111 rfl) ?_
                                                                  refine r_iload C (dx dX7_copy 112 rfl) rfl ?_
                                                                  refine r_aload_n C (dx dX7_copy 113 rfl) rfl ?_
                                                                  refine g_X7_21 C (dx dX7_copy 114 rfl) ?_
                                                                  refine r_iload_n C (dx dX7_copy 115 rfl) rfl ?_
                                                                  refine r_aald5 (j := π) C rfl rfl (by decide) rfl (by omega) (dx dX7_copy 116 rfl) ?_
                                                                  refine r_iload_n C (dx dX7_copy 117 rfl) rfl ?_
                                                                  refine r_iload C (dx dX7_copy 118 rfl) rfl ?_
                                                                  refine rn_iadd (a := ι) (b := p) C (dx dX7_copy 119 rfl) ?_
                                                                  refine r_lald (j := ι + p) (x := gE g π (ι + p)) C rfl rfl (by decide) rfl (by omega) (dx dX7_copy 120 rfl) ((f9.L (by omega) _).trans (a81 _ (by omega))) ?_
                                                                  refine r_last (j := p) C rfl rfl (by decide) rfl (by omega) (dx dX7_copy 121 rfl) ?_
                                                                  refine rn_iinc (a := p) (k := 1) (ls' := [(0, vr 7 k), (1, vi (nI π)), (2, vi (nI θ)), (3, vi (nI ι)), (4, vi (nI ξ)), (5, vi (nI ν)), (6, vi (nI (p + 1)))]) C (dx dX7_copy 122 rfl) rfl rfl (by decide) [1, 2, 3, 4, 5, 6, 0] rfl ?_
                                                                  refine r_goto (tgt := 191) C (dx dX7_copy 123 rfl) (by decide) ?_
                                                                  exact ih _ (fun t ht => by rw [sL_at]; split; (next e => rw [e]); exact q9 t (by omega)) (f9.tr (Fr.sL (by omega) (by omega))) k9))
                                                    · first
                                                      | (omega; done)
                                                      | (
                                                          have c78 : ν2 - ν < ξ := c78
                                                          refine r_aload_n C (dx dX7_copy 101 rfl) rfl ?_
                                                          refine r_bipush (v := -2) C (dx dX7_copy 102 rfl) rfl ?_
                                                          refine r_cv (as := [vi (-2)]) (st := []) C X I_X7_refuse l_X7_83 (c_X7_refuse hm (x := -2) (j := 2) (by decide) (by decide)) (by decide) (Nat.le_of_ble_eq_true rfl) List.prefix_rfl List.prefix_rfl rfl rfl (Nat.le_of_ble_eq_true rfl) rfl (dx dX7_copy 103 rfl) ?_
                                                          rintro _ h85 ⟨rfl, ⟨wh85, m9h85, s9h85⟩, qh85⟩ kkh85
                                                          obtain ⟨vh85, mh85, zh85⟩ : ∃ v9, MilAt h85 k v9 ∧ Sz v v9 := ⟨_, m9h85, s9h85⟩
                                                          have ph85 : Kp k h h85 := qh85
                                                          have kh85 : xK h85 = xK h := kkh85
                                                          obtain ⟨ah85, bh85, ch85⟩ := zh85
                                                          have eA : copA g (nI π) (nI θ) (nI ι) (nI ξ) (nI ν) = -2 := by (have hq : ¬ (ι + ν ≤ ν1 ∧ ξ + ν ≤ ν2) := by omega); (have hq2 := cp_row e31 e32 (i := ι) (j := ξ) (n := ν) (by omega) (by omega) (by omega) (by omega) (by omega)); rw [decide_eq_false hq] at hq2; simp [copA, copG, copF, c1, c3, c60, c62, c63, c66, c68, c70, c72, c74, c76, c78, e01, e11, e21, e31, e41, e51, e61, e02, e12, e22, e32, e42, e52, e62, clN (show π < 2 ^ 31 by omega), clN (show θ < 2 ^ 31 by omega), clN (show ν < 2 ^ 31 by omega), clN (show ι < 2 ^ 31 by omega), clN (show ξ < 2 ^ 31 by omega), inR_nI (show π < 2 ^ 31 by omega), inR_nI (show θ < 2 ^ 31 by omega), inR_nI (show ν < 2 ^ 31 by omega), inR_nI (show ι < 2 ^ 31 by omega), inR_nI (show ξ < 2 ^ 31 by omega), hq2, show π < 8 by omega, show θ < 8 by omega, nI_eq (show τ1 < 2 ^ 31 by omega) (show τ2 < 2 ^ 31 by omega)]
                                                          have eG : copG g (nI π) (nI θ) (nI ι) (nI ξ) (nI ν) = g := by (have hq : ¬ (ι + ν ≤ ν1 ∧ ξ + ν ≤ ν2) := by omega); (have hq2 := cp_row e31 e32 (i := ι) (j := ξ) (n := ν) (by omega) (by omega) (by omega) (by omega) (by omega)); rw [decide_eq_false hq] at hq2; simp [copA, copG, copF, c1, c3, c60, c62, c63, c66, c68, c70, c72, c74, c76, c78, e01, e11, e21, e31, e41, e51, e61, e02, e12, e22, e32, e42, e52, e62, clN (show π < 2 ^ 31 by omega), clN (show θ < 2 ^ 31 by omega), clN (show ν < 2 ^ 31 by omega), clN (show ι < 2 ^ 31 by omega), clN (show ξ < 2 ^ 31 by omega), inR_nI (show π < 2 ^ 31 by omega), inR_nI (show θ < 2 ^ 31 by omega), inR_nI (show ν < 2 ^ 31 by omega), inR_nI (show ι < 2 ^ 31 by omega), inR_nI (show ξ < 2 ^ 31 by omega), hq2, show π < 8 by omega, show θ < 8 by omega, nI_eq (show τ1 < 2 ^ 31 by omega) (show τ2 < 2 ^ 31 by omega)]
                                                          exact F.1 _ _ _ _ _ rfl rfl (dx dX7_copy 104 rfl) kh85 (show some (vi (-2)) = some (vi (copA g (nI π) (nI θ) (nI ι) (nI ξ) (nI ν))) ∧ (∃ v', MilAt h85 k v') ∧ MshAt h85 k (copG g (nI π) (nI θ) (nI ι) (nI ξ) (nI ν)) ∧ Ks k h h85 from by rw [eA, eG]; exact ⟨rfl, ⟨_, mh85⟩, hs.kp ph85, ph85.ks⟩))))))
                      · first
                        | (omega; done)
                        | (
                            have c63 : 1 = 1 := c63
                            refine r_aload_n C (dx dX7_copy 34 rfl) rfl ?_
                            refine g_X7_7 C (dx dX7_copy 35 rfl) ?_
                            refine r_iload_n C (dx dX7_copy 36 rfl) rfl ?_
                            refine r_iald (j := θ) (x := nI 1) C rfl rfl (by decide) rfl (by omega) (dx dX7_copy 37 rfl) a32 ?_
                            refine r_iconst (v := nI 1) C (dx dX7_copy 38 rfl) rfl ?_
                            refine rn_ne (a := 1) (b := 1) (tgt := 93) C (by omega) (by omega) (dx dX7_copy 39 rfl) (by decide) (fun c86 => ?_) (fun c86 => ?_)
                            ·
                              have c86 : ¬ 1 = 1 := c86
                              exact absurd c63 c86
                            · first
                              | (omega; done)
                              | (
                                  have c86 : 1 = 1 := c86
                                  refine r_aload_n C (dx dX7_copy 40 rfl) rfl ?_
                                  refine g_X7_13 C (dx dX7_copy 41 rfl) ?_
                                  refine r_iload_n C (dx dX7_copy 42 rfl) rfl ?_
                                  refine r_iald (j := π) (x := nI τ1) C rfl rfl (by decide) rfl (by omega) (dx dX7_copy 43 rfl) a41 ?_
                                  refine r_aload_n C (dx dX7_copy 44 rfl) rfl ?_
                                  refine g_X7_13 C (dx dX7_copy 45 rfl) ?_
                                  refine r_iload_n C (dx dX7_copy 46 rfl) rfl ?_
                                  refine r_iald (j := θ) (x := nI τ2) C rfl rfl (by decide) rfl (by omega) (dx dX7_copy 47 rfl) a42 ?_
                                  refine rn_eq (a := τ1) (b := τ2) (tgt := 93) C (by omega) (by omega) (dx dX7_copy 48 rfl) (by decide) (fun c87 => ?_) (fun c87 => ?_)
                                  · first
                                    | (omega; done)
                                    | (
                                        have c87 : τ1 = τ2 := c87
                                        refine r_aload_n C (dx dX7_copy 53 rfl) rfl ?_
                                        refine g_X7_7 C (dx dX7_copy 54 rfl) ?_
                                        refine r_iload_n C (dx dX7_copy 55 rfl) rfl ?_
                                        refine r_iald (j := π) (x := nI 1) C rfl rfl (by decide) rfl (by omega) (dx dX7_copy 56 rfl) a31 ?_
                                        refine r_if_eq (tgt := 111) C (dx dX7_copy 57 rfl) (by decide) (fun c88 => (show False from by revert c88; decide).elim) (fun _ => ?_)
                                        refine r_aload_n C (dx dX7_copy 58 rfl) rfl ?_
                                        refine g_X7_7 C (dx dX7_copy 59 rfl) ?_
                                        refine r_iload_n C (dx dX7_copy 60 rfl) rfl ?_
                                        refine r_iald (j := θ) (x := nI 1) C rfl rfl (by decide) rfl (by omega) (dx dX7_copy 61 rfl) a32 ?_
                                        refine r_if_ne (tgt := 118) C (dx dX7_copy 62 rfl) (by decide) (fun _ => ?_) (fun c89 => (show False from by revert c89; decide).elim)
                                        refine r_iload C (dx dX7_copy 67 rfl) rfl ?_
                                        refine r_if_lt (tgt := 181) C (dx dX7_copy 68 rfl) (by decide) (fun c90 => ?_) (fun c90 => ?_)
                                        ·
                                          have c90 : n < 0 := c90
                                          refine r_aload_n C (dx dX7_copy 101 rfl) rfl ?_
                                          refine r_bipush (v := -2) C (dx dX7_copy 102 rfl) rfl ?_
                                          refine r_cv (as := [vi (-2)]) (st := []) C X I_X7_refuse l_X7_83 (c_X7_refuse hm (x := -2) (j := 2) (by decide) (by decide)) (by decide) (Nat.le_of_ble_eq_true rfl) List.prefix_rfl List.prefix_rfl rfl rfl (Nat.le_of_ble_eq_true rfl) rfl (dx dX7_copy 103 rfl) ?_
                                          rintro _ h91 ⟨rfl, ⟨wh91, m9h91, s9h91⟩, qh91⟩ kkh91
                                          obtain ⟨vh91, mh91, zh91⟩ : ∃ v9, MilAt h91 k v9 ∧ Sz v v9 := ⟨_, m9h91, s9h91⟩
                                          have ph91 : Kp k h h91 := qh91
                                          have kh91 : xK h91 = xK h := kkh91
                                          obtain ⟨ah91, bh91, ch91⟩ := zh91
                                          have eA : copA g (nI π) (nI θ) i j n = -2 := by simp [copA, copG, copF, cpOk, c1, c3, c60, c62, c63, c86, c87, (fun n9 => inR_neg (n := n9) c90 : ∀ n9, inR n n9 = false), c90, e01, e11, e21, e31, e41, e51, e61, e02, e12, e22, e32, e42, e52, e62, clN (show π < 2 ^ 31 by omega), clN (show θ < 2 ^ 31 by omega), inR_nI (show π < 2 ^ 31 by omega), inR_nI (show θ < 2 ^ 31 by omega), show π < 8 by omega, show θ < 8 by omega, nI_eq (show τ1 < 2 ^ 31 by omega) (show τ2 < 2 ^ 31 by omega)]
                                          have eG : copG g (nI π) (nI θ) i j n = g := by simp [copA, copG, copF, cpOk, c1, c3, c60, c62, c63, c86, c87, (fun n9 => inR_neg (n := n9) c90 : ∀ n9, inR n n9 = false), c90, e01, e11, e21, e31, e41, e51, e61, e02, e12, e22, e32, e42, e52, e62, clN (show π < 2 ^ 31 by omega), clN (show θ < 2 ^ 31 by omega), inR_nI (show π < 2 ^ 31 by omega), inR_nI (show θ < 2 ^ 31 by omega), show π < 8 by omega, show θ < 8 by omega, nI_eq (show τ1 < 2 ^ 31 by omega) (show τ2 < 2 ^ 31 by omega)]
                                          exact F.1 _ _ _ _ _ rfl rfl (dx dX7_copy 104 rfl) kh91 (show some (vi (-2)) = some (vi (copA g (nI π) (nI θ) i j n)) ∧ (∃ v', MilAt h91 k v') ∧ MshAt h91 k (copG g (nI π) (nI θ) i j n) ∧ Ks k h h91 from by rw [eA, eG]; exact ⟨rfl, ⟨_, mh91⟩, hs.kp ph91, ph91.ks⟩)
                                        ·
                                          have c90 : ¬ n < 0 := c90
                                          obtain ⟨ν, hν, rfl⟩ := nI_of c90
                                          refine r_iload_n C (dx dX7_copy 69 rfl) rfl ?_
                                          refine r_if_lt (tgt := 181) C (dx dX7_copy 70 rfl) (by decide) (fun c92 => ?_) (fun c92 => ?_)
                                          ·
                                            have c92 : i < 0 := c92
                                            refine r_aload_n C (dx dX7_copy 101 rfl) rfl ?_
                                            refine r_bipush (v := -2) C (dx dX7_copy 102 rfl) rfl ?_
                                            refine r_cv (as := [vi (-2)]) (st := []) C X I_X7_refuse l_X7_83 (c_X7_refuse hm (x := -2) (j := 2) (by decide) (by decide)) (by decide) (Nat.le_of_ble_eq_true rfl) List.prefix_rfl List.prefix_rfl rfl rfl (Nat.le_of_ble_eq_true rfl) rfl (dx dX7_copy 103 rfl) ?_
                                            rintro _ h93 ⟨rfl, ⟨wh93, m9h93, s9h93⟩, qh93⟩ kkh93
                                            obtain ⟨vh93, mh93, zh93⟩ : ∃ v9, MilAt h93 k v9 ∧ Sz v v9 := ⟨_, m9h93, s9h93⟩
                                            have ph93 : Kp k h h93 := qh93
                                            have kh93 : xK h93 = xK h := kkh93
                                            obtain ⟨ah93, bh93, ch93⟩ := zh93
                                            have eA : copA g (nI π) (nI θ) i j (nI ν) = -2 := by simp [copA, copG, copF, cpOk, c1, c3, c60, c62, c63, c86, c87, c90, (fun n9 => inR_neg (n := n9) c92 : ∀ n9, inR i n9 = false), c92, e01, e11, e21, e31, e41, e51, e61, e02, e12, e22, e32, e42, e52, e62, clN (show π < 2 ^ 31 by omega), clN (show θ < 2 ^ 31 by omega), clN (show ν < 2 ^ 31 by omega), inR_nI (show π < 2 ^ 31 by omega), inR_nI (show θ < 2 ^ 31 by omega), inR_nI (show ν < 2 ^ 31 by omega), show π < 8 by omega, show θ < 8 by omega, nI_eq (show τ1 < 2 ^ 31 by omega) (show τ2 < 2 ^ 31 by omega)]
                                            have eG : copG g (nI π) (nI θ) i j (nI ν) = g := by simp [copA, copG, copF, cpOk, c1, c3, c60, c62, c63, c86, c87, c90, (fun n9 => inR_neg (n := n9) c92 : ∀ n9, inR i n9 = false), c92, e01, e11, e21, e31, e41, e51, e61, e02, e12, e22, e32, e42, e52, e62, clN (show π < 2 ^ 31 by omega), clN (show θ < 2 ^ 31 by omega), clN (show ν < 2 ^ 31 by omega), inR_nI (show π < 2 ^ 31 by omega), inR_nI (show θ < 2 ^ 31 by omega), inR_nI (show ν < 2 ^ 31 by omega), show π < 8 by omega, show θ < 8 by omega, nI_eq (show τ1 < 2 ^ 31 by omega) (show τ2 < 2 ^ 31 by omega)]
                                            exact F.1 _ _ _ _ _ rfl rfl (dx dX7_copy 104 rfl) kh93 (show some (vi (-2)) = some (vi (copA g (nI π) (nI θ) i j (nI ν))) ∧ (∃ v', MilAt h93 k v') ∧ MshAt h93 k (copG g (nI π) (nI θ) i j (nI ν)) ∧ Ks k h h93 from by rw [eA, eG]; exact ⟨rfl, ⟨_, mh93⟩, hs.kp ph93, ph93.ks⟩)
                                          ·
                                            have c92 : ¬ i < 0 := c92
                                            obtain ⟨ι, hι, rfl⟩ := nI_of c92
                                            refine r_iload C (dx dX7_copy 71 rfl) rfl ?_
                                            refine r_if_lt (tgt := 181) C (dx dX7_copy 72 rfl) (by decide) (fun c94 => ?_) (fun c94 => ?_)
                                            ·
                                              have c94 : j < 0 := c94
                                              refine r_aload_n C (dx dX7_copy 101 rfl) rfl ?_
                                              refine r_bipush (v := -2) C (dx dX7_copy 102 rfl) rfl ?_
                                              refine r_cv (as := [vi (-2)]) (st := []) C X I_X7_refuse l_X7_83 (c_X7_refuse hm (x := -2) (j := 2) (by decide) (by decide)) (by decide) (Nat.le_of_ble_eq_true rfl) List.prefix_rfl List.prefix_rfl rfl rfl (Nat.le_of_ble_eq_true rfl) rfl (dx dX7_copy 103 rfl) ?_
                                              rintro _ h95 ⟨rfl, ⟨wh95, m9h95, s9h95⟩, qh95⟩ kkh95
                                              obtain ⟨vh95, mh95, zh95⟩ : ∃ v9, MilAt h95 k v9 ∧ Sz v v9 := ⟨_, m9h95, s9h95⟩
                                              have ph95 : Kp k h h95 := qh95
                                              have kh95 : xK h95 = xK h := kkh95
                                              obtain ⟨ah95, bh95, ch95⟩ := zh95
                                              have eA : copA g (nI π) (nI θ) (nI ι) j (nI ν) = -2 := by simp [copA, copG, copF, cpOk, c1, c3, c60, c62, c63, c86, c87, c90, c92, (fun n9 => inR_neg (n := n9) c94 : ∀ n9, inR j n9 = false), c94, e01, e11, e21, e31, e41, e51, e61, e02, e12, e22, e32, e42, e52, e62, clN (show π < 2 ^ 31 by omega), clN (show θ < 2 ^ 31 by omega), clN (show ν < 2 ^ 31 by omega), clN (show ι < 2 ^ 31 by omega), inR_nI (show π < 2 ^ 31 by omega), inR_nI (show θ < 2 ^ 31 by omega), inR_nI (show ν < 2 ^ 31 by omega), inR_nI (show ι < 2 ^ 31 by omega), show π < 8 by omega, show θ < 8 by omega, nI_eq (show τ1 < 2 ^ 31 by omega) (show τ2 < 2 ^ 31 by omega)]
                                              have eG : copG g (nI π) (nI θ) (nI ι) j (nI ν) = g := by simp [copA, copG, copF, cpOk, c1, c3, c60, c62, c63, c86, c87, c90, c92, (fun n9 => inR_neg (n := n9) c94 : ∀ n9, inR j n9 = false), c94, e01, e11, e21, e31, e41, e51, e61, e02, e12, e22, e32, e42, e52, e62, clN (show π < 2 ^ 31 by omega), clN (show θ < 2 ^ 31 by omega), clN (show ν < 2 ^ 31 by omega), clN (show ι < 2 ^ 31 by omega), inR_nI (show π < 2 ^ 31 by omega), inR_nI (show θ < 2 ^ 31 by omega), inR_nI (show ν < 2 ^ 31 by omega), inR_nI (show ι < 2 ^ 31 by omega), show π < 8 by omega, show θ < 8 by omega, nI_eq (show τ1 < 2 ^ 31 by omega) (show τ2 < 2 ^ 31 by omega)]
                                              exact F.1 _ _ _ _ _ rfl rfl (dx dX7_copy 104 rfl) kh95 (show some (vi (-2)) = some (vi (copA g (nI π) (nI θ) (nI ι) j (nI ν))) ∧ (∃ v', MilAt h95 k v') ∧ MshAt h95 k (copG g (nI π) (nI θ) (nI ι) j (nI ν)) ∧ Ks k h h95 from by rw [eA, eG]; exact ⟨rfl, ⟨_, mh95⟩, hs.kp ph95, ph95.ks⟩)
                                            ·
                                              have c94 : ¬ j < 0 := c94
                                              obtain ⟨ξ, hξ, rfl⟩ := nI_of c94
                                              refine r_iload C (dx dX7_copy 73 rfl) rfl ?_
                                              refine r_aload_n C (dx dX7_copy 74 rfl) rfl ?_
                                              refine g_X7_16 C (dx dX7_copy 75 rfl) ?_
                                              refine r_iload_n C (dx dX7_copy 76 rfl) rfl ?_
                                              refine r_iald (j := π) (x := nI ν1) C rfl rfl (by decide) rfl (by omega) (dx dX7_copy 77 rfl) a51 ?_
                                              refine rn_gt (a := ν) (b := ν1) (tgt := 181) C (by omega) (by omega) (dx dX7_copy 78 rfl) (by decide) (fun c96 => ?_) (fun c96 => ?_)
                                              · first
                                                | (omega; done)
                                                | (
                                                    have c96 : ν1 < ν := c96
                                                    refine r_aload_n C (dx dX7_copy 101 rfl) rfl ?_
                                                    refine r_bipush (v := -2) C (dx dX7_copy 102 rfl) rfl ?_
                                                    refine r_cv (as := [vi (-2)]) (st := []) C X I_X7_refuse l_X7_83 (c_X7_refuse hm (x := -2) (j := 2) (by decide) (by decide)) (by decide) (Nat.le_of_ble_eq_true rfl) List.prefix_rfl List.prefix_rfl rfl rfl (Nat.le_of_ble_eq_true rfl) rfl (dx dX7_copy 103 rfl) ?_
                                                    rintro _ h97 ⟨rfl, ⟨wh97, m9h97, s9h97⟩, qh97⟩ kkh97
                                                    obtain ⟨vh97, mh97, zh97⟩ : ∃ v9, MilAt h97 k v9 ∧ Sz v v9 := ⟨_, m9h97, s9h97⟩
                                                    have ph97 : Kp k h h97 := qh97
                                                    have kh97 : xK h97 = xK h := kkh97
                                                    obtain ⟨ah97, bh97, ch97⟩ := zh97
                                                    have eA : copA g (nI π) (nI θ) (nI ι) (nI ξ) (nI ν) = -2 := by (have hq : ¬ (ι + ν ≤ ν1 ∧ ξ + ν ≤ ν2) := by omega); (have hq2 := cp_row e31 e32 (i := ι) (j := ξ) (n := ν) (by omega) (by omega) (by omega) (by omega) (by omega)); rw [decide_eq_false hq] at hq2; simp [copA, copG, copF, c1, c3, c60, c62, c63, c86, c87, c90, c92, c94, c96, e01, e11, e21, e31, e41, e51, e61, e02, e12, e22, e32, e42, e52, e62, clN (show π < 2 ^ 31 by omega), clN (show θ < 2 ^ 31 by omega), clN (show ν < 2 ^ 31 by omega), clN (show ι < 2 ^ 31 by omega), clN (show ξ < 2 ^ 31 by omega), inR_nI (show π < 2 ^ 31 by omega), inR_nI (show θ < 2 ^ 31 by omega), inR_nI (show ν < 2 ^ 31 by omega), inR_nI (show ι < 2 ^ 31 by omega), inR_nI (show ξ < 2 ^ 31 by omega), hq2, show π < 8 by omega, show θ < 8 by omega, nI_eq (show τ1 < 2 ^ 31 by omega) (show τ2 < 2 ^ 31 by omega)]
                                                    have eG : copG g (nI π) (nI θ) (nI ι) (nI ξ) (nI ν) = g := by (have hq : ¬ (ι + ν ≤ ν1 ∧ ξ + ν ≤ ν2) := by omega); (have hq2 := cp_row e31 e32 (i := ι) (j := ξ) (n := ν) (by omega) (by omega) (by omega) (by omega) (by omega)); rw [decide_eq_false hq] at hq2; simp [copA, copG, copF, c1, c3, c60, c62, c63, c86, c87, c90, c92, c94, c96, e01, e11, e21, e31, e41, e51, e61, e02, e12, e22, e32, e42, e52, e62, clN (show π < 2 ^ 31 by omega), clN (show θ < 2 ^ 31 by omega), clN (show ν < 2 ^ 31 by omega), clN (show ι < 2 ^ 31 by omega), clN (show ξ < 2 ^ 31 by omega), inR_nI (show π < 2 ^ 31 by omega), inR_nI (show θ < 2 ^ 31 by omega), inR_nI (show ν < 2 ^ 31 by omega), inR_nI (show ι < 2 ^ 31 by omega), inR_nI (show ξ < 2 ^ 31 by omega), hq2, show π < 8 by omega, show θ < 8 by omega, nI_eq (show τ1 < 2 ^ 31 by omega) (show τ2 < 2 ^ 31 by omega)]
                                                    exact F.1 _ _ _ _ _ rfl rfl (dx dX7_copy 104 rfl) kh97 (show some (vi (-2)) = some (vi (copA g (nI π) (nI θ) (nI ι) (nI ξ) (nI ν))) ∧ (∃ v', MilAt h97 k v') ∧ MshAt h97 k (copG g (nI π) (nI θ) (nI ι) (nI ξ) (nI ν)) ∧ Ks k h h97 from by rw [eA, eG]; exact ⟨rfl, ⟨_, mh97⟩, hs.kp ph97, ph97.ks⟩))
                                              · first
                                                | (omega; done)
                                                | (
                                                    have c96 : ν ≤ ν1 := c96
                                                    refine r_iload C (dx dX7_copy 79 rfl) rfl ?_
                                                    refine r_aload_n C (dx dX7_copy 80 rfl) rfl ?_
                                                    refine g_X7_16 C (dx dX7_copy 81 rfl) ?_
                                                    refine r_iload_n C (dx dX7_copy 82 rfl) rfl ?_
                                                    refine r_iald (j := θ) (x := nI ν2) C rfl rfl (by decide) rfl (by omega) (dx dX7_copy 83 rfl) a52 ?_
                                                    refine rn_gt (a := ν) (b := ν2) (tgt := 181) C (by omega) (by omega) (dx dX7_copy 84 rfl) (by decide) (fun c98 => ?_) (fun c98 => ?_)
                                                    · first
                                                      | (omega; done)
                                                      | (
                                                          have c98 : ν2 < ν := c98
                                                          refine r_aload_n C (dx dX7_copy 101 rfl) rfl ?_
                                                          refine r_bipush (v := -2) C (dx dX7_copy 102 rfl) rfl ?_
                                                          refine r_cv (as := [vi (-2)]) (st := []) C X I_X7_refuse l_X7_83 (c_X7_refuse hm (x := -2) (j := 2) (by decide) (by decide)) (by decide) (Nat.le_of_ble_eq_true rfl) List.prefix_rfl List.prefix_rfl rfl rfl (Nat.le_of_ble_eq_true rfl) rfl (dx dX7_copy 103 rfl) ?_
                                                          rintro _ h99 ⟨rfl, ⟨wh99, m9h99, s9h99⟩, qh99⟩ kkh99
                                                          obtain ⟨vh99, mh99, zh99⟩ : ∃ v9, MilAt h99 k v9 ∧ Sz v v9 := ⟨_, m9h99, s9h99⟩
                                                          have ph99 : Kp k h h99 := qh99
                                                          have kh99 : xK h99 = xK h := kkh99
                                                          obtain ⟨ah99, bh99, ch99⟩ := zh99
                                                          have eA : copA g (nI π) (nI θ) (nI ι) (nI ξ) (nI ν) = -2 := by (have hq : ¬ (ι + ν ≤ ν1 ∧ ξ + ν ≤ ν2) := by omega); (have hq2 := cp_row e31 e32 (i := ι) (j := ξ) (n := ν) (by omega) (by omega) (by omega) (by omega) (by omega)); rw [decide_eq_false hq] at hq2; simp [copA, copG, copF, c1, c3, c60, c62, c63, c86, c87, c90, c92, c94, c96, c98, e01, e11, e21, e31, e41, e51, e61, e02, e12, e22, e32, e42, e52, e62, clN (show π < 2 ^ 31 by omega), clN (show θ < 2 ^ 31 by omega), clN (show ν < 2 ^ 31 by omega), clN (show ι < 2 ^ 31 by omega), clN (show ξ < 2 ^ 31 by omega), inR_nI (show π < 2 ^ 31 by omega), inR_nI (show θ < 2 ^ 31 by omega), inR_nI (show ν < 2 ^ 31 by omega), inR_nI (show ι < 2 ^ 31 by omega), inR_nI (show ξ < 2 ^ 31 by omega), hq2, show π < 8 by omega, show θ < 8 by omega, nI_eq (show τ1 < 2 ^ 31 by omega) (show τ2 < 2 ^ 31 by omega)]
                                                          have eG : copG g (nI π) (nI θ) (nI ι) (nI ξ) (nI ν) = g := by (have hq : ¬ (ι + ν ≤ ν1 ∧ ξ + ν ≤ ν2) := by omega); (have hq2 := cp_row e31 e32 (i := ι) (j := ξ) (n := ν) (by omega) (by omega) (by omega) (by omega) (by omega)); rw [decide_eq_false hq] at hq2; simp [copA, copG, copF, c1, c3, c60, c62, c63, c86, c87, c90, c92, c94, c96, c98, e01, e11, e21, e31, e41, e51, e61, e02, e12, e22, e32, e42, e52, e62, clN (show π < 2 ^ 31 by omega), clN (show θ < 2 ^ 31 by omega), clN (show ν < 2 ^ 31 by omega), clN (show ι < 2 ^ 31 by omega), clN (show ξ < 2 ^ 31 by omega), inR_nI (show π < 2 ^ 31 by omega), inR_nI (show θ < 2 ^ 31 by omega), inR_nI (show ν < 2 ^ 31 by omega), inR_nI (show ι < 2 ^ 31 by omega), inR_nI (show ξ < 2 ^ 31 by omega), hq2, show π < 8 by omega, show θ < 8 by omega, nI_eq (show τ1 < 2 ^ 31 by omega) (show τ2 < 2 ^ 31 by omega)]
                                                          exact F.1 _ _ _ _ _ rfl rfl (dx dX7_copy 104 rfl) kh99 (show some (vi (-2)) = some (vi (copA g (nI π) (nI θ) (nI ι) (nI ξ) (nI ν))) ∧ (∃ v', MilAt h99 k v') ∧ MshAt h99 k (copG g (nI π) (nI θ) (nI ι) (nI ξ) (nI ν)) ∧ Ks k h h99 from by rw [eA, eG]; exact ⟨rfl, ⟨_, mh99⟩, hs.kp ph99, ph99.ks⟩))
                                                    · first
                                                      | (omega; done)
                                                      | (
                                                          have c98 : ν ≤ ν2 := c98
                                                          refine r_iload_n C (dx dX7_copy 85 rfl) rfl ?_
                                                          refine r_aload_n C (dx dX7_copy 86 rfl) rfl ?_
                                                          refine g_X7_16 C (dx dX7_copy 87 rfl) ?_
                                                          refine r_iload_n C (dx dX7_copy 88 rfl) rfl ?_
                                                          refine r_iald (j := π) (x := nI ν1) C rfl rfl (by decide) rfl (by omega) (dx dX7_copy 89 rfl) a51 ?_
                                                          refine r_iload C (dx dX7_copy 90 rfl) rfl ?_
                                                          refine rn_isub (a := ν1) (b := ν) C (by omega) (dx dX7_copy 91 rfl) ?_
                                                          refine rn_gt (a := ι) (b := ν1 - ν) (tgt := 181) C (by omega) (by omega) (dx dX7_copy 92 rfl) (by decide) (fun c100 => ?_) (fun c100 => ?_)
                                                          · first
                                                            | (omega; done)
                                                            | (
                                                                have c100 : ν1 - ν < ι := c100
                                                                refine r_aload_n C (dx dX7_copy 101 rfl) rfl ?_
                                                                refine r_bipush (v := -2) C (dx dX7_copy 102 rfl) rfl ?_
                                                                refine r_cv (as := [vi (-2)]) (st := []) C X I_X7_refuse l_X7_83 (c_X7_refuse hm (x := -2) (j := 2) (by decide) (by decide)) (by decide) (Nat.le_of_ble_eq_true rfl) List.prefix_rfl List.prefix_rfl rfl rfl (Nat.le_of_ble_eq_true rfl) rfl (dx dX7_copy 103 rfl) ?_
                                                                rintro _ h101 ⟨rfl, ⟨wh101, m9h101, s9h101⟩, qh101⟩ kkh101
                                                                obtain ⟨vh101, mh101, zh101⟩ : ∃ v9, MilAt h101 k v9 ∧ Sz v v9 := ⟨_, m9h101, s9h101⟩
                                                                have ph101 : Kp k h h101 := qh101
                                                                have kh101 : xK h101 = xK h := kkh101
                                                                obtain ⟨ah101, bh101, ch101⟩ := zh101
                                                                have eA : copA g (nI π) (nI θ) (nI ι) (nI ξ) (nI ν) = -2 := by (have hq : ¬ (ι + ν ≤ ν1 ∧ ξ + ν ≤ ν2) := by omega); (have hq2 := cp_row e31 e32 (i := ι) (j := ξ) (n := ν) (by omega) (by omega) (by omega) (by omega) (by omega)); rw [decide_eq_false hq] at hq2; simp [copA, copG, copF, c1, c3, c60, c62, c63, c86, c87, c90, c92, c94, c96, c98, c100, e01, e11, e21, e31, e41, e51, e61, e02, e12, e22, e32, e42, e52, e62, clN (show π < 2 ^ 31 by omega), clN (show θ < 2 ^ 31 by omega), clN (show ν < 2 ^ 31 by omega), clN (show ι < 2 ^ 31 by omega), clN (show ξ < 2 ^ 31 by omega), inR_nI (show π < 2 ^ 31 by omega), inR_nI (show θ < 2 ^ 31 by omega), inR_nI (show ν < 2 ^ 31 by omega), inR_nI (show ι < 2 ^ 31 by omega), inR_nI (show ξ < 2 ^ 31 by omega), hq2, show π < 8 by omega, show θ < 8 by omega, nI_eq (show τ1 < 2 ^ 31 by omega) (show τ2 < 2 ^ 31 by omega)]
                                                                have eG : copG g (nI π) (nI θ) (nI ι) (nI ξ) (nI ν) = g := by (have hq : ¬ (ι + ν ≤ ν1 ∧ ξ + ν ≤ ν2) := by omega); (have hq2 := cp_row e31 e32 (i := ι) (j := ξ) (n := ν) (by omega) (by omega) (by omega) (by omega) (by omega)); rw [decide_eq_false hq] at hq2; simp [copA, copG, copF, c1, c3, c60, c62, c63, c86, c87, c90, c92, c94, c96, c98, c100, e01, e11, e21, e31, e41, e51, e61, e02, e12, e22, e32, e42, e52, e62, clN (show π < 2 ^ 31 by omega), clN (show θ < 2 ^ 31 by omega), clN (show ν < 2 ^ 31 by omega), clN (show ι < 2 ^ 31 by omega), clN (show ξ < 2 ^ 31 by omega), inR_nI (show π < 2 ^ 31 by omega), inR_nI (show θ < 2 ^ 31 by omega), inR_nI (show ν < 2 ^ 31 by omega), inR_nI (show ι < 2 ^ 31 by omega), inR_nI (show ξ < 2 ^ 31 by omega), hq2, show π < 8 by omega, show θ < 8 by omega, nI_eq (show τ1 < 2 ^ 31 by omega) (show τ2 < 2 ^ 31 by omega)]
                                                                exact F.1 _ _ _ _ _ rfl rfl (dx dX7_copy 104 rfl) kh101 (show some (vi (-2)) = some (vi (copA g (nI π) (nI θ) (nI ι) (nI ξ) (nI ν))) ∧ (∃ v', MilAt h101 k v') ∧ MshAt h101 k (copG g (nI π) (nI θ) (nI ι) (nI ξ) (nI ν)) ∧ Ks k h h101 from by rw [eA, eG]; exact ⟨rfl, ⟨_, mh101⟩, hs.kp ph101, ph101.ks⟩))
                                                          · first
                                                            | (omega; done)
                                                            | (
                                                                have c100 : ι ≤ ν1 - ν := c100
                                                                refine r_iload C (dx dX7_copy 93 rfl) rfl ?_
                                                                refine r_aload_n C (dx dX7_copy 94 rfl) rfl ?_
                                                                refine g_X7_16 C (dx dX7_copy 95 rfl) ?_
                                                                refine r_iload_n C (dx dX7_copy 96 rfl) rfl ?_
                                                                refine r_iald (j := θ) (x := nI ν2) C rfl rfl (by decide) rfl (by omega) (dx dX7_copy 97 rfl) a52 ?_
                                                                refine r_iload C (dx dX7_copy 98 rfl) rfl ?_
                                                                refine rn_isub (a := ν2) (b := ν) C (by omega) (dx dX7_copy 99 rfl) ?_
                                                                refine rn_le (a := ξ) (b := ν2 - ν) (tgt := 188) C (by omega) (by omega) (dx dX7_copy 100 rfl) (by decide) (fun c102 => ?_) (fun c102 => ?_)
                                                                · first
                                                                  | (omega; done)
                                                                  | (
                                                                      have c102 : ξ ≤ ν2 - ν := c102
                                                                      refine r_iconst (v := nI 0) C (dx dX7_copy 105 rfl) rfl ?_
                                                                      refine r_istore (ls' := [(0, vr 7 k), (1, vi (nI π)), (2, vi (nI θ)), (3, vi (nI ι)), (4, vi (nI ξ)), (5, vi (nI ν)), (6, vi (nI 0))]) C (dx dX7_copy 106 rfl) (by decide) [1, 2, 3, 4, 5, 6, 0] rfl ?_
                                                                      refine loopU (Φ := fun p => ∀ h9, (∀ t, t < p → xL h9 (k + 13) t = gE g π (ι + t)) → Fr (k + 13) (k + 14) h h9 → xK h9 = xK h → Rr G 191 [(0, vr 7 k), (1, vi (nI π)), (2, vi (nI θ)), (3, vi (nI ι)), (4, vi (nI ξ)), (5, vi (nI ν)), (6, vi (nI p))] [] h9) (N := ν) ?_ ?_ 0 (by omega) _ (fun i hi => absurd hi (by omega)) Fr.rf rfl
                                                                      ·
                                                                        intro h9 q9 f9 k9
                                                                        refine r_iload C (dx dX7_copy 107 rfl) rfl ?_
                                                                        refine r_iload C (dx dX7_copy 108 rfl) rfl ?_
                                                                        refine rn_ge (a := ν) (b := ν) (tgt := 222) C (by omega) (by omega) (dx dX7_copy 109 rfl) (by decide) (fun c103 => ?_) (fun c103 => ?_)
                                                                        · first
                                                                          | (omega; done)
                                                                          | (
                                                                              have c103 : ν ≤ ν := c103
                                                                              refine r_iconst (v := nI 0) C (dx dX7_copy 124 rfl) rfl ?_
                                                                              refine r_istore (ls' := [(0, vr 7 k), (1, vi (nI π)), (2, vi (nI θ)), (3, vi (nI ι)), (4, vi (nI ξ)), (5, vi (nI ν)), (6, vi (nI 0))]) C (dx dX7_copy 125 rfl) (by decide) [1, 2, 3, 4, 5, 6, 0] rfl ?_
                                                                              have r9 := MsR.fr (show MsR h k g θ from ⟨_, _, a12, a22, a32, a42, a52, a62, a72, a82⟩) hθ f9
                                                                              refine loopU (Φ := fun p => ∀ h8, (∀ i, i < 40 → xL h8 (k + 5 + θ) i = if ξ ≤ i ∧ i < ξ + p then gE g π (ι + (i - ξ)) else gE g θ i) → (∀ t, t < ν → xL h8 (k + 13) t = gE g π (ι + t)) → Fr (k + 5 + θ) (k + 5 + θ + 1) h9 h8 → xK h8 = xK h → Rr G 225 [(0, vr 7 k), (1, vi (nI π)), (2, vi (nI θ)), (3, vi (nI ι)), (4, vi (nI ξ)), (5, vi (nI ν)), (6, vi (nI p))] [] h8) (N := ν) ?_ ?_ 0 (by omega) _ (fun i hi => by rw [if_neg (by omega), f9.L (by omega)]; exact a82 i hi) q9 Fr.rf k9
                                                                              ·
                                                                                intro h8 q8 u8 f8 k8
                                                                                have s9 : MshAt h8 k (pCp g π θ ι ξ ν) := msh_els (hs.mv f9) hθ r9 f8 (fun i hi => by rw [q8 i hi]; rfl)
                                                                                have g9 : Fr (k + 1) (k + 17) h h8 := (f9.mono (by omega) (by omega)).tr (f8.mono (by omega) (by omega))
                                                                                refine r_iload C (dx dX7_copy 126 rfl) rfl ?_
                                                                                refine r_iload C (dx dX7_copy 127 rfl) rfl ?_
                                                                                refine rn_ge (a := ν) (b := ν) (tgt := 257) C (by omega) (by omega) (dx dX7_copy 128 rfl) (by decide) (fun c104 => ?_) (fun c104 => ?_)
                                                                                · first
                                                                                  | (omega; done)
                                                                                  | (
                                                                                      have c104 : ν ≤ ν := c104
                                                                                      refine r_iload C (dx dX7_copy 143 rfl) rfl ?_
                                                                                      have eA : copA g (nI π) (nI θ) (nI ι) (nI ξ) (nI ν) = nI ν := by simp [copA, copG, copF, c1, c3, c60, c62, c63, c86, c87, c90, c92, c94, c96, c98, c100, c102, c103, c104, e01, e11, e21, e31, e41, e51, e61, e02, e12, e22, e32, e42, e52, e62, clN (show π < 2 ^ 31 by omega), clN (show θ < 2 ^ 31 by omega), clN (show ν < 2 ^ 31 by omega), clN (show ι < 2 ^ 31 by omega), clN (show ξ < 2 ^ 31 by omega), inR_nI (show π < 2 ^ 31 by omega), inR_nI (show θ < 2 ^ 31 by omega), inR_nI (show ν < 2 ^ 31 by omega), inR_nI (show ι < 2 ^ 31 by omega), inR_nI (show ξ < 2 ^ 31 by omega), show π < 8 by omega, show θ < 8 by omega, nI_eq (show τ1 < 2 ^ 31 by omega) (show τ2 < 2 ^ 31 by omega), cp_row e31 e32 (by omega) (by omega) (show ι < 2 ^ 31 by omega) (show ξ < 2 ^ 31 by omega) (show ν < 2 ^ 31 by omega), show ι + ν ≤ ν1 by omega, show ξ + ν ≤ ν2 by omega]
                                                                                      have eG : copG g (nI π) (nI θ) (nI ι) (nI ξ) (nI ν) = pCp g π θ ι ξ ν := by simp [copA, copG, copF, c1, c3, c60, c62, c63, c86, c87, c90, c92, c94, c96, c98, c100, c102, c103, c104, e01, e11, e21, e31, e41, e51, e61, e02, e12, e22, e32, e42, e52, e62, clN (show π < 2 ^ 31 by omega), clN (show θ < 2 ^ 31 by omega), clN (show ν < 2 ^ 31 by omega), clN (show ι < 2 ^ 31 by omega), clN (show ξ < 2 ^ 31 by omega), inR_nI (show π < 2 ^ 31 by omega), inR_nI (show θ < 2 ^ 31 by omega), inR_nI (show ν < 2 ^ 31 by omega), inR_nI (show ι < 2 ^ 31 by omega), inR_nI (show ξ < 2 ^ 31 by omega), show π < 8 by omega, show θ < 8 by omega, nI_eq (show τ1 < 2 ^ 31 by omega) (show τ2 < 2 ^ 31 by omega), cp_row e31 e32 (by omega) (by omega) (show ι < 2 ^ 31 by omega) (show ξ < 2 ^ 31 by omega) (show ν < 2 ^ 31 by omega), show ι + ν ≤ ν1 by omega, show ξ + ν ≤ ν2 by omega]
                                                                                      exact F.1 _ _ _ _ _ rfl rfl (dx dX7_copy 144 rfl) k8 (show some (vi (nI ν)) = some (vi (copA g (nI π) (nI θ) (nI ι) (nI ξ) (nI ν))) ∧ (∃ v', MilAt h8 k v') ∧ MshAt h8 k (copG g (nI π) (nI θ) (nI ι) (nI ξ) (nI ν)) ∧ Ks k h h8 from by rw [eA, eG]; exact ⟨rfl, ⟨_, hm.fr g9 (by omega)⟩, s9, (Ks.fr g9 (by omega) (by omega))⟩))
                                                                                · first
                                                                                  | (omega; done)
                                                                              ·
                                                                                intro p hp ih h8 q8 u8 f8 k8
                                                                                refine r_iload C (dx dX7_copy 126 rfl) rfl ?_
                                                                                refine r_iload C (dx dX7_copy 127 rfl) rfl ?_
                                                                                refine rn_ge (a := p) (b := ν) (tgt := 257) C (by omega) (by omega) (dx dX7_copy 128 rfl) (by decide) (fun c105 => ?_) (fun c105 => ?_)
                                                                                · first
                                                                                  | (omega; done)
                                                                                  | (
                                                                                      have c105 : ν ≤ p := c105
                                                                                      refine r_iload C (dx dX7_copy 143 rfl) rfl ?_
                                                                                      have eA : copA g (nI π) (nI θ) (nI ι) (nI ξ) (nI ν) = nI ν := by simp [copA, copG, copF, c1, c3, c60, c62, c63, c86, c87, c90, c92, c94, c96, c98, c100, c102, c103, c105, e01, e11, e21, e31, e41, e51, e61, e02, e12, e22, e32, e42, e52, e62, clN (show π < 2 ^ 31 by omega), clN (show θ < 2 ^ 31 by omega), clN (show ν < 2 ^ 31 by omega), clN (show ι < 2 ^ 31 by omega), clN (show ξ < 2 ^ 31 by omega), inR_nI (show π < 2 ^ 31 by omega), inR_nI (show θ < 2 ^ 31 by omega), inR_nI (show ν < 2 ^ 31 by omega), inR_nI (show ι < 2 ^ 31 by omega), inR_nI (show ξ < 2 ^ 31 by omega), show π < 8 by omega, show θ < 8 by omega, nI_eq (show τ1 < 2 ^ 31 by omega) (show τ2 < 2 ^ 31 by omega), cp_row e31 e32 (by omega) (by omega) (show ι < 2 ^ 31 by omega) (show ξ < 2 ^ 31 by omega) (show ν < 2 ^ 31 by omega), show ι + ν ≤ ν1 by omega, show ξ + ν ≤ ν2 by omega]
                                                                                      have eG : copG g (nI π) (nI θ) (nI ι) (nI ξ) (nI ν) = g := by simp [copA, copG, copF, c1, c3, c60, c62, c63, c86, c87, c90, c92, c94, c96, c98, c100, c102, c103, c105, e01, e11, e21, e31, e41, e51, e61, e02, e12, e22, e32, e42, e52, e62, clN (show π < 2 ^ 31 by omega), clN (show θ < 2 ^ 31 by omega), clN (show ν < 2 ^ 31 by omega), clN (show ι < 2 ^ 31 by omega), clN (show ξ < 2 ^ 31 by omega), inR_nI (show π < 2 ^ 31 by omega), inR_nI (show θ < 2 ^ 31 by omega), inR_nI (show ν < 2 ^ 31 by omega), inR_nI (show ι < 2 ^ 31 by omega), inR_nI (show ξ < 2 ^ 31 by omega), show π < 8 by omega, show θ < 8 by omega, nI_eq (show τ1 < 2 ^ 31 by omega) (show τ2 < 2 ^ 31 by omega), cp_row e31 e32 (by omega) (by omega) (show ι < 2 ^ 31 by omega) (show ξ < 2 ^ 31 by omega) (show ν < 2 ^ 31 by omega), show ι + ν ≤ ν1 by omega, show ξ + ν ≤ ν2 by omega]
                                                                                      exact F.1 _ _ _ _ _ rfl rfl (dx dX7_copy 144 rfl) k8 (show some (vi (nI ν)) = some (vi (copA g (nI π) (nI θ) (nI ι) (nI ξ) (nI ν))) ∧ (∃ v', MilAt h8 k v') ∧ MshAt h8 k (copG g (nI π) (nI θ) (nI ι) (nI ξ) (nI ν)) ∧ Ks k h h8 from by rw [eA, eG]; exact ⟨rfl, ⟨_, hm⟩, hs, Ks.rf⟩))
                                                                                · first
                                                                                  | (omega; done)
                                                                                  | (
                                                                                      have c105 : p < ν := c105
                                                                                      refine r_aload_n C (dx dX7_copy 129 rfl) rfl ?_
                                                                                      refine g_X7_21 C (dx dX7_copy 130 rfl) ?_
                                                                                      refine r_iload_n C (dx dX7_copy 131 rfl) rfl ?_
                                                                                      refine r_aald5 (j := θ) C rfl rfl (by decide) rfl (by omega) (dx dX7_copy 132 rfl) ?_
                                                                                      refine r_iload C (dx dX7_copy 133 rfl) rfl ?_
                                                                                      refine r_iload C (dx dX7_copy 134 rfl) rfl ?_
                                                                                      refine rn_iadd (a := ξ) (b := p) C (dx dX7_copy 135 rfl) ?_
                                                                                      refine r_aload_n C (dx dX7_copy 136 rfl) rfl ?_
                                                                                      refine g_X7_24 C (dx dX7_copy 137 rfl) ?_
                                                                                      refine r_iload C (dx dX7_copy 138 rfl) rfl ?_
                                                                                      refine r_lald (j := p) (x := gE g π (ι + p)) C rfl rfl (by decide) rfl (by omega) (dx dX7_copy 139 rfl) (u8 _ (by omega)) ?_
                                                                                      refine r_last (j := ξ + p) C rfl rfl (by decide) rfl (by omega) (dx dX7_copy 140 rfl) ?_
                                                                                      refine rn_iinc (a := p) (k := 1) (ls' := [(0, vr 7 k), (1, vi (nI π)), (2, vi (nI θ)), (3, vi (nI ι)), (4, vi (nI ξ)), (5, vi (nI ν)), (6, vi (nI (p + 1)))]) C (dx dX7_copy 141 rfl) rfl rfl (by decide) [1, 2, 3, 4, 5, 6, 0] rfl ?_
                                                                                      refine r_goto (tgt := 225) C (dx dX7_copy 142 rfl) (by decide) ?_
                                                                                      exact ih _ (fun i hi => by rw [sL_at]; exact cp2_step q8 i hi) (fun t ht => by rw [sL_ne (by omega)]; exact u8 t ht) (f8.tr (Fr.sL (by omega) (by omega))) k8))
                                                                        · first
                                                                          | (omega; done)
                                                                      ·
                                                                        intro p hp ih h9 q9 f9 k9
                                                                        refine r_iload C (dx dX7_copy 107 rfl) rfl ?_
                                                                        refine r_iload C (dx dX7_copy 108 rfl) rfl ?_
                                                                        refine rn_ge (a := p) (b := ν) (tgt := 222) C (by omega) (by omega) (dx dX7_copy 109 rfl) (by decide) (fun c106 => ?_) (fun c106 => ?_)
                                                                        · first
                                                                          | (omega; done)
                                                                          | (
                                                                              have c106 : ν ≤ p := c106
                                                                              refine r_iconst (v := nI 0) C (dx dX7_copy 124 rfl) rfl ?_
                                                                              refine r_istore (ls' := [(0, vr 7 k), (1, vi (nI π)), (2, vi (nI θ)), (3, vi (nI ι)), (4, vi (nI ξ)), (5, vi (nI ν)), (6, vi (nI 0))]) C (dx dX7_copy 125 rfl) (by decide) [1, 2, 3, 4, 5, 6, 0] rfl ?_
                                                                              have r9 := MsR.fr (show MsR h k g θ from ⟨_, _, a12, a22, a32, a42, a52, a62, a72, a82⟩) hθ f9
                                                                              refine loopU (Φ := fun p => ∀ h8, (∀ i, i < 40 → xL h8 (k + 5 + θ) i = if ξ ≤ i ∧ i < ξ + p then gE g π (ι + (i - ξ)) else gE g θ i) → (∀ t, t < ν → xL h8 (k + 13) t = gE g π (ι + t)) → Fr (k + 5 + θ) (k + 5 + θ + 1) h9 h8 → xK h8 = xK h → Rr G 225 [(0, vr 7 k), (1, vi (nI π)), (2, vi (nI θ)), (3, vi (nI ι)), (4, vi (nI ξ)), (5, vi (nI ν)), (6, vi (nI p))] [] h8) (N := ν) ?_ ?_ 0 (by omega) _ (fun i hi => by rw [if_neg (by omega), f9.L (by omega)]; exact a82 i hi) q9 Fr.rf k9
                                                                              ·
                                                                                intro h8 q8 u8 f8 k8
                                                                                have s9 : MshAt h8 k (pCp g π θ ι ξ ν) := msh_els (hs.mv f9) hθ r9 f8 (fun i hi => by rw [q8 i hi]; rfl)
                                                                                have g9 : Fr (k + 1) (k + 17) h h8 := (f9.mono (by omega) (by omega)).tr (f8.mono (by omega) (by omega))
                                                                                refine r_iload C (dx dX7_copy 126 rfl) rfl ?_
                                                                                refine r_iload C (dx dX7_copy 127 rfl) rfl ?_
                                                                                refine rn_ge (a := ν) (b := ν) (tgt := 257) C (by omega) (by omega) (dx dX7_copy 128 rfl) (by decide) (fun c107 => ?_) (fun c107 => ?_)
                                                                                · first
                                                                                  | (omega; done)
                                                                                  | (
                                                                                      have c107 : ν ≤ ν := c107
                                                                                      refine r_iload C (dx dX7_copy 143 rfl) rfl ?_
                                                                                      have eA : copA g (nI π) (nI θ) (nI ι) (nI ξ) (nI ν) = nI ν := by simp [copA, copG, copF, c1, c3, c60, c62, c63, c86, c87, c90, c92, c94, c96, c98, c100, c102, c106, c107, e01, e11, e21, e31, e41, e51, e61, e02, e12, e22, e32, e42, e52, e62, clN (show π < 2 ^ 31 by omega), clN (show θ < 2 ^ 31 by omega), clN (show ν < 2 ^ 31 by omega), clN (show ι < 2 ^ 31 by omega), clN (show ξ < 2 ^ 31 by omega), inR_nI (show π < 2 ^ 31 by omega), inR_nI (show θ < 2 ^ 31 by omega), inR_nI (show ν < 2 ^ 31 by omega), inR_nI (show ι < 2 ^ 31 by omega), inR_nI (show ξ < 2 ^ 31 by omega), show π < 8 by omega, show θ < 8 by omega, nI_eq (show τ1 < 2 ^ 31 by omega) (show τ2 < 2 ^ 31 by omega), cp_row e31 e32 (by omega) (by omega) (show ι < 2 ^ 31 by omega) (show ξ < 2 ^ 31 by omega) (show ν < 2 ^ 31 by omega), show ι + ν ≤ ν1 by omega, show ξ + ν ≤ ν2 by omega]
                                                                                      have eG : copG g (nI π) (nI θ) (nI ι) (nI ξ) (nI ν) = pCp g π θ ι ξ ν := by simp [copA, copG, copF, c1, c3, c60, c62, c63, c86, c87, c90, c92, c94, c96, c98, c100, c102, c106, c107, e01, e11, e21, e31, e41, e51, e61, e02, e12, e22, e32, e42, e52, e62, clN (show π < 2 ^ 31 by omega), clN (show θ < 2 ^ 31 by omega), clN (show ν < 2 ^ 31 by omega), clN (show ι < 2 ^ 31 by omega), clN (show ξ < 2 ^ 31 by omega), inR_nI (show π < 2 ^ 31 by omega), inR_nI (show θ < 2 ^ 31 by omega), inR_nI (show ν < 2 ^ 31 by omega), inR_nI (show ι < 2 ^ 31 by omega), inR_nI (show ξ < 2 ^ 31 by omega), show π < 8 by omega, show θ < 8 by omega, nI_eq (show τ1 < 2 ^ 31 by omega) (show τ2 < 2 ^ 31 by omega), cp_row e31 e32 (by omega) (by omega) (show ι < 2 ^ 31 by omega) (show ξ < 2 ^ 31 by omega) (show ν < 2 ^ 31 by omega), show ι + ν ≤ ν1 by omega, show ξ + ν ≤ ν2 by omega]
                                                                                      exact F.1 _ _ _ _ _ rfl rfl (dx dX7_copy 144 rfl) k8 (show some (vi (nI ν)) = some (vi (copA g (nI π) (nI θ) (nI ι) (nI ξ) (nI ν))) ∧ (∃ v', MilAt h8 k v') ∧ MshAt h8 k (copG g (nI π) (nI θ) (nI ι) (nI ξ) (nI ν)) ∧ Ks k h h8 from by rw [eA, eG]; exact ⟨rfl, ⟨_, hm.fr g9 (by omega)⟩, s9, (Ks.fr g9 (by omega) (by omega))⟩))
                                                                                · first
                                                                                  | (omega; done)
                                                                              ·
                                                                                intro p hp ih h8 q8 u8 f8 k8
                                                                                refine r_iload C (dx dX7_copy 126 rfl) rfl ?_
                                                                                refine r_iload C (dx dX7_copy 127 rfl) rfl ?_
                                                                                refine rn_ge (a := p) (b := ν) (tgt := 257) C (by omega) (by omega) (dx dX7_copy 128 rfl) (by decide) (fun c108 => ?_) (fun c108 => ?_)
                                                                                · first
                                                                                  | (omega; done)
                                                                                  | (
                                                                                      have c108 : ν ≤ p := c108
                                                                                      refine r_iload C (dx dX7_copy 143 rfl) rfl ?_
                                                                                      have eA : copA g (nI π) (nI θ) (nI ι) (nI ξ) (nI ν) = nI ν := by simp [copA, copG, copF, c1, c3, c60, c62, c63, c86, c87, c90, c92, c94, c96, c98, c100, c102, c106, c108, e01, e11, e21, e31, e41, e51, e61, e02, e12, e22, e32, e42, e52, e62, clN (show π < 2 ^ 31 by omega), clN (show θ < 2 ^ 31 by omega), clN (show ν < 2 ^ 31 by omega), clN (show ι < 2 ^ 31 by omega), clN (show ξ < 2 ^ 31 by omega), inR_nI (show π < 2 ^ 31 by omega), inR_nI (show θ < 2 ^ 31 by omega), inR_nI (show ν < 2 ^ 31 by omega), inR_nI (show ι < 2 ^ 31 by omega), inR_nI (show ξ < 2 ^ 31 by omega), show π < 8 by omega, show θ < 8 by omega, nI_eq (show τ1 < 2 ^ 31 by omega) (show τ2 < 2 ^ 31 by omega), cp_row e31 e32 (by omega) (by omega) (show ι < 2 ^ 31 by omega) (show ξ < 2 ^ 31 by omega) (show ν < 2 ^ 31 by omega), show ι + ν ≤ ν1 by omega, show ξ + ν ≤ ν2 by omega]
                                                                                      have eG : copG g (nI π) (nI θ) (nI ι) (nI ξ) (nI ν) = g := by simp [copA, copG, copF, c1, c3, c60, c62, c63, c86, c87, c90, c92, c94, c96, c98, c100, c102, c106, c108, e01, e11, e21, e31, e41, e51, e61, e02, e12, e22, e32, e42, e52, e62, clN (show π < 2 ^ 31 by omega), clN (show θ < 2 ^ 31 by omega), clN (show ν < 2 ^ 31 by omega), clN (show ι < 2 ^ 31 by omega), clN (show ξ < 2 ^ 31 by omega), inR_nI (show π < 2 ^ 31 by omega), inR_nI (show θ < 2 ^ 31 by omega), inR_nI (show ν < 2 ^ 31 by omega), inR_nI (show ι < 2 ^ 31 by omega), inR_nI (show ξ < 2 ^ 31 by omega), show π < 8 by omega, show θ < 8 by omega, nI_eq (show τ1 < 2 ^ 31 by omega) (show τ2 < 2 ^ 31 by omega), cp_row e31 e32 (by omega) (by omega) (show ι < 2 ^ 31 by omega) (show ξ < 2 ^ 31 by omega) (show ν < 2 ^ 31 by omega), show ι + ν ≤ ν1 by omega, show ξ + ν ≤ ν2 by omega]
                                                                                      exact F.1 _ _ _ _ _ rfl rfl (dx dX7_copy 144 rfl) k8 (show some (vi (nI ν)) = some (vi (copA g (nI π) (nI θ) (nI ι) (nI ξ) (nI ν))) ∧ (∃ v', MilAt h8 k v') ∧ MshAt h8 k (copG g (nI π) (nI θ) (nI ι) (nI ξ) (nI ν)) ∧ Ks k h h8 from by rw [eA, eG]; exact ⟨rfl, ⟨_, hm⟩, hs, Ks.rf⟩))
                                                                                · first
                                                                                  | (omega; done)
                                                                                  | (
                                                                                      have c108 : p < ν := c108
                                                                                      refine r_aload_n C (dx dX7_copy 129 rfl) rfl ?_
                                                                                      refine g_X7_21 C (dx dX7_copy 130 rfl) ?_
                                                                                      refine r_iload_n C (dx dX7_copy 131 rfl) rfl ?_
                                                                                      refine r_aald5 (j := θ) C rfl rfl (by decide) rfl (by omega) (dx dX7_copy 132 rfl) ?_
                                                                                      refine r_iload C (dx dX7_copy 133 rfl) rfl ?_
                                                                                      refine r_iload C (dx dX7_copy 134 rfl) rfl ?_
                                                                                      refine rn_iadd (a := ξ) (b := p) C (dx dX7_copy 135 rfl) ?_
                                                                                      refine r_aload_n C (dx dX7_copy 136 rfl) rfl ?_
                                                                                      refine g_X7_24 C (dx dX7_copy 137 rfl) ?_
                                                                                      refine r_iload C (dx dX7_copy 138 rfl) rfl ?_
                                                                                      refine r_lald (j := p) (x := gE g π (ι + p)) C rfl rfl (by decide) rfl (by omega) (dx dX7_copy 139 rfl) (u8 _ (by omega)) ?_
                                                                                      refine r_last (j := ξ + p) C rfl rfl (by decide) rfl (by omega) (dx dX7_copy 140 rfl) ?_
                                                                                      refine rn_iinc (a := p) (k := 1) (ls' := [(0, vr 7 k), (1, vi (nI π)), (2, vi (nI θ)), (3, vi (nI ι)), (4, vi (nI ξ)), (5, vi (nI ν)), (6, vi (nI (p + 1)))]) C (dx dX7_copy 141 rfl) rfl rfl (by decide) [1, 2, 3, 4, 5, 6, 0] rfl ?_
                                                                                      refine r_goto (tgt := 225) C (dx dX7_copy 142 rfl) (by decide) ?_
                                                                                      exact ih _ (fun i hi => by rw [sL_at]; exact cp2_step q8 i hi) (fun t ht => by rw [sL_ne (by omega)]; exact u8 t ht) (f8.tr (Fr.sL (by omega) (by omega))) k8))
                                                                        · first
                                                                          | (omega; done)
                                                                          | (
                                                                              have c106 : p < ν := c106
                                                                              refine r_aload_n C (dx dX7_copy 110 rfl) rfl ?_
                                                                              refine g_X7_24 C (dx dX7_copy 111 rfl) ?_
                                                                              refine r_iload C (dx dX7_copy 112 rfl) rfl ?_
                                                                              refine r_aload_n C (dx dX7_copy 113 rfl) rfl ?_
                                                                              refine g_X7_21 C (dx dX7_copy 114 rfl) ?_
                                                                              refine r_iload_n C (dx dX7_copy 115 rfl) rfl ?_
                                                                              refine r_aald5 (j := π) C rfl rfl (by decide) rfl (by omega) (dx dX7_copy 116 rfl) ?_
                                                                              refine r_iload_n C (dx dX7_copy 117 rfl) rfl ?_
                                                                              refine r_iload C (dx dX7_copy 118 rfl) rfl ?_
                                                                              refine rn_iadd (a := ι) (b := p) C (dx dX7_copy 119 rfl) ?_
                                                                              refine r_lald (j := ι + p) (x := gE g π (ι + p)) C rfl rfl (by decide) rfl (by omega) (dx dX7_copy 120 rfl) ((f9.L (by omega) _).trans (a81 _ (by omega))) ?_
                                                                              refine r_last (j := p) C rfl rfl (by decide) rfl (by omega) (dx dX7_copy 121 rfl) ?_
                                                                              refine rn_iinc (a := p) (k := 1) (ls' := [(0, vr 7 k), (1, vi (nI π)), (2, vi (nI θ)), (3, vi (nI ι)), (4, vi (nI ξ)), (5, vi (nI ν)), (6, vi (nI (p + 1)))]) C (dx dX7_copy 122 rfl) rfl rfl (by decide) [1, 2, 3, 4, 5, 6, 0] rfl ?_
                                                                              refine r_goto (tgt := 191) C (dx dX7_copy 123 rfl) (by decide) ?_
                                                                              exact ih _ (fun t ht => by rw [sL_at]; split; (next e => rw [e]); exact q9 t (by omega)) (f9.tr (Fr.sL (by omega) (by omega))) k9))
                                                                · first
                                                                  | (omega; done)
                                                                  | (
                                                                      have c102 : ν2 - ν < ξ := c102
                                                                      refine r_aload_n C (dx dX7_copy 101 rfl) rfl ?_
                                                                      refine r_bipush (v := -2) C (dx dX7_copy 102 rfl) rfl ?_
                                                                      refine r_cv (as := [vi (-2)]) (st := []) C X I_X7_refuse l_X7_83 (c_X7_refuse hm (x := -2) (j := 2) (by decide) (by decide)) (by decide) (Nat.le_of_ble_eq_true rfl) List.prefix_rfl List.prefix_rfl rfl rfl (Nat.le_of_ble_eq_true rfl) rfl (dx dX7_copy 103 rfl) ?_
                                                                      rintro _ h109 ⟨rfl, ⟨wh109, m9h109, s9h109⟩, qh109⟩ kkh109
                                                                      obtain ⟨vh109, mh109, zh109⟩ : ∃ v9, MilAt h109 k v9 ∧ Sz v v9 := ⟨_, m9h109, s9h109⟩
                                                                      have ph109 : Kp k h h109 := qh109
                                                                      have kh109 : xK h109 = xK h := kkh109
                                                                      obtain ⟨ah109, bh109, ch109⟩ := zh109
                                                                      have eA : copA g (nI π) (nI θ) (nI ι) (nI ξ) (nI ν) = -2 := by (have hq : ¬ (ι + ν ≤ ν1 ∧ ξ + ν ≤ ν2) := by omega); (have hq2 := cp_row e31 e32 (i := ι) (j := ξ) (n := ν) (by omega) (by omega) (by omega) (by omega) (by omega)); rw [decide_eq_false hq] at hq2; simp [copA, copG, copF, c1, c3, c60, c62, c63, c86, c87, c90, c92, c94, c96, c98, c100, c102, e01, e11, e21, e31, e41, e51, e61, e02, e12, e22, e32, e42, e52, e62, clN (show π < 2 ^ 31 by omega), clN (show θ < 2 ^ 31 by omega), clN (show ν < 2 ^ 31 by omega), clN (show ι < 2 ^ 31 by omega), clN (show ξ < 2 ^ 31 by omega), inR_nI (show π < 2 ^ 31 by omega), inR_nI (show θ < 2 ^ 31 by omega), inR_nI (show ν < 2 ^ 31 by omega), inR_nI (show ι < 2 ^ 31 by omega), inR_nI (show ξ < 2 ^ 31 by omega), hq2, show π < 8 by omega, show θ < 8 by omega, nI_eq (show τ1 < 2 ^ 31 by omega) (show τ2 < 2 ^ 31 by omega)]
                                                                      have eG : copG g (nI π) (nI θ) (nI ι) (nI ξ) (nI ν) = g := by (have hq : ¬ (ι + ν ≤ ν1 ∧ ξ + ν ≤ ν2) := by omega); (have hq2 := cp_row e31 e32 (i := ι) (j := ξ) (n := ν) (by omega) (by omega) (by omega) (by omega) (by omega)); rw [decide_eq_false hq] at hq2; simp [copA, copG, copF, c1, c3, c60, c62, c63, c86, c87, c90, c92, c94, c96, c98, c100, c102, e01, e11, e21, e31, e41, e51, e61, e02, e12, e22, e32, e42, e52, e62, clN (show π < 2 ^ 31 by omega), clN (show θ < 2 ^ 31 by omega), clN (show ν < 2 ^ 31 by omega), clN (show ι < 2 ^ 31 by omega), clN (show ξ < 2 ^ 31 by omega), inR_nI (show π < 2 ^ 31 by omega), inR_nI (show θ < 2 ^ 31 by omega), inR_nI (show ν < 2 ^ 31 by omega), inR_nI (show ι < 2 ^ 31 by omega), inR_nI (show ξ < 2 ^ 31 by omega), hq2, show π < 8 by omega, show θ < 8 by omega, nI_eq (show τ1 < 2 ^ 31 by omega) (show τ2 < 2 ^ 31 by omega)]
                                                                      exact F.1 _ _ _ _ _ rfl rfl (dx dX7_copy 104 rfl) kh109 (show some (vi (-2)) = some (vi (copA g (nI π) (nI θ) (nI ι) (nI ξ) (nI ν))) ∧ (∃ v', MilAt h109 k v') ∧ MshAt h109 k (copG g (nI π) (nI θ) (nI ι) (nI ξ) (nI ν)) ∧ Ks k h h109 from by rw [eA, eG]; exact ⟨rfl, ⟨_, mh109⟩, hs.kp ph109, ph109.ks⟩))))))
                                  · first
                                    | (omega; done)
                                    | (
                                        have c87 : ¬ τ1 = τ2 := c87
                                        refine r_aload_n C (dx dX7_copy 49 rfl) rfl ?_
                                        refine r_bipush (v := -3) C (dx dX7_copy 50 rfl) rfl ?_
                                        refine r_cv (as := [vi (-3)]) (st := []) C X I_X7_refuse l_X7_83 (c_X7_refuse hm (x := -3) (j := 3) (by decide) (by decide)) (by decide) (Nat.le_of_ble_eq_true rfl) List.prefix_rfl List.prefix_rfl rfl rfl (Nat.le_of_ble_eq_true rfl) rfl (dx dX7_copy 51 rfl) ?_
                                        rintro _ h110 ⟨rfl, ⟨wh110, m9h110, s9h110⟩, qh110⟩ kkh110
                                        obtain ⟨vh110, mh110, zh110⟩ : ∃ v9, MilAt h110 k v9 ∧ Sz v v9 := ⟨_, m9h110, s9h110⟩
                                        have ph110 : Kp k h h110 := qh110
                                        have kh110 : xK h110 = xK h := kkh110
                                        obtain ⟨ah110, bh110, ch110⟩ := zh110
                                        have eA : copA g (nI π) (nI θ) i j n = -3 := by simp [copA, copG, copF, cpOk, c1, c3, c60, c62, c63, c86, c87, e01, e11, e21, e31, e41, e51, e61, e02, e12, e22, e32, e42, e52, e62, clN (show π < 2 ^ 31 by omega), clN (show θ < 2 ^ 31 by omega), inR_nI (show π < 2 ^ 31 by omega), inR_nI (show θ < 2 ^ 31 by omega), show π < 8 by omega, show θ < 8 by omega, nI_eq (show τ1 < 2 ^ 31 by omega) (show τ2 < 2 ^ 31 by omega)]
                                        have eG : copG g (nI π) (nI θ) i j n = g := by simp [copA, copG, copF, cpOk, c1, c3, c60, c62, c63, c86, c87, e01, e11, e21, e31, e41, e51, e61, e02, e12, e22, e32, e42, e52, e62, clN (show π < 2 ^ 31 by omega), clN (show θ < 2 ^ 31 by omega), inR_nI (show π < 2 ^ 31 by omega), inR_nI (show θ < 2 ^ 31 by omega), show π < 8 by omega, show θ < 8 by omega, nI_eq (show τ1 < 2 ^ 31 by omega) (show τ2 < 2 ^ 31 by omega)]
                                        exact F.1 _ _ _ _ _ rfl rfl (dx dX7_copy 52 rfl) kh110 (show some (vi (-3)) = some (vi (copA g (nI π) (nI θ) i j n)) ∧ (∃ v', MilAt h110 k v') ∧ MshAt h110 k (copG g (nI π) (nI θ) i j n) ∧ Ks k h h110 from by rw [eA, eG]; exact ⟨rfl, ⟨_, mh110⟩, hs.kp ph110, ph110.ks⟩))))))
        ·
          obtain ⟨e02, e12, e22, e32, e42, e52, e62, e72⟩ := sh_hold hθ a22 a72 a82
          refine r_aload_n C (dx dX7_copy 16 rfl) rfl ?_
          refine g_X7_7 C (dx dX7_copy 17 rfl) ?_
          refine r_iload_n C (dx dX7_copy 18 rfl) rfl ?_
          refine r_iald (j := π) (x := nI 1) C rfl rfl (by decide) rfl (by omega) (dx dX7_copy 19 rfl) a31 ?_
          refine r_iconst (v := nI 2) C (dx dX7_copy 20 rfl) rfl ?_
          refine rn_eq (a := 1) (b := 2) (tgt := 86) C (by omega) (by omega) (dx dX7_copy 21 rfl) (by decide) (fun c111 => ?_) (fun c111 => ?_)
          · first
            | (omega; done)
            | (
                have c111 : 1 = 2 := c111
                refine r_aload_n C (dx dX7_copy 49 rfl) rfl ?_
                refine r_bipush (v := -3) C (dx dX7_copy 50 rfl) rfl ?_
                refine r_cv (as := [vi (-3)]) (st := []) C X I_X7_refuse l_X7_83 (c_X7_refuse hm (x := -3) (j := 3) (by decide) (by decide)) (by decide) (Nat.le_of_ble_eq_true rfl) List.prefix_rfl List.prefix_rfl rfl rfl (Nat.le_of_ble_eq_true rfl) rfl (dx dX7_copy 51 rfl) ?_
                rintro _ h112 ⟨rfl, ⟨wh112, m9h112, s9h112⟩, qh112⟩ kkh112
                obtain ⟨vh112, mh112, zh112⟩ : ∃ v9, MilAt h112 k v9 ∧ Sz v v9 := ⟨_, m9h112, s9h112⟩
                have ph112 : Kp k h h112 := qh112
                have kh112 : xK h112 = xK h := kkh112
                obtain ⟨ah112, bh112, ch112⟩ := zh112
                have eA : copA g (nI π) (nI θ) i j n = -3 := by simp [copA, copG, copF, cpOk, c1, c3, c111, e01, e11, e21, e31, e41, e51, e61, e02, e12, e22, e32, e42, e52, e62, e72, clN (show π < 2 ^ 31 by omega), clN (show θ < 2 ^ 31 by omega), inR_nI (show π < 2 ^ 31 by omega), inR_nI (show θ < 2 ^ 31 by omega), show π < 8 by omega, show θ < 8 by omega]
                have eG : copG g (nI π) (nI θ) i j n = g := by simp [copA, copG, copF, cpOk, c1, c3, c111, e01, e11, e21, e31, e41, e51, e61, e02, e12, e22, e32, e42, e52, e62, e72, clN (show π < 2 ^ 31 by omega), clN (show θ < 2 ^ 31 by omega), inR_nI (show π < 2 ^ 31 by omega), inR_nI (show θ < 2 ^ 31 by omega), show π < 8 by omega, show θ < 8 by omega]
                exact F.1 _ _ _ _ _ rfl rfl (dx dX7_copy 52 rfl) kh112 (show some (vi (-3)) = some (vi (copA g (nI π) (nI θ) i j n)) ∧ (∃ v', MilAt h112 k v') ∧ MshAt h112 k (copG g (nI π) (nI θ) i j n) ∧ Ks k h h112 from by rw [eA, eG]; exact ⟨rfl, ⟨_, mh112⟩, hs.kp ph112, ph112.ks⟩))
          · first
            | (omega; done)
            | (
                have c111 : ¬ 1 = 2 := c111
                refine r_aload_n C (dx dX7_copy 22 rfl) rfl ?_
                refine g_X7_7 C (dx dX7_copy 23 rfl) ?_
                refine r_iload_n C (dx dX7_copy 24 rfl) rfl ?_
                refine r_iald (j := θ) (x := nI 2) C rfl rfl (by decide) rfl (by omega) (dx dX7_copy 25 rfl) a42 ?_
                refine r_iconst (v := nI 2) C (dx dX7_copy 26 rfl) rfl ?_
                refine rn_eq (a := 2) (b := 2) (tgt := 86) C (by omega) (by omega) (dx dX7_copy 27 rfl) (by decide) (fun c113 => ?_) (fun c113 => ?_)
                · first
                  | (omega; done)
                  | (
                      have c113 : 2 = 2 := c113
                      refine r_aload_n C (dx dX7_copy 49 rfl) rfl ?_
                      refine r_bipush (v := -3) C (dx dX7_copy 50 rfl) rfl ?_
                      refine r_cv (as := [vi (-3)]) (st := []) C X I_X7_refuse l_X7_83 (c_X7_refuse hm (x := -3) (j := 3) (by decide) (by decide)) (by decide) (Nat.le_of_ble_eq_true rfl) List.prefix_rfl List.prefix_rfl rfl rfl (Nat.le_of_ble_eq_true rfl) rfl (dx dX7_copy 51 rfl) ?_
                      rintro _ h114 ⟨rfl, ⟨wh114, m9h114, s9h114⟩, qh114⟩ kkh114
                      obtain ⟨vh114, mh114, zh114⟩ : ∃ v9, MilAt h114 k v9 ∧ Sz v v9 := ⟨_, m9h114, s9h114⟩
                      have ph114 : Kp k h h114 := qh114
                      have kh114 : xK h114 = xK h := kkh114
                      obtain ⟨ah114, bh114, ch114⟩ := zh114
                      have eA : copA g (nI π) (nI θ) i j n = -3 := by simp [copA, copG, copF, cpOk, c1, c3, c111, c113, e01, e11, e21, e31, e41, e51, e61, e02, e12, e22, e32, e42, e52, e62, e72, clN (show π < 2 ^ 31 by omega), clN (show θ < 2 ^ 31 by omega), inR_nI (show π < 2 ^ 31 by omega), inR_nI (show θ < 2 ^ 31 by omega), show π < 8 by omega, show θ < 8 by omega]
                      have eG : copG g (nI π) (nI θ) i j n = g := by simp [copA, copG, copF, cpOk, c1, c3, c111, c113, e01, e11, e21, e31, e41, e51, e61, e02, e12, e22, e32, e42, e52, e62, e72, clN (show π < 2 ^ 31 by omega), clN (show θ < 2 ^ 31 by omega), inR_nI (show π < 2 ^ 31 by omega), inR_nI (show θ < 2 ^ 31 by omega), show π < 8 by omega, show θ < 8 by omega]
                      exact F.1 _ _ _ _ _ rfl rfl (dx dX7_copy 52 rfl) kh114 (show some (vi (-3)) = some (vi (copA g (nI π) (nI θ) i j n)) ∧ (∃ v', MilAt h114 k v') ∧ MshAt h114 k (copG g (nI π) (nI θ) i j n) ∧ Ks k h h114 from by rw [eA, eG]; exact ⟨rfl, ⟨_, mh114⟩, hs.kp ph114, ph114.ks⟩))
                · first
                  | (omega; done)
                  | (
                      have c113 : ¬ 2 = 2 := c113
                      refine r_aload_n C (dx dX7_copy 28 rfl) rfl ?_
                      refine g_X7_7 C (dx dX7_copy 29 rfl) ?_
                      refine r_iload_n C (dx dX7_copy 30 rfl) rfl ?_
                      refine r_iald (j := π) (x := nI 1) C rfl rfl (by decide) rfl (by omega) (dx dX7_copy 31 rfl) a31 ?_
                      refine r_iconst (v := nI 1) C (dx dX7_copy 32 rfl) rfl ?_
                      refine rn_ne (a := 1) (b := 1) (tgt := 93) C (by omega) (by omega) (dx dX7_copy 33 rfl) (by decide) (fun c115 => ?_) (fun c115 => ?_)
                      · first
                        | (omega; done)
                        | (
                            have c115 : ¬ 1 = 1 := c115
                            refine r_aload_n C (dx dX7_copy 53 rfl) rfl ?_
                            refine g_X7_7 C (dx dX7_copy 54 rfl) ?_
                            refine r_iload_n C (dx dX7_copy 55 rfl) rfl ?_
                            refine r_iald (j := π) (x := nI 1) C rfl rfl (by decide) rfl (by omega) (dx dX7_copy 56 rfl) a31 ?_
                            refine r_if_eq (tgt := 111) C (dx dX7_copy 57 rfl) (by decide) (fun c116 => (show False from by revert c116; decide).elim) (fun _ => ?_)
                            refine r_aload_n C (dx dX7_copy 58 rfl) rfl ?_
                            refine g_X7_7 C (dx dX7_copy 59 rfl) ?_
                            refine r_iload_n C (dx dX7_copy 60 rfl) rfl ?_
                            refine r_iald (j := θ) (x := nI 2) C rfl rfl (by decide) rfl (by omega) (dx dX7_copy 61 rfl) a42 ?_
                            refine r_if_ne (tgt := 118) C (dx dX7_copy 62 rfl) (by decide) (fun _ => ?_) (fun c117 => (show False from by revert c117; decide).elim)
                            refine r_iload C (dx dX7_copy 67 rfl) rfl ?_
                            refine r_if_lt (tgt := 181) C (dx dX7_copy 68 rfl) (by decide) (fun c118 => ?_) (fun c118 => ?_)
                            ·
                              have c118 : n < 0 := c118
                              refine r_aload_n C (dx dX7_copy 101 rfl) rfl ?_
                              refine r_bipush (v := -2) C (dx dX7_copy 102 rfl) rfl ?_
                              refine r_cv (as := [vi (-2)]) (st := []) C X I_X7_refuse l_X7_83 (c_X7_refuse hm (x := -2) (j := 2) (by decide) (by decide)) (by decide) (Nat.le_of_ble_eq_true rfl) List.prefix_rfl List.prefix_rfl rfl rfl (Nat.le_of_ble_eq_true rfl) rfl (dx dX7_copy 103 rfl) ?_
                              rintro _ h119 ⟨rfl, ⟨wh119, m9h119, s9h119⟩, qh119⟩ kkh119
                              obtain ⟨vh119, mh119, zh119⟩ : ∃ v9, MilAt h119 k v9 ∧ Sz v v9 := ⟨_, m9h119, s9h119⟩
                              have ph119 : Kp k h h119 := qh119
                              have kh119 : xK h119 = xK h := kkh119
                              obtain ⟨ah119, bh119, ch119⟩ := zh119
                              have eA : copA g (nI π) (nI θ) i j n = -2 := by simp [copA, copG, copF, cpOk, c1, c3, c111, c113, c115, (fun n9 => inR_neg (n := n9) c118 : ∀ n9, inR n n9 = false), c118, e01, e11, e21, e31, e41, e51, e61, e02, e12, e22, e32, e42, e52, e62, e72, clN (show π < 2 ^ 31 by omega), clN (show θ < 2 ^ 31 by omega), inR_nI (show π < 2 ^ 31 by omega), inR_nI (show θ < 2 ^ 31 by omega), show π < 8 by omega, show θ < 8 by omega]
                              have eG : copG g (nI π) (nI θ) i j n = g := by simp [copA, copG, copF, cpOk, c1, c3, c111, c113, c115, (fun n9 => inR_neg (n := n9) c118 : ∀ n9, inR n n9 = false), c118, e01, e11, e21, e31, e41, e51, e61, e02, e12, e22, e32, e42, e52, e62, e72, clN (show π < 2 ^ 31 by omega), clN (show θ < 2 ^ 31 by omega), inR_nI (show π < 2 ^ 31 by omega), inR_nI (show θ < 2 ^ 31 by omega), show π < 8 by omega, show θ < 8 by omega]
                              exact F.1 _ _ _ _ _ rfl rfl (dx dX7_copy 104 rfl) kh119 (show some (vi (-2)) = some (vi (copA g (nI π) (nI θ) i j n)) ∧ (∃ v', MilAt h119 k v') ∧ MshAt h119 k (copG g (nI π) (nI θ) i j n) ∧ Ks k h h119 from by rw [eA, eG]; exact ⟨rfl, ⟨_, mh119⟩, hs.kp ph119, ph119.ks⟩)
                            ·
                              have c118 : ¬ n < 0 := c118
                              obtain ⟨ν, hν, rfl⟩ := nI_of c118
                              refine r_iload_n C (dx dX7_copy 69 rfl) rfl ?_
                              refine r_if_lt (tgt := 181) C (dx dX7_copy 70 rfl) (by decide) (fun c120 => ?_) (fun c120 => ?_)
                              ·
                                have c120 : i < 0 := c120
                                refine r_aload_n C (dx dX7_copy 101 rfl) rfl ?_
                                refine r_bipush (v := -2) C (dx dX7_copy 102 rfl) rfl ?_
                                refine r_cv (as := [vi (-2)]) (st := []) C X I_X7_refuse l_X7_83 (c_X7_refuse hm (x := -2) (j := 2) (by decide) (by decide)) (by decide) (Nat.le_of_ble_eq_true rfl) List.prefix_rfl List.prefix_rfl rfl rfl (Nat.le_of_ble_eq_true rfl) rfl (dx dX7_copy 103 rfl) ?_
                                rintro _ h121 ⟨rfl, ⟨wh121, m9h121, s9h121⟩, qh121⟩ kkh121
                                obtain ⟨vh121, mh121, zh121⟩ : ∃ v9, MilAt h121 k v9 ∧ Sz v v9 := ⟨_, m9h121, s9h121⟩
                                have ph121 : Kp k h h121 := qh121
                                have kh121 : xK h121 = xK h := kkh121
                                obtain ⟨ah121, bh121, ch121⟩ := zh121
                                have eA : copA g (nI π) (nI θ) i j (nI ν) = -2 := by simp [copA, copG, copF, cpOk, c1, c3, c111, c113, c115, c118, (fun n9 => inR_neg (n := n9) c120 : ∀ n9, inR i n9 = false), c120, e01, e11, e21, e31, e41, e51, e61, e02, e12, e22, e32, e42, e52, e62, e72, clN (show π < 2 ^ 31 by omega), clN (show θ < 2 ^ 31 by omega), clN (show ν < 2 ^ 31 by omega), inR_nI (show π < 2 ^ 31 by omega), inR_nI (show θ < 2 ^ 31 by omega), inR_nI (show ν < 2 ^ 31 by omega), show π < 8 by omega, show θ < 8 by omega]
                                have eG : copG g (nI π) (nI θ) i j (nI ν) = g := by simp [copA, copG, copF, cpOk, c1, c3, c111, c113, c115, c118, (fun n9 => inR_neg (n := n9) c120 : ∀ n9, inR i n9 = false), c120, e01, e11, e21, e31, e41, e51, e61, e02, e12, e22, e32, e42, e52, e62, e72, clN (show π < 2 ^ 31 by omega), clN (show θ < 2 ^ 31 by omega), clN (show ν < 2 ^ 31 by omega), inR_nI (show π < 2 ^ 31 by omega), inR_nI (show θ < 2 ^ 31 by omega), inR_nI (show ν < 2 ^ 31 by omega), show π < 8 by omega, show θ < 8 by omega]
                                exact F.1 _ _ _ _ _ rfl rfl (dx dX7_copy 104 rfl) kh121 (show some (vi (-2)) = some (vi (copA g (nI π) (nI θ) i j (nI ν))) ∧ (∃ v', MilAt h121 k v') ∧ MshAt h121 k (copG g (nI π) (nI θ) i j (nI ν)) ∧ Ks k h h121 from by rw [eA, eG]; exact ⟨rfl, ⟨_, mh121⟩, hs.kp ph121, ph121.ks⟩)
                              ·
                                have c120 : ¬ i < 0 := c120
                                obtain ⟨ι, hι, rfl⟩ := nI_of c120
                                refine r_iload C (dx dX7_copy 71 rfl) rfl ?_
                                refine r_if_lt (tgt := 181) C (dx dX7_copy 72 rfl) (by decide) (fun c122 => ?_) (fun c122 => ?_)
                                ·
                                  have c122 : j < 0 := c122
                                  refine r_aload_n C (dx dX7_copy 101 rfl) rfl ?_
                                  refine r_bipush (v := -2) C (dx dX7_copy 102 rfl) rfl ?_
                                  refine r_cv (as := [vi (-2)]) (st := []) C X I_X7_refuse l_X7_83 (c_X7_refuse hm (x := -2) (j := 2) (by decide) (by decide)) (by decide) (Nat.le_of_ble_eq_true rfl) List.prefix_rfl List.prefix_rfl rfl rfl (Nat.le_of_ble_eq_true rfl) rfl (dx dX7_copy 103 rfl) ?_
                                  rintro _ h123 ⟨rfl, ⟨wh123, m9h123, s9h123⟩, qh123⟩ kkh123
                                  obtain ⟨vh123, mh123, zh123⟩ : ∃ v9, MilAt h123 k v9 ∧ Sz v v9 := ⟨_, m9h123, s9h123⟩
                                  have ph123 : Kp k h h123 := qh123
                                  have kh123 : xK h123 = xK h := kkh123
                                  obtain ⟨ah123, bh123, ch123⟩ := zh123
                                  have eA : copA g (nI π) (nI θ) (nI ι) j (nI ν) = -2 := by simp [copA, copG, copF, cpOk, c1, c3, c111, c113, c115, c118, c120, (fun n9 => inR_neg (n := n9) c122 : ∀ n9, inR j n9 = false), c122, e01, e11, e21, e31, e41, e51, e61, e02, e12, e22, e32, e42, e52, e62, e72, clN (show π < 2 ^ 31 by omega), clN (show θ < 2 ^ 31 by omega), clN (show ν < 2 ^ 31 by omega), clN (show ι < 2 ^ 31 by omega), inR_nI (show π < 2 ^ 31 by omega), inR_nI (show θ < 2 ^ 31 by omega), inR_nI (show ν < 2 ^ 31 by omega), inR_nI (show ι < 2 ^ 31 by omega), show π < 8 by omega, show θ < 8 by omega]
                                  have eG : copG g (nI π) (nI θ) (nI ι) j (nI ν) = g := by simp [copA, copG, copF, cpOk, c1, c3, c111, c113, c115, c118, c120, (fun n9 => inR_neg (n := n9) c122 : ∀ n9, inR j n9 = false), c122, e01, e11, e21, e31, e41, e51, e61, e02, e12, e22, e32, e42, e52, e62, e72, clN (show π < 2 ^ 31 by omega), clN (show θ < 2 ^ 31 by omega), clN (show ν < 2 ^ 31 by omega), clN (show ι < 2 ^ 31 by omega), inR_nI (show π < 2 ^ 31 by omega), inR_nI (show θ < 2 ^ 31 by omega), inR_nI (show ν < 2 ^ 31 by omega), inR_nI (show ι < 2 ^ 31 by omega), show π < 8 by omega, show θ < 8 by omega]
                                  exact F.1 _ _ _ _ _ rfl rfl (dx dX7_copy 104 rfl) kh123 (show some (vi (-2)) = some (vi (copA g (nI π) (nI θ) (nI ι) j (nI ν))) ∧ (∃ v', MilAt h123 k v') ∧ MshAt h123 k (copG g (nI π) (nI θ) (nI ι) j (nI ν)) ∧ Ks k h h123 from by rw [eA, eG]; exact ⟨rfl, ⟨_, mh123⟩, hs.kp ph123, ph123.ks⟩)
                                ·
                                  have c122 : ¬ j < 0 := c122
                                  obtain ⟨ξ, hξ, rfl⟩ := nI_of c122
                                  refine r_iload C (dx dX7_copy 73 rfl) rfl ?_
                                  refine r_aload_n C (dx dX7_copy 74 rfl) rfl ?_
                                  refine g_X7_16 C (dx dX7_copy 75 rfl) ?_
                                  refine r_iload_n C (dx dX7_copy 76 rfl) rfl ?_
                                  refine r_iald (j := π) (x := nI ν1) C rfl rfl (by decide) rfl (by omega) (dx dX7_copy 77 rfl) a51 ?_
                                  refine rn_gt (a := ν) (b := ν1) (tgt := 181) C (by omega) (by omega) (dx dX7_copy 78 rfl) (by decide) (fun c124 => ?_) (fun c124 => ?_)
                                  · first
                                    | (omega; done)
                                    | (
                                        have c124 : ν1 < ν := c124
                                        refine r_aload_n C (dx dX7_copy 101 rfl) rfl ?_
                                        refine r_bipush (v := -2) C (dx dX7_copy 102 rfl) rfl ?_
                                        refine r_cv (as := [vi (-2)]) (st := []) C X I_X7_refuse l_X7_83 (c_X7_refuse hm (x := -2) (j := 2) (by decide) (by decide)) (by decide) (Nat.le_of_ble_eq_true rfl) List.prefix_rfl List.prefix_rfl rfl rfl (Nat.le_of_ble_eq_true rfl) rfl (dx dX7_copy 103 rfl) ?_
                                        rintro _ h125 ⟨rfl, ⟨wh125, m9h125, s9h125⟩, qh125⟩ kkh125
                                        obtain ⟨vh125, mh125, zh125⟩ : ∃ v9, MilAt h125 k v9 ∧ Sz v v9 := ⟨_, m9h125, s9h125⟩
                                        have ph125 : Kp k h h125 := qh125
                                        have kh125 : xK h125 = xK h := kkh125
                                        obtain ⟨ah125, bh125, ch125⟩ := zh125
                                        have eA : copA g (nI π) (nI θ) (nI ι) (nI ξ) (nI ν) = -2 := by (have hq : ¬ (ι + ν ≤ ν1 ∧ ξ + ν ≤ ν2) := by omega); (have hq2 := cp_row e31 e32 (i := ι) (j := ξ) (n := ν) (by omega) (by omega) (by omega) (by omega) (by omega)); rw [decide_eq_false hq] at hq2; simp [copA, copG, copF, c1, c3, c111, c113, c115, c118, c120, c122, c124, e01, e11, e21, e31, e41, e51, e61, e02, e12, e22, e32, e42, e52, e62, e72, clN (show π < 2 ^ 31 by omega), clN (show θ < 2 ^ 31 by omega), clN (show ν < 2 ^ 31 by omega), clN (show ι < 2 ^ 31 by omega), clN (show ξ < 2 ^ 31 by omega), inR_nI (show π < 2 ^ 31 by omega), inR_nI (show θ < 2 ^ 31 by omega), inR_nI (show ν < 2 ^ 31 by omega), inR_nI (show ι < 2 ^ 31 by omega), inR_nI (show ξ < 2 ^ 31 by omega), hq2, show π < 8 by omega, show θ < 8 by omega]
                                        have eG : copG g (nI π) (nI θ) (nI ι) (nI ξ) (nI ν) = g := by (have hq : ¬ (ι + ν ≤ ν1 ∧ ξ + ν ≤ ν2) := by omega); (have hq2 := cp_row e31 e32 (i := ι) (j := ξ) (n := ν) (by omega) (by omega) (by omega) (by omega) (by omega)); rw [decide_eq_false hq] at hq2; simp [copA, copG, copF, c1, c3, c111, c113, c115, c118, c120, c122, c124, e01, e11, e21, e31, e41, e51, e61, e02, e12, e22, e32, e42, e52, e62, e72, clN (show π < 2 ^ 31 by omega), clN (show θ < 2 ^ 31 by omega), clN (show ν < 2 ^ 31 by omega), clN (show ι < 2 ^ 31 by omega), clN (show ξ < 2 ^ 31 by omega), inR_nI (show π < 2 ^ 31 by omega), inR_nI (show θ < 2 ^ 31 by omega), inR_nI (show ν < 2 ^ 31 by omega), inR_nI (show ι < 2 ^ 31 by omega), inR_nI (show ξ < 2 ^ 31 by omega), hq2, show π < 8 by omega, show θ < 8 by omega]
                                        exact F.1 _ _ _ _ _ rfl rfl (dx dX7_copy 104 rfl) kh125 (show some (vi (-2)) = some (vi (copA g (nI π) (nI θ) (nI ι) (nI ξ) (nI ν))) ∧ (∃ v', MilAt h125 k v') ∧ MshAt h125 k (copG g (nI π) (nI θ) (nI ι) (nI ξ) (nI ν)) ∧ Ks k h h125 from by rw [eA, eG]; exact ⟨rfl, ⟨_, mh125⟩, hs.kp ph125, ph125.ks⟩))
                                  · first
                                    | (omega; done)
                                    | (
                                        have c124 : ν ≤ ν1 := c124
                                        refine r_iload C (dx dX7_copy 79 rfl) rfl ?_
                                        refine r_aload_n C (dx dX7_copy 80 rfl) rfl ?_
                                        refine g_X7_16 C (dx dX7_copy 81 rfl) ?_
                                        refine r_iload_n C (dx dX7_copy 82 rfl) rfl ?_
                                        refine r_iald (j := θ) (x := xI h (k + 3) θ) C rfl rfl (by decide) rfl (by omega) (dx dX7_copy 83 rfl) rfl ?_
                                        refine r_icmp_gt (tgt := 181) C (dx dX7_copy 84 rfl) (by decide) (fun c126 => ?_) (fun c126 => ?_)
                                        ·
                                          have c126 : xI h (k + 3) θ < nI ν := c126
                                          refine r_aload_n C (dx dX7_copy 101 rfl) rfl ?_
                                          refine r_bipush (v := -2) C (dx dX7_copy 102 rfl) rfl ?_
                                          refine r_cv (as := [vi (-2)]) (st := []) C X I_X7_refuse l_X7_83 (c_X7_refuse hm (x := -2) (j := 2) (by decide) (by decide)) (by decide) (Nat.le_of_ble_eq_true rfl) List.prefix_rfl List.prefix_rfl rfl rfl (Nat.le_of_ble_eq_true rfl) rfl (dx dX7_copy 103 rfl) ?_
                                          rintro _ h127 ⟨rfl, ⟨wh127, m9h127, s9h127⟩, qh127⟩ kkh127
                                          obtain ⟨vh127, mh127, zh127⟩ : ∃ v9, MilAt h127 k v9 ∧ Sz v v9 := ⟨_, m9h127, s9h127⟩
                                          have ph127 : Kp k h h127 := qh127
                                          have kh127 : xK h127 = xK h := kkh127
                                          obtain ⟨ah127, bh127, ch127⟩ := zh127
                                          have eA : copA g (nI π) (nI θ) (nI ι) (nI ξ) (nI ν) = -2 := by (have hq : ¬ (ι + ν ≤ ν1 ∧ ξ + ν ≤ ν2) := by omega); (have hq2 := cp_row e31 e32 (i := ι) (j := ξ) (n := ν) (by omega) (by omega) (by omega) (by omega) (by omega)); rw [decide_eq_false hq] at hq2; simp [copA, copG, copF, c1, c3, c111, c113, c115, c118, c120, c122, c124, c126, e01, e11, e21, e31, e41, e51, e61, e02, e12, e22, e32, e42, e52, e62, e72, clN (show π < 2 ^ 31 by omega), clN (show θ < 2 ^ 31 by omega), clN (show ν < 2 ^ 31 by omega), clN (show ι < 2 ^ 31 by omega), clN (show ξ < 2 ^ 31 by omega), inR_nI (show π < 2 ^ 31 by omega), inR_nI (show θ < 2 ^ 31 by omega), inR_nI (show ν < 2 ^ 31 by omega), inR_nI (show ι < 2 ^ 31 by omega), inR_nI (show ξ < 2 ^ 31 by omega), hq2, show π < 8 by omega, show θ < 8 by omega]
                                          have eG : copG g (nI π) (nI θ) (nI ι) (nI ξ) (nI ν) = g := by (have hq : ¬ (ι + ν ≤ ν1 ∧ ξ + ν ≤ ν2) := by omega); (have hq2 := cp_row e31 e32 (i := ι) (j := ξ) (n := ν) (by omega) (by omega) (by omega) (by omega) (by omega)); rw [decide_eq_false hq] at hq2; simp [copA, copG, copF, c1, c3, c111, c113, c115, c118, c120, c122, c124, c126, e01, e11, e21, e31, e41, e51, e61, e02, e12, e22, e32, e42, e52, e62, e72, clN (show π < 2 ^ 31 by omega), clN (show θ < 2 ^ 31 by omega), clN (show ν < 2 ^ 31 by omega), clN (show ι < 2 ^ 31 by omega), clN (show ξ < 2 ^ 31 by omega), inR_nI (show π < 2 ^ 31 by omega), inR_nI (show θ < 2 ^ 31 by omega), inR_nI (show ν < 2 ^ 31 by omega), inR_nI (show ι < 2 ^ 31 by omega), inR_nI (show ξ < 2 ^ 31 by omega), hq2, show π < 8 by omega, show θ < 8 by omega]
                                          exact F.1 _ _ _ _ _ rfl rfl (dx dX7_copy 104 rfl) kh127 (show some (vi (-2)) = some (vi (copA g (nI π) (nI θ) (nI ι) (nI ξ) (nI ν))) ∧ (∃ v', MilAt h127 k v') ∧ MshAt h127 k (copG g (nI π) (nI θ) (nI ι) (nI ξ) (nI ν)) ∧ Ks k h h127 from by rw [eA, eG]; exact ⟨rfl, ⟨_, mh127⟩, hs.kp ph127, ph127.ks⟩)
                                        ·
                                          have c126 : ¬ xI h (k + 3) θ < nI ν := c126
                                          refine r_iload_n C (dx dX7_copy 85 rfl) rfl ?_
                                          refine r_aload_n C (dx dX7_copy 86 rfl) rfl ?_
                                          refine g_X7_16 C (dx dX7_copy 87 rfl) ?_
                                          refine r_iload_n C (dx dX7_copy 88 rfl) rfl ?_
                                          refine r_iald (j := π) (x := nI ν1) C rfl rfl (by decide) rfl (by omega) (dx dX7_copy 89 rfl) a51 ?_
                                          refine r_iload C (dx dX7_copy 90 rfl) rfl ?_
                                          refine rn_isub (a := ν1) (b := ν) C (by omega) (dx dX7_copy 91 rfl) ?_
                                          refine rn_gt (a := ι) (b := ν1 - ν) (tgt := 181) C (by omega) (by omega) (dx dX7_copy 92 rfl) (by decide) (fun c128 => ?_) (fun c128 => ?_)
                                          · first
                                            | (omega; done)
                                            | (
                                                have c128 : ν1 - ν < ι := c128
                                                refine r_aload_n C (dx dX7_copy 101 rfl) rfl ?_
                                                refine r_bipush (v := -2) C (dx dX7_copy 102 rfl) rfl ?_
                                                refine r_cv (as := [vi (-2)]) (st := []) C X I_X7_refuse l_X7_83 (c_X7_refuse hm (x := -2) (j := 2) (by decide) (by decide)) (by decide) (Nat.le_of_ble_eq_true rfl) List.prefix_rfl List.prefix_rfl rfl rfl (Nat.le_of_ble_eq_true rfl) rfl (dx dX7_copy 103 rfl) ?_
                                                rintro _ h129 ⟨rfl, ⟨wh129, m9h129, s9h129⟩, qh129⟩ kkh129
                                                obtain ⟨vh129, mh129, zh129⟩ : ∃ v9, MilAt h129 k v9 ∧ Sz v v9 := ⟨_, m9h129, s9h129⟩
                                                have ph129 : Kp k h h129 := qh129
                                                have kh129 : xK h129 = xK h := kkh129
                                                obtain ⟨ah129, bh129, ch129⟩ := zh129
                                                have eA : copA g (nI π) (nI θ) (nI ι) (nI ξ) (nI ν) = -2 := by (have hq : ¬ (ι + ν ≤ ν1 ∧ ξ + ν ≤ ν2) := by omega); (have hq2 := cp_row e31 e32 (i := ι) (j := ξ) (n := ν) (by omega) (by omega) (by omega) (by omega) (by omega)); rw [decide_eq_false hq] at hq2; simp [copA, copG, copF, c1, c3, c111, c113, c115, c118, c120, c122, c124, c126, c128, e01, e11, e21, e31, e41, e51, e61, e02, e12, e22, e32, e42, e52, e62, e72, clN (show π < 2 ^ 31 by omega), clN (show θ < 2 ^ 31 by omega), clN (show ν < 2 ^ 31 by omega), clN (show ι < 2 ^ 31 by omega), clN (show ξ < 2 ^ 31 by omega), inR_nI (show π < 2 ^ 31 by omega), inR_nI (show θ < 2 ^ 31 by omega), inR_nI (show ν < 2 ^ 31 by omega), inR_nI (show ι < 2 ^ 31 by omega), inR_nI (show ξ < 2 ^ 31 by omega), hq2, show π < 8 by omega, show θ < 8 by omega]
                                                have eG : copG g (nI π) (nI θ) (nI ι) (nI ξ) (nI ν) = g := by (have hq : ¬ (ι + ν ≤ ν1 ∧ ξ + ν ≤ ν2) := by omega); (have hq2 := cp_row e31 e32 (i := ι) (j := ξ) (n := ν) (by omega) (by omega) (by omega) (by omega) (by omega)); rw [decide_eq_false hq] at hq2; simp [copA, copG, copF, c1, c3, c111, c113, c115, c118, c120, c122, c124, c126, c128, e01, e11, e21, e31, e41, e51, e61, e02, e12, e22, e32, e42, e52, e62, e72, clN (show π < 2 ^ 31 by omega), clN (show θ < 2 ^ 31 by omega), clN (show ν < 2 ^ 31 by omega), clN (show ι < 2 ^ 31 by omega), clN (show ξ < 2 ^ 31 by omega), inR_nI (show π < 2 ^ 31 by omega), inR_nI (show θ < 2 ^ 31 by omega), inR_nI (show ν < 2 ^ 31 by omega), inR_nI (show ι < 2 ^ 31 by omega), inR_nI (show ξ < 2 ^ 31 by omega), hq2, show π < 8 by omega, show θ < 8 by omega]
                                                exact F.1 _ _ _ _ _ rfl rfl (dx dX7_copy 104 rfl) kh129 (show some (vi (-2)) = some (vi (copA g (nI π) (nI θ) (nI ι) (nI ξ) (nI ν))) ∧ (∃ v', MilAt h129 k v') ∧ MshAt h129 k (copG g (nI π) (nI θ) (nI ι) (nI ξ) (nI ν)) ∧ Ks k h h129 from by rw [eA, eG]; exact ⟨rfl, ⟨_, mh129⟩, hs.kp ph129, ph129.ks⟩))
                                          · first
                                            | (omega; done)
                                            | (
                                                have c128 : ι ≤ ν1 - ν := c128
                                                refine r_iload C (dx dX7_copy 93 rfl) rfl ?_
                                                refine r_aload_n C (dx dX7_copy 94 rfl) rfl ?_
                                                refine g_X7_16 C (dx dX7_copy 95 rfl) ?_
                                                refine r_iload_n C (dx dX7_copy 96 rfl) rfl ?_
                                                refine r_iald (j := θ) (x := xI h (k + 3) θ) C rfl rfl (by decide) rfl (by omega) (dx dX7_copy 97 rfl) rfl ?_
                                                refine r_iload C (dx dX7_copy 98 rfl) rfl ?_
                                                refine r_isub C (dx dX7_copy 99 rfl) ?_
                                                refine r_icmp_le (tgt := 188) C (dx dX7_copy 100 rfl) (by decide) (fun c130 => ?_) (fun c130 => ?_)
                                                ·
                                                  have c130 : nI ξ ≤ (xI h (k + 3) θ) - (nI ν) := c130
                                                  refine r_iconst (v := nI 0) C (dx dX7_copy 105 rfl) rfl ?_
                                                  refine r_istore (ls' := [(0, vr 7 k), (1, vi (nI π)), (2, vi (nI θ)), (3, vi (nI ι)), (4, vi (nI ξ)), (5, vi (nI ν)), (6, vi (nI 0))]) C (dx dX7_copy 106 rfl) (by decide) [1, 2, 3, 4, 5, 6, 0] rfl ?_
                                                  refine loopU (Φ := fun p => ∀ h9, (∀ t, t < p → xL h9 (k + 13) t = gE g π (ι + t)) → Fr (k + 13) (k + 14) h h9 → xK h9 = xK h → Rr G 191 [(0, vr 7 k), (1, vi (nI π)), (2, vi (nI θ)), (3, vi (nI ι)), (4, vi (nI ξ)), (5, vi (nI ν)), (6, vi (nI p))] [] h9) (N := ν) ?_ ?_ 0 (by omega) _ (fun i hi => absurd hi (by omega)) Fr.rf rfl
                                                  ·
                                                    intro h9 q9 f9 k9
                                                    refine r_iload C (dx dX7_copy 107 rfl) rfl ?_
                                                    refine r_iload C (dx dX7_copy 108 rfl) rfl ?_
                                                    refine rn_ge (a := ν) (b := ν) (tgt := 222) C (by omega) (by omega) (dx dX7_copy 109 rfl) (by decide) (fun c131 => ?_) (fun c131 => ?_)
                                                    · first
                                                      | (omega; done)
                                                      | (
                                                          have c131 : ν ≤ ν := c131
                                                          refine r_iconst (v := nI 0) C (dx dX7_copy 124 rfl) rfl ?_
                                                          refine r_istore (ls' := [(0, vr 7 k), (1, vi (nI π)), (2, vi (nI θ)), (3, vi (nI ι)), (4, vi (nI ξ)), (5, vi (nI ν)), (6, vi (nI 0))]) C (dx dX7_copy 125 rfl) (by decide) [1, 2, 3, 4, 5, 6, 0] rfl ?_
                                                          have r9 := MsR.fr (show MsR h k g θ from ⟨_, _, a12, a22, a32, a42, a52, a62, a72, a82⟩) hθ f9
                                                          refine loopU (Φ := fun p => ∀ h8, (∀ i, i < 40 → xL h8 (k + 5 + θ) i = if ξ ≤ i ∧ i < ξ + p then gE g π (ι + (i - ξ)) else gE g θ i) → (∀ t, t < ν → xL h8 (k + 13) t = gE g π (ι + t)) → Fr (k + 5 + θ) (k + 5 + θ + 1) h9 h8 → xK h8 = xK h → Rr G 225 [(0, vr 7 k), (1, vi (nI π)), (2, vi (nI θ)), (3, vi (nI ι)), (4, vi (nI ξ)), (5, vi (nI ν)), (6, vi (nI p))] [] h8) (N := ν) ?_ ?_ 0 (by omega) _ (fun i hi => by rw [if_neg (by omega), f9.L (by omega)]; exact a82 i hi) q9 Fr.rf k9
                                                          ·
                                                            intro h8 q8 u8 f8 k8
                                                            have s9 : MshAt h8 k (pCp g π θ ι ξ ν) := msh_els (hs.mv f9) hθ r9 f8 (fun i hi => by rw [q8 i hi]; rfl)
                                                            have g9 : Fr (k + 1) (k + 17) h h8 := (f9.mono (by omega) (by omega)).tr (f8.mono (by omega) (by omega))
                                                            refine r_iload C (dx dX7_copy 126 rfl) rfl ?_
                                                            refine r_iload C (dx dX7_copy 127 rfl) rfl ?_
                                                            refine rn_ge (a := ν) (b := ν) (tgt := 257) C (by omega) (by omega) (dx dX7_copy 128 rfl) (by decide) (fun c132 => ?_) (fun c132 => ?_)
                                                            · first
                                                              | (omega; done)
                                                              | (
                                                                  have c132 : ν ≤ ν := c132
                                                                  refine r_iload C (dx dX7_copy 143 rfl) rfl ?_
                                                                  have eA : copA g (nI π) (nI θ) (nI ι) (nI ξ) (nI ν) = nI ν := by simp [copA, copG, copF, c1, c3, c111, c113, c115, c118, c120, c122, c124, c126, c128, c130, c131, c132, e01, e11, e21, e31, e41, e51, e61, e02, e12, e22, e32, e42, e52, e62, e72, clN (show π < 2 ^ 31 by omega), clN (show θ < 2 ^ 31 by omega), clN (show ν < 2 ^ 31 by omega), clN (show ι < 2 ^ 31 by omega), clN (show ξ < 2 ^ 31 by omega), inR_nI (show π < 2 ^ 31 by omega), inR_nI (show θ < 2 ^ 31 by omega), inR_nI (show ν < 2 ^ 31 by omega), inR_nI (show ι < 2 ^ 31 by omega), inR_nI (show ξ < 2 ^ 31 by omega), show π < 8 by omega, show θ < 8 by omega, cp_row e31 e32 (by omega) (by omega) (show ι < 2 ^ 31 by omega) (show ξ < 2 ^ 31 by omega) (show ν < 2 ^ 31 by omega), show ι + ν ≤ ν1 by omega, show ξ + ν ≤ ν2 by omega]
                                                                  have eG : copG g (nI π) (nI θ) (nI ι) (nI ξ) (nI ν) = pCp g π θ ι ξ ν := by simp [copA, copG, copF, c1, c3, c111, c113, c115, c118, c120, c122, c124, c126, c128, c130, c131, c132, e01, e11, e21, e31, e41, e51, e61, e02, e12, e22, e32, e42, e52, e62, e72, clN (show π < 2 ^ 31 by omega), clN (show θ < 2 ^ 31 by omega), clN (show ν < 2 ^ 31 by omega), clN (show ι < 2 ^ 31 by omega), clN (show ξ < 2 ^ 31 by omega), inR_nI (show π < 2 ^ 31 by omega), inR_nI (show θ < 2 ^ 31 by omega), inR_nI (show ν < 2 ^ 31 by omega), inR_nI (show ι < 2 ^ 31 by omega), inR_nI (show ξ < 2 ^ 31 by omega), show π < 8 by omega, show θ < 8 by omega, cp_row e31 e32 (by omega) (by omega) (show ι < 2 ^ 31 by omega) (show ξ < 2 ^ 31 by omega) (show ν < 2 ^ 31 by omega), show ι + ν ≤ ν1 by omega, show ξ + ν ≤ ν2 by omega]
                                                                  exact F.1 _ _ _ _ _ rfl rfl (dx dX7_copy 144 rfl) k8 (show some (vi (nI ν)) = some (vi (copA g (nI π) (nI θ) (nI ι) (nI ξ) (nI ν))) ∧ (∃ v', MilAt h8 k v') ∧ MshAt h8 k (copG g (nI π) (nI θ) (nI ι) (nI ξ) (nI ν)) ∧ Ks k h h8 from by rw [eA, eG]; exact ⟨rfl, ⟨_, hm.fr g9 (by omega)⟩, s9, (Ks.fr g9 (by omega) (by omega))⟩))
                                                            · first
                                                              | (omega; done)
                                                          ·
                                                            intro p hp ih h8 q8 u8 f8 k8
                                                            refine r_iload C (dx dX7_copy 126 rfl) rfl ?_
                                                            refine r_iload C (dx dX7_copy 127 rfl) rfl ?_
                                                            refine rn_ge (a := p) (b := ν) (tgt := 257) C (by omega) (by omega) (dx dX7_copy 128 rfl) (by decide) (fun c133 => ?_) (fun c133 => ?_)
                                                            · first
                                                              | (omega; done)
                                                              | (
                                                                  have c133 : ν ≤ p := c133
                                                                  refine r_iload C (dx dX7_copy 143 rfl) rfl ?_
                                                                  have eA : copA g (nI π) (nI θ) (nI ι) (nI ξ) (nI ν) = nI ν := by simp [copA, copG, copF, c1, c3, c111, c113, c115, c118, c120, c122, c124, c126, c128, c130, c131, c133, e01, e11, e21, e31, e41, e51, e61, e02, e12, e22, e32, e42, e52, e62, e72, clN (show π < 2 ^ 31 by omega), clN (show θ < 2 ^ 31 by omega), clN (show ν < 2 ^ 31 by omega), clN (show ι < 2 ^ 31 by omega), clN (show ξ < 2 ^ 31 by omega), inR_nI (show π < 2 ^ 31 by omega), inR_nI (show θ < 2 ^ 31 by omega), inR_nI (show ν < 2 ^ 31 by omega), inR_nI (show ι < 2 ^ 31 by omega), inR_nI (show ξ < 2 ^ 31 by omega), show π < 8 by omega, show θ < 8 by omega, cp_row e31 e32 (by omega) (by omega) (show ι < 2 ^ 31 by omega) (show ξ < 2 ^ 31 by omega) (show ν < 2 ^ 31 by omega), show ι + ν ≤ ν1 by omega, show ξ + ν ≤ ν2 by omega]
                                                                  have eG : copG g (nI π) (nI θ) (nI ι) (nI ξ) (nI ν) = g := by simp [copA, copG, copF, c1, c3, c111, c113, c115, c118, c120, c122, c124, c126, c128, c130, c131, c133, e01, e11, e21, e31, e41, e51, e61, e02, e12, e22, e32, e42, e52, e62, e72, clN (show π < 2 ^ 31 by omega), clN (show θ < 2 ^ 31 by omega), clN (show ν < 2 ^ 31 by omega), clN (show ι < 2 ^ 31 by omega), clN (show ξ < 2 ^ 31 by omega), inR_nI (show π < 2 ^ 31 by omega), inR_nI (show θ < 2 ^ 31 by omega), inR_nI (show ν < 2 ^ 31 by omega), inR_nI (show ι < 2 ^ 31 by omega), inR_nI (show ξ < 2 ^ 31 by omega), show π < 8 by omega, show θ < 8 by omega, cp_row e31 e32 (by omega) (by omega) (show ι < 2 ^ 31 by omega) (show ξ < 2 ^ 31 by omega) (show ν < 2 ^ 31 by omega), show ι + ν ≤ ν1 by omega, show ξ + ν ≤ ν2 by omega]
                                                                  exact F.1 _ _ _ _ _ rfl rfl (dx dX7_copy 144 rfl) k8 (show some (vi (nI ν)) = some (vi (copA g (nI π) (nI θ) (nI ι) (nI ξ) (nI ν))) ∧ (∃ v', MilAt h8 k v') ∧ MshAt h8 k (copG g (nI π) (nI θ) (nI ι) (nI ξ) (nI ν)) ∧ Ks k h h8 from by rw [eA, eG]; exact ⟨rfl, ⟨_, hm⟩, hs, Ks.rf⟩))
                                                            · first
                                                              | (omega; done)
                                                              | (
                                                                  have c133 : p < ν := c133
                                                                  refine r_aload_n C (dx dX7_copy 129 rfl) rfl ?_
                                                                  refine g_X7_21 C (dx dX7_copy 130 rfl) ?_
                                                                  refine r_iload_n C (dx dX7_copy 131 rfl) rfl ?_
                                                                  refine r_aald5 (j := θ) C rfl rfl (by decide) rfl (by omega) (dx dX7_copy 132 rfl) ?_
                                                                  refine r_iload C (dx dX7_copy 133 rfl) rfl ?_
                                                                  refine r_iload C (dx dX7_copy 134 rfl) rfl ?_
                                                                  refine rn_iadd (a := ξ) (b := p) C (dx dX7_copy 135 rfl) ?_
                                                                  refine r_aload_n C (dx dX7_copy 136 rfl) rfl ?_
                                                                  refine g_X7_24 C (dx dX7_copy 137 rfl) ?_
                                                                  refine r_iload C (dx dX7_copy 138 rfl) rfl ?_
                                                                  refine r_lald (j := p) (x := gE g π (ι + p)) C rfl rfl (by decide) rfl (by omega) (dx dX7_copy 139 rfl) (u8 _ (by omega)) ?_
                                                                  refine r_last (j := ξ + p) C rfl rfl (by decide) rfl (by omega) (dx dX7_copy 140 rfl) ?_
                                                                  refine rn_iinc (a := p) (k := 1) (ls' := [(0, vr 7 k), (1, vi (nI π)), (2, vi (nI θ)), (3, vi (nI ι)), (4, vi (nI ξ)), (5, vi (nI ν)), (6, vi (nI (p + 1)))]) C (dx dX7_copy 141 rfl) rfl rfl (by decide) [1, 2, 3, 4, 5, 6, 0] rfl ?_
                                                                  refine r_goto (tgt := 225) C (dx dX7_copy 142 rfl) (by decide) ?_
                                                                  exact ih _ (fun i hi => by rw [sL_at]; exact cp2_step q8 i hi) (fun t ht => by rw [sL_ne (by omega)]; exact u8 t ht) (f8.tr (Fr.sL (by omega) (by omega))) k8))
                                                    · first
                                                      | (omega; done)
                                                  ·
                                                    intro p hp ih h9 q9 f9 k9
                                                    refine r_iload C (dx dX7_copy 107 rfl) rfl ?_
                                                    refine r_iload C (dx dX7_copy 108 rfl) rfl ?_
                                                    refine rn_ge (a := p) (b := ν) (tgt := 222) C (by omega) (by omega) (dx dX7_copy 109 rfl) (by decide) (fun c134 => ?_) (fun c134 => ?_)
                                                    · first
                                                      | (omega; done)
                                                      | (
                                                          have c134 : ν ≤ p := c134
                                                          refine r_iconst (v := nI 0) C (dx dX7_copy 124 rfl) rfl ?_
                                                          refine r_istore (ls' := [(0, vr 7 k), (1, vi (nI π)), (2, vi (nI θ)), (3, vi (nI ι)), (4, vi (nI ξ)), (5, vi (nI ν)), (6, vi (nI 0))]) C (dx dX7_copy 125 rfl) (by decide) [1, 2, 3, 4, 5, 6, 0] rfl ?_
                                                          have r9 := MsR.fr (show MsR h k g θ from ⟨_, _, a12, a22, a32, a42, a52, a62, a72, a82⟩) hθ f9
                                                          refine loopU (Φ := fun p => ∀ h8, (∀ i, i < 40 → xL h8 (k + 5 + θ) i = if ξ ≤ i ∧ i < ξ + p then gE g π (ι + (i - ξ)) else gE g θ i) → (∀ t, t < ν → xL h8 (k + 13) t = gE g π (ι + t)) → Fr (k + 5 + θ) (k + 5 + θ + 1) h9 h8 → xK h8 = xK h → Rr G 225 [(0, vr 7 k), (1, vi (nI π)), (2, vi (nI θ)), (3, vi (nI ι)), (4, vi (nI ξ)), (5, vi (nI ν)), (6, vi (nI p))] [] h8) (N := ν) ?_ ?_ 0 (by omega) _ (fun i hi => by rw [if_neg (by omega), f9.L (by omega)]; exact a82 i hi) q9 Fr.rf k9
                                                          ·
                                                            intro h8 q8 u8 f8 k8
                                                            have s9 : MshAt h8 k (pCp g π θ ι ξ ν) := msh_els (hs.mv f9) hθ r9 f8 (fun i hi => by rw [q8 i hi]; rfl)
                                                            have g9 : Fr (k + 1) (k + 17) h h8 := (f9.mono (by omega) (by omega)).tr (f8.mono (by omega) (by omega))
                                                            refine r_iload C (dx dX7_copy 126 rfl) rfl ?_
                                                            refine r_iload C (dx dX7_copy 127 rfl) rfl ?_
                                                            refine rn_ge (a := ν) (b := ν) (tgt := 257) C (by omega) (by omega) (dx dX7_copy 128 rfl) (by decide) (fun c135 => ?_) (fun c135 => ?_)
                                                            · first
                                                              | (omega; done)
                                                              | (
                                                                  have c135 : ν ≤ ν := c135
                                                                  refine r_iload C (dx dX7_copy 143 rfl) rfl ?_
                                                                  have eA : copA g (nI π) (nI θ) (nI ι) (nI ξ) (nI ν) = nI ν := by simp [copA, copG, copF, c1, c3, c111, c113, c115, c118, c120, c122, c124, c126, c128, c130, c134, c135, e01, e11, e21, e31, e41, e51, e61, e02, e12, e22, e32, e42, e52, e62, e72, clN (show π < 2 ^ 31 by omega), clN (show θ < 2 ^ 31 by omega), clN (show ν < 2 ^ 31 by omega), clN (show ι < 2 ^ 31 by omega), clN (show ξ < 2 ^ 31 by omega), inR_nI (show π < 2 ^ 31 by omega), inR_nI (show θ < 2 ^ 31 by omega), inR_nI (show ν < 2 ^ 31 by omega), inR_nI (show ι < 2 ^ 31 by omega), inR_nI (show ξ < 2 ^ 31 by omega), show π < 8 by omega, show θ < 8 by omega, cp_row e31 e32 (by omega) (by omega) (show ι < 2 ^ 31 by omega) (show ξ < 2 ^ 31 by omega) (show ν < 2 ^ 31 by omega), show ι + ν ≤ ν1 by omega, show ξ + ν ≤ ν2 by omega]
                                                                  have eG : copG g (nI π) (nI θ) (nI ι) (nI ξ) (nI ν) = pCp g π θ ι ξ ν := by simp [copA, copG, copF, c1, c3, c111, c113, c115, c118, c120, c122, c124, c126, c128, c130, c134, c135, e01, e11, e21, e31, e41, e51, e61, e02, e12, e22, e32, e42, e52, e62, e72, clN (show π < 2 ^ 31 by omega), clN (show θ < 2 ^ 31 by omega), clN (show ν < 2 ^ 31 by omega), clN (show ι < 2 ^ 31 by omega), clN (show ξ < 2 ^ 31 by omega), inR_nI (show π < 2 ^ 31 by omega), inR_nI (show θ < 2 ^ 31 by omega), inR_nI (show ν < 2 ^ 31 by omega), inR_nI (show ι < 2 ^ 31 by omega), inR_nI (show ξ < 2 ^ 31 by omega), show π < 8 by omega, show θ < 8 by omega, cp_row e31 e32 (by omega) (by omega) (show ι < 2 ^ 31 by omega) (show ξ < 2 ^ 31 by omega) (show ν < 2 ^ 31 by omega), show ι + ν ≤ ν1 by omega, show ξ + ν ≤ ν2 by omega]
                                                                  exact F.1 _ _ _ _ _ rfl rfl (dx dX7_copy 144 rfl) k8 (show some (vi (nI ν)) = some (vi (copA g (nI π) (nI θ) (nI ι) (nI ξ) (nI ν))) ∧ (∃ v', MilAt h8 k v') ∧ MshAt h8 k (copG g (nI π) (nI θ) (nI ι) (nI ξ) (nI ν)) ∧ Ks k h h8 from by rw [eA, eG]; exact ⟨rfl, ⟨_, hm.fr g9 (by omega)⟩, s9, (Ks.fr g9 (by omega) (by omega))⟩))
                                                            · first
                                                              | (omega; done)
                                                          ·
                                                            intro p hp ih h8 q8 u8 f8 k8
                                                            refine r_iload C (dx dX7_copy 126 rfl) rfl ?_
                                                            refine r_iload C (dx dX7_copy 127 rfl) rfl ?_
                                                            refine rn_ge (a := p) (b := ν) (tgt := 257) C (by omega) (by omega) (dx dX7_copy 128 rfl) (by decide) (fun c136 => ?_) (fun c136 => ?_)
                                                            · first
                                                              | (omega; done)
                                                              | (
                                                                  have c136 : ν ≤ p := c136
                                                                  refine r_iload C (dx dX7_copy 143 rfl) rfl ?_
                                                                  have eA : copA g (nI π) (nI θ) (nI ι) (nI ξ) (nI ν) = nI ν := by simp [copA, copG, copF, c1, c3, c111, c113, c115, c118, c120, c122, c124, c126, c128, c130, c134, c136, e01, e11, e21, e31, e41, e51, e61, e02, e12, e22, e32, e42, e52, e62, e72, clN (show π < 2 ^ 31 by omega), clN (show θ < 2 ^ 31 by omega), clN (show ν < 2 ^ 31 by omega), clN (show ι < 2 ^ 31 by omega), clN (show ξ < 2 ^ 31 by omega), inR_nI (show π < 2 ^ 31 by omega), inR_nI (show θ < 2 ^ 31 by omega), inR_nI (show ν < 2 ^ 31 by omega), inR_nI (show ι < 2 ^ 31 by omega), inR_nI (show ξ < 2 ^ 31 by omega), show π < 8 by omega, show θ < 8 by omega, cp_row e31 e32 (by omega) (by omega) (show ι < 2 ^ 31 by omega) (show ξ < 2 ^ 31 by omega) (show ν < 2 ^ 31 by omega), show ι + ν ≤ ν1 by omega, show ξ + ν ≤ ν2 by omega]
                                                                  have eG : copG g (nI π) (nI θ) (nI ι) (nI ξ) (nI ν) = g := by simp [copA, copG, copF, c1, c3, c111, c113, c115, c118, c120, c122, c124, c126, c128, c130, c134, c136, e01, e11, e21, e31, e41, e51, e61, e02, e12, e22, e32, e42, e52, e62, e72, clN (show π < 2 ^ 31 by omega), clN (show θ < 2 ^ 31 by omega), clN (show ν < 2 ^ 31 by omega), clN (show ι < 2 ^ 31 by omega), clN (show ξ < 2 ^ 31 by omega), inR_nI (show π < 2 ^ 31 by omega), inR_nI (show θ < 2 ^ 31 by omega), inR_nI (show ν < 2 ^ 31 by omega), inR_nI (show ι < 2 ^ 31 by omega), inR_nI (show ξ < 2 ^ 31 by omega), show π < 8 by omega, show θ < 8 by omega, cp_row e31 e32 (by omega) (by omega) (show ι < 2 ^ 31 by omega) (show ξ < 2 ^ 31 by omega) (show ν < 2 ^ 31 by omega), show ι + ν ≤ ν1 by omega, show ξ + ν ≤ ν2 by omega]
                                                                  exact F.1 _ _ _ _ _ rfl rfl (dx dX7_copy 144 rfl) k8 (show some (vi (nI ν)) = some (vi (copA g (nI π) (nI θ) (nI ι) (nI ξ) (nI ν))) ∧ (∃ v', MilAt h8 k v') ∧ MshAt h8 k (copG g (nI π) (nI θ) (nI ι) (nI ξ) (nI ν)) ∧ Ks k h h8 from by rw [eA, eG]; exact ⟨rfl, ⟨_, hm⟩, hs, Ks.rf⟩))
                                                            · first
                                                              | (omega; done)
                                                              | (
                                                                  have c136 : p < ν := c136
                                                                  refine r_aload_n C (dx dX7_copy 129 rfl) rfl ?_
                                                                  refine g_X7_21 C (dx dX7_copy 130 rfl) ?_
                                                                  refine r_iload_n C (dx dX7_copy 131 rfl) rfl ?_
                                                                  refine r_aald5 (j := θ) C rfl rfl (by decide) rfl (by omega) (dx dX7_copy 132 rfl) ?_
                                                                  refine r_iload C (dx dX7_copy 133 rfl) rfl ?_
                                                                  refine r_iload C (dx dX7_copy 134 rfl) rfl ?_
                                                                  refine rn_iadd (a := ξ) (b := p) C (dx dX7_copy 135 rfl) ?_
                                                                  refine r_aload_n C (dx dX7_copy 136 rfl) rfl ?_
                                                                  refine g_X7_24 C (dx dX7_copy 137 rfl) ?_
                                                                  refine r_iload C (dx dX7_copy 138 rfl) rfl ?_
                                                                  refine r_lald (j := p) (x := gE g π (ι + p)) C rfl rfl (by decide) rfl (by omega) (dx dX7_copy 139 rfl) (u8 _ (by omega)) ?_
                                                                  refine r_last (j := ξ + p) C rfl rfl (by decide) rfl (by omega) (dx dX7_copy 140 rfl) ?_
                                                                  refine rn_iinc (a := p) (k := 1) (ls' := [(0, vr 7 k), (1, vi (nI π)), (2, vi (nI θ)), (3, vi (nI ι)), (4, vi (nI ξ)), (5, vi (nI ν)), (6, vi (nI (p + 1)))]) C (dx dX7_copy 141 rfl) rfl rfl (by decide) [1, 2, 3, 4, 5, 6, 0] rfl ?_
                                                                  refine r_goto (tgt := 225) C (dx dX7_copy 142 rfl) (by decide) ?_
                                                                  exact ih _ (fun i hi => by rw [sL_at]; exact cp2_step q8 i hi) (fun t ht => by rw [sL_ne (by omega)]; exact u8 t ht) (f8.tr (Fr.sL (by omega) (by omega))) k8))
                                                    · first
                                                      | (omega; done)
                                                      | (
                                                          have c134 : p < ν := c134
                                                          refine r_aload_n C (dx dX7_copy 110 rfl) rfl ?_
                                                          refine g_X7_24 C (dx dX7_copy 111 rfl) ?_
                                                          refine r_iload C (dx dX7_copy 112 rfl) rfl ?_
                                                          refine r_aload_n C (dx dX7_copy 113 rfl) rfl ?_
                                                          refine g_X7_21 C (dx dX7_copy 114 rfl) ?_
                                                          refine r_iload_n C (dx dX7_copy 115 rfl) rfl ?_
                                                          refine r_aald5 (j := π) C rfl rfl (by decide) rfl (by omega) (dx dX7_copy 116 rfl) ?_
                                                          refine r_iload_n C (dx dX7_copy 117 rfl) rfl ?_
                                                          refine r_iload C (dx dX7_copy 118 rfl) rfl ?_
                                                          refine rn_iadd (a := ι) (b := p) C (dx dX7_copy 119 rfl) ?_
                                                          refine r_lald (j := ι + p) (x := gE g π (ι + p)) C rfl rfl (by decide) rfl (by omega) (dx dX7_copy 120 rfl) ((f9.L (by omega) _).trans (a81 _ (by omega))) ?_
                                                          refine r_last (j := p) C rfl rfl (by decide) rfl (by omega) (dx dX7_copy 121 rfl) ?_
                                                          refine rn_iinc (a := p) (k := 1) (ls' := [(0, vr 7 k), (1, vi (nI π)), (2, vi (nI θ)), (3, vi (nI ι)), (4, vi (nI ξ)), (5, vi (nI ν)), (6, vi (nI (p + 1)))]) C (dx dX7_copy 122 rfl) rfl rfl (by decide) [1, 2, 3, 4, 5, 6, 0] rfl ?_
                                                          refine r_goto (tgt := 191) C (dx dX7_copy 123 rfl) (by decide) ?_
                                                          exact ih _ (fun t ht => by rw [sL_at]; split; (next e => rw [e]); exact q9 t (by omega)) (f9.tr (Fr.sL (by omega) (by omega))) k9)
                                                ·
                                                  have c130 : ¬ nI ξ ≤ (xI h (k + 3) θ) - (nI ν) := c130
                                                  refine r_aload_n C (dx dX7_copy 101 rfl) rfl ?_
                                                  refine r_bipush (v := -2) C (dx dX7_copy 102 rfl) rfl ?_
                                                  refine r_cv (as := [vi (-2)]) (st := []) C X I_X7_refuse l_X7_83 (c_X7_refuse hm (x := -2) (j := 2) (by decide) (by decide)) (by decide) (Nat.le_of_ble_eq_true rfl) List.prefix_rfl List.prefix_rfl rfl rfl (Nat.le_of_ble_eq_true rfl) rfl (dx dX7_copy 103 rfl) ?_
                                                  rintro _ h137 ⟨rfl, ⟨wh137, m9h137, s9h137⟩, qh137⟩ kkh137
                                                  obtain ⟨vh137, mh137, zh137⟩ : ∃ v9, MilAt h137 k v9 ∧ Sz v v9 := ⟨_, m9h137, s9h137⟩
                                                  have ph137 : Kp k h h137 := qh137
                                                  have kh137 : xK h137 = xK h := kkh137
                                                  obtain ⟨ah137, bh137, ch137⟩ := zh137
                                                  have eA : copA g (nI π) (nI θ) (nI ι) (nI ξ) (nI ν) = -2 := by (have hq : ¬ (ι + ν ≤ ν1 ∧ ξ + ν ≤ ν2) := by omega); (have hq2 := cp_row e31 e32 (i := ι) (j := ξ) (n := ν) (by omega) (by omega) (by omega) (by omega) (by omega)); rw [decide_eq_false hq] at hq2; simp [copA, copG, copF, c1, c3, c111, c113, c115, c118, c120, c122, c124, c126, c128, c130, e01, e11, e21, e31, e41, e51, e61, e02, e12, e22, e32, e42, e52, e62, e72, clN (show π < 2 ^ 31 by omega), clN (show θ < 2 ^ 31 by omega), clN (show ν < 2 ^ 31 by omega), clN (show ι < 2 ^ 31 by omega), clN (show ξ < 2 ^ 31 by omega), inR_nI (show π < 2 ^ 31 by omega), inR_nI (show θ < 2 ^ 31 by omega), inR_nI (show ν < 2 ^ 31 by omega), inR_nI (show ι < 2 ^ 31 by omega), inR_nI (show ξ < 2 ^ 31 by omega), hq2, show π < 8 by omega, show θ < 8 by omega]
                                                  have eG : copG g (nI π) (nI θ) (nI ι) (nI ξ) (nI ν) = g := by (have hq : ¬ (ι + ν ≤ ν1 ∧ ξ + ν ≤ ν2) := by omega); (have hq2 := cp_row e31 e32 (i := ι) (j := ξ) (n := ν) (by omega) (by omega) (by omega) (by omega) (by omega)); rw [decide_eq_false hq] at hq2; simp [copA, copG, copF, c1, c3, c111, c113, c115, c118, c120, c122, c124, c126, c128, c130, e01, e11, e21, e31, e41, e51, e61, e02, e12, e22, e32, e42, e52, e62, e72, clN (show π < 2 ^ 31 by omega), clN (show θ < 2 ^ 31 by omega), clN (show ν < 2 ^ 31 by omega), clN (show ι < 2 ^ 31 by omega), clN (show ξ < 2 ^ 31 by omega), inR_nI (show π < 2 ^ 31 by omega), inR_nI (show θ < 2 ^ 31 by omega), inR_nI (show ν < 2 ^ 31 by omega), inR_nI (show ι < 2 ^ 31 by omega), inR_nI (show ξ < 2 ^ 31 by omega), hq2, show π < 8 by omega, show θ < 8 by omega]
                                                  exact F.1 _ _ _ _ _ rfl rfl (dx dX7_copy 104 rfl) kh137 (show some (vi (-2)) = some (vi (copA g (nI π) (nI θ) (nI ι) (nI ξ) (nI ν))) ∧ (∃ v', MilAt h137 k v') ∧ MshAt h137 k (copG g (nI π) (nI θ) (nI ι) (nI ξ) (nI ν)) ∧ Ks k h h137 from by rw [eA, eG]; exact ⟨rfl, ⟨_, mh137⟩, hs.kp ph137, ph137.ks⟩))))
                      · first
                        | (omega; done)
                        | (
                            have c115 : 1 = 1 := c115
                            refine r_aload_n C (dx dX7_copy 34 rfl) rfl ?_
                            refine g_X7_7 C (dx dX7_copy 35 rfl) ?_
                            refine r_iload_n C (dx dX7_copy 36 rfl) rfl ?_
                            refine r_iald (j := θ) (x := nI 2) C rfl rfl (by decide) rfl (by omega) (dx dX7_copy 37 rfl) a42 ?_
                            refine r_iconst (v := nI 1) C (dx dX7_copy 38 rfl) rfl ?_
                            refine rn_ne (a := 2) (b := 1) (tgt := 93) C (by omega) (by omega) (dx dX7_copy 39 rfl) (by decide) (fun c138 => ?_) (fun c138 => ?_)
                            · first
                              | (omega; done)
                              | (
                                  have c138 : ¬ 2 = 1 := c138
                                  refine r_aload_n C (dx dX7_copy 53 rfl) rfl ?_
                                  refine g_X7_7 C (dx dX7_copy 54 rfl) ?_
                                  refine r_iload_n C (dx dX7_copy 55 rfl) rfl ?_
                                  refine r_iald (j := π) (x := nI 1) C rfl rfl (by decide) rfl (by omega) (dx dX7_copy 56 rfl) a31 ?_
                                  refine r_if_eq (tgt := 111) C (dx dX7_copy 57 rfl) (by decide) (fun c139 => (show False from by revert c139; decide).elim) (fun _ => ?_)
                                  refine r_aload_n C (dx dX7_copy 58 rfl) rfl ?_
                                  refine g_X7_7 C (dx dX7_copy 59 rfl) ?_
                                  refine r_iload_n C (dx dX7_copy 60 rfl) rfl ?_
                                  refine r_iald (j := θ) (x := nI 2) C rfl rfl (by decide) rfl (by omega) (dx dX7_copy 61 rfl) a42 ?_
                                  refine r_if_ne (tgt := 118) C (dx dX7_copy 62 rfl) (by decide) (fun _ => ?_) (fun c140 => (show False from by revert c140; decide).elim)
                                  refine r_iload C (dx dX7_copy 67 rfl) rfl ?_
                                  refine r_if_lt (tgt := 181) C (dx dX7_copy 68 rfl) (by decide) (fun c141 => ?_) (fun c141 => ?_)
                                  ·
                                    have c141 : n < 0 := c141
                                    refine r_aload_n C (dx dX7_copy 101 rfl) rfl ?_
                                    refine r_bipush (v := -2) C (dx dX7_copy 102 rfl) rfl ?_
                                    refine r_cv (as := [vi (-2)]) (st := []) C X I_X7_refuse l_X7_83 (c_X7_refuse hm (x := -2) (j := 2) (by decide) (by decide)) (by decide) (Nat.le_of_ble_eq_true rfl) List.prefix_rfl List.prefix_rfl rfl rfl (Nat.le_of_ble_eq_true rfl) rfl (dx dX7_copy 103 rfl) ?_
                                    rintro _ h142 ⟨rfl, ⟨wh142, m9h142, s9h142⟩, qh142⟩ kkh142
                                    obtain ⟨vh142, mh142, zh142⟩ : ∃ v9, MilAt h142 k v9 ∧ Sz v v9 := ⟨_, m9h142, s9h142⟩
                                    have ph142 : Kp k h h142 := qh142
                                    have kh142 : xK h142 = xK h := kkh142
                                    obtain ⟨ah142, bh142, ch142⟩ := zh142
                                    have eA : copA g (nI π) (nI θ) i j n = -2 := by simp [copA, copG, copF, cpOk, c1, c3, c111, c113, c115, c138, (fun n9 => inR_neg (n := n9) c141 : ∀ n9, inR n n9 = false), c141, e01, e11, e21, e31, e41, e51, e61, e02, e12, e22, e32, e42, e52, e62, e72, clN (show π < 2 ^ 31 by omega), clN (show θ < 2 ^ 31 by omega), inR_nI (show π < 2 ^ 31 by omega), inR_nI (show θ < 2 ^ 31 by omega), show π < 8 by omega, show θ < 8 by omega]
                                    have eG : copG g (nI π) (nI θ) i j n = g := by simp [copA, copG, copF, cpOk, c1, c3, c111, c113, c115, c138, (fun n9 => inR_neg (n := n9) c141 : ∀ n9, inR n n9 = false), c141, e01, e11, e21, e31, e41, e51, e61, e02, e12, e22, e32, e42, e52, e62, e72, clN (show π < 2 ^ 31 by omega), clN (show θ < 2 ^ 31 by omega), inR_nI (show π < 2 ^ 31 by omega), inR_nI (show θ < 2 ^ 31 by omega), show π < 8 by omega, show θ < 8 by omega]
                                    exact F.1 _ _ _ _ _ rfl rfl (dx dX7_copy 104 rfl) kh142 (show some (vi (-2)) = some (vi (copA g (nI π) (nI θ) i j n)) ∧ (∃ v', MilAt h142 k v') ∧ MshAt h142 k (copG g (nI π) (nI θ) i j n) ∧ Ks k h h142 from by rw [eA, eG]; exact ⟨rfl, ⟨_, mh142⟩, hs.kp ph142, ph142.ks⟩)
                                  ·
                                    have c141 : ¬ n < 0 := c141
                                    obtain ⟨ν, hν, rfl⟩ := nI_of c141
                                    refine r_iload_n C (dx dX7_copy 69 rfl) rfl ?_
                                    refine r_if_lt (tgt := 181) C (dx dX7_copy 70 rfl) (by decide) (fun c143 => ?_) (fun c143 => ?_)
                                    ·
                                      have c143 : i < 0 := c143
                                      refine r_aload_n C (dx dX7_copy 101 rfl) rfl ?_
                                      refine r_bipush (v := -2) C (dx dX7_copy 102 rfl) rfl ?_
                                      refine r_cv (as := [vi (-2)]) (st := []) C X I_X7_refuse l_X7_83 (c_X7_refuse hm (x := -2) (j := 2) (by decide) (by decide)) (by decide) (Nat.le_of_ble_eq_true rfl) List.prefix_rfl List.prefix_rfl rfl rfl (Nat.le_of_ble_eq_true rfl) rfl (dx dX7_copy 103 rfl) ?_
                                      rintro _ h144 ⟨rfl, ⟨wh144, m9h144, s9h144⟩, qh144⟩ kkh144
                                      obtain ⟨vh144, mh144, zh144⟩ : ∃ v9, MilAt h144 k v9 ∧ Sz v v9 := ⟨_, m9h144, s9h144⟩
                                      have ph144 : Kp k h h144 := qh144
                                      have kh144 : xK h144 = xK h := kkh144
                                      obtain ⟨ah144, bh144, ch144⟩ := zh144
                                      have eA : copA g (nI π) (nI θ) i j (nI ν) = -2 := by simp [copA, copG, copF, cpOk, c1, c3, c111, c113, c115, c138, c141, (fun n9 => inR_neg (n := n9) c143 : ∀ n9, inR i n9 = false), c143, e01, e11, e21, e31, e41, e51, e61, e02, e12, e22, e32, e42, e52, e62, e72, clN (show π < 2 ^ 31 by omega), clN (show θ < 2 ^ 31 by omega), clN (show ν < 2 ^ 31 by omega), inR_nI (show π < 2 ^ 31 by omega), inR_nI (show θ < 2 ^ 31 by omega), inR_nI (show ν < 2 ^ 31 by omega), show π < 8 by omega, show θ < 8 by omega]
                                      have eG : copG g (nI π) (nI θ) i j (nI ν) = g := by simp [copA, copG, copF, cpOk, c1, c3, c111, c113, c115, c138, c141, (fun n9 => inR_neg (n := n9) c143 : ∀ n9, inR i n9 = false), c143, e01, e11, e21, e31, e41, e51, e61, e02, e12, e22, e32, e42, e52, e62, e72, clN (show π < 2 ^ 31 by omega), clN (show θ < 2 ^ 31 by omega), clN (show ν < 2 ^ 31 by omega), inR_nI (show π < 2 ^ 31 by omega), inR_nI (show θ < 2 ^ 31 by omega), inR_nI (show ν < 2 ^ 31 by omega), show π < 8 by omega, show θ < 8 by omega]
                                      exact F.1 _ _ _ _ _ rfl rfl (dx dX7_copy 104 rfl) kh144 (show some (vi (-2)) = some (vi (copA g (nI π) (nI θ) i j (nI ν))) ∧ (∃ v', MilAt h144 k v') ∧ MshAt h144 k (copG g (nI π) (nI θ) i j (nI ν)) ∧ Ks k h h144 from by rw [eA, eG]; exact ⟨rfl, ⟨_, mh144⟩, hs.kp ph144, ph144.ks⟩)
                                    ·
                                      have c143 : ¬ i < 0 := c143
                                      obtain ⟨ι, hι, rfl⟩ := nI_of c143
                                      refine r_iload C (dx dX7_copy 71 rfl) rfl ?_
                                      refine r_if_lt (tgt := 181) C (dx dX7_copy 72 rfl) (by decide) (fun c145 => ?_) (fun c145 => ?_)
                                      ·
                                        have c145 : j < 0 := c145
                                        refine r_aload_n C (dx dX7_copy 101 rfl) rfl ?_
                                        refine r_bipush (v := -2) C (dx dX7_copy 102 rfl) rfl ?_
                                        refine r_cv (as := [vi (-2)]) (st := []) C X I_X7_refuse l_X7_83 (c_X7_refuse hm (x := -2) (j := 2) (by decide) (by decide)) (by decide) (Nat.le_of_ble_eq_true rfl) List.prefix_rfl List.prefix_rfl rfl rfl (Nat.le_of_ble_eq_true rfl) rfl (dx dX7_copy 103 rfl) ?_
                                        rintro _ h146 ⟨rfl, ⟨wh146, m9h146, s9h146⟩, qh146⟩ kkh146
                                        obtain ⟨vh146, mh146, zh146⟩ : ∃ v9, MilAt h146 k v9 ∧ Sz v v9 := ⟨_, m9h146, s9h146⟩
                                        have ph146 : Kp k h h146 := qh146
                                        have kh146 : xK h146 = xK h := kkh146
                                        obtain ⟨ah146, bh146, ch146⟩ := zh146
                                        have eA : copA g (nI π) (nI θ) (nI ι) j (nI ν) = -2 := by simp [copA, copG, copF, cpOk, c1, c3, c111, c113, c115, c138, c141, c143, (fun n9 => inR_neg (n := n9) c145 : ∀ n9, inR j n9 = false), c145, e01, e11, e21, e31, e41, e51, e61, e02, e12, e22, e32, e42, e52, e62, e72, clN (show π < 2 ^ 31 by omega), clN (show θ < 2 ^ 31 by omega), clN (show ν < 2 ^ 31 by omega), clN (show ι < 2 ^ 31 by omega), inR_nI (show π < 2 ^ 31 by omega), inR_nI (show θ < 2 ^ 31 by omega), inR_nI (show ν < 2 ^ 31 by omega), inR_nI (show ι < 2 ^ 31 by omega), show π < 8 by omega, show θ < 8 by omega]
                                        have eG : copG g (nI π) (nI θ) (nI ι) j (nI ν) = g := by simp [copA, copG, copF, cpOk, c1, c3, c111, c113, c115, c138, c141, c143, (fun n9 => inR_neg (n := n9) c145 : ∀ n9, inR j n9 = false), c145, e01, e11, e21, e31, e41, e51, e61, e02, e12, e22, e32, e42, e52, e62, e72, clN (show π < 2 ^ 31 by omega), clN (show θ < 2 ^ 31 by omega), clN (show ν < 2 ^ 31 by omega), clN (show ι < 2 ^ 31 by omega), inR_nI (show π < 2 ^ 31 by omega), inR_nI (show θ < 2 ^ 31 by omega), inR_nI (show ν < 2 ^ 31 by omega), inR_nI (show ι < 2 ^ 31 by omega), show π < 8 by omega, show θ < 8 by omega]
                                        exact F.1 _ _ _ _ _ rfl rfl (dx dX7_copy 104 rfl) kh146 (show some (vi (-2)) = some (vi (copA g (nI π) (nI θ) (nI ι) j (nI ν))) ∧ (∃ v', MilAt h146 k v') ∧ MshAt h146 k (copG g (nI π) (nI θ) (nI ι) j (nI ν)) ∧ Ks k h h146 from by rw [eA, eG]; exact ⟨rfl, ⟨_, mh146⟩, hs.kp ph146, ph146.ks⟩)
                                      ·
                                        have c145 : ¬ j < 0 := c145
                                        obtain ⟨ξ, hξ, rfl⟩ := nI_of c145
                                        refine r_iload C (dx dX7_copy 73 rfl) rfl ?_
                                        refine r_aload_n C (dx dX7_copy 74 rfl) rfl ?_
                                        refine g_X7_16 C (dx dX7_copy 75 rfl) ?_
                                        refine r_iload_n C (dx dX7_copy 76 rfl) rfl ?_
                                        refine r_iald (j := π) (x := nI ν1) C rfl rfl (by decide) rfl (by omega) (dx dX7_copy 77 rfl) a51 ?_
                                        refine rn_gt (a := ν) (b := ν1) (tgt := 181) C (by omega) (by omega) (dx dX7_copy 78 rfl) (by decide) (fun c147 => ?_) (fun c147 => ?_)
                                        · first
                                          | (omega; done)
                                          | (
                                              have c147 : ν1 < ν := c147
                                              refine r_aload_n C (dx dX7_copy 101 rfl) rfl ?_
                                              refine r_bipush (v := -2) C (dx dX7_copy 102 rfl) rfl ?_
                                              refine r_cv (as := [vi (-2)]) (st := []) C X I_X7_refuse l_X7_83 (c_X7_refuse hm (x := -2) (j := 2) (by decide) (by decide)) (by decide) (Nat.le_of_ble_eq_true rfl) List.prefix_rfl List.prefix_rfl rfl rfl (Nat.le_of_ble_eq_true rfl) rfl (dx dX7_copy 103 rfl) ?_
                                              rintro _ h148 ⟨rfl, ⟨wh148, m9h148, s9h148⟩, qh148⟩ kkh148
                                              obtain ⟨vh148, mh148, zh148⟩ : ∃ v9, MilAt h148 k v9 ∧ Sz v v9 := ⟨_, m9h148, s9h148⟩
                                              have ph148 : Kp k h h148 := qh148
                                              have kh148 : xK h148 = xK h := kkh148
                                              obtain ⟨ah148, bh148, ch148⟩ := zh148
                                              have eA : copA g (nI π) (nI θ) (nI ι) (nI ξ) (nI ν) = -2 := by (have hq : ¬ (ι + ν ≤ ν1 ∧ ξ + ν ≤ ν2) := by omega); (have hq2 := cp_row e31 e32 (i := ι) (j := ξ) (n := ν) (by omega) (by omega) (by omega) (by omega) (by omega)); rw [decide_eq_false hq] at hq2; simp [copA, copG, copF, c1, c3, c111, c113, c115, c138, c141, c143, c145, c147, e01, e11, e21, e31, e41, e51, e61, e02, e12, e22, e32, e42, e52, e62, e72, clN (show π < 2 ^ 31 by omega), clN (show θ < 2 ^ 31 by omega), clN (show ν < 2 ^ 31 by omega), clN (show ι < 2 ^ 31 by omega), clN (show ξ < 2 ^ 31 by omega), inR_nI (show π < 2 ^ 31 by omega), inR_nI (show θ < 2 ^ 31 by omega), inR_nI (show ν < 2 ^ 31 by omega), inR_nI (show ι < 2 ^ 31 by omega), inR_nI (show ξ < 2 ^ 31 by omega), hq2, show π < 8 by omega, show θ < 8 by omega]
                                              have eG : copG g (nI π) (nI θ) (nI ι) (nI ξ) (nI ν) = g := by (have hq : ¬ (ι + ν ≤ ν1 ∧ ξ + ν ≤ ν2) := by omega); (have hq2 := cp_row e31 e32 (i := ι) (j := ξ) (n := ν) (by omega) (by omega) (by omega) (by omega) (by omega)); rw [decide_eq_false hq] at hq2; simp [copA, copG, copF, c1, c3, c111, c113, c115, c138, c141, c143, c145, c147, e01, e11, e21, e31, e41, e51, e61, e02, e12, e22, e32, e42, e52, e62, e72, clN (show π < 2 ^ 31 by omega), clN (show θ < 2 ^ 31 by omega), clN (show ν < 2 ^ 31 by omega), clN (show ι < 2 ^ 31 by omega), clN (show ξ < 2 ^ 31 by omega), inR_nI (show π < 2 ^ 31 by omega), inR_nI (show θ < 2 ^ 31 by omega), inR_nI (show ν < 2 ^ 31 by omega), inR_nI (show ι < 2 ^ 31 by omega), inR_nI (show ξ < 2 ^ 31 by omega), hq2, show π < 8 by omega, show θ < 8 by omega]
                                              exact F.1 _ _ _ _ _ rfl rfl (dx dX7_copy 104 rfl) kh148 (show some (vi (-2)) = some (vi (copA g (nI π) (nI θ) (nI ι) (nI ξ) (nI ν))) ∧ (∃ v', MilAt h148 k v') ∧ MshAt h148 k (copG g (nI π) (nI θ) (nI ι) (nI ξ) (nI ν)) ∧ Ks k h h148 from by rw [eA, eG]; exact ⟨rfl, ⟨_, mh148⟩, hs.kp ph148, ph148.ks⟩))
                                        · first
                                          | (omega; done)
                                          | (
                                              have c147 : ν ≤ ν1 := c147
                                              refine r_iload C (dx dX7_copy 79 rfl) rfl ?_
                                              refine r_aload_n C (dx dX7_copy 80 rfl) rfl ?_
                                              refine g_X7_16 C (dx dX7_copy 81 rfl) ?_
                                              refine r_iload_n C (dx dX7_copy 82 rfl) rfl ?_
                                              refine r_iald (j := θ) (x := xI h (k + 3) θ) C rfl rfl (by decide) rfl (by omega) (dx dX7_copy 83 rfl) rfl ?_
                                              refine r_icmp_gt (tgt := 181) C (dx dX7_copy 84 rfl) (by decide) (fun c149 => ?_) (fun c149 => ?_)
                                              ·
                                                have c149 : xI h (k + 3) θ < nI ν := c149
                                                refine r_aload_n C (dx dX7_copy 101 rfl) rfl ?_
                                                refine r_bipush (v := -2) C (dx dX7_copy 102 rfl) rfl ?_
                                                refine r_cv (as := [vi (-2)]) (st := []) C X I_X7_refuse l_X7_83 (c_X7_refuse hm (x := -2) (j := 2) (by decide) (by decide)) (by decide) (Nat.le_of_ble_eq_true rfl) List.prefix_rfl List.prefix_rfl rfl rfl (Nat.le_of_ble_eq_true rfl) rfl (dx dX7_copy 103 rfl) ?_
                                                rintro _ h150 ⟨rfl, ⟨wh150, m9h150, s9h150⟩, qh150⟩ kkh150
                                                obtain ⟨vh150, mh150, zh150⟩ : ∃ v9, MilAt h150 k v9 ∧ Sz v v9 := ⟨_, m9h150, s9h150⟩
                                                have ph150 : Kp k h h150 := qh150
                                                have kh150 : xK h150 = xK h := kkh150
                                                obtain ⟨ah150, bh150, ch150⟩ := zh150
                                                have eA : copA g (nI π) (nI θ) (nI ι) (nI ξ) (nI ν) = -2 := by (have hq : ¬ (ι + ν ≤ ν1 ∧ ξ + ν ≤ ν2) := by omega); (have hq2 := cp_row e31 e32 (i := ι) (j := ξ) (n := ν) (by omega) (by omega) (by omega) (by omega) (by omega)); rw [decide_eq_false hq] at hq2; simp [copA, copG, copF, c1, c3, c111, c113, c115, c138, c141, c143, c145, c147, c149, e01, e11, e21, e31, e41, e51, e61, e02, e12, e22, e32, e42, e52, e62, e72, clN (show π < 2 ^ 31 by omega), clN (show θ < 2 ^ 31 by omega), clN (show ν < 2 ^ 31 by omega), clN (show ι < 2 ^ 31 by omega), clN (show ξ < 2 ^ 31 by omega), inR_nI (show π < 2 ^ 31 by omega), inR_nI (show θ < 2 ^ 31 by omega), inR_nI (show ν < 2 ^ 31 by omega), inR_nI (show ι < 2 ^ 31 by omega), inR_nI (show ξ < 2 ^ 31 by omega), hq2, show π < 8 by omega, show θ < 8 by omega]
                                                have eG : copG g (nI π) (nI θ) (nI ι) (nI ξ) (nI ν) = g := by (have hq : ¬ (ι + ν ≤ ν1 ∧ ξ + ν ≤ ν2) := by omega); (have hq2 := cp_row e31 e32 (i := ι) (j := ξ) (n := ν) (by omega) (by omega) (by omega) (by omega) (by omega)); rw [decide_eq_false hq] at hq2; simp [copA, copG, copF, c1, c3, c111, c113, c115, c138, c141, c143, c145, c147, c149, e01, e11, e21, e31, e41, e51, e61, e02, e12, e22, e32, e42, e52, e62, e72, clN (show π < 2 ^ 31 by omega), clN (show θ < 2 ^ 31 by omega), clN (show ν < 2 ^ 31 by omega), clN (show ι < 2 ^ 31 by omega), clN (show ξ < 2 ^ 31 by omega), inR_nI (show π < 2 ^ 31 by omega), inR_nI (show θ < 2 ^ 31 by omega), inR_nI (show ν < 2 ^ 31 by omega), inR_nI (show ι < 2 ^ 31 by omega), inR_nI (show ξ < 2 ^ 31 by omega), hq2, show π < 8 by omega, show θ < 8 by omega]
                                                exact F.1 _ _ _ _ _ rfl rfl (dx dX7_copy 104 rfl) kh150 (show some (vi (-2)) = some (vi (copA g (nI π) (nI θ) (nI ι) (nI ξ) (nI ν))) ∧ (∃ v', MilAt h150 k v') ∧ MshAt h150 k (copG g (nI π) (nI θ) (nI ι) (nI ξ) (nI ν)) ∧ Ks k h h150 from by rw [eA, eG]; exact ⟨rfl, ⟨_, mh150⟩, hs.kp ph150, ph150.ks⟩)
                                              ·
                                                have c149 : ¬ xI h (k + 3) θ < nI ν := c149
                                                refine r_iload_n C (dx dX7_copy 85 rfl) rfl ?_
                                                refine r_aload_n C (dx dX7_copy 86 rfl) rfl ?_
                                                refine g_X7_16 C (dx dX7_copy 87 rfl) ?_
                                                refine r_iload_n C (dx dX7_copy 88 rfl) rfl ?_
                                                refine r_iald (j := π) (x := nI ν1) C rfl rfl (by decide) rfl (by omega) (dx dX7_copy 89 rfl) a51 ?_
                                                refine r_iload C (dx dX7_copy 90 rfl) rfl ?_
                                                refine rn_isub (a := ν1) (b := ν) C (by omega) (dx dX7_copy 91 rfl) ?_
                                                refine rn_gt (a := ι) (b := ν1 - ν) (tgt := 181) C (by omega) (by omega) (dx dX7_copy 92 rfl) (by decide) (fun c151 => ?_) (fun c151 => ?_)
                                                · first
                                                  | (omega; done)
                                                  | (
                                                      have c151 : ν1 - ν < ι := c151
                                                      refine r_aload_n C (dx dX7_copy 101 rfl) rfl ?_
                                                      refine r_bipush (v := -2) C (dx dX7_copy 102 rfl) rfl ?_
                                                      refine r_cv (as := [vi (-2)]) (st := []) C X I_X7_refuse l_X7_83 (c_X7_refuse hm (x := -2) (j := 2) (by decide) (by decide)) (by decide) (Nat.le_of_ble_eq_true rfl) List.prefix_rfl List.prefix_rfl rfl rfl (Nat.le_of_ble_eq_true rfl) rfl (dx dX7_copy 103 rfl) ?_
                                                      rintro _ h152 ⟨rfl, ⟨wh152, m9h152, s9h152⟩, qh152⟩ kkh152
                                                      obtain ⟨vh152, mh152, zh152⟩ : ∃ v9, MilAt h152 k v9 ∧ Sz v v9 := ⟨_, m9h152, s9h152⟩
                                                      have ph152 : Kp k h h152 := qh152
                                                      have kh152 : xK h152 = xK h := kkh152
                                                      obtain ⟨ah152, bh152, ch152⟩ := zh152
                                                      have eA : copA g (nI π) (nI θ) (nI ι) (nI ξ) (nI ν) = -2 := by (have hq : ¬ (ι + ν ≤ ν1 ∧ ξ + ν ≤ ν2) := by omega); (have hq2 := cp_row e31 e32 (i := ι) (j := ξ) (n := ν) (by omega) (by omega) (by omega) (by omega) (by omega)); rw [decide_eq_false hq] at hq2; simp [copA, copG, copF, c1, c3, c111, c113, c115, c138, c141, c143, c145, c147, c149, c151, e01, e11, e21, e31, e41, e51, e61, e02, e12, e22, e32, e42, e52, e62, e72, clN (show π < 2 ^ 31 by omega), clN (show θ < 2 ^ 31 by omega), clN (show ν < 2 ^ 31 by omega), clN (show ι < 2 ^ 31 by omega), clN (show ξ < 2 ^ 31 by omega), inR_nI (show π < 2 ^ 31 by omega), inR_nI (show θ < 2 ^ 31 by omega), inR_nI (show ν < 2 ^ 31 by omega), inR_nI (show ι < 2 ^ 31 by omega), inR_nI (show ξ < 2 ^ 31 by omega), hq2, show π < 8 by omega, show θ < 8 by omega]
                                                      have eG : copG g (nI π) (nI θ) (nI ι) (nI ξ) (nI ν) = g := by (have hq : ¬ (ι + ν ≤ ν1 ∧ ξ + ν ≤ ν2) := by omega); (have hq2 := cp_row e31 e32 (i := ι) (j := ξ) (n := ν) (by omega) (by omega) (by omega) (by omega) (by omega)); rw [decide_eq_false hq] at hq2; simp [copA, copG, copF, c1, c3, c111, c113, c115, c138, c141, c143, c145, c147, c149, c151, e01, e11, e21, e31, e41, e51, e61, e02, e12, e22, e32, e42, e52, e62, e72, clN (show π < 2 ^ 31 by omega), clN (show θ < 2 ^ 31 by omega), clN (show ν < 2 ^ 31 by omega), clN (show ι < 2 ^ 31 by omega), clN (show ξ < 2 ^ 31 by omega), inR_nI (show π < 2 ^ 31 by omega), inR_nI (show θ < 2 ^ 31 by omega), inR_nI (show ν < 2 ^ 31 by omega), inR_nI (show ι < 2 ^ 31 by omega), inR_nI (show ξ < 2 ^ 31 by omega), hq2, show π < 8 by omega, show θ < 8 by omega]
                                                      exact F.1 _ _ _ _ _ rfl rfl (dx dX7_copy 104 rfl) kh152 (show some (vi (-2)) = some (vi (copA g (nI π) (nI θ) (nI ι) (nI ξ) (nI ν))) ∧ (∃ v', MilAt h152 k v') ∧ MshAt h152 k (copG g (nI π) (nI θ) (nI ι) (nI ξ) (nI ν)) ∧ Ks k h h152 from by rw [eA, eG]; exact ⟨rfl, ⟨_, mh152⟩, hs.kp ph152, ph152.ks⟩))
                                                · first
                                                  | (omega; done)
                                                  | (
                                                      have c151 : ι ≤ ν1 - ν := c151
                                                      refine r_iload C (dx dX7_copy 93 rfl) rfl ?_
                                                      refine r_aload_n C (dx dX7_copy 94 rfl) rfl ?_
                                                      refine g_X7_16 C (dx dX7_copy 95 rfl) ?_
                                                      refine r_iload_n C (dx dX7_copy 96 rfl) rfl ?_
                                                      refine r_iald (j := θ) (x := xI h (k + 3) θ) C rfl rfl (by decide) rfl (by omega) (dx dX7_copy 97 rfl) rfl ?_
                                                      refine r_iload C (dx dX7_copy 98 rfl) rfl ?_
                                                      refine r_isub C (dx dX7_copy 99 rfl) ?_
                                                      refine r_icmp_le (tgt := 188) C (dx dX7_copy 100 rfl) (by decide) (fun c153 => ?_) (fun c153 => ?_)
                                                      ·
                                                        have c153 : nI ξ ≤ (xI h (k + 3) θ) - (nI ν) := c153
                                                        refine r_iconst (v := nI 0) C (dx dX7_copy 105 rfl) rfl ?_
                                                        refine r_istore (ls' := [(0, vr 7 k), (1, vi (nI π)), (2, vi (nI θ)), (3, vi (nI ι)), (4, vi (nI ξ)), (5, vi (nI ν)), (6, vi (nI 0))]) C (dx dX7_copy 106 rfl) (by decide) [1, 2, 3, 4, 5, 6, 0] rfl ?_
                                                        refine loopU (Φ := fun p => ∀ h9, (∀ t, t < p → xL h9 (k + 13) t = gE g π (ι + t)) → Fr (k + 13) (k + 14) h h9 → xK h9 = xK h → Rr G 191 [(0, vr 7 k), (1, vi (nI π)), (2, vi (nI θ)), (3, vi (nI ι)), (4, vi (nI ξ)), (5, vi (nI ν)), (6, vi (nI p))] [] h9) (N := ν) ?_ ?_ 0 (by omega) _ (fun i hi => absurd hi (by omega)) Fr.rf rfl
                                                        ·
                                                          intro h9 q9 f9 k9
                                                          refine r_iload C (dx dX7_copy 107 rfl) rfl ?_
                                                          refine r_iload C (dx dX7_copy 108 rfl) rfl ?_
                                                          refine rn_ge (a := ν) (b := ν) (tgt := 222) C (by omega) (by omega) (dx dX7_copy 109 rfl) (by decide) (fun c154 => ?_) (fun c154 => ?_)
                                                          · first
                                                            | (omega; done)
                                                            | (
                                                                have c154 : ν ≤ ν := c154
                                                                refine r_iconst (v := nI 0) C (dx dX7_copy 124 rfl) rfl ?_
                                                                refine r_istore (ls' := [(0, vr 7 k), (1, vi (nI π)), (2, vi (nI θ)), (3, vi (nI ι)), (4, vi (nI ξ)), (5, vi (nI ν)), (6, vi (nI 0))]) C (dx dX7_copy 125 rfl) (by decide) [1, 2, 3, 4, 5, 6, 0] rfl ?_
                                                                have r9 := MsR.fr (show MsR h k g θ from ⟨_, _, a12, a22, a32, a42, a52, a62, a72, a82⟩) hθ f9
                                                                refine loopU (Φ := fun p => ∀ h8, (∀ i, i < 40 → xL h8 (k + 5 + θ) i = if ξ ≤ i ∧ i < ξ + p then gE g π (ι + (i - ξ)) else gE g θ i) → (∀ t, t < ν → xL h8 (k + 13) t = gE g π (ι + t)) → Fr (k + 5 + θ) (k + 5 + θ + 1) h9 h8 → xK h8 = xK h → Rr G 225 [(0, vr 7 k), (1, vi (nI π)), (2, vi (nI θ)), (3, vi (nI ι)), (4, vi (nI ξ)), (5, vi (nI ν)), (6, vi (nI p))] [] h8) (N := ν) ?_ ?_ 0 (by omega) _ (fun i hi => by rw [if_neg (by omega), f9.L (by omega)]; exact a82 i hi) q9 Fr.rf k9
                                                                ·
                                                                  intro h8 q8 u8 f8 k8
                                                                  have s9 : MshAt h8 k (pCp g π θ ι ξ ν) := msh_els (hs.mv f9) hθ r9 f8 (fun i hi => by rw [q8 i hi]; rfl)
                                                                  have g9 : Fr (k + 1) (k + 17) h h8 := (f9.mono (by omega) (by omega)).tr (f8.mono (by omega) (by omega))
                                                                  refine r_iload C (dx dX7_copy 126 rfl) rfl ?_
                                                                  refine r_iload C (dx dX7_copy 127 rfl) rfl ?_
                                                                  refine rn_ge (a := ν) (b := ν) (tgt := 257) C (by omega) (by omega) (dx dX7_copy 128 rfl) (by decide) (fun c155 => ?_) (fun c155 => ?_)
                                                                  · first
                                                                    | (omega; done)
                                                                    | (
                                                                        have c155 : ν ≤ ν := c155
                                                                        refine r_iload C (dx dX7_copy 143 rfl) rfl ?_
                                                                        have eA : copA g (nI π) (nI θ) (nI ι) (nI ξ) (nI ν) = nI ν := by simp [copA, copG, copF, c1, c3, c111, c113, c115, c138, c141, c143, c145, c147, c149, c151, c153, c154, c155, e01, e11, e21, e31, e41, e51, e61, e02, e12, e22, e32, e42, e52, e62, e72, clN (show π < 2 ^ 31 by omega), clN (show θ < 2 ^ 31 by omega), clN (show ν < 2 ^ 31 by omega), clN (show ι < 2 ^ 31 by omega), clN (show ξ < 2 ^ 31 by omega), inR_nI (show π < 2 ^ 31 by omega), inR_nI (show θ < 2 ^ 31 by omega), inR_nI (show ν < 2 ^ 31 by omega), inR_nI (show ι < 2 ^ 31 by omega), inR_nI (show ξ < 2 ^ 31 by omega), show π < 8 by omega, show θ < 8 by omega, cp_row e31 e32 (by omega) (by omega) (show ι < 2 ^ 31 by omega) (show ξ < 2 ^ 31 by omega) (show ν < 2 ^ 31 by omega), show ι + ν ≤ ν1 by omega, show ξ + ν ≤ ν2 by omega]
                                                                        have eG : copG g (nI π) (nI θ) (nI ι) (nI ξ) (nI ν) = pCp g π θ ι ξ ν := by simp [copA, copG, copF, c1, c3, c111, c113, c115, c138, c141, c143, c145, c147, c149, c151, c153, c154, c155, e01, e11, e21, e31, e41, e51, e61, e02, e12, e22, e32, e42, e52, e62, e72, clN (show π < 2 ^ 31 by omega), clN (show θ < 2 ^ 31 by omega), clN (show ν < 2 ^ 31 by omega), clN (show ι < 2 ^ 31 by omega), clN (show ξ < 2 ^ 31 by omega), inR_nI (show π < 2 ^ 31 by omega), inR_nI (show θ < 2 ^ 31 by omega), inR_nI (show ν < 2 ^ 31 by omega), inR_nI (show ι < 2 ^ 31 by omega), inR_nI (show ξ < 2 ^ 31 by omega), show π < 8 by omega, show θ < 8 by omega, cp_row e31 e32 (by omega) (by omega) (show ι < 2 ^ 31 by omega) (show ξ < 2 ^ 31 by omega) (show ν < 2 ^ 31 by omega), show ι + ν ≤ ν1 by omega, show ξ + ν ≤ ν2 by omega]
                                                                        exact F.1 _ _ _ _ _ rfl rfl (dx dX7_copy 144 rfl) k8 (show some (vi (nI ν)) = some (vi (copA g (nI π) (nI θ) (nI ι) (nI ξ) (nI ν))) ∧ (∃ v', MilAt h8 k v') ∧ MshAt h8 k (copG g (nI π) (nI θ) (nI ι) (nI ξ) (nI ν)) ∧ Ks k h h8 from by rw [eA, eG]; exact ⟨rfl, ⟨_, hm.fr g9 (by omega)⟩, s9, (Ks.fr g9 (by omega) (by omega))⟩))
                                                                  · first
                                                                    | (omega; done)
                                                                ·
                                                                  intro p hp ih h8 q8 u8 f8 k8
                                                                  refine r_iload C (dx dX7_copy 126 rfl) rfl ?_
                                                                  refine r_iload C (dx dX7_copy 127 rfl) rfl ?_
                                                                  refine rn_ge (a := p) (b := ν) (tgt := 257) C (by omega) (by omega) (dx dX7_copy 128 rfl) (by decide) (fun c156 => ?_) (fun c156 => ?_)
                                                                  · first
                                                                    | (omega; done)
                                                                    | (
                                                                        have c156 : ν ≤ p := c156
                                                                        refine r_iload C (dx dX7_copy 143 rfl) rfl ?_
                                                                        have eA : copA g (nI π) (nI θ) (nI ι) (nI ξ) (nI ν) = nI ν := by simp [copA, copG, copF, c1, c3, c111, c113, c115, c138, c141, c143, c145, c147, c149, c151, c153, c154, c156, e01, e11, e21, e31, e41, e51, e61, e02, e12, e22, e32, e42, e52, e62, e72, clN (show π < 2 ^ 31 by omega), clN (show θ < 2 ^ 31 by omega), clN (show ν < 2 ^ 31 by omega), clN (show ι < 2 ^ 31 by omega), clN (show ξ < 2 ^ 31 by omega), inR_nI (show π < 2 ^ 31 by omega), inR_nI (show θ < 2 ^ 31 by omega), inR_nI (show ν < 2 ^ 31 by omega), inR_nI (show ι < 2 ^ 31 by omega), inR_nI (show ξ < 2 ^ 31 by omega), show π < 8 by omega, show θ < 8 by omega, cp_row e31 e32 (by omega) (by omega) (show ι < 2 ^ 31 by omega) (show ξ < 2 ^ 31 by omega) (show ν < 2 ^ 31 by omega), show ι + ν ≤ ν1 by omega, show ξ + ν ≤ ν2 by omega]
                                                                        have eG : copG g (nI π) (nI θ) (nI ι) (nI ξ) (nI ν) = g := by simp [copA, copG, copF, c1, c3, c111, c113, c115, c138, c141, c143, c145, c147, c149, c151, c153, c154, c156, e01, e11, e21, e31, e41, e51, e61, e02, e12, e22, e32, e42, e52, e62, e72, clN (show π < 2 ^ 31 by omega), clN (show θ < 2 ^ 31 by omega), clN (show ν < 2 ^ 31 by omega), clN (show ι < 2 ^ 31 by omega), clN (show ξ < 2 ^ 31 by omega), inR_nI (show π < 2 ^ 31 by omega), inR_nI (show θ < 2 ^ 31 by omega), inR_nI (show ν < 2 ^ 31 by omega), inR_nI (show ι < 2 ^ 31 by omega), inR_nI (show ξ < 2 ^ 31 by omega), show π < 8 by omega, show θ < 8 by omega, cp_row e31 e32 (by omega) (by omega) (show ι < 2 ^ 31 by omega) (show ξ < 2 ^ 31 by omega) (show ν < 2 ^ 31 by omega), show ι + ν ≤ ν1 by omega, show ξ + ν ≤ ν2 by omega]
                                                                        exact F.1 _ _ _ _ _ rfl rfl (dx dX7_copy 144 rfl) k8 (show some (vi (nI ν)) = some (vi (copA g (nI π) (nI θ) (nI ι) (nI ξ) (nI ν))) ∧ (∃ v', MilAt h8 k v') ∧ MshAt h8 k (copG g (nI π) (nI θ) (nI ι) (nI ξ) (nI ν)) ∧ Ks k h h8 from by rw [eA, eG]; exact ⟨rfl, ⟨_, hm⟩, hs, Ks.rf⟩))
                                                                  · first
                                                                    | (omega; done)
                                                                    | (
                                                                        have c156 : p < ν := c156
                                                                        refine r_aload_n C (dx dX7_copy 129 rfl) rfl ?_
                                                                        refine g_X7_21 C (dx dX7_copy 130 rfl) ?_
                                                                        refine r_iload_n C (dx dX7_copy 131 rfl) rfl ?_
                                                                        refine r_aald5 (j := θ) C rfl rfl (by decide) rfl (by omega) (dx dX7_copy 132 rfl) ?_
                                                                        refine r_iload C (dx dX7_copy 133 rfl) rfl ?_
                                                                        refine r_iload C (dx dX7_copy 134 rfl) rfl ?_
                                                                        refine rn_iadd (a := ξ) (b := p) C (dx dX7_copy 135 rfl) ?_
                                                                        refine r_aload_n C (dx dX7_copy 136 rfl) rfl ?_
                                                                        refine g_X7_24 C (dx dX7_copy 137 rfl) ?_
                                                                        refine r_iload C (dx dX7_copy 138 rfl) rfl ?_
                                                                        refine r_lald (j := p) (x := gE g π (ι + p)) C rfl rfl (by decide) rfl (by omega) (dx dX7_copy 139 rfl) (u8 _ (by omega)) ?_
                                                                        refine r_last (j := ξ + p) C rfl rfl (by decide) rfl (by omega) (dx dX7_copy 140 rfl) ?_
                                                                        refine rn_iinc (a := p) (k := 1) (ls' := [(0, vr 7 k), (1, vi (nI π)), (2, vi (nI θ)), (3, vi (nI ι)), (4, vi (nI ξ)), (5, vi (nI ν)), (6, vi (nI (p + 1)))]) C (dx dX7_copy 141 rfl) rfl rfl (by decide) [1, 2, 3, 4, 5, 6, 0] rfl ?_
                                                                        refine r_goto (tgt := 225) C (dx dX7_copy 142 rfl) (by decide) ?_
                                                                        exact ih _ (fun i hi => by rw [sL_at]; exact cp2_step q8 i hi) (fun t ht => by rw [sL_ne (by omega)]; exact u8 t ht) (f8.tr (Fr.sL (by omega) (by omega))) k8))
                                                          · first
                                                            | (omega; done)
                                                        ·
                                                          intro p hp ih h9 q9 f9 k9
                                                          refine r_iload C (dx dX7_copy 107 rfl) rfl ?_
                                                          refine r_iload C (dx dX7_copy 108 rfl) rfl ?_
                                                          refine rn_ge (a := p) (b := ν) (tgt := 222) C (by omega) (by omega) (dx dX7_copy 109 rfl) (by decide) (fun c157 => ?_) (fun c157 => ?_)
                                                          · first
                                                            | (omega; done)
                                                            | (
                                                                have c157 : ν ≤ p := c157
                                                                refine r_iconst (v := nI 0) C (dx dX7_copy 124 rfl) rfl ?_
                                                                refine r_istore (ls' := [(0, vr 7 k), (1, vi (nI π)), (2, vi (nI θ)), (3, vi (nI ι)), (4, vi (nI ξ)), (5, vi (nI ν)), (6, vi (nI 0))]) C (dx dX7_copy 125 rfl) (by decide) [1, 2, 3, 4, 5, 6, 0] rfl ?_
                                                                have r9 := MsR.fr (show MsR h k g θ from ⟨_, _, a12, a22, a32, a42, a52, a62, a72, a82⟩) hθ f9
                                                                refine loopU (Φ := fun p => ∀ h8, (∀ i, i < 40 → xL h8 (k + 5 + θ) i = if ξ ≤ i ∧ i < ξ + p then gE g π (ι + (i - ξ)) else gE g θ i) → (∀ t, t < ν → xL h8 (k + 13) t = gE g π (ι + t)) → Fr (k + 5 + θ) (k + 5 + θ + 1) h9 h8 → xK h8 = xK h → Rr G 225 [(0, vr 7 k), (1, vi (nI π)), (2, vi (nI θ)), (3, vi (nI ι)), (4, vi (nI ξ)), (5, vi (nI ν)), (6, vi (nI p))] [] h8) (N := ν) ?_ ?_ 0 (by omega) _ (fun i hi => by rw [if_neg (by omega), f9.L (by omega)]; exact a82 i hi) q9 Fr.rf k9
                                                                ·
                                                                  intro h8 q8 u8 f8 k8
                                                                  have s9 : MshAt h8 k (pCp g π θ ι ξ ν) := msh_els (hs.mv f9) hθ r9 f8 (fun i hi => by rw [q8 i hi]; rfl)
                                                                  have g9 : Fr (k + 1) (k + 17) h h8 := (f9.mono (by omega) (by omega)).tr (f8.mono (by omega) (by omega))
                                                                  refine r_iload C (dx dX7_copy 126 rfl) rfl ?_
                                                                  refine r_iload C (dx dX7_copy 127 rfl) rfl ?_
                                                                  refine rn_ge (a := ν) (b := ν) (tgt := 257) C (by omega) (by omega) (dx dX7_copy 128 rfl) (by decide) (fun c158 => ?_) (fun c158 => ?_)
                                                                  · first
                                                                    | (omega; done)
                                                                    | (
                                                                        have c158 : ν ≤ ν := c158
                                                                        refine r_iload C (dx dX7_copy 143 rfl) rfl ?_
                                                                        have eA : copA g (nI π) (nI θ) (nI ι) (nI ξ) (nI ν) = nI ν := by simp [copA, copG, copF, c1, c3, c111, c113, c115, c138, c141, c143, c145, c147, c149, c151, c153, c157, c158, e01, e11, e21, e31, e41, e51, e61, e02, e12, e22, e32, e42, e52, e62, e72, clN (show π < 2 ^ 31 by omega), clN (show θ < 2 ^ 31 by omega), clN (show ν < 2 ^ 31 by omega), clN (show ι < 2 ^ 31 by omega), clN (show ξ < 2 ^ 31 by omega), inR_nI (show π < 2 ^ 31 by omega), inR_nI (show θ < 2 ^ 31 by omega), inR_nI (show ν < 2 ^ 31 by omega), inR_nI (show ι < 2 ^ 31 by omega), inR_nI (show ξ < 2 ^ 31 by omega), show π < 8 by omega, show θ < 8 by omega, cp_row e31 e32 (by omega) (by omega) (show ι < 2 ^ 31 by omega) (show ξ < 2 ^ 31 by omega) (show ν < 2 ^ 31 by omega), show ι + ν ≤ ν1 by omega, show ξ + ν ≤ ν2 by omega]
                                                                        have eG : copG g (nI π) (nI θ) (nI ι) (nI ξ) (nI ν) = pCp g π θ ι ξ ν := by simp [copA, copG, copF, c1, c3, c111, c113, c115, c138, c141, c143, c145, c147, c149, c151, c153, c157, c158, e01, e11, e21, e31, e41, e51, e61, e02, e12, e22, e32, e42, e52, e62, e72, clN (show π < 2 ^ 31 by omega), clN (show θ < 2 ^ 31 by omega), clN (show ν < 2 ^ 31 by omega), clN (show ι < 2 ^ 31 by omega), clN (show ξ < 2 ^ 31 by omega), inR_nI (show π < 2 ^ 31 by omega), inR_nI (show θ < 2 ^ 31 by omega), inR_nI (show ν < 2 ^ 31 by omega), inR_nI (show ι < 2 ^ 31 by omega), inR_nI (show ξ < 2 ^ 31 by omega), show π < 8 by omega, show θ < 8 by omega, cp_row e31 e32 (by omega) (by omega) (show ι < 2 ^ 31 by omega) (show ξ < 2 ^ 31 by omega) (show ν < 2 ^ 31 by omega), show ι + ν ≤ ν1 by omega, show ξ + ν ≤ ν2 by omega]
                                                                        exact F.1 _ _ _ _ _ rfl rfl (dx dX7_copy 144 rfl) k8 (show some (vi (nI ν)) = some (vi (copA g (nI π) (nI θ) (nI ι) (nI ξ) (nI ν))) ∧ (∃ v', MilAt h8 k v') ∧ MshAt h8 k (copG g (nI π) (nI θ) (nI ι) (nI ξ) (nI ν)) ∧ Ks k h h8 from by rw [eA, eG]; exact ⟨rfl, ⟨_, hm.fr g9 (by omega)⟩, s9, (Ks.fr g9 (by omega) (by omega))⟩))
                                                                  · first
                                                                    | (omega; done)
                                                                ·
                                                                  intro p hp ih h8 q8 u8 f8 k8
                                                                  refine r_iload C (dx dX7_copy 126 rfl) rfl ?_
                                                                  refine r_iload C (dx dX7_copy 127 rfl) rfl ?_
                                                                  refine rn_ge (a := p) (b := ν) (tgt := 257) C (by omega) (by omega) (dx dX7_copy 128 rfl) (by decide) (fun c159 => ?_) (fun c159 => ?_)
                                                                  · first
                                                                    | (omega; done)
                                                                    | (
                                                                        have c159 : ν ≤ p := c159
                                                                        refine r_iload C (dx dX7_copy 143 rfl) rfl ?_
                                                                        have eA : copA g (nI π) (nI θ) (nI ι) (nI ξ) (nI ν) = nI ν := by simp [copA, copG, copF, c1, c3, c111, c113, c115, c138, c141, c143, c145, c147, c149, c151, c153, c157, c159, e01, e11, e21, e31, e41, e51, e61, e02, e12, e22, e32, e42, e52, e62, e72, clN (show π < 2 ^ 31 by omega), clN (show θ < 2 ^ 31 by omega), clN (show ν < 2 ^ 31 by omega), clN (show ι < 2 ^ 31 by omega), clN (show ξ < 2 ^ 31 by omega), inR_nI (show π < 2 ^ 31 by omega), inR_nI (show θ < 2 ^ 31 by omega), inR_nI (show ν < 2 ^ 31 by omega), inR_nI (show ι < 2 ^ 31 by omega), inR_nI (show ξ < 2 ^ 31 by omega), show π < 8 by omega, show θ < 8 by omega, cp_row e31 e32 (by omega) (by omega) (show ι < 2 ^ 31 by omega) (show ξ < 2 ^ 31 by omega) (show ν < 2 ^ 31 by omega), show ι + ν ≤ ν1 by omega, show ξ + ν ≤ ν2 by omega]
                                                                        have eG : copG g (nI π) (nI θ) (nI ι) (nI ξ) (nI ν) = g := by simp [copA, copG, copF, c1, c3, c111, c113, c115, c138, c141, c143, c145, c147, c149, c151, c153, c157, c159, e01, e11, e21, e31, e41, e51, e61, e02, e12, e22, e32, e42, e52, e62, e72, clN (show π < 2 ^ 31 by omega), clN (show θ < 2 ^ 31 by omega), clN (show ν < 2 ^ 31 by omega), clN (show ι < 2 ^ 31 by omega), clN (show ξ < 2 ^ 31 by omega), inR_nI (show π < 2 ^ 31 by omega), inR_nI (show θ < 2 ^ 31 by omega), inR_nI (show ν < 2 ^ 31 by omega), inR_nI (show ι < 2 ^ 31 by omega), inR_nI (show ξ < 2 ^ 31 by omega), show π < 8 by omega, show θ < 8 by omega, cp_row e31 e32 (by omega) (by omega) (show ι < 2 ^ 31 by omega) (show ξ < 2 ^ 31 by omega) (show ν < 2 ^ 31 by omega), show ι + ν ≤ ν1 by omega, show ξ + ν ≤ ν2 by omega]
                                                                        exact F.1 _ _ _ _ _ rfl rfl (dx dX7_copy 144 rfl) k8 (show some (vi (nI ν)) = some (vi (copA g (nI π) (nI θ) (nI ι) (nI ξ) (nI ν))) ∧ (∃ v', MilAt h8 k v') ∧ MshAt h8 k (copG g (nI π) (nI θ) (nI ι) (nI ξ) (nI ν)) ∧ Ks k h h8 from by rw [eA, eG]; exact ⟨rfl, ⟨_, hm⟩, hs, Ks.rf⟩))
                                                                  · first
                                                                    | (omega; done)
                                                                    | (
                                                                        have c159 : p < ν := c159
                                                                        refine r_aload_n C (dx dX7_copy 129 rfl) rfl ?_
                                                                        refine g_X7_21 C (dx dX7_copy 130 rfl) ?_
                                                                        refine r_iload_n C (dx dX7_copy 131 rfl) rfl ?_
                                                                        refine r_aald5 (j := θ) C rfl rfl (by decide) rfl (by omega) (dx dX7_copy 132 rfl) ?_
                                                                        refine r_iload C (dx dX7_copy 133 rfl) rfl ?_
                                                                        refine r_iload C (dx dX7_copy 134 rfl) rfl ?_
                                                                        refine rn_iadd (a := ξ) (b := p) C (dx dX7_copy 135 rfl) ?_
                                                                        refine r_aload_n C (dx dX7_copy 136 rfl) rfl ?_
                                                                        refine g_X7_24 C (dx dX7_copy 137 rfl) ?_
                                                                        refine r_iload C (dx dX7_copy 138 rfl) rfl ?_
                                                                        refine r_lald (j := p) (x := gE g π (ι + p)) C rfl rfl (by decide) rfl (by omega) (dx dX7_copy 139 rfl) (u8 _ (by omega)) ?_
                                                                        refine r_last (j := ξ + p) C rfl rfl (by decide) rfl (by omega) (dx dX7_copy 140 rfl) ?_
                                                                        refine rn_iinc (a := p) (k := 1) (ls' := [(0, vr 7 k), (1, vi (nI π)), (2, vi (nI θ)), (3, vi (nI ι)), (4, vi (nI ξ)), (5, vi (nI ν)), (6, vi (nI (p + 1)))]) C (dx dX7_copy 141 rfl) rfl rfl (by decide) [1, 2, 3, 4, 5, 6, 0] rfl ?_
                                                                        refine r_goto (tgt := 225) C (dx dX7_copy 142 rfl) (by decide) ?_
                                                                        exact ih _ (fun i hi => by rw [sL_at]; exact cp2_step q8 i hi) (fun t ht => by rw [sL_ne (by omega)]; exact u8 t ht) (f8.tr (Fr.sL (by omega) (by omega))) k8))
                                                          · first
                                                            | (omega; done)
                                                            | (
                                                                have c157 : p < ν := c157
                                                                refine r_aload_n C (dx dX7_copy 110 rfl) rfl ?_
                                                                refine g_X7_24 C (dx dX7_copy 111 rfl) ?_
                                                                refine r_iload C (dx dX7_copy 112 rfl) rfl ?_
                                                                refine r_aload_n C (dx dX7_copy 113 rfl) rfl ?_
                                                                refine g_X7_21 C (dx dX7_copy 114 rfl) ?_
                                                                refine r_iload_n C (dx dX7_copy 115 rfl) rfl ?_
                                                                refine r_aald5 (j := π) C rfl rfl (by decide) rfl (by omega) (dx dX7_copy 116 rfl) ?_
                                                                refine r_iload_n C (dx dX7_copy 117 rfl) rfl ?_
                                                                refine r_iload C (dx dX7_copy 118 rfl) rfl ?_
                                                                refine rn_iadd (a := ι) (b := p) C (dx dX7_copy 119 rfl) ?_
                                                                refine r_lald (j := ι + p) (x := gE g π (ι + p)) C rfl rfl (by decide) rfl (by omega) (dx dX7_copy 120 rfl) ((f9.L (by omega) _).trans (a81 _ (by omega))) ?_
                                                                refine r_last (j := p) C rfl rfl (by decide) rfl (by omega) (dx dX7_copy 121 rfl) ?_
                                                                refine rn_iinc (a := p) (k := 1) (ls' := [(0, vr 7 k), (1, vi (nI π)), (2, vi (nI θ)), (3, vi (nI ι)), (4, vi (nI ξ)), (5, vi (nI ν)), (6, vi (nI (p + 1)))]) C (dx dX7_copy 122 rfl) rfl rfl (by decide) [1, 2, 3, 4, 5, 6, 0] rfl ?_
                                                                refine r_goto (tgt := 191) C (dx dX7_copy 123 rfl) (by decide) ?_
                                                                exact ih _ (fun t ht => by rw [sL_at]; split; (next e => rw [e]); exact q9 t (by omega)) (f9.tr (Fr.sL (by omega) (by omega))) k9)
                                                      ·
                                                        have c153 : ¬ nI ξ ≤ (xI h (k + 3) θ) - (nI ν) := c153
                                                        refine r_aload_n C (dx dX7_copy 101 rfl) rfl ?_
                                                        refine r_bipush (v := -2) C (dx dX7_copy 102 rfl) rfl ?_
                                                        refine r_cv (as := [vi (-2)]) (st := []) C X I_X7_refuse l_X7_83 (c_X7_refuse hm (x := -2) (j := 2) (by decide) (by decide)) (by decide) (Nat.le_of_ble_eq_true rfl) List.prefix_rfl List.prefix_rfl rfl rfl (Nat.le_of_ble_eq_true rfl) rfl (dx dX7_copy 103 rfl) ?_
                                                        rintro _ h160 ⟨rfl, ⟨wh160, m9h160, s9h160⟩, qh160⟩ kkh160
                                                        obtain ⟨vh160, mh160, zh160⟩ : ∃ v9, MilAt h160 k v9 ∧ Sz v v9 := ⟨_, m9h160, s9h160⟩
                                                        have ph160 : Kp k h h160 := qh160
                                                        have kh160 : xK h160 = xK h := kkh160
                                                        obtain ⟨ah160, bh160, ch160⟩ := zh160
                                                        have eA : copA g (nI π) (nI θ) (nI ι) (nI ξ) (nI ν) = -2 := by (have hq : ¬ (ι + ν ≤ ν1 ∧ ξ + ν ≤ ν2) := by omega); (have hq2 := cp_row e31 e32 (i := ι) (j := ξ) (n := ν) (by omega) (by omega) (by omega) (by omega) (by omega)); rw [decide_eq_false hq] at hq2; simp [copA, copG, copF, c1, c3, c111, c113, c115, c138, c141, c143, c145, c147, c149, c151, c153, e01, e11, e21, e31, e41, e51, e61, e02, e12, e22, e32, e42, e52, e62, e72, clN (show π < 2 ^ 31 by omega), clN (show θ < 2 ^ 31 by omega), clN (show ν < 2 ^ 31 by omega), clN (show ι < 2 ^ 31 by omega), clN (show ξ < 2 ^ 31 by omega), inR_nI (show π < 2 ^ 31 by omega), inR_nI (show θ < 2 ^ 31 by omega), inR_nI (show ν < 2 ^ 31 by omega), inR_nI (show ι < 2 ^ 31 by omega), inR_nI (show ξ < 2 ^ 31 by omega), hq2, show π < 8 by omega, show θ < 8 by omega]
                                                        have eG : copG g (nI π) (nI θ) (nI ι) (nI ξ) (nI ν) = g := by (have hq : ¬ (ι + ν ≤ ν1 ∧ ξ + ν ≤ ν2) := by omega); (have hq2 := cp_row e31 e32 (i := ι) (j := ξ) (n := ν) (by omega) (by omega) (by omega) (by omega) (by omega)); rw [decide_eq_false hq] at hq2; simp [copA, copG, copF, c1, c3, c111, c113, c115, c138, c141, c143, c145, c147, c149, c151, c153, e01, e11, e21, e31, e41, e51, e61, e02, e12, e22, e32, e42, e52, e62, e72, clN (show π < 2 ^ 31 by omega), clN (show θ < 2 ^ 31 by omega), clN (show ν < 2 ^ 31 by omega), clN (show ι < 2 ^ 31 by omega), clN (show ξ < 2 ^ 31 by omega), inR_nI (show π < 2 ^ 31 by omega), inR_nI (show θ < 2 ^ 31 by omega), inR_nI (show ν < 2 ^ 31 by omega), inR_nI (show ι < 2 ^ 31 by omega), inR_nI (show ξ < 2 ^ 31 by omega), hq2, show π < 8 by omega, show θ < 8 by omega]
                                                        exact F.1 _ _ _ _ _ rfl rfl (dx dX7_copy 104 rfl) kh160 (show some (vi (-2)) = some (vi (copA g (nI π) (nI θ) (nI ι) (nI ξ) (nI ν))) ∧ (∃ v', MilAt h160 k v') ∧ MshAt h160 k (copG g (nI π) (nI θ) (nI ι) (nI ξ) (nI ν)) ∧ Ks k h h160 from by rw [eA, eG]; exact ⟨rfl, ⟨_, mh160⟩, hs.kp ph160, ph160.ks⟩))))
                            · first
                              | (omega; done)
                              | (
                                  have c138 : 2 = 1 := c138
                                  refine r_aload_n C (dx dX7_copy 40 rfl) rfl ?_
                                  refine g_X7_13 C (dx dX7_copy 41 rfl) ?_
                                  refine r_iload_n C (dx dX7_copy 42 rfl) rfl ?_
                                  refine r_iald (j := π) (x := nI τ1) C rfl rfl (by decide) rfl (by omega) (dx dX7_copy 43 rfl) a41 ?_
                                  refine r_aload_n C (dx dX7_copy 44 rfl) rfl ?_
                                  refine g_X7_13 C (dx dX7_copy 45 rfl) ?_
                                  refine r_iload_n C (dx dX7_copy 46 rfl) rfl ?_
                                  refine r_iald (j := θ) (x := xI h (k + 2) θ) C rfl rfl (by decide) rfl (by omega) (dx dX7_copy 47 rfl) rfl ?_
                                  refine r_icmp_eq (tgt := 93) C (dx dX7_copy 48 rfl) (by decide) (fun c161 => ?_) (fun c161 => ?_)
                                  ·
                                    have c161 : nI τ1 = xI h (k + 2) θ := c161
                                    refine r_aload_n C (dx dX7_copy 53 rfl) rfl ?_
                                    refine g_X7_7 C (dx dX7_copy 54 rfl) ?_
                                    refine r_iload_n C (dx dX7_copy 55 rfl) rfl ?_
                                    refine r_iald (j := π) (x := nI 1) C rfl rfl (by decide) rfl (by omega) (dx dX7_copy 56 rfl) a31 ?_
                                    refine r_if_eq (tgt := 111) C (dx dX7_copy 57 rfl) (by decide) (fun c162 => (show False from by revert c162; decide).elim) (fun _ => ?_)
                                    refine r_aload_n C (dx dX7_copy 58 rfl) rfl ?_
                                    refine g_X7_7 C (dx dX7_copy 59 rfl) ?_
                                    refine r_iload_n C (dx dX7_copy 60 rfl) rfl ?_
                                    refine r_iald (j := θ) (x := nI 2) C rfl rfl (by decide) rfl (by omega) (dx dX7_copy 61 rfl) a42 ?_
                                    refine r_if_ne (tgt := 118) C (dx dX7_copy 62 rfl) (by decide) (fun _ => ?_) (fun c163 => (show False from by revert c163; decide).elim)
                                    refine r_iload C (dx dX7_copy 67 rfl) rfl ?_
                                    refine r_if_lt (tgt := 181) C (dx dX7_copy 68 rfl) (by decide) (fun c164 => ?_) (fun c164 => ?_)
                                    ·
                                      have c164 : n < 0 := c164
                                      refine r_aload_n C (dx dX7_copy 101 rfl) rfl ?_
                                      refine r_bipush (v := -2) C (dx dX7_copy 102 rfl) rfl ?_
                                      refine r_cv (as := [vi (-2)]) (st := []) C X I_X7_refuse l_X7_83 (c_X7_refuse hm (x := -2) (j := 2) (by decide) (by decide)) (by decide) (Nat.le_of_ble_eq_true rfl) List.prefix_rfl List.prefix_rfl rfl rfl (Nat.le_of_ble_eq_true rfl) rfl (dx dX7_copy 103 rfl) ?_
                                      rintro _ h165 ⟨rfl, ⟨wh165, m9h165, s9h165⟩, qh165⟩ kkh165
                                      obtain ⟨vh165, mh165, zh165⟩ : ∃ v9, MilAt h165 k v9 ∧ Sz v v9 := ⟨_, m9h165, s9h165⟩
                                      have ph165 : Kp k h h165 := qh165
                                      have kh165 : xK h165 = xK h := kkh165
                                      obtain ⟨ah165, bh165, ch165⟩ := zh165
                                      have eA : copA g (nI π) (nI θ) i j n = -2 := by simp [copA, copG, copF, cpOk, c1, c3, c111, c113, c115, c138, c161, (fun n9 => inR_neg (n := n9) c164 : ∀ n9, inR n n9 = false), c164, e01, e11, e21, e31, e41, e51, e61, e02, e12, e22, e32, e42, e52, e62, e72, clN (show π < 2 ^ 31 by omega), clN (show θ < 2 ^ 31 by omega), inR_nI (show π < 2 ^ 31 by omega), inR_nI (show θ < 2 ^ 31 by omega), show π < 8 by omega, show θ < 8 by omega]
                                      have eG : copG g (nI π) (nI θ) i j n = g := by simp [copA, copG, copF, cpOk, c1, c3, c111, c113, c115, c138, c161, (fun n9 => inR_neg (n := n9) c164 : ∀ n9, inR n n9 = false), c164, e01, e11, e21, e31, e41, e51, e61, e02, e12, e22, e32, e42, e52, e62, e72, clN (show π < 2 ^ 31 by omega), clN (show θ < 2 ^ 31 by omega), inR_nI (show π < 2 ^ 31 by omega), inR_nI (show θ < 2 ^ 31 by omega), show π < 8 by omega, show θ < 8 by omega]
                                      exact F.1 _ _ _ _ _ rfl rfl (dx dX7_copy 104 rfl) kh165 (show some (vi (-2)) = some (vi (copA g (nI π) (nI θ) i j n)) ∧ (∃ v', MilAt h165 k v') ∧ MshAt h165 k (copG g (nI π) (nI θ) i j n) ∧ Ks k h h165 from by rw [eA, eG]; exact ⟨rfl, ⟨_, mh165⟩, hs.kp ph165, ph165.ks⟩)
                                    ·
                                      have c164 : ¬ n < 0 := c164
                                      obtain ⟨ν, hν, rfl⟩ := nI_of c164
                                      refine r_iload_n C (dx dX7_copy 69 rfl) rfl ?_
                                      refine r_if_lt (tgt := 181) C (dx dX7_copy 70 rfl) (by decide) (fun c166 => ?_) (fun c166 => ?_)
                                      ·
                                        have c166 : i < 0 := c166
                                        refine r_aload_n C (dx dX7_copy 101 rfl) rfl ?_
                                        refine r_bipush (v := -2) C (dx dX7_copy 102 rfl) rfl ?_
                                        refine r_cv (as := [vi (-2)]) (st := []) C X I_X7_refuse l_X7_83 (c_X7_refuse hm (x := -2) (j := 2) (by decide) (by decide)) (by decide) (Nat.le_of_ble_eq_true rfl) List.prefix_rfl List.prefix_rfl rfl rfl (Nat.le_of_ble_eq_true rfl) rfl (dx dX7_copy 103 rfl) ?_
                                        rintro _ h167 ⟨rfl, ⟨wh167, m9h167, s9h167⟩, qh167⟩ kkh167
                                        obtain ⟨vh167, mh167, zh167⟩ : ∃ v9, MilAt h167 k v9 ∧ Sz v v9 := ⟨_, m9h167, s9h167⟩
                                        have ph167 : Kp k h h167 := qh167
                                        have kh167 : xK h167 = xK h := kkh167
                                        obtain ⟨ah167, bh167, ch167⟩ := zh167
                                        have eA : copA g (nI π) (nI θ) i j (nI ν) = -2 := by simp [copA, copG, copF, cpOk, c1, c3, c111, c113, c115, c138, c161, c164, (fun n9 => inR_neg (n := n9) c166 : ∀ n9, inR i n9 = false), c166, e01, e11, e21, e31, e41, e51, e61, e02, e12, e22, e32, e42, e52, e62, e72, clN (show π < 2 ^ 31 by omega), clN (show θ < 2 ^ 31 by omega), clN (show ν < 2 ^ 31 by omega), inR_nI (show π < 2 ^ 31 by omega), inR_nI (show θ < 2 ^ 31 by omega), inR_nI (show ν < 2 ^ 31 by omega), show π < 8 by omega, show θ < 8 by omega]
                                        have eG : copG g (nI π) (nI θ) i j (nI ν) = g := by simp [copA, copG, copF, cpOk, c1, c3, c111, c113, c115, c138, c161, c164, (fun n9 => inR_neg (n := n9) c166 : ∀ n9, inR i n9 = false), c166, e01, e11, e21, e31, e41, e51, e61, e02, e12, e22, e32, e42, e52, e62, e72, clN (show π < 2 ^ 31 by omega), clN (show θ < 2 ^ 31 by omega), clN (show ν < 2 ^ 31 by omega), inR_nI (show π < 2 ^ 31 by omega), inR_nI (show θ < 2 ^ 31 by omega), inR_nI (show ν < 2 ^ 31 by omega), show π < 8 by omega, show θ < 8 by omega]
                                        exact F.1 _ _ _ _ _ rfl rfl (dx dX7_copy 104 rfl) kh167 (show some (vi (-2)) = some (vi (copA g (nI π) (nI θ) i j (nI ν))) ∧ (∃ v', MilAt h167 k v') ∧ MshAt h167 k (copG g (nI π) (nI θ) i j (nI ν)) ∧ Ks k h h167 from by rw [eA, eG]; exact ⟨rfl, ⟨_, mh167⟩, hs.kp ph167, ph167.ks⟩)
                                      ·
                                        have c166 : ¬ i < 0 := c166
                                        obtain ⟨ι, hι, rfl⟩ := nI_of c166
                                        refine r_iload C (dx dX7_copy 71 rfl) rfl ?_
                                        refine r_if_lt (tgt := 181) C (dx dX7_copy 72 rfl) (by decide) (fun c168 => ?_) (fun c168 => ?_)
                                        ·
                                          have c168 : j < 0 := c168
                                          refine r_aload_n C (dx dX7_copy 101 rfl) rfl ?_
                                          refine r_bipush (v := -2) C (dx dX7_copy 102 rfl) rfl ?_
                                          refine r_cv (as := [vi (-2)]) (st := []) C X I_X7_refuse l_X7_83 (c_X7_refuse hm (x := -2) (j := 2) (by decide) (by decide)) (by decide) (Nat.le_of_ble_eq_true rfl) List.prefix_rfl List.prefix_rfl rfl rfl (Nat.le_of_ble_eq_true rfl) rfl (dx dX7_copy 103 rfl) ?_
                                          rintro _ h169 ⟨rfl, ⟨wh169, m9h169, s9h169⟩, qh169⟩ kkh169
                                          obtain ⟨vh169, mh169, zh169⟩ : ∃ v9, MilAt h169 k v9 ∧ Sz v v9 := ⟨_, m9h169, s9h169⟩
                                          have ph169 : Kp k h h169 := qh169
                                          have kh169 : xK h169 = xK h := kkh169
                                          obtain ⟨ah169, bh169, ch169⟩ := zh169
                                          have eA : copA g (nI π) (nI θ) (nI ι) j (nI ν) = -2 := by simp [copA, copG, copF, cpOk, c1, c3, c111, c113, c115, c138, c161, c164, c166, (fun n9 => inR_neg (n := n9) c168 : ∀ n9, inR j n9 = false), c168, e01, e11, e21, e31, e41, e51, e61, e02, e12, e22, e32, e42, e52, e62, e72, clN (show π < 2 ^ 31 by omega), clN (show θ < 2 ^ 31 by omega), clN (show ν < 2 ^ 31 by omega), clN (show ι < 2 ^ 31 by omega), inR_nI (show π < 2 ^ 31 by omega), inR_nI (show θ < 2 ^ 31 by omega), inR_nI (show ν < 2 ^ 31 by omega), inR_nI (show ι < 2 ^ 31 by omega), show π < 8 by omega, show θ < 8 by omega]
                                          have eG : copG g (nI π) (nI θ) (nI ι) j (nI ν) = g := by simp [copA, copG, copF, cpOk, c1, c3, c111, c113, c115, c138, c161, c164, c166, (fun n9 => inR_neg (n := n9) c168 : ∀ n9, inR j n9 = false), c168, e01, e11, e21, e31, e41, e51, e61, e02, e12, e22, e32, e42, e52, e62, e72, clN (show π < 2 ^ 31 by omega), clN (show θ < 2 ^ 31 by omega), clN (show ν < 2 ^ 31 by omega), clN (show ι < 2 ^ 31 by omega), inR_nI (show π < 2 ^ 31 by omega), inR_nI (show θ < 2 ^ 31 by omega), inR_nI (show ν < 2 ^ 31 by omega), inR_nI (show ι < 2 ^ 31 by omega), show π < 8 by omega, show θ < 8 by omega]
                                          exact F.1 _ _ _ _ _ rfl rfl (dx dX7_copy 104 rfl) kh169 (show some (vi (-2)) = some (vi (copA g (nI π) (nI θ) (nI ι) j (nI ν))) ∧ (∃ v', MilAt h169 k v') ∧ MshAt h169 k (copG g (nI π) (nI θ) (nI ι) j (nI ν)) ∧ Ks k h h169 from by rw [eA, eG]; exact ⟨rfl, ⟨_, mh169⟩, hs.kp ph169, ph169.ks⟩)
                                        ·
                                          have c168 : ¬ j < 0 := c168
                                          obtain ⟨ξ, hξ, rfl⟩ := nI_of c168
                                          refine r_iload C (dx dX7_copy 73 rfl) rfl ?_
                                          refine r_aload_n C (dx dX7_copy 74 rfl) rfl ?_
                                          refine g_X7_16 C (dx dX7_copy 75 rfl) ?_
                                          refine r_iload_n C (dx dX7_copy 76 rfl) rfl ?_
                                          refine r_iald (j := π) (x := nI ν1) C rfl rfl (by decide) rfl (by omega) (dx dX7_copy 77 rfl) a51 ?_
                                          refine rn_gt (a := ν) (b := ν1) (tgt := 181) C (by omega) (by omega) (dx dX7_copy 78 rfl) (by decide) (fun c170 => ?_) (fun c170 => ?_)
                                          · first
                                            | (omega; done)
                                            | (
                                                have c170 : ν1 < ν := c170
                                                refine r_aload_n C (dx dX7_copy 101 rfl) rfl ?_
                                                refine r_bipush (v := -2) C (dx dX7_copy 102 rfl) rfl ?_
                                                refine r_cv (as := [vi (-2)]) (st := []) C X I_X7_refuse l_X7_83 (c_X7_refuse hm (x := -2) (j := 2) (by decide) (by decide)) (by decide) (Nat.le_of_ble_eq_true rfl) List.prefix_rfl List.prefix_rfl rfl rfl (Nat.le_of_ble_eq_true rfl) rfl (dx dX7_copy 103 rfl) ?_
                                                rintro _ h171 ⟨rfl, ⟨wh171, m9h171, s9h171⟩, qh171⟩ kkh171
                                                obtain ⟨vh171, mh171, zh171⟩ : ∃ v9, MilAt h171 k v9 ∧ Sz v v9 := ⟨_, m9h171, s9h171⟩
                                                have ph171 : Kp k h h171 := qh171
                                                have kh171 : xK h171 = xK h := kkh171
                                                obtain ⟨ah171, bh171, ch171⟩ := zh171
                                                have eA : copA g (nI π) (nI θ) (nI ι) (nI ξ) (nI ν) = -2 := by (have hq : ¬ (ι + ν ≤ ν1 ∧ ξ + ν ≤ ν2) := by omega); (have hq2 := cp_row e31 e32 (i := ι) (j := ξ) (n := ν) (by omega) (by omega) (by omega) (by omega) (by omega)); rw [decide_eq_false hq] at hq2; simp [copA, copG, copF, c1, c3, c111, c113, c115, c138, c161, c164, c166, c168, c170, e01, e11, e21, e31, e41, e51, e61, e02, e12, e22, e32, e42, e52, e62, e72, clN (show π < 2 ^ 31 by omega), clN (show θ < 2 ^ 31 by omega), clN (show ν < 2 ^ 31 by omega), clN (show ι < 2 ^ 31 by omega), clN (show ξ < 2 ^ 31 by omega), inR_nI (show π < 2 ^ 31 by omega), inR_nI (show θ < 2 ^ 31 by omega), inR_nI (show ν < 2 ^ 31 by omega), inR_nI (show ι < 2 ^ 31 by omega), inR_nI (show ξ < 2 ^ 31 by omega), hq2, show π < 8 by omega, show θ < 8 by omega]
                                                have eG : copG g (nI π) (nI θ) (nI ι) (nI ξ) (nI ν) = g := by (have hq : ¬ (ι + ν ≤ ν1 ∧ ξ + ν ≤ ν2) := by omega); (have hq2 := cp_row e31 e32 (i := ι) (j := ξ) (n := ν) (by omega) (by omega) (by omega) (by omega) (by omega)); rw [decide_eq_false hq] at hq2; simp [copA, copG, copF, c1, c3, c111, c113, c115, c138, c161, c164, c166, c168, c170, e01, e11, e21, e31, e41, e51, e61, e02, e12, e22, e32, e42, e52, e62, e72, clN (show π < 2 ^ 31 by omega), clN (show θ < 2 ^ 31 by omega), clN (show ν < 2 ^ 31 by omega), clN (show ι < 2 ^ 31 by omega), clN (show ξ < 2 ^ 31 by omega), inR_nI (show π < 2 ^ 31 by omega), inR_nI (show θ < 2 ^ 31 by omega), inR_nI (show ν < 2 ^ 31 by omega), inR_nI (show ι < 2 ^ 31 by omega), inR_nI (show ξ < 2 ^ 31 by omega), hq2, show π < 8 by omega, show θ < 8 by omega]
                                                exact F.1 _ _ _ _ _ rfl rfl (dx dX7_copy 104 rfl) kh171 (show some (vi (-2)) = some (vi (copA g (nI π) (nI θ) (nI ι) (nI ξ) (nI ν))) ∧ (∃ v', MilAt h171 k v') ∧ MshAt h171 k (copG g (nI π) (nI θ) (nI ι) (nI ξ) (nI ν)) ∧ Ks k h h171 from by rw [eA, eG]; exact ⟨rfl, ⟨_, mh171⟩, hs.kp ph171, ph171.ks⟩))
                                          · first
                                            | (omega; done)
                                            | (
                                                have c170 : ν ≤ ν1 := c170
                                                refine r_iload C (dx dX7_copy 79 rfl) rfl ?_
                                                refine r_aload_n C (dx dX7_copy 80 rfl) rfl ?_
                                                refine g_X7_16 C (dx dX7_copy 81 rfl) ?_
                                                refine r_iload_n C (dx dX7_copy 82 rfl) rfl ?_
                                                refine r_iald (j := θ) (x := xI h (k + 3) θ) C rfl rfl (by decide) rfl (by omega) (dx dX7_copy 83 rfl) rfl ?_
                                                refine r_icmp_gt (tgt := 181) C (dx dX7_copy 84 rfl) (by decide) (fun c172 => ?_) (fun c172 => ?_)
                                                ·
                                                  have c172 : xI h (k + 3) θ < nI ν := c172
                                                  refine r_aload_n C (dx dX7_copy 101 rfl) rfl ?_
                                                  refine r_bipush (v := -2) C (dx dX7_copy 102 rfl) rfl ?_
                                                  refine r_cv (as := [vi (-2)]) (st := []) C X I_X7_refuse l_X7_83 (c_X7_refuse hm (x := -2) (j := 2) (by decide) (by decide)) (by decide) (Nat.le_of_ble_eq_true rfl) List.prefix_rfl List.prefix_rfl rfl rfl (Nat.le_of_ble_eq_true rfl) rfl (dx dX7_copy 103 rfl) ?_
                                                  rintro _ h173 ⟨rfl, ⟨wh173, m9h173, s9h173⟩, qh173⟩ kkh173
                                                  obtain ⟨vh173, mh173, zh173⟩ : ∃ v9, MilAt h173 k v9 ∧ Sz v v9 := ⟨_, m9h173, s9h173⟩
                                                  have ph173 : Kp k h h173 := qh173
                                                  have kh173 : xK h173 = xK h := kkh173
                                                  obtain ⟨ah173, bh173, ch173⟩ := zh173
                                                  have eA : copA g (nI π) (nI θ) (nI ι) (nI ξ) (nI ν) = -2 := by (have hq : ¬ (ι + ν ≤ ν1 ∧ ξ + ν ≤ ν2) := by omega); (have hq2 := cp_row e31 e32 (i := ι) (j := ξ) (n := ν) (by omega) (by omega) (by omega) (by omega) (by omega)); rw [decide_eq_false hq] at hq2; simp [copA, copG, copF, c1, c3, c111, c113, c115, c138, c161, c164, c166, c168, c170, c172, e01, e11, e21, e31, e41, e51, e61, e02, e12, e22, e32, e42, e52, e62, e72, clN (show π < 2 ^ 31 by omega), clN (show θ < 2 ^ 31 by omega), clN (show ν < 2 ^ 31 by omega), clN (show ι < 2 ^ 31 by omega), clN (show ξ < 2 ^ 31 by omega), inR_nI (show π < 2 ^ 31 by omega), inR_nI (show θ < 2 ^ 31 by omega), inR_nI (show ν < 2 ^ 31 by omega), inR_nI (show ι < 2 ^ 31 by omega), inR_nI (show ξ < 2 ^ 31 by omega), hq2, show π < 8 by omega, show θ < 8 by omega]
                                                  have eG : copG g (nI π) (nI θ) (nI ι) (nI ξ) (nI ν) = g := by (have hq : ¬ (ι + ν ≤ ν1 ∧ ξ + ν ≤ ν2) := by omega); (have hq2 := cp_row e31 e32 (i := ι) (j := ξ) (n := ν) (by omega) (by omega) (by omega) (by omega) (by omega)); rw [decide_eq_false hq] at hq2; simp [copA, copG, copF, c1, c3, c111, c113, c115, c138, c161, c164, c166, c168, c170, c172, e01, e11, e21, e31, e41, e51, e61, e02, e12, e22, e32, e42, e52, e62, e72, clN (show π < 2 ^ 31 by omega), clN (show θ < 2 ^ 31 by omega), clN (show ν < 2 ^ 31 by omega), clN (show ι < 2 ^ 31 by omega), clN (show ξ < 2 ^ 31 by omega), inR_nI (show π < 2 ^ 31 by omega), inR_nI (show θ < 2 ^ 31 by omega), inR_nI (show ν < 2 ^ 31 by omega), inR_nI (show ι < 2 ^ 31 by omega), inR_nI (show ξ < 2 ^ 31 by omega), hq2, show π < 8 by omega, show θ < 8 by omega]
                                                  exact F.1 _ _ _ _ _ rfl rfl (dx dX7_copy 104 rfl) kh173 (show some (vi (-2)) = some (vi (copA g (nI π) (nI θ) (nI ι) (nI ξ) (nI ν))) ∧ (∃ v', MilAt h173 k v') ∧ MshAt h173 k (copG g (nI π) (nI θ) (nI ι) (nI ξ) (nI ν)) ∧ Ks k h h173 from by rw [eA, eG]; exact ⟨rfl, ⟨_, mh173⟩, hs.kp ph173, ph173.ks⟩)
                                                ·
                                                  have c172 : ¬ xI h (k + 3) θ < nI ν := c172
                                                  refine r_iload_n C (dx dX7_copy 85 rfl) rfl ?_
                                                  refine r_aload_n C (dx dX7_copy 86 rfl) rfl ?_
                                                  refine g_X7_16 C (dx dX7_copy 87 rfl) ?_
                                                  refine r_iload_n C (dx dX7_copy 88 rfl) rfl ?_
                                                  refine r_iald (j := π) (x := nI ν1) C rfl rfl (by decide) rfl (by omega) (dx dX7_copy 89 rfl) a51 ?_
                                                  refine r_iload C (dx dX7_copy 90 rfl) rfl ?_
                                                  refine rn_isub (a := ν1) (b := ν) C (by omega) (dx dX7_copy 91 rfl) ?_
                                                  refine rn_gt (a := ι) (b := ν1 - ν) (tgt := 181) C (by omega) (by omega) (dx dX7_copy 92 rfl) (by decide) (fun c174 => ?_) (fun c174 => ?_)
                                                  · first
                                                    | (omega; done)
                                                    | (
                                                        have c174 : ν1 - ν < ι := c174
                                                        refine r_aload_n C (dx dX7_copy 101 rfl) rfl ?_
                                                        refine r_bipush (v := -2) C (dx dX7_copy 102 rfl) rfl ?_
                                                        refine r_cv (as := [vi (-2)]) (st := []) C X I_X7_refuse l_X7_83 (c_X7_refuse hm (x := -2) (j := 2) (by decide) (by decide)) (by decide) (Nat.le_of_ble_eq_true rfl) List.prefix_rfl List.prefix_rfl rfl rfl (Nat.le_of_ble_eq_true rfl) rfl (dx dX7_copy 103 rfl) ?_
                                                        rintro _ h175 ⟨rfl, ⟨wh175, m9h175, s9h175⟩, qh175⟩ kkh175
                                                        obtain ⟨vh175, mh175, zh175⟩ : ∃ v9, MilAt h175 k v9 ∧ Sz v v9 := ⟨_, m9h175, s9h175⟩
                                                        have ph175 : Kp k h h175 := qh175
                                                        have kh175 : xK h175 = xK h := kkh175
                                                        obtain ⟨ah175, bh175, ch175⟩ := zh175
                                                        have eA : copA g (nI π) (nI θ) (nI ι) (nI ξ) (nI ν) = -2 := by (have hq : ¬ (ι + ν ≤ ν1 ∧ ξ + ν ≤ ν2) := by omega); (have hq2 := cp_row e31 e32 (i := ι) (j := ξ) (n := ν) (by omega) (by omega) (by omega) (by omega) (by omega)); rw [decide_eq_false hq] at hq2; simp [copA, copG, copF, c1, c3, c111, c113, c115, c138, c161, c164, c166, c168, c170, c172, c174, e01, e11, e21, e31, e41, e51, e61, e02, e12, e22, e32, e42, e52, e62, e72, clN (show π < 2 ^ 31 by omega), clN (show θ < 2 ^ 31 by omega), clN (show ν < 2 ^ 31 by omega), clN (show ι < 2 ^ 31 by omega), clN (show ξ < 2 ^ 31 by omega), inR_nI (show π < 2 ^ 31 by omega), inR_nI (show θ < 2 ^ 31 by omega), inR_nI (show ν < 2 ^ 31 by omega), inR_nI (show ι < 2 ^ 31 by omega), inR_nI (show ξ < 2 ^ 31 by omega), hq2, show π < 8 by omega, show θ < 8 by omega]
                                                        have eG : copG g (nI π) (nI θ) (nI ι) (nI ξ) (nI ν) = g := by (have hq : ¬ (ι + ν ≤ ν1 ∧ ξ + ν ≤ ν2) := by omega); (have hq2 := cp_row e31 e32 (i := ι) (j := ξ) (n := ν) (by omega) (by omega) (by omega) (by omega) (by omega)); rw [decide_eq_false hq] at hq2; simp [copA, copG, copF, c1, c3, c111, c113, c115, c138, c161, c164, c166, c168, c170, c172, c174, e01, e11, e21, e31, e41, e51, e61, e02, e12, e22, e32, e42, e52, e62, e72, clN (show π < 2 ^ 31 by omega), clN (show θ < 2 ^ 31 by omega), clN (show ν < 2 ^ 31 by omega), clN (show ι < 2 ^ 31 by omega), clN (show ξ < 2 ^ 31 by omega), inR_nI (show π < 2 ^ 31 by omega), inR_nI (show θ < 2 ^ 31 by omega), inR_nI (show ν < 2 ^ 31 by omega), inR_nI (show ι < 2 ^ 31 by omega), inR_nI (show ξ < 2 ^ 31 by omega), hq2, show π < 8 by omega, show θ < 8 by omega]
                                                        exact F.1 _ _ _ _ _ rfl rfl (dx dX7_copy 104 rfl) kh175 (show some (vi (-2)) = some (vi (copA g (nI π) (nI θ) (nI ι) (nI ξ) (nI ν))) ∧ (∃ v', MilAt h175 k v') ∧ MshAt h175 k (copG g (nI π) (nI θ) (nI ι) (nI ξ) (nI ν)) ∧ Ks k h h175 from by rw [eA, eG]; exact ⟨rfl, ⟨_, mh175⟩, hs.kp ph175, ph175.ks⟩))
                                                  · first
                                                    | (omega; done)
                                                    | (
                                                        have c174 : ι ≤ ν1 - ν := c174
                                                        refine r_iload C (dx dX7_copy 93 rfl) rfl ?_
                                                        refine r_aload_n C (dx dX7_copy 94 rfl) rfl ?_
                                                        refine g_X7_16 C (dx dX7_copy 95 rfl) ?_
                                                        refine r_iload_n C (dx dX7_copy 96 rfl) rfl ?_
                                                        refine r_iald (j := θ) (x := xI h (k + 3) θ) C rfl rfl (by decide) rfl (by omega) (dx dX7_copy 97 rfl) rfl ?_
                                                        refine r_iload C (dx dX7_copy 98 rfl) rfl ?_
                                                        refine r_isub C (dx dX7_copy 99 rfl) ?_
                                                        refine r_icmp_le (tgt := 188) C (dx dX7_copy 100 rfl) (by decide) (fun c176 => ?_) (fun c176 => ?_)
                                                        ·
                                                          have c176 : nI ξ ≤ (xI h (k + 3) θ) - (nI ν) := c176
                                                          refine r_iconst (v := nI 0) C (dx dX7_copy 105 rfl) rfl ?_
                                                          refine r_istore (ls' := [(0, vr 7 k), (1, vi (nI π)), (2, vi (nI θ)), (3, vi (nI ι)), (4, vi (nI ξ)), (5, vi (nI ν)), (6, vi (nI 0))]) C (dx dX7_copy 106 rfl) (by decide) [1, 2, 3, 4, 5, 6, 0] rfl ?_
                                                          refine loopU (Φ := fun p => ∀ h9, (∀ t, t < p → xL h9 (k + 13) t = gE g π (ι + t)) → Fr (k + 13) (k + 14) h h9 → xK h9 = xK h → Rr G 191 [(0, vr 7 k), (1, vi (nI π)), (2, vi (nI θ)), (3, vi (nI ι)), (4, vi (nI ξ)), (5, vi (nI ν)), (6, vi (nI p))] [] h9) (N := ν) ?_ ?_ 0 (by omega) _ (fun i hi => absurd hi (by omega)) Fr.rf rfl
                                                          ·
                                                            intro h9 q9 f9 k9
                                                            refine r_iload C (dx dX7_copy 107 rfl) rfl ?_
                                                            refine r_iload C (dx dX7_copy 108 rfl) rfl ?_
                                                            refine rn_ge (a := ν) (b := ν) (tgt := 222) C (by omega) (by omega) (dx dX7_copy 109 rfl) (by decide) (fun c177 => ?_) (fun c177 => ?_)
                                                            · first
                                                              | (omega; done)
                                                              | (
                                                                  have c177 : ν ≤ ν := c177
                                                                  refine r_iconst (v := nI 0) C (dx dX7_copy 124 rfl) rfl ?_
                                                                  refine r_istore (ls' := [(0, vr 7 k), (1, vi (nI π)), (2, vi (nI θ)), (3, vi (nI ι)), (4, vi (nI ξ)), (5, vi (nI ν)), (6, vi (nI 0))]) C (dx dX7_copy 125 rfl) (by decide) [1, 2, 3, 4, 5, 6, 0] rfl ?_
                                                                  have r9 := MsR.fr (show MsR h k g θ from ⟨_, _, a12, a22, a32, a42, a52, a62, a72, a82⟩) hθ f9
                                                                  refine loopU (Φ := fun p => ∀ h8, (∀ i, i < 40 → xL h8 (k + 5 + θ) i = if ξ ≤ i ∧ i < ξ + p then gE g π (ι + (i - ξ)) else gE g θ i) → (∀ t, t < ν → xL h8 (k + 13) t = gE g π (ι + t)) → Fr (k + 5 + θ) (k + 5 + θ + 1) h9 h8 → xK h8 = xK h → Rr G 225 [(0, vr 7 k), (1, vi (nI π)), (2, vi (nI θ)), (3, vi (nI ι)), (4, vi (nI ξ)), (5, vi (nI ν)), (6, vi (nI p))] [] h8) (N := ν) ?_ ?_ 0 (by omega) _ (fun i hi => by rw [if_neg (by omega), f9.L (by omega)]; exact a82 i hi) q9 Fr.rf k9
                                                                  ·
                                                                    intro h8 q8 u8 f8 k8
                                                                    have s9 : MshAt h8 k (pCp g π θ ι ξ ν) := msh_els (hs.mv f9) hθ r9 f8 (fun i hi => by rw [q8 i hi]; rfl)
                                                                    have g9 : Fr (k + 1) (k + 17) h h8 := (f9.mono (by omega) (by omega)).tr (f8.mono (by omega) (by omega))
                                                                    refine r_iload C (dx dX7_copy 126 rfl) rfl ?_
                                                                    refine r_iload C (dx dX7_copy 127 rfl) rfl ?_
                                                                    refine rn_ge (a := ν) (b := ν) (tgt := 257) C (by omega) (by omega) (dx dX7_copy 128 rfl) (by decide) (fun c178 => ?_) (fun c178 => ?_)
                                                                    · first
                                                                      | (omega; done)
                                                                      | (
                                                                          have c178 : ν ≤ ν := c178
                                                                          refine r_iload C (dx dX7_copy 143 rfl) rfl ?_
                                                                          have eA : copA g (nI π) (nI θ) (nI ι) (nI ξ) (nI ν) = nI ν := by simp [copA, copG, copF, c1, c3, c111, c113, c115, c138, c161, c164, c166, c168, c170, c172, c174, c176, c177, c178, e01, e11, e21, e31, e41, e51, e61, e02, e12, e22, e32, e42, e52, e62, e72, clN (show π < 2 ^ 31 by omega), clN (show θ < 2 ^ 31 by omega), clN (show ν < 2 ^ 31 by omega), clN (show ι < 2 ^ 31 by omega), clN (show ξ < 2 ^ 31 by omega), inR_nI (show π < 2 ^ 31 by omega), inR_nI (show θ < 2 ^ 31 by omega), inR_nI (show ν < 2 ^ 31 by omega), inR_nI (show ι < 2 ^ 31 by omega), inR_nI (show ξ < 2 ^ 31 by omega), show π < 8 by omega, show θ < 8 by omega, cp_row e31 e32 (by omega) (by omega) (show ι < 2 ^ 31 by omega) (show ξ < 2 ^ 31 by omega) (show ν < 2 ^ 31 by omega), show ι + ν ≤ ν1 by omega, show ξ + ν ≤ ν2 by omega]
                                                                          have eG : copG g (nI π) (nI θ) (nI ι) (nI ξ) (nI ν) = pCp g π θ ι ξ ν := by simp [copA, copG, copF, c1, c3, c111, c113, c115, c138, c161, c164, c166, c168, c170, c172, c174, c176, c177, c178, e01, e11, e21, e31, e41, e51, e61, e02, e12, e22, e32, e42, e52, e62, e72, clN (show π < 2 ^ 31 by omega), clN (show θ < 2 ^ 31 by omega), clN (show ν < 2 ^ 31 by omega), clN (show ι < 2 ^ 31 by omega), clN (show ξ < 2 ^ 31 by omega), inR_nI (show π < 2 ^ 31 by omega), inR_nI (show θ < 2 ^ 31 by omega), inR_nI (show ν < 2 ^ 31 by omega), inR_nI (show ι < 2 ^ 31 by omega), inR_nI (show ξ < 2 ^ 31 by omega), show π < 8 by omega, show θ < 8 by omega, cp_row e31 e32 (by omega) (by omega) (show ι < 2 ^ 31 by omega) (show ξ < 2 ^ 31 by omega) (show ν < 2 ^ 31 by omega), show ι + ν ≤ ν1 by omega, show ξ + ν ≤ ν2 by omega]
                                                                          exact F.1 _ _ _ _ _ rfl rfl (dx dX7_copy 144 rfl) k8 (show some (vi (nI ν)) = some (vi (copA g (nI π) (nI θ) (nI ι) (nI ξ) (nI ν))) ∧ (∃ v', MilAt h8 k v') ∧ MshAt h8 k (copG g (nI π) (nI θ) (nI ι) (nI ξ) (nI ν)) ∧ Ks k h h8 from by rw [eA, eG]; exact ⟨rfl, ⟨_, hm.fr g9 (by omega)⟩, s9, (Ks.fr g9 (by omega) (by omega))⟩))
                                                                    · first
                                                                      | (omega; done)
                                                                  ·
                                                                    intro p hp ih h8 q8 u8 f8 k8
                                                                    refine r_iload C (dx dX7_copy 126 rfl) rfl ?_
                                                                    refine r_iload C (dx dX7_copy 127 rfl) rfl ?_
                                                                    refine rn_ge (a := p) (b := ν) (tgt := 257) C (by omega) (by omega) (dx dX7_copy 128 rfl) (by decide) (fun c179 => ?_) (fun c179 => ?_)
                                                                    · first
                                                                      | (omega; done)
                                                                      | (
                                                                          have c179 : ν ≤ p := c179
                                                                          refine r_iload C (dx dX7_copy 143 rfl) rfl ?_
                                                                          have eA : copA g (nI π) (nI θ) (nI ι) (nI ξ) (nI ν) = nI ν := by simp [copA, copG, copF, c1, c3, c111, c113, c115, c138, c161, c164, c166, c168, c170, c172, c174, c176, c177, c179, e01, e11, e21, e31, e41, e51, e61, e02, e12, e22, e32, e42, e52, e62, e72, clN (show π < 2 ^ 31 by omega), clN (show θ < 2 ^ 31 by omega), clN (show ν < 2 ^ 31 by omega), clN (show ι < 2 ^ 31 by omega), clN (show ξ < 2 ^ 31 by omega), inR_nI (show π < 2 ^ 31 by omega), inR_nI (show θ < 2 ^ 31 by omega), inR_nI (show ν < 2 ^ 31 by omega), inR_nI (show ι < 2 ^ 31 by omega), inR_nI (show ξ < 2 ^ 31 by omega), show π < 8 by omega, show θ < 8 by omega, cp_row e31 e32 (by omega) (by omega) (show ι < 2 ^ 31 by omega) (show ξ < 2 ^ 31 by omega) (show ν < 2 ^ 31 by omega), show ι + ν ≤ ν1 by omega, show ξ + ν ≤ ν2 by omega]
                                                                          have eG : copG g (nI π) (nI θ) (nI ι) (nI ξ) (nI ν) = g := by simp [copA, copG, copF, c1, c3, c111, c113, c115, c138, c161, c164, c166, c168, c170, c172, c174, c176, c177, c179, e01, e11, e21, e31, e41, e51, e61, e02, e12, e22, e32, e42, e52, e62, e72, clN (show π < 2 ^ 31 by omega), clN (show θ < 2 ^ 31 by omega), clN (show ν < 2 ^ 31 by omega), clN (show ι < 2 ^ 31 by omega), clN (show ξ < 2 ^ 31 by omega), inR_nI (show π < 2 ^ 31 by omega), inR_nI (show θ < 2 ^ 31 by omega), inR_nI (show ν < 2 ^ 31 by omega), inR_nI (show ι < 2 ^ 31 by omega), inR_nI (show ξ < 2 ^ 31 by omega), show π < 8 by omega, show θ < 8 by omega, cp_row e31 e32 (by omega) (by omega) (show ι < 2 ^ 31 by omega) (show ξ < 2 ^ 31 by omega) (show ν < 2 ^ 31 by omega), show ι + ν ≤ ν1 by omega, show ξ + ν ≤ ν2 by omega]
                                                                          exact F.1 _ _ _ _ _ rfl rfl (dx dX7_copy 144 rfl) k8 (show some (vi (nI ν)) = some (vi (copA g (nI π) (nI θ) (nI ι) (nI ξ) (nI ν))) ∧ (∃ v', MilAt h8 k v') ∧ MshAt h8 k (copG g (nI π) (nI θ) (nI ι) (nI ξ) (nI ν)) ∧ Ks k h h8 from by rw [eA, eG]; exact ⟨rfl, ⟨_, hm⟩, hs, Ks.rf⟩))
                                                                    · first
                                                                      | (omega; done)
                                                                      | (
                                                                          have c179 : p < ν := c179
                                                                          refine r_aload_n C (dx dX7_copy 129 rfl) rfl ?_
                                                                          refine g_X7_21 C (dx dX7_copy 130 rfl) ?_
                                                                          refine r_iload_n C (dx dX7_copy 131 rfl) rfl ?_
                                                                          refine r_aald5 (j := θ) C rfl rfl (by decide) rfl (by omega) (dx dX7_copy 132 rfl) ?_
                                                                          refine r_iload C (dx dX7_copy 133 rfl) rfl ?_
                                                                          refine r_iload C (dx dX7_copy 134 rfl) rfl ?_
                                                                          refine rn_iadd (a := ξ) (b := p) C (dx dX7_copy 135 rfl) ?_
                                                                          refine r_aload_n C (dx dX7_copy 136 rfl) rfl ?_
                                                                          refine g_X7_24 C (dx dX7_copy 137 rfl) ?_
                                                                          refine r_iload C (dx dX7_copy 138 rfl) rfl ?_
                                                                          refine r_lald (j := p) (x := gE g π (ι + p)) C rfl rfl (by decide) rfl (by omega) (dx dX7_copy 139 rfl) (u8 _ (by omega)) ?_
                                                                          refine r_last (j := ξ + p) C rfl rfl (by decide) rfl (by omega) (dx dX7_copy 140 rfl) ?_
                                                                          refine rn_iinc (a := p) (k := 1) (ls' := [(0, vr 7 k), (1, vi (nI π)), (2, vi (nI θ)), (3, vi (nI ι)), (4, vi (nI ξ)), (5, vi (nI ν)), (6, vi (nI (p + 1)))]) C (dx dX7_copy 141 rfl) rfl rfl (by decide) [1, 2, 3, 4, 5, 6, 0] rfl ?_
                                                                          refine r_goto (tgt := 225) C (dx dX7_copy 142 rfl) (by decide) ?_
                                                                          exact ih _ (fun i hi => by rw [sL_at]; exact cp2_step q8 i hi) (fun t ht => by rw [sL_ne (by omega)]; exact u8 t ht) (f8.tr (Fr.sL (by omega) (by omega))) k8))
                                                            · first
                                                              | (omega; done)
                                                          ·
                                                            intro p hp ih h9 q9 f9 k9
                                                            refine r_iload C (dx dX7_copy 107 rfl) rfl ?_
                                                            refine r_iload C (dx dX7_copy 108 rfl) rfl ?_
                                                            refine rn_ge (a := p) (b := ν) (tgt := 222) C (by omega) (by omega) (dx dX7_copy 109 rfl) (by decide) (fun c180 => ?_) (fun c180 => ?_)
                                                            · first
                                                              | (omega; done)
                                                              | (
                                                                  have c180 : ν ≤ p := c180
                                                                  refine r_iconst (v := nI 0) C (dx dX7_copy 124 rfl) rfl ?_
                                                                  refine r_istore (ls' := [(0, vr 7 k), (1, vi (nI π)), (2, vi (nI θ)), (3, vi (nI ι)), (4, vi (nI ξ)), (5, vi (nI ν)), (6, vi (nI 0))]) C (dx dX7_copy 125 rfl) (by decide) [1, 2, 3, 4, 5, 6, 0] rfl ?_
                                                                  have r9 := MsR.fr (show MsR h k g θ from ⟨_, _, a12, a22, a32, a42, a52, a62, a72, a82⟩) hθ f9
                                                                  refine loopU (Φ := fun p => ∀ h8, (∀ i, i < 40 → xL h8 (k + 5 + θ) i = if ξ ≤ i ∧ i < ξ + p then gE g π (ι + (i - ξ)) else gE g θ i) → (∀ t, t < ν → xL h8 (k + 13) t = gE g π (ι + t)) → Fr (k + 5 + θ) (k + 5 + θ + 1) h9 h8 → xK h8 = xK h → Rr G 225 [(0, vr 7 k), (1, vi (nI π)), (2, vi (nI θ)), (3, vi (nI ι)), (4, vi (nI ξ)), (5, vi (nI ν)), (6, vi (nI p))] [] h8) (N := ν) ?_ ?_ 0 (by omega) _ (fun i hi => by rw [if_neg (by omega), f9.L (by omega)]; exact a82 i hi) q9 Fr.rf k9
                                                                  ·
                                                                    intro h8 q8 u8 f8 k8
                                                                    have s9 : MshAt h8 k (pCp g π θ ι ξ ν) := msh_els (hs.mv f9) hθ r9 f8 (fun i hi => by rw [q8 i hi]; rfl)
                                                                    have g9 : Fr (k + 1) (k + 17) h h8 := (f9.mono (by omega) (by omega)).tr (f8.mono (by omega) (by omega))
                                                                    refine r_iload C (dx dX7_copy 126 rfl) rfl ?_
                                                                    refine r_iload C (dx dX7_copy 127 rfl) rfl ?_
                                                                    refine rn_ge (a := ν) (b := ν) (tgt := 257) C (by omega) (by omega) (dx dX7_copy 128 rfl) (by decide) (fun c181 => ?_) (fun c181 => ?_)
                                                                    · first
                                                                      | (omega; done)
                                                                      | (
                                                                          have c181 : ν ≤ ν := c181
                                                                          refine r_iload C (dx dX7_copy 143 rfl) rfl ?_
                                                                          have eA : copA g (nI π) (nI θ) (nI ι) (nI ξ) (nI ν) = nI ν := by simp [copA, copG, copF, c1, c3, c111, c113, c115, c138, c161, c164, c166, c168, c170, c172, c174, c176, c180, c181, e01, e11, e21, e31, e41, e51, e61, e02, e12, e22, e32, e42, e52, e62, e72, clN (show π < 2 ^ 31 by omega), clN (show θ < 2 ^ 31 by omega), clN (show ν < 2 ^ 31 by omega), clN (show ι < 2 ^ 31 by omega), clN (show ξ < 2 ^ 31 by omega), inR_nI (show π < 2 ^ 31 by omega), inR_nI (show θ < 2 ^ 31 by omega), inR_nI (show ν < 2 ^ 31 by omega), inR_nI (show ι < 2 ^ 31 by omega), inR_nI (show ξ < 2 ^ 31 by omega), show π < 8 by omega, show θ < 8 by omega, cp_row e31 e32 (by omega) (by omega) (show ι < 2 ^ 31 by omega) (show ξ < 2 ^ 31 by omega) (show ν < 2 ^ 31 by omega), show ι + ν ≤ ν1 by omega, show ξ + ν ≤ ν2 by omega]
                                                                          have eG : copG g (nI π) (nI θ) (nI ι) (nI ξ) (nI ν) = pCp g π θ ι ξ ν := by simp [copA, copG, copF, c1, c3, c111, c113, c115, c138, c161, c164, c166, c168, c170, c172, c174, c176, c180, c181, e01, e11, e21, e31, e41, e51, e61, e02, e12, e22, e32, e42, e52, e62, e72, clN (show π < 2 ^ 31 by omega), clN (show θ < 2 ^ 31 by omega), clN (show ν < 2 ^ 31 by omega), clN (show ι < 2 ^ 31 by omega), clN (show ξ < 2 ^ 31 by omega), inR_nI (show π < 2 ^ 31 by omega), inR_nI (show θ < 2 ^ 31 by omega), inR_nI (show ν < 2 ^ 31 by omega), inR_nI (show ι < 2 ^ 31 by omega), inR_nI (show ξ < 2 ^ 31 by omega), show π < 8 by omega, show θ < 8 by omega, cp_row e31 e32 (by omega) (by omega) (show ι < 2 ^ 31 by omega) (show ξ < 2 ^ 31 by omega) (show ν < 2 ^ 31 by omega), show ι + ν ≤ ν1 by omega, show ξ + ν ≤ ν2 by omega]
                                                                          exact F.1 _ _ _ _ _ rfl rfl (dx dX7_copy 144 rfl) k8 (show some (vi (nI ν)) = some (vi (copA g (nI π) (nI θ) (nI ι) (nI ξ) (nI ν))) ∧ (∃ v', MilAt h8 k v') ∧ MshAt h8 k (copG g (nI π) (nI θ) (nI ι) (nI ξ) (nI ν)) ∧ Ks k h h8 from by rw [eA, eG]; exact ⟨rfl, ⟨_, hm.fr g9 (by omega)⟩, s9, (Ks.fr g9 (by omega) (by omega))⟩))
                                                                    · first
                                                                      | (omega; done)
                                                                  ·
                                                                    intro p hp ih h8 q8 u8 f8 k8
                                                                    refine r_iload C (dx dX7_copy 126 rfl) rfl ?_
                                                                    refine r_iload C (dx dX7_copy 127 rfl) rfl ?_
                                                                    refine rn_ge (a := p) (b := ν) (tgt := 257) C (by omega) (by omega) (dx dX7_copy 128 rfl) (by decide) (fun c182 => ?_) (fun c182 => ?_)
                                                                    · first
                                                                      | (omega; done)
                                                                      | (
                                                                          have c182 : ν ≤ p := c182
                                                                          refine r_iload C (dx dX7_copy 143 rfl) rfl ?_
                                                                          have eA : copA g (nI π) (nI θ) (nI ι) (nI ξ) (nI ν) = nI ν := by simp [copA, copG, copF, c1, c3, c111, c113, c115, c138, c161, c164, c166, c168, c170, c172, c174, c176, c180, c182, e01, e11, e21, e31, e41, e51, e61, e02, e12, e22, e32, e42, e52, e62, e72, clN (show π < 2 ^ 31 by omega), clN (show θ < 2 ^ 31 by omega), clN (show ν < 2 ^ 31 by omega), clN (show ι < 2 ^ 31 by omega), clN (show ξ < 2 ^ 31 by omega), inR_nI (show π < 2 ^ 31 by omega), inR_nI (show θ < 2 ^ 31 by omega), inR_nI (show ν < 2 ^ 31 by omega), inR_nI (show ι < 2 ^ 31 by omega), inR_nI (show ξ < 2 ^ 31 by omega), show π < 8 by omega, show θ < 8 by omega, cp_row e31 e32 (by omega) (by omega) (show ι < 2 ^ 31 by omega) (show ξ < 2 ^ 31 by omega) (show ν < 2 ^ 31 by omega), show ι + ν ≤ ν1 by omega, show ξ + ν ≤ ν2 by omega]
                                                                          have eG : copG g (nI π) (nI θ) (nI ι) (nI ξ) (nI ν) = g := by simp [copA, copG, copF, c1, c3, c111, c113, c115, c138, c161, c164, c166, c168, c170, c172, c174, c176, c180, c182, e01, e11, e21, e31, e41, e51, e61, e02, e12, e22, e32, e42, e52, e62, e72, clN (show π < 2 ^ 31 by omega), clN (show θ < 2 ^ 31 by omega), clN (show ν < 2 ^ 31 by omega), clN (show ι < 2 ^ 31 by omega), clN (show ξ < 2 ^ 31 by omega), inR_nI (show π < 2 ^ 31 by omega), inR_nI (show θ < 2 ^ 31 by omega), inR_nI (show ν < 2 ^ 31 by omega), inR_nI (show ι < 2 ^ 31 by omega), inR_nI (show ξ < 2 ^ 31 by omega), show π < 8 by omega, show θ < 8 by omega, cp_row e31 e32 (by omega) (by omega) (show ι < 2 ^ 31 by omega) (show ξ < 2 ^ 31 by omega) (show ν < 2 ^ 31 by omega), show ι + ν ≤ ν1 by omega, show ξ + ν ≤ ν2 by omega]
                                                                          exact F.1 _ _ _ _ _ rfl rfl (dx dX7_copy 144 rfl) k8 (show some (vi (nI ν)) = some (vi (copA g (nI π) (nI θ) (nI ι) (nI ξ) (nI ν))) ∧ (∃ v', MilAt h8 k v') ∧ MshAt h8 k (copG g (nI π) (nI θ) (nI ι) (nI ξ) (nI ν)) ∧ Ks k h h8 from by rw [eA, eG]; exact ⟨rfl, ⟨_, hm⟩, hs, Ks.rf⟩))
                                                                    · first
                                                                      | (omega; done)
                                                                      | (
                                                                          have c182 : p < ν := c182
                                                                          refine r_aload_n C (dx dX7_copy 129 rfl) rfl ?_
                                                                          refine g_X7_21 C (dx dX7_copy 130 rfl) ?_
                                                                          refine r_iload_n C (dx dX7_copy 131 rfl) rfl ?_
                                                                          refine r_aald5 (j := θ) C rfl rfl (by decide) rfl (by omega) (dx dX7_copy 132 rfl) ?_
                                                                          refine r_iload C (dx dX7_copy 133 rfl) rfl ?_
                                                                          refine r_iload C (dx dX7_copy 134 rfl) rfl ?_
                                                                          refine rn_iadd (a := ξ) (b := p) C (dx dX7_copy 135 rfl) ?_
                                                                          refine r_aload_n C (dx dX7_copy 136 rfl) rfl ?_
                                                                          refine g_X7_24 C (dx dX7_copy 137 rfl) ?_
                                                                          refine r_iload C (dx dX7_copy 138 rfl) rfl ?_
                                                                          refine r_lald (j := p) (x := gE g π (ι + p)) C rfl rfl (by decide) rfl (by omega) (dx dX7_copy 139 rfl) (u8 _ (by omega)) ?_
                                                                          refine r_last (j := ξ + p) C rfl rfl (by decide) rfl (by omega) (dx dX7_copy 140 rfl) ?_
                                                                          refine rn_iinc (a := p) (k := 1) (ls' := [(0, vr 7 k), (1, vi (nI π)), (2, vi (nI θ)), (3, vi (nI ι)), (4, vi (nI ξ)), (5, vi (nI ν)), (6, vi (nI (p + 1)))]) C (dx dX7_copy 141 rfl) rfl rfl (by decide) [1, 2, 3, 4, 5, 6, 0] rfl ?_
                                                                          refine r_goto (tgt := 225) C (dx dX7_copy 142 rfl) (by decide) ?_
                                                                          exact ih _ (fun i hi => by rw [sL_at]; exact cp2_step q8 i hi) (fun t ht => by rw [sL_ne (by omega)]; exact u8 t ht) (f8.tr (Fr.sL (by omega) (by omega))) k8))
                                                            · first
                                                              | (omega; done)
                                                              | (
                                                                  have c180 : p < ν := c180
                                                                  refine r_aload_n C (dx dX7_copy 110 rfl) rfl ?_
                                                                  refine g_X7_24 C (dx dX7_copy 111 rfl) ?_
                                                                  refine r_iload C (dx dX7_copy 112 rfl) rfl ?_
                                                                  refine r_aload_n C (dx dX7_copy 113 rfl) rfl ?_
                                                                  refine g_X7_21 C (dx dX7_copy 114 rfl) ?_
                                                                  refine r_iload_n C (dx dX7_copy 115 rfl) rfl ?_
                                                                  refine r_aald5 (j := π) C rfl rfl (by decide) rfl (by omega) (dx dX7_copy 116 rfl) ?_
                                                                  refine r_iload_n C (dx dX7_copy 117 rfl) rfl ?_
                                                                  refine r_iload C (dx dX7_copy 118 rfl) rfl ?_
                                                                  refine rn_iadd (a := ι) (b := p) C (dx dX7_copy 119 rfl) ?_
                                                                  refine r_lald (j := ι + p) (x := gE g π (ι + p)) C rfl rfl (by decide) rfl (by omega) (dx dX7_copy 120 rfl) ((f9.L (by omega) _).trans (a81 _ (by omega))) ?_
                                                                  refine r_last (j := p) C rfl rfl (by decide) rfl (by omega) (dx dX7_copy 121 rfl) ?_
                                                                  refine rn_iinc (a := p) (k := 1) (ls' := [(0, vr 7 k), (1, vi (nI π)), (2, vi (nI θ)), (3, vi (nI ι)), (4, vi (nI ξ)), (5, vi (nI ν)), (6, vi (nI (p + 1)))]) C (dx dX7_copy 122 rfl) rfl rfl (by decide) [1, 2, 3, 4, 5, 6, 0] rfl ?_
                                                                  refine r_goto (tgt := 191) C (dx dX7_copy 123 rfl) (by decide) ?_
                                                                  exact ih _ (fun t ht => by rw [sL_at]; split; (next e => rw [e]); exact q9 t (by omega)) (f9.tr (Fr.sL (by omega) (by omega))) k9)
                                                        ·
                                                          have c176 : ¬ nI ξ ≤ (xI h (k + 3) θ) - (nI ν) := c176
                                                          refine r_aload_n C (dx dX7_copy 101 rfl) rfl ?_
                                                          refine r_bipush (v := -2) C (dx dX7_copy 102 rfl) rfl ?_
                                                          refine r_cv (as := [vi (-2)]) (st := []) C X I_X7_refuse l_X7_83 (c_X7_refuse hm (x := -2) (j := 2) (by decide) (by decide)) (by decide) (Nat.le_of_ble_eq_true rfl) List.prefix_rfl List.prefix_rfl rfl rfl (Nat.le_of_ble_eq_true rfl) rfl (dx dX7_copy 103 rfl) ?_
                                                          rintro _ h183 ⟨rfl, ⟨wh183, m9h183, s9h183⟩, qh183⟩ kkh183
                                                          obtain ⟨vh183, mh183, zh183⟩ : ∃ v9, MilAt h183 k v9 ∧ Sz v v9 := ⟨_, m9h183, s9h183⟩
                                                          have ph183 : Kp k h h183 := qh183
                                                          have kh183 : xK h183 = xK h := kkh183
                                                          obtain ⟨ah183, bh183, ch183⟩ := zh183
                                                          have eA : copA g (nI π) (nI θ) (nI ι) (nI ξ) (nI ν) = -2 := by (have hq : ¬ (ι + ν ≤ ν1 ∧ ξ + ν ≤ ν2) := by omega); (have hq2 := cp_row e31 e32 (i := ι) (j := ξ) (n := ν) (by omega) (by omega) (by omega) (by omega) (by omega)); rw [decide_eq_false hq] at hq2; simp [copA, copG, copF, c1, c3, c111, c113, c115, c138, c161, c164, c166, c168, c170, c172, c174, c176, e01, e11, e21, e31, e41, e51, e61, e02, e12, e22, e32, e42, e52, e62, e72, clN (show π < 2 ^ 31 by omega), clN (show θ < 2 ^ 31 by omega), clN (show ν < 2 ^ 31 by omega), clN (show ι < 2 ^ 31 by omega), clN (show ξ < 2 ^ 31 by omega), inR_nI (show π < 2 ^ 31 by omega), inR_nI (show θ < 2 ^ 31 by omega), inR_nI (show ν < 2 ^ 31 by omega), inR_nI (show ι < 2 ^ 31 by omega), inR_nI (show ξ < 2 ^ 31 by omega), hq2, show π < 8 by omega, show θ < 8 by omega]
                                                          have eG : copG g (nI π) (nI θ) (nI ι) (nI ξ) (nI ν) = g := by (have hq : ¬ (ι + ν ≤ ν1 ∧ ξ + ν ≤ ν2) := by omega); (have hq2 := cp_row e31 e32 (i := ι) (j := ξ) (n := ν) (by omega) (by omega) (by omega) (by omega) (by omega)); rw [decide_eq_false hq] at hq2; simp [copA, copG, copF, c1, c3, c111, c113, c115, c138, c161, c164, c166, c168, c170, c172, c174, c176, e01, e11, e21, e31, e41, e51, e61, e02, e12, e22, e32, e42, e52, e62, e72, clN (show π < 2 ^ 31 by omega), clN (show θ < 2 ^ 31 by omega), clN (show ν < 2 ^ 31 by omega), clN (show ι < 2 ^ 31 by omega), clN (show ξ < 2 ^ 31 by omega), inR_nI (show π < 2 ^ 31 by omega), inR_nI (show θ < 2 ^ 31 by omega), inR_nI (show ν < 2 ^ 31 by omega), inR_nI (show ι < 2 ^ 31 by omega), inR_nI (show ξ < 2 ^ 31 by omega), hq2, show π < 8 by omega, show θ < 8 by omega]
                                                          exact F.1 _ _ _ _ _ rfl rfl (dx dX7_copy 104 rfl) kh183 (show some (vi (-2)) = some (vi (copA g (nI π) (nI θ) (nI ι) (nI ξ) (nI ν))) ∧ (∃ v', MilAt h183 k v') ∧ MshAt h183 k (copG g (nI π) (nI θ) (nI ι) (nI ξ) (nI ν)) ∧ Ks k h h183 from by rw [eA, eG]; exact ⟨rfl, ⟨_, mh183⟩, hs.kp ph183, ph183.ks⟩)))
                                  ·
                                    have c161 : ¬ nI τ1 = xI h (k + 2) θ := c161
                                    refine r_aload_n C (dx dX7_copy 49 rfl) rfl ?_
                                    refine r_bipush (v := -3) C (dx dX7_copy 50 rfl) rfl ?_
                                    refine r_cv (as := [vi (-3)]) (st := []) C X I_X7_refuse l_X7_83 (c_X7_refuse hm (x := -3) (j := 3) (by decide) (by decide)) (by decide) (Nat.le_of_ble_eq_true rfl) List.prefix_rfl List.prefix_rfl rfl rfl (Nat.le_of_ble_eq_true rfl) rfl (dx dX7_copy 51 rfl) ?_
                                    rintro _ h184 ⟨rfl, ⟨wh184, m9h184, s9h184⟩, qh184⟩ kkh184
                                    obtain ⟨vh184, mh184, zh184⟩ : ∃ v9, MilAt h184 k v9 ∧ Sz v v9 := ⟨_, m9h184, s9h184⟩
                                    have ph184 : Kp k h h184 := qh184
                                    have kh184 : xK h184 = xK h := kkh184
                                    obtain ⟨ah184, bh184, ch184⟩ := zh184
                                    have eA : copA g (nI π) (nI θ) i j n = -3 := by simp [copA, copG, copF, cpOk, c1, c3, c111, c113, c115, c138, c161, e01, e11, e21, e31, e41, e51, e61, e02, e12, e22, e32, e42, e52, e62, e72, clN (show π < 2 ^ 31 by omega), clN (show θ < 2 ^ 31 by omega), inR_nI (show π < 2 ^ 31 by omega), inR_nI (show θ < 2 ^ 31 by omega), show π < 8 by omega, show θ < 8 by omega]
                                    have eG : copG g (nI π) (nI θ) i j n = g := by simp [copA, copG, copF, cpOk, c1, c3, c111, c113, c115, c138, c161, e01, e11, e21, e31, e41, e51, e61, e02, e12, e22, e32, e42, e52, e62, e72, clN (show π < 2 ^ 31 by omega), clN (show θ < 2 ^ 31 by omega), inR_nI (show π < 2 ^ 31 by omega), inR_nI (show θ < 2 ^ 31 by omega), show π < 8 by omega, show θ < 8 by omega]
                                    exact F.1 _ _ _ _ _ rfl rfl (dx dX7_copy 52 rfl) kh184 (show some (vi (-3)) = some (vi (copA g (nI π) (nI θ) i j n)) ∧ (∃ v', MilAt h184 k v') ∧ MshAt h184 k (copG g (nI π) (nI θ) i j n) ∧ Ks k h h184 from by rw [eA, eG]; exact ⟨rfl, ⟨_, mh184⟩, hs.kp ph184, ph184.ks⟩)))))
      ·
        obtain ⟨e01, e11, e21, e31, e41, e51, e61, e71⟩ := sh_hold hπ a21 a71 a81
        rcases hs θ hθ with ⟨a12, a22⟩ | ⟨τ2, ν2, a12, a22, a32, a42, a52, a62, a72, a82⟩ | ⟨κ2, b2, a12, a22, a32, a42, a52, a62, a72, a82⟩
        ·
          obtain ⟨e02, e12, e22, e32, e42, e52, e62⟩ := sh_bare hθ a22
          refine r_aload_n C (dx dX7_copy 16 rfl) rfl ?_
          refine g_X7_7 C (dx dX7_copy 17 rfl) ?_
          refine r_iload_n C (dx dX7_copy 18 rfl) rfl ?_
          refine r_iald (j := π) (x := nI 2) C rfl rfl (by decide) rfl (by omega) (dx dX7_copy 19 rfl) a41 ?_
          refine r_iconst (v := nI 2) C (dx dX7_copy 20 rfl) rfl ?_
          refine rn_eq (a := 2) (b := 2) (tgt := 86) C (by omega) (by omega) (dx dX7_copy 21 rfl) (by decide) (fun c185 => ?_) (fun c185 => ?_)
          · first
            | (omega; done)
            | (
                have c185 : 2 = 2 := c185
                refine r_aload_n C (dx dX7_copy 49 rfl) rfl ?_
                refine r_bipush (v := -3) C (dx dX7_copy 50 rfl) rfl ?_
                refine r_cv (as := [vi (-3)]) (st := []) C X I_X7_refuse l_X7_83 (c_X7_refuse hm (x := -3) (j := 3) (by decide) (by decide)) (by decide) (Nat.le_of_ble_eq_true rfl) List.prefix_rfl List.prefix_rfl rfl rfl (Nat.le_of_ble_eq_true rfl) rfl (dx dX7_copy 51 rfl) ?_
                rintro _ h186 ⟨rfl, ⟨wh186, m9h186, s9h186⟩, qh186⟩ kkh186
                obtain ⟨vh186, mh186, zh186⟩ : ∃ v9, MilAt h186 k v9 ∧ Sz v v9 := ⟨_, m9h186, s9h186⟩
                have ph186 : Kp k h h186 := qh186
                have kh186 : xK h186 = xK h := kkh186
                obtain ⟨ah186, bh186, ch186⟩ := zh186
                have eA : copA g (nI π) (nI θ) i j n = -3 := by simp [copA, copG, copF, cpOk, c1, c3, c185, e01, e11, e21, e31, e41, e51, e61, e71, e02, e12, e22, e32, e42, e52, e62, clN (show π < 2 ^ 31 by omega), clN (show θ < 2 ^ 31 by omega), inR_nI (show π < 2 ^ 31 by omega), inR_nI (show θ < 2 ^ 31 by omega), show π < 8 by omega, show θ < 8 by omega]
                have eG : copG g (nI π) (nI θ) i j n = g := by simp [copA, copG, copF, cpOk, c1, c3, c185, e01, e11, e21, e31, e41, e51, e61, e71, e02, e12, e22, e32, e42, e52, e62, clN (show π < 2 ^ 31 by omega), clN (show θ < 2 ^ 31 by omega), inR_nI (show π < 2 ^ 31 by omega), inR_nI (show θ < 2 ^ 31 by omega), show π < 8 by omega, show θ < 8 by omega]
                exact F.1 _ _ _ _ _ rfl rfl (dx dX7_copy 52 rfl) kh186 (show some (vi (-3)) = some (vi (copA g (nI π) (nI θ) i j n)) ∧ (∃ v', MilAt h186 k v') ∧ MshAt h186 k (copG g (nI π) (nI θ) i j n) ∧ Ks k h h186 from by rw [eA, eG]; exact ⟨rfl, ⟨_, mh186⟩, hs.kp ph186, ph186.ks⟩))
          · first
            | (omega; done)
            | (
                have c185 : ¬ 2 = 2 := c185
                refine r_aload_n C (dx dX7_copy 22 rfl) rfl ?_
                refine g_X7_7 C (dx dX7_copy 23 rfl) ?_
                refine r_iload_n C (dx dX7_copy 24 rfl) rfl ?_
                refine r_iald (j := θ) (x := nI 0) C rfl rfl (by decide) rfl (by omega) (dx dX7_copy 25 rfl) a12 ?_
                refine r_iconst (v := nI 2) C (dx dX7_copy 26 rfl) rfl ?_
                refine rn_eq (a := 0) (b := 2) (tgt := 86) C (by omega) (by omega) (dx dX7_copy 27 rfl) (by decide) (fun c187 => ?_) (fun c187 => ?_)
                · first
                  | (omega; done)
                  | (
                      have c187 : 0 = 2 := c187
                      refine r_aload_n C (dx dX7_copy 49 rfl) rfl ?_
                      refine r_bipush (v := -3) C (dx dX7_copy 50 rfl) rfl ?_
                      refine r_cv (as := [vi (-3)]) (st := []) C X I_X7_refuse l_X7_83 (c_X7_refuse hm (x := -3) (j := 3) (by decide) (by decide)) (by decide) (Nat.le_of_ble_eq_true rfl) List.prefix_rfl List.prefix_rfl rfl rfl (Nat.le_of_ble_eq_true rfl) rfl (dx dX7_copy 51 rfl) ?_
                      rintro _ h188 ⟨rfl, ⟨wh188, m9h188, s9h188⟩, qh188⟩ kkh188
                      obtain ⟨vh188, mh188, zh188⟩ : ∃ v9, MilAt h188 k v9 ∧ Sz v v9 := ⟨_, m9h188, s9h188⟩
                      have ph188 : Kp k h h188 := qh188
                      have kh188 : xK h188 = xK h := kkh188
                      obtain ⟨ah188, bh188, ch188⟩ := zh188
                      have eA : copA g (nI π) (nI θ) i j n = -3 := by simp [copA, copG, copF, cpOk, c1, c3, c185, c187, e01, e11, e21, e31, e41, e51, e61, e71, e02, e12, e22, e32, e42, e52, e62, clN (show π < 2 ^ 31 by omega), clN (show θ < 2 ^ 31 by omega), inR_nI (show π < 2 ^ 31 by omega), inR_nI (show θ < 2 ^ 31 by omega), show π < 8 by omega, show θ < 8 by omega]
                      have eG : copG g (nI π) (nI θ) i j n = g := by simp [copA, copG, copF, cpOk, c1, c3, c185, c187, e01, e11, e21, e31, e41, e51, e61, e71, e02, e12, e22, e32, e42, e52, e62, clN (show π < 2 ^ 31 by omega), clN (show θ < 2 ^ 31 by omega), inR_nI (show π < 2 ^ 31 by omega), inR_nI (show θ < 2 ^ 31 by omega), show π < 8 by omega, show θ < 8 by omega]
                      exact F.1 _ _ _ _ _ rfl rfl (dx dX7_copy 52 rfl) kh188 (show some (vi (-3)) = some (vi (copA g (nI π) (nI θ) i j n)) ∧ (∃ v', MilAt h188 k v') ∧ MshAt h188 k (copG g (nI π) (nI θ) i j n) ∧ Ks k h h188 from by rw [eA, eG]; exact ⟨rfl, ⟨_, mh188⟩, hs.kp ph188, ph188.ks⟩))
                · first
                  | (omega; done)
                  | (
                      have c187 : ¬ 0 = 2 := c187
                      refine r_aload_n C (dx dX7_copy 28 rfl) rfl ?_
                      refine g_X7_7 C (dx dX7_copy 29 rfl) ?_
                      refine r_iload_n C (dx dX7_copy 30 rfl) rfl ?_
                      refine r_iald (j := π) (x := nI 2) C rfl rfl (by decide) rfl (by omega) (dx dX7_copy 31 rfl) a41 ?_
                      refine r_iconst (v := nI 1) C (dx dX7_copy 32 rfl) rfl ?_
                      refine rn_ne (a := 2) (b := 1) (tgt := 93) C (by omega) (by omega) (dx dX7_copy 33 rfl) (by decide) (fun c189 => ?_) (fun c189 => ?_)
                      · first
                        | (omega; done)
                        | (
                            have c189 : ¬ 2 = 1 := c189
                            refine r_aload_n C (dx dX7_copy 53 rfl) rfl ?_
                            refine g_X7_7 C (dx dX7_copy 54 rfl) ?_
                            refine r_iload_n C (dx dX7_copy 55 rfl) rfl ?_
                            refine r_iald (j := π) (x := nI 2) C rfl rfl (by decide) rfl (by omega) (dx dX7_copy 56 rfl) a41 ?_
                            refine r_if_eq (tgt := 111) C (dx dX7_copy 57 rfl) (by decide) (fun c190 => (show False from by revert c190; decide).elim) (fun _ => ?_)
                            refine r_aload_n C (dx dX7_copy 58 rfl) rfl ?_
                            refine g_X7_7 C (dx dX7_copy 59 rfl) ?_
                            refine r_iload_n C (dx dX7_copy 60 rfl) rfl ?_
                            refine r_iald (j := θ) (x := nI 0) C rfl rfl (by decide) rfl (by omega) (dx dX7_copy 61 rfl) a12 ?_
                            refine r_if_ne (tgt := 118) C (dx dX7_copy 62 rfl) (by decide) (fun c191 => (show False from by revert c191; decide).elim) (fun _ => ?_)
                            refine r_aload_n C (dx dX7_copy 63 rfl) rfl ?_
                            refine r_bipush (v := -4) C (dx dX7_copy 64 rfl) rfl ?_
                            refine r_cv (as := [vi (-4)]) (st := []) C X I_X7_refuse l_X7_83 (c_X7_refuse hm (x := -4) (j := 4) (by decide) (by decide)) (by decide) (Nat.le_of_ble_eq_true rfl) List.prefix_rfl List.prefix_rfl rfl rfl (Nat.le_of_ble_eq_true rfl) rfl (dx dX7_copy 65 rfl) ?_
                            rintro _ h192 ⟨rfl, ⟨wh192, m9h192, s9h192⟩, qh192⟩ kkh192
                            obtain ⟨vh192, mh192, zh192⟩ : ∃ v9, MilAt h192 k v9 ∧ Sz v v9 := ⟨_, m9h192, s9h192⟩
                            have ph192 : Kp k h h192 := qh192
                            have kh192 : xK h192 = xK h := kkh192
                            obtain ⟨ah192, bh192, ch192⟩ := zh192
                            have eA : copA g (nI π) (nI θ) i j n = -4 := by simp [copA, copG, copF, cpOk, c1, c3, c185, c187, c189, e01, e11, e21, e31, e41, e51, e61, e71, e02, e12, e22, e32, e42, e52, e62, clN (show π < 2 ^ 31 by omega), clN (show θ < 2 ^ 31 by omega), inR_nI (show π < 2 ^ 31 by omega), inR_nI (show θ < 2 ^ 31 by omega), show π < 8 by omega, show θ < 8 by omega]
                            have eG : copG g (nI π) (nI θ) i j n = g := by simp [copA, copG, copF, cpOk, c1, c3, c185, c187, c189, e01, e11, e21, e31, e41, e51, e61, e71, e02, e12, e22, e32, e42, e52, e62, clN (show π < 2 ^ 31 by omega), clN (show θ < 2 ^ 31 by omega), inR_nI (show π < 2 ^ 31 by omega), inR_nI (show θ < 2 ^ 31 by omega), show π < 8 by omega, show θ < 8 by omega]
                            exact F.1 _ _ _ _ _ rfl rfl (dx dX7_copy 66 rfl) kh192 (show some (vi (-4)) = some (vi (copA g (nI π) (nI θ) i j n)) ∧ (∃ v', MilAt h192 k v') ∧ MshAt h192 k (copG g (nI π) (nI θ) i j n) ∧ Ks k h h192 from by rw [eA, eG]; exact ⟨rfl, ⟨_, mh192⟩, hs.kp ph192, ph192.ks⟩))
                      · first
                        | (omega; done)
                        | (
                            have c189 : 2 = 1 := c189
                            refine r_aload_n C (dx dX7_copy 34 rfl) rfl ?_
                            refine g_X7_7 C (dx dX7_copy 35 rfl) ?_
                            refine r_iload_n C (dx dX7_copy 36 rfl) rfl ?_
                            refine r_iald (j := θ) (x := nI 0) C rfl rfl (by decide) rfl (by omega) (dx dX7_copy 37 rfl) a12 ?_
                            refine r_iconst (v := nI 1) C (dx dX7_copy 38 rfl) rfl ?_
                            refine rn_ne (a := 0) (b := 1) (tgt := 93) C (by omega) (by omega) (dx dX7_copy 39 rfl) (by decide) (fun c193 => ?_) (fun c193 => ?_)
                            · first
                              | (omega; done)
                              | (
                                  have c193 : ¬ 0 = 1 := c193
                                  refine r_aload_n C (dx dX7_copy 53 rfl) rfl ?_
                                  refine g_X7_7 C (dx dX7_copy 54 rfl) ?_
                                  refine r_iload_n C (dx dX7_copy 55 rfl) rfl ?_
                                  refine r_iald (j := π) (x := nI 2) C rfl rfl (by decide) rfl (by omega) (dx dX7_copy 56 rfl) a41 ?_
                                  refine r_if_eq (tgt := 111) C (dx dX7_copy 57 rfl) (by decide) (fun c194 => (show False from by revert c194; decide).elim) (fun _ => ?_)
                                  refine r_aload_n C (dx dX7_copy 58 rfl) rfl ?_
                                  refine g_X7_7 C (dx dX7_copy 59 rfl) ?_
                                  refine r_iload_n C (dx dX7_copy 60 rfl) rfl ?_
                                  refine r_iald (j := θ) (x := nI 0) C rfl rfl (by decide) rfl (by omega) (dx dX7_copy 61 rfl) a12 ?_
                                  refine r_if_ne (tgt := 118) C (dx dX7_copy 62 rfl) (by decide) (fun c195 => (show False from by revert c195; decide).elim) (fun _ => ?_)
                                  refine r_aload_n C (dx dX7_copy 63 rfl) rfl ?_
                                  refine r_bipush (v := -4) C (dx dX7_copy 64 rfl) rfl ?_
                                  refine r_cv (as := [vi (-4)]) (st := []) C X I_X7_refuse l_X7_83 (c_X7_refuse hm (x := -4) (j := 4) (by decide) (by decide)) (by decide) (Nat.le_of_ble_eq_true rfl) List.prefix_rfl List.prefix_rfl rfl rfl (Nat.le_of_ble_eq_true rfl) rfl (dx dX7_copy 65 rfl) ?_
                                  rintro _ h196 ⟨rfl, ⟨wh196, m9h196, s9h196⟩, qh196⟩ kkh196
                                  obtain ⟨vh196, mh196, zh196⟩ : ∃ v9, MilAt h196 k v9 ∧ Sz v v9 := ⟨_, m9h196, s9h196⟩
                                  have ph196 : Kp k h h196 := qh196
                                  have kh196 : xK h196 = xK h := kkh196
                                  obtain ⟨ah196, bh196, ch196⟩ := zh196
                                  have eA : copA g (nI π) (nI θ) i j n = -4 := by simp [copA, copG, copF, cpOk, c1, c3, c185, c187, c189, c193, e01, e11, e21, e31, e41, e51, e61, e71, e02, e12, e22, e32, e42, e52, e62, clN (show π < 2 ^ 31 by omega), clN (show θ < 2 ^ 31 by omega), inR_nI (show π < 2 ^ 31 by omega), inR_nI (show θ < 2 ^ 31 by omega), show π < 8 by omega, show θ < 8 by omega]
                                  have eG : copG g (nI π) (nI θ) i j n = g := by simp [copA, copG, copF, cpOk, c1, c3, c185, c187, c189, c193, e01, e11, e21, e31, e41, e51, e61, e71, e02, e12, e22, e32, e42, e52, e62, clN (show π < 2 ^ 31 by omega), clN (show θ < 2 ^ 31 by omega), inR_nI (show π < 2 ^ 31 by omega), inR_nI (show θ < 2 ^ 31 by omega), show π < 8 by omega, show θ < 8 by omega]
                                  exact F.1 _ _ _ _ _ rfl rfl (dx dX7_copy 66 rfl) kh196 (show some (vi (-4)) = some (vi (copA g (nI π) (nI θ) i j n)) ∧ (∃ v', MilAt h196 k v') ∧ MshAt h196 k (copG g (nI π) (nI θ) i j n) ∧ Ks k h h196 from by rw [eA, eG]; exact ⟨rfl, ⟨_, mh196⟩, hs.kp ph196, ph196.ks⟩))
                            · first
                              | (omega; done)
                              | (
                                  have c193 : 0 = 1 := c193
                                  refine r_aload_n C (dx dX7_copy 40 rfl) rfl ?_
                                  refine g_X7_13 C (dx dX7_copy 41 rfl) ?_
                                  refine r_iload_n C (dx dX7_copy 42 rfl) rfl ?_
                                  refine r_iald (j := π) (x := xI h (k + 2) π) C rfl rfl (by decide) rfl (by omega) (dx dX7_copy 43 rfl) rfl ?_
                                  refine r_aload_n C (dx dX7_copy 44 rfl) rfl ?_
                                  refine g_X7_13 C (dx dX7_copy 45 rfl) ?_
                                  refine r_iload_n C (dx dX7_copy 46 rfl) rfl ?_
                                  refine r_iald (j := θ) (x := xI h (k + 2) θ) C rfl rfl (by decide) rfl (by omega) (dx dX7_copy 47 rfl) rfl ?_
                                  refine r_icmp_eq (tgt := 93) C (dx dX7_copy 48 rfl) (by decide) (fun c197 => ?_) (fun c197 => ?_)
                                  ·
                                    have c197 : xI h (k + 2) π = xI h (k + 2) θ := c197
                                    refine r_aload_n C (dx dX7_copy 53 rfl) rfl ?_
                                    refine g_X7_7 C (dx dX7_copy 54 rfl) ?_
                                    refine r_iload_n C (dx dX7_copy 55 rfl) rfl ?_
                                    refine r_iald (j := π) (x := nI 2) C rfl rfl (by decide) rfl (by omega) (dx dX7_copy 56 rfl) a41 ?_
                                    refine r_if_eq (tgt := 111) C (dx dX7_copy 57 rfl) (by decide) (fun c198 => (show False from by revert c198; decide).elim) (fun _ => ?_)
                                    refine r_aload_n C (dx dX7_copy 58 rfl) rfl ?_
                                    refine g_X7_7 C (dx dX7_copy 59 rfl) ?_
                                    refine r_iload_n C (dx dX7_copy 60 rfl) rfl ?_
                                    refine r_iald (j := θ) (x := nI 0) C rfl rfl (by decide) rfl (by omega) (dx dX7_copy 61 rfl) a12 ?_
                                    refine r_if_ne (tgt := 118) C (dx dX7_copy 62 rfl) (by decide) (fun c199 => (show False from by revert c199; decide).elim) (fun _ => ?_)
                                    refine r_aload_n C (dx dX7_copy 63 rfl) rfl ?_
                                    refine r_bipush (v := -4) C (dx dX7_copy 64 rfl) rfl ?_
                                    refine r_cv (as := [vi (-4)]) (st := []) C X I_X7_refuse l_X7_83 (c_X7_refuse hm (x := -4) (j := 4) (by decide) (by decide)) (by decide) (Nat.le_of_ble_eq_true rfl) List.prefix_rfl List.prefix_rfl rfl rfl (Nat.le_of_ble_eq_true rfl) rfl (dx dX7_copy 65 rfl) ?_
                                    rintro _ h200 ⟨rfl, ⟨wh200, m9h200, s9h200⟩, qh200⟩ kkh200
                                    obtain ⟨vh200, mh200, zh200⟩ : ∃ v9, MilAt h200 k v9 ∧ Sz v v9 := ⟨_, m9h200, s9h200⟩
                                    have ph200 : Kp k h h200 := qh200
                                    have kh200 : xK h200 = xK h := kkh200
                                    obtain ⟨ah200, bh200, ch200⟩ := zh200
                                    have eA : copA g (nI π) (nI θ) i j n = -4 := by simp [copA, copG, copF, cpOk, c1, c3, c185, c187, c189, c193, c197, e01, e11, e21, e31, e41, e51, e61, e71, e02, e12, e22, e32, e42, e52, e62, clN (show π < 2 ^ 31 by omega), clN (show θ < 2 ^ 31 by omega), inR_nI (show π < 2 ^ 31 by omega), inR_nI (show θ < 2 ^ 31 by omega), show π < 8 by omega, show θ < 8 by omega]
                                    have eG : copG g (nI π) (nI θ) i j n = g := by simp [copA, copG, copF, cpOk, c1, c3, c185, c187, c189, c193, c197, e01, e11, e21, e31, e41, e51, e61, e71, e02, e12, e22, e32, e42, e52, e62, clN (show π < 2 ^ 31 by omega), clN (show θ < 2 ^ 31 by omega), inR_nI (show π < 2 ^ 31 by omega), inR_nI (show θ < 2 ^ 31 by omega), show π < 8 by omega, show θ < 8 by omega]
                                    exact F.1 _ _ _ _ _ rfl rfl (dx dX7_copy 66 rfl) kh200 (show some (vi (-4)) = some (vi (copA g (nI π) (nI θ) i j n)) ∧ (∃ v', MilAt h200 k v') ∧ MshAt h200 k (copG g (nI π) (nI θ) i j n) ∧ Ks k h h200 from by rw [eA, eG]; exact ⟨rfl, ⟨_, mh200⟩, hs.kp ph200, ph200.ks⟩)
                                  ·
                                    have c197 : ¬ xI h (k + 2) π = xI h (k + 2) θ := c197
                                    refine r_aload_n C (dx dX7_copy 49 rfl) rfl ?_
                                    refine r_bipush (v := -3) C (dx dX7_copy 50 rfl) rfl ?_
                                    refine r_cv (as := [vi (-3)]) (st := []) C X I_X7_refuse l_X7_83 (c_X7_refuse hm (x := -3) (j := 3) (by decide) (by decide)) (by decide) (Nat.le_of_ble_eq_true rfl) List.prefix_rfl List.prefix_rfl rfl rfl (Nat.le_of_ble_eq_true rfl) rfl (dx dX7_copy 51 rfl) ?_
                                    rintro _ h201 ⟨rfl, ⟨wh201, m9h201, s9h201⟩, qh201⟩ kkh201
                                    obtain ⟨vh201, mh201, zh201⟩ : ∃ v9, MilAt h201 k v9 ∧ Sz v v9 := ⟨_, m9h201, s9h201⟩
                                    have ph201 : Kp k h h201 := qh201
                                    have kh201 : xK h201 = xK h := kkh201
                                    obtain ⟨ah201, bh201, ch201⟩ := zh201
                                    have eA : copA g (nI π) (nI θ) i j n = -3 := by simp [copA, copG, copF, cpOk, c1, c3, c185, c187, c189, c193, c197, e01, e11, e21, e31, e41, e51, e61, e71, e02, e12, e22, e32, e42, e52, e62, clN (show π < 2 ^ 31 by omega), clN (show θ < 2 ^ 31 by omega), inR_nI (show π < 2 ^ 31 by omega), inR_nI (show θ < 2 ^ 31 by omega), show π < 8 by omega, show θ < 8 by omega]
                                    have eG : copG g (nI π) (nI θ) i j n = g := by simp [copA, copG, copF, cpOk, c1, c3, c185, c187, c189, c193, c197, e01, e11, e21, e31, e41, e51, e61, e71, e02, e12, e22, e32, e42, e52, e62, clN (show π < 2 ^ 31 by omega), clN (show θ < 2 ^ 31 by omega), inR_nI (show π < 2 ^ 31 by omega), inR_nI (show θ < 2 ^ 31 by omega), show π < 8 by omega, show θ < 8 by omega]
                                    exact F.1 _ _ _ _ _ rfl rfl (dx dX7_copy 52 rfl) kh201 (show some (vi (-3)) = some (vi (copA g (nI π) (nI θ) i j n)) ∧ (∃ v', MilAt h201 k v') ∧ MshAt h201 k (copG g (nI π) (nI θ) i j n) ∧ Ks k h h201 from by rw [eA, eG]; exact ⟨rfl, ⟨_, mh201⟩, hs.kp ph201, ph201.ks⟩)))))
        ·
          obtain ⟨e02, e12, e22, e32, e42, e52, e62⟩ := sh_row hθ a12 a62 a72
          refine r_aload_n C (dx dX7_copy 16 rfl) rfl ?_
          refine g_X7_7 C (dx dX7_copy 17 rfl) ?_
          refine r_iload_n C (dx dX7_copy 18 rfl) rfl ?_
          refine r_iald (j := π) (x := nI 2) C rfl rfl (by decide) rfl (by omega) (dx dX7_copy 19 rfl) a41 ?_
          refine r_iconst (v := nI 2) C (dx dX7_copy 20 rfl) rfl ?_
          refine rn_eq (a := 2) (b := 2) (tgt := 86) C (by omega) (by omega) (dx dX7_copy 21 rfl) (by decide) (fun c202 => ?_) (fun c202 => ?_)
          · first
            | (omega; done)
            | (
                have c202 : 2 = 2 := c202
                refine r_aload_n C (dx dX7_copy 49 rfl) rfl ?_
                refine r_bipush (v := -3) C (dx dX7_copy 50 rfl) rfl ?_
                refine r_cv (as := [vi (-3)]) (st := []) C X I_X7_refuse l_X7_83 (c_X7_refuse hm (x := -3) (j := 3) (by decide) (by decide)) (by decide) (Nat.le_of_ble_eq_true rfl) List.prefix_rfl List.prefix_rfl rfl rfl (Nat.le_of_ble_eq_true rfl) rfl (dx dX7_copy 51 rfl) ?_
                rintro _ h203 ⟨rfl, ⟨wh203, m9h203, s9h203⟩, qh203⟩ kkh203
                obtain ⟨vh203, mh203, zh203⟩ : ∃ v9, MilAt h203 k v9 ∧ Sz v v9 := ⟨_, m9h203, s9h203⟩
                have ph203 : Kp k h h203 := qh203
                have kh203 : xK h203 = xK h := kkh203
                obtain ⟨ah203, bh203, ch203⟩ := zh203
                have eA : copA g (nI π) (nI θ) i j n = -3 := by simp [copA, copG, copF, cpOk, c1, c3, c202, e01, e11, e21, e31, e41, e51, e61, e71, e02, e12, e22, e32, e42, e52, e62, clN (show π < 2 ^ 31 by omega), clN (show θ < 2 ^ 31 by omega), inR_nI (show π < 2 ^ 31 by omega), inR_nI (show θ < 2 ^ 31 by omega), show π < 8 by omega, show θ < 8 by omega]
                have eG : copG g (nI π) (nI θ) i j n = g := by simp [copA, copG, copF, cpOk, c1, c3, c202, e01, e11, e21, e31, e41, e51, e61, e71, e02, e12, e22, e32, e42, e52, e62, clN (show π < 2 ^ 31 by omega), clN (show θ < 2 ^ 31 by omega), inR_nI (show π < 2 ^ 31 by omega), inR_nI (show θ < 2 ^ 31 by omega), show π < 8 by omega, show θ < 8 by omega]
                exact F.1 _ _ _ _ _ rfl rfl (dx dX7_copy 52 rfl) kh203 (show some (vi (-3)) = some (vi (copA g (nI π) (nI θ) i j n)) ∧ (∃ v', MilAt h203 k v') ∧ MshAt h203 k (copG g (nI π) (nI θ) i j n) ∧ Ks k h h203 from by rw [eA, eG]; exact ⟨rfl, ⟨_, mh203⟩, hs.kp ph203, ph203.ks⟩))
          · first
            | (omega; done)
            | (
                have c202 : ¬ 2 = 2 := c202
                refine r_aload_n C (dx dX7_copy 22 rfl) rfl ?_
                refine g_X7_7 C (dx dX7_copy 23 rfl) ?_
                refine r_iload_n C (dx dX7_copy 24 rfl) rfl ?_
                refine r_iald (j := θ) (x := nI 1) C rfl rfl (by decide) rfl (by omega) (dx dX7_copy 25 rfl) a32 ?_
                refine r_iconst (v := nI 2) C (dx dX7_copy 26 rfl) rfl ?_
                refine rn_eq (a := 1) (b := 2) (tgt := 86) C (by omega) (by omega) (dx dX7_copy 27 rfl) (by decide) (fun c204 => ?_) (fun c204 => ?_)
                · first
                  | (omega; done)
                  | (
                      have c204 : 1 = 2 := c204
                      refine r_aload_n C (dx dX7_copy 49 rfl) rfl ?_
                      refine r_bipush (v := -3) C (dx dX7_copy 50 rfl) rfl ?_
                      refine r_cv (as := [vi (-3)]) (st := []) C X I_X7_refuse l_X7_83 (c_X7_refuse hm (x := -3) (j := 3) (by decide) (by decide)) (by decide) (Nat.le_of_ble_eq_true rfl) List.prefix_rfl List.prefix_rfl rfl rfl (Nat.le_of_ble_eq_true rfl) rfl (dx dX7_copy 51 rfl) ?_
                      rintro _ h205 ⟨rfl, ⟨wh205, m9h205, s9h205⟩, qh205⟩ kkh205
                      obtain ⟨vh205, mh205, zh205⟩ : ∃ v9, MilAt h205 k v9 ∧ Sz v v9 := ⟨_, m9h205, s9h205⟩
                      have ph205 : Kp k h h205 := qh205
                      have kh205 : xK h205 = xK h := kkh205
                      obtain ⟨ah205, bh205, ch205⟩ := zh205
                      have eA : copA g (nI π) (nI θ) i j n = -3 := by simp [copA, copG, copF, cpOk, c1, c3, c202, c204, e01, e11, e21, e31, e41, e51, e61, e71, e02, e12, e22, e32, e42, e52, e62, clN (show π < 2 ^ 31 by omega), clN (show θ < 2 ^ 31 by omega), inR_nI (show π < 2 ^ 31 by omega), inR_nI (show θ < 2 ^ 31 by omega), show π < 8 by omega, show θ < 8 by omega]
                      have eG : copG g (nI π) (nI θ) i j n = g := by simp [copA, copG, copF, cpOk, c1, c3, c202, c204, e01, e11, e21, e31, e41, e51, e61, e71, e02, e12, e22, e32, e42, e52, e62, clN (show π < 2 ^ 31 by omega), clN (show θ < 2 ^ 31 by omega), inR_nI (show π < 2 ^ 31 by omega), inR_nI (show θ < 2 ^ 31 by omega), show π < 8 by omega, show θ < 8 by omega]
                      exact F.1 _ _ _ _ _ rfl rfl (dx dX7_copy 52 rfl) kh205 (show some (vi (-3)) = some (vi (copA g (nI π) (nI θ) i j n)) ∧ (∃ v', MilAt h205 k v') ∧ MshAt h205 k (copG g (nI π) (nI θ) i j n) ∧ Ks k h h205 from by rw [eA, eG]; exact ⟨rfl, ⟨_, mh205⟩, hs.kp ph205, ph205.ks⟩))
                · first
                  | (omega; done)
                  | (
                      have c204 : ¬ 1 = 2 := c204
                      refine r_aload_n C (dx dX7_copy 28 rfl) rfl ?_
                      refine g_X7_7 C (dx dX7_copy 29 rfl) ?_
                      refine r_iload_n C (dx dX7_copy 30 rfl) rfl ?_
                      refine r_iald (j := π) (x := nI 2) C rfl rfl (by decide) rfl (by omega) (dx dX7_copy 31 rfl) a41 ?_
                      refine r_iconst (v := nI 1) C (dx dX7_copy 32 rfl) rfl ?_
                      refine rn_ne (a := 2) (b := 1) (tgt := 93) C (by omega) (by omega) (dx dX7_copy 33 rfl) (by decide) (fun c206 => ?_) (fun c206 => ?_)
                      · first
                        | (omega; done)
                        | (
                            have c206 : ¬ 2 = 1 := c206
                            refine r_aload_n C (dx dX7_copy 53 rfl) rfl ?_
                            refine g_X7_7 C (dx dX7_copy 54 rfl) ?_
                            refine r_iload_n C (dx dX7_copy 55 rfl) rfl ?_
                            refine r_iald (j := π) (x := nI 2) C rfl rfl (by decide) rfl (by omega) (dx dX7_copy 56 rfl) a41 ?_
                            refine r_if_eq (tgt := 111) C (dx dX7_copy 57 rfl) (by decide) (fun c207 => (show False from by revert c207; decide).elim) (fun _ => ?_)
                            refine r_aload_n C (dx dX7_copy 58 rfl) rfl ?_
                            refine g_X7_7 C (dx dX7_copy 59 rfl) ?_
                            refine r_iload_n C (dx dX7_copy 60 rfl) rfl ?_
                            refine r_iald (j := θ) (x := nI 1) C rfl rfl (by decide) rfl (by omega) (dx dX7_copy 61 rfl) a32 ?_
                            refine r_if_ne (tgt := 118) C (dx dX7_copy 62 rfl) (by decide) (fun _ => ?_) (fun c208 => (show False from by revert c208; decide).elim)
                            refine r_iload C (dx dX7_copy 67 rfl) rfl ?_
                            refine r_if_lt (tgt := 181) C (dx dX7_copy 68 rfl) (by decide) (fun c209 => ?_) (fun c209 => ?_)
                            ·
                              have c209 : n < 0 := c209
                              refine r_aload_n C (dx dX7_copy 101 rfl) rfl ?_
                              refine r_bipush (v := -2) C (dx dX7_copy 102 rfl) rfl ?_
                              refine r_cv (as := [vi (-2)]) (st := []) C X I_X7_refuse l_X7_83 (c_X7_refuse hm (x := -2) (j := 2) (by decide) (by decide)) (by decide) (Nat.le_of_ble_eq_true rfl) List.prefix_rfl List.prefix_rfl rfl rfl (Nat.le_of_ble_eq_true rfl) rfl (dx dX7_copy 103 rfl) ?_
                              rintro _ h210 ⟨rfl, ⟨wh210, m9h210, s9h210⟩, qh210⟩ kkh210
                              obtain ⟨vh210, mh210, zh210⟩ : ∃ v9, MilAt h210 k v9 ∧ Sz v v9 := ⟨_, m9h210, s9h210⟩
                              have ph210 : Kp k h h210 := qh210
                              have kh210 : xK h210 = xK h := kkh210
                              obtain ⟨ah210, bh210, ch210⟩ := zh210
                              have eA : copA g (nI π) (nI θ) i j n = -2 := by simp [copA, copG, copF, cpOk, c1, c3, c202, c204, c206, (fun n9 => inR_neg (n := n9) c209 : ∀ n9, inR n n9 = false), c209, e01, e11, e21, e31, e41, e51, e61, e71, e02, e12, e22, e32, e42, e52, e62, clN (show π < 2 ^ 31 by omega), clN (show θ < 2 ^ 31 by omega), inR_nI (show π < 2 ^ 31 by omega), inR_nI (show θ < 2 ^ 31 by omega), show π < 8 by omega, show θ < 8 by omega]
                              have eG : copG g (nI π) (nI θ) i j n = g := by simp [copA, copG, copF, cpOk, c1, c3, c202, c204, c206, (fun n9 => inR_neg (n := n9) c209 : ∀ n9, inR n n9 = false), c209, e01, e11, e21, e31, e41, e51, e61, e71, e02, e12, e22, e32, e42, e52, e62, clN (show π < 2 ^ 31 by omega), clN (show θ < 2 ^ 31 by omega), inR_nI (show π < 2 ^ 31 by omega), inR_nI (show θ < 2 ^ 31 by omega), show π < 8 by omega, show θ < 8 by omega]
                              exact F.1 _ _ _ _ _ rfl rfl (dx dX7_copy 104 rfl) kh210 (show some (vi (-2)) = some (vi (copA g (nI π) (nI θ) i j n)) ∧ (∃ v', MilAt h210 k v') ∧ MshAt h210 k (copG g (nI π) (nI θ) i j n) ∧ Ks k h h210 from by rw [eA, eG]; exact ⟨rfl, ⟨_, mh210⟩, hs.kp ph210, ph210.ks⟩)
                            ·
                              have c209 : ¬ n < 0 := c209
                              obtain ⟨ν, hν, rfl⟩ := nI_of c209
                              refine r_iload_n C (dx dX7_copy 69 rfl) rfl ?_
                              refine r_if_lt (tgt := 181) C (dx dX7_copy 70 rfl) (by decide) (fun c211 => ?_) (fun c211 => ?_)
                              ·
                                have c211 : i < 0 := c211
                                refine r_aload_n C (dx dX7_copy 101 rfl) rfl ?_
                                refine r_bipush (v := -2) C (dx dX7_copy 102 rfl) rfl ?_
                                refine r_cv (as := [vi (-2)]) (st := []) C X I_X7_refuse l_X7_83 (c_X7_refuse hm (x := -2) (j := 2) (by decide) (by decide)) (by decide) (Nat.le_of_ble_eq_true rfl) List.prefix_rfl List.prefix_rfl rfl rfl (Nat.le_of_ble_eq_true rfl) rfl (dx dX7_copy 103 rfl) ?_
                                rintro _ h212 ⟨rfl, ⟨wh212, m9h212, s9h212⟩, qh212⟩ kkh212
                                obtain ⟨vh212, mh212, zh212⟩ : ∃ v9, MilAt h212 k v9 ∧ Sz v v9 := ⟨_, m9h212, s9h212⟩
                                have ph212 : Kp k h h212 := qh212
                                have kh212 : xK h212 = xK h := kkh212
                                obtain ⟨ah212, bh212, ch212⟩ := zh212
                                have eA : copA g (nI π) (nI θ) i j (nI ν) = -2 := by simp [copA, copG, copF, cpOk, c1, c3, c202, c204, c206, c209, (fun n9 => inR_neg (n := n9) c211 : ∀ n9, inR i n9 = false), c211, e01, e11, e21, e31, e41, e51, e61, e71, e02, e12, e22, e32, e42, e52, e62, clN (show π < 2 ^ 31 by omega), clN (show θ < 2 ^ 31 by omega), clN (show ν < 2 ^ 31 by omega), inR_nI (show π < 2 ^ 31 by omega), inR_nI (show θ < 2 ^ 31 by omega), inR_nI (show ν < 2 ^ 31 by omega), show π < 8 by omega, show θ < 8 by omega]
                                have eG : copG g (nI π) (nI θ) i j (nI ν) = g := by simp [copA, copG, copF, cpOk, c1, c3, c202, c204, c206, c209, (fun n9 => inR_neg (n := n9) c211 : ∀ n9, inR i n9 = false), c211, e01, e11, e21, e31, e41, e51, e61, e71, e02, e12, e22, e32, e42, e52, e62, clN (show π < 2 ^ 31 by omega), clN (show θ < 2 ^ 31 by omega), clN (show ν < 2 ^ 31 by omega), inR_nI (show π < 2 ^ 31 by omega), inR_nI (show θ < 2 ^ 31 by omega), inR_nI (show ν < 2 ^ 31 by omega), show π < 8 by omega, show θ < 8 by omega]
                                exact F.1 _ _ _ _ _ rfl rfl (dx dX7_copy 104 rfl) kh212 (show some (vi (-2)) = some (vi (copA g (nI π) (nI θ) i j (nI ν))) ∧ (∃ v', MilAt h212 k v') ∧ MshAt h212 k (copG g (nI π) (nI θ) i j (nI ν)) ∧ Ks k h h212 from by rw [eA, eG]; exact ⟨rfl, ⟨_, mh212⟩, hs.kp ph212, ph212.ks⟩)
                              ·
                                have c211 : ¬ i < 0 := c211
                                obtain ⟨ι, hι, rfl⟩ := nI_of c211
                                refine r_iload C (dx dX7_copy 71 rfl) rfl ?_
                                refine r_if_lt (tgt := 181) C (dx dX7_copy 72 rfl) (by decide) (fun c213 => ?_) (fun c213 => ?_)
                                ·
                                  have c213 : j < 0 := c213
                                  refine r_aload_n C (dx dX7_copy 101 rfl) rfl ?_
                                  refine r_bipush (v := -2) C (dx dX7_copy 102 rfl) rfl ?_
                                  refine r_cv (as := [vi (-2)]) (st := []) C X I_X7_refuse l_X7_83 (c_X7_refuse hm (x := -2) (j := 2) (by decide) (by decide)) (by decide) (Nat.le_of_ble_eq_true rfl) List.prefix_rfl List.prefix_rfl rfl rfl (Nat.le_of_ble_eq_true rfl) rfl (dx dX7_copy 103 rfl) ?_
                                  rintro _ h214 ⟨rfl, ⟨wh214, m9h214, s9h214⟩, qh214⟩ kkh214
                                  obtain ⟨vh214, mh214, zh214⟩ : ∃ v9, MilAt h214 k v9 ∧ Sz v v9 := ⟨_, m9h214, s9h214⟩
                                  have ph214 : Kp k h h214 := qh214
                                  have kh214 : xK h214 = xK h := kkh214
                                  obtain ⟨ah214, bh214, ch214⟩ := zh214
                                  have eA : copA g (nI π) (nI θ) (nI ι) j (nI ν) = -2 := by simp [copA, copG, copF, cpOk, c1, c3, c202, c204, c206, c209, c211, (fun n9 => inR_neg (n := n9) c213 : ∀ n9, inR j n9 = false), c213, e01, e11, e21, e31, e41, e51, e61, e71, e02, e12, e22, e32, e42, e52, e62, clN (show π < 2 ^ 31 by omega), clN (show θ < 2 ^ 31 by omega), clN (show ν < 2 ^ 31 by omega), clN (show ι < 2 ^ 31 by omega), inR_nI (show π < 2 ^ 31 by omega), inR_nI (show θ < 2 ^ 31 by omega), inR_nI (show ν < 2 ^ 31 by omega), inR_nI (show ι < 2 ^ 31 by omega), show π < 8 by omega, show θ < 8 by omega]
                                  have eG : copG g (nI π) (nI θ) (nI ι) j (nI ν) = g := by simp [copA, copG, copF, cpOk, c1, c3, c202, c204, c206, c209, c211, (fun n9 => inR_neg (n := n9) c213 : ∀ n9, inR j n9 = false), c213, e01, e11, e21, e31, e41, e51, e61, e71, e02, e12, e22, e32, e42, e52, e62, clN (show π < 2 ^ 31 by omega), clN (show θ < 2 ^ 31 by omega), clN (show ν < 2 ^ 31 by omega), clN (show ι < 2 ^ 31 by omega), inR_nI (show π < 2 ^ 31 by omega), inR_nI (show θ < 2 ^ 31 by omega), inR_nI (show ν < 2 ^ 31 by omega), inR_nI (show ι < 2 ^ 31 by omega), show π < 8 by omega, show θ < 8 by omega]
                                  exact F.1 _ _ _ _ _ rfl rfl (dx dX7_copy 104 rfl) kh214 (show some (vi (-2)) = some (vi (copA g (nI π) (nI θ) (nI ι) j (nI ν))) ∧ (∃ v', MilAt h214 k v') ∧ MshAt h214 k (copG g (nI π) (nI θ) (nI ι) j (nI ν)) ∧ Ks k h h214 from by rw [eA, eG]; exact ⟨rfl, ⟨_, mh214⟩, hs.kp ph214, ph214.ks⟩)
                                ·
                                  have c213 : ¬ j < 0 := c213
                                  obtain ⟨ξ, hξ, rfl⟩ := nI_of c213
                                  refine r_iload C (dx dX7_copy 73 rfl) rfl ?_
                                  refine r_aload_n C (dx dX7_copy 74 rfl) rfl ?_
                                  refine g_X7_16 C (dx dX7_copy 75 rfl) ?_
                                  refine r_iload_n C (dx dX7_copy 76 rfl) rfl ?_
                                  refine r_iald (j := π) (x := xI h (k + 3) π) C rfl rfl (by decide) rfl (by omega) (dx dX7_copy 77 rfl) rfl ?_
                                  refine r_icmp_gt (tgt := 181) C (dx dX7_copy 78 rfl) (by decide) (fun c215 => ?_) (fun c215 => ?_)
                                  ·
                                    have c215 : xI h (k + 3) π < nI ν := c215
                                    refine r_aload_n C (dx dX7_copy 101 rfl) rfl ?_
                                    refine r_bipush (v := -2) C (dx dX7_copy 102 rfl) rfl ?_
                                    refine r_cv (as := [vi (-2)]) (st := []) C X I_X7_refuse l_X7_83 (c_X7_refuse hm (x := -2) (j := 2) (by decide) (by decide)) (by decide) (Nat.le_of_ble_eq_true rfl) List.prefix_rfl List.prefix_rfl rfl rfl (Nat.le_of_ble_eq_true rfl) rfl (dx dX7_copy 103 rfl) ?_
                                    rintro _ h216 ⟨rfl, ⟨wh216, m9h216, s9h216⟩, qh216⟩ kkh216
                                    obtain ⟨vh216, mh216, zh216⟩ : ∃ v9, MilAt h216 k v9 ∧ Sz v v9 := ⟨_, m9h216, s9h216⟩
                                    have ph216 : Kp k h h216 := qh216
                                    have kh216 : xK h216 = xK h := kkh216
                                    obtain ⟨ah216, bh216, ch216⟩ := zh216
                                    have eA : copA g (nI π) (nI θ) (nI ι) (nI ξ) (nI ν) = -2 := by (have hq : ¬ (ι + ν ≤ ν1 ∧ ξ + ν ≤ ν2) := by omega); (have hq2 := cp_row e31 e32 (i := ι) (j := ξ) (n := ν) (by omega) (by omega) (by omega) (by omega) (by omega)); rw [decide_eq_false hq] at hq2; simp [copA, copG, copF, c1, c3, c202, c204, c206, c209, c211, c213, c215, e01, e11, e21, e31, e41, e51, e61, e71, e02, e12, e22, e32, e42, e52, e62, clN (show π < 2 ^ 31 by omega), clN (show θ < 2 ^ 31 by omega), clN (show ν < 2 ^ 31 by omega), clN (show ι < 2 ^ 31 by omega), clN (show ξ < 2 ^ 31 by omega), inR_nI (show π < 2 ^ 31 by omega), inR_nI (show θ < 2 ^ 31 by omega), inR_nI (show ν < 2 ^ 31 by omega), inR_nI (show ι < 2 ^ 31 by omega), inR_nI (show ξ < 2 ^ 31 by omega), hq2, show π < 8 by omega, show θ < 8 by omega]
                                    have eG : copG g (nI π) (nI θ) (nI ι) (nI ξ) (nI ν) = g := by (have hq : ¬ (ι + ν ≤ ν1 ∧ ξ + ν ≤ ν2) := by omega); (have hq2 := cp_row e31 e32 (i := ι) (j := ξ) (n := ν) (by omega) (by omega) (by omega) (by omega) (by omega)); rw [decide_eq_false hq] at hq2; simp [copA, copG, copF, c1, c3, c202, c204, c206, c209, c211, c213, c215, e01, e11, e21, e31, e41, e51, e61, e71, e02, e12, e22, e32, e42, e52, e62, clN (show π < 2 ^ 31 by omega), clN (show θ < 2 ^ 31 by omega), clN (show ν < 2 ^ 31 by omega), clN (show ι < 2 ^ 31 by omega), clN (show ξ < 2 ^ 31 by omega), inR_nI (show π < 2 ^ 31 by omega), inR_nI (show θ < 2 ^ 31 by omega), inR_nI (show ν < 2 ^ 31 by omega), inR_nI (show ι < 2 ^ 31 by omega), inR_nI (show ξ < 2 ^ 31 by omega), hq2, show π < 8 by omega, show θ < 8 by omega]
                                    exact F.1 _ _ _ _ _ rfl rfl (dx dX7_copy 104 rfl) kh216 (show some (vi (-2)) = some (vi (copA g (nI π) (nI θ) (nI ι) (nI ξ) (nI ν))) ∧ (∃ v', MilAt h216 k v') ∧ MshAt h216 k (copG g (nI π) (nI θ) (nI ι) (nI ξ) (nI ν)) ∧ Ks k h h216 from by rw [eA, eG]; exact ⟨rfl, ⟨_, mh216⟩, hs.kp ph216, ph216.ks⟩)
                                  ·
                                    have c215 : ¬ xI h (k + 3) π < nI ν := c215
                                    refine r_iload C (dx dX7_copy 79 rfl) rfl ?_
                                    refine r_aload_n C (dx dX7_copy 80 rfl) rfl ?_
                                    refine g_X7_16 C (dx dX7_copy 81 rfl) ?_
                                    refine r_iload_n C (dx dX7_copy 82 rfl) rfl ?_
                                    refine r_iald (j := θ) (x := nI ν2) C rfl rfl (by decide) rfl (by omega) (dx dX7_copy 83 rfl) a52 ?_
                                    refine rn_gt (a := ν) (b := ν2) (tgt := 181) C (by omega) (by omega) (dx dX7_copy 84 rfl) (by decide) (fun c217 => ?_) (fun c217 => ?_)
                                    · first
                                      | (omega; done)
                                      | (
                                          have c217 : ν2 < ν := c217
                                          refine r_aload_n C (dx dX7_copy 101 rfl) rfl ?_
                                          refine r_bipush (v := -2) C (dx dX7_copy 102 rfl) rfl ?_
                                          refine r_cv (as := [vi (-2)]) (st := []) C X I_X7_refuse l_X7_83 (c_X7_refuse hm (x := -2) (j := 2) (by decide) (by decide)) (by decide) (Nat.le_of_ble_eq_true rfl) List.prefix_rfl List.prefix_rfl rfl rfl (Nat.le_of_ble_eq_true rfl) rfl (dx dX7_copy 103 rfl) ?_
                                          rintro _ h218 ⟨rfl, ⟨wh218, m9h218, s9h218⟩, qh218⟩ kkh218
                                          obtain ⟨vh218, mh218, zh218⟩ : ∃ v9, MilAt h218 k v9 ∧ Sz v v9 := ⟨_, m9h218, s9h218⟩
                                          have ph218 : Kp k h h218 := qh218
                                          have kh218 : xK h218 = xK h := kkh218
                                          obtain ⟨ah218, bh218, ch218⟩ := zh218
                                          have eA : copA g (nI π) (nI θ) (nI ι) (nI ξ) (nI ν) = -2 := by (have hq : ¬ (ι + ν ≤ ν1 ∧ ξ + ν ≤ ν2) := by omega); (have hq2 := cp_row e31 e32 (i := ι) (j := ξ) (n := ν) (by omega) (by omega) (by omega) (by omega) (by omega)); rw [decide_eq_false hq] at hq2; simp [copA, copG, copF, c1, c3, c202, c204, c206, c209, c211, c213, c215, c217, e01, e11, e21, e31, e41, e51, e61, e71, e02, e12, e22, e32, e42, e52, e62, clN (show π < 2 ^ 31 by omega), clN (show θ < 2 ^ 31 by omega), clN (show ν < 2 ^ 31 by omega), clN (show ι < 2 ^ 31 by omega), clN (show ξ < 2 ^ 31 by omega), inR_nI (show π < 2 ^ 31 by omega), inR_nI (show θ < 2 ^ 31 by omega), inR_nI (show ν < 2 ^ 31 by omega), inR_nI (show ι < 2 ^ 31 by omega), inR_nI (show ξ < 2 ^ 31 by omega), hq2, show π < 8 by omega, show θ < 8 by omega]
                                          have eG : copG g (nI π) (nI θ) (nI ι) (nI ξ) (nI ν) = g := by (have hq : ¬ (ι + ν ≤ ν1 ∧ ξ + ν ≤ ν2) := by omega); (have hq2 := cp_row e31 e32 (i := ι) (j := ξ) (n := ν) (by omega) (by omega) (by omega) (by omega) (by omega)); rw [decide_eq_false hq] at hq2; simp [copA, copG, copF, c1, c3, c202, c204, c206, c209, c211, c213, c215, c217, e01, e11, e21, e31, e41, e51, e61, e71, e02, e12, e22, e32, e42, e52, e62, clN (show π < 2 ^ 31 by omega), clN (show θ < 2 ^ 31 by omega), clN (show ν < 2 ^ 31 by omega), clN (show ι < 2 ^ 31 by omega), clN (show ξ < 2 ^ 31 by omega), inR_nI (show π < 2 ^ 31 by omega), inR_nI (show θ < 2 ^ 31 by omega), inR_nI (show ν < 2 ^ 31 by omega), inR_nI (show ι < 2 ^ 31 by omega), inR_nI (show ξ < 2 ^ 31 by omega), hq2, show π < 8 by omega, show θ < 8 by omega]
                                          exact F.1 _ _ _ _ _ rfl rfl (dx dX7_copy 104 rfl) kh218 (show some (vi (-2)) = some (vi (copA g (nI π) (nI θ) (nI ι) (nI ξ) (nI ν))) ∧ (∃ v', MilAt h218 k v') ∧ MshAt h218 k (copG g (nI π) (nI θ) (nI ι) (nI ξ) (nI ν)) ∧ Ks k h h218 from by rw [eA, eG]; exact ⟨rfl, ⟨_, mh218⟩, hs.kp ph218, ph218.ks⟩))
                                    · first
                                      | (omega; done)
                                      | (
                                          have c217 : ν ≤ ν2 := c217
                                          refine r_iload_n C (dx dX7_copy 85 rfl) rfl ?_
                                          refine r_aload_n C (dx dX7_copy 86 rfl) rfl ?_
                                          refine g_X7_16 C (dx dX7_copy 87 rfl) ?_
                                          refine r_iload_n C (dx dX7_copy 88 rfl) rfl ?_
                                          refine r_iald (j := π) (x := xI h (k + 3) π) C rfl rfl (by decide) rfl (by omega) (dx dX7_copy 89 rfl) rfl ?_
                                          refine r_iload C (dx dX7_copy 90 rfl) rfl ?_
                                          refine r_isub C (dx dX7_copy 91 rfl) ?_
                                          refine r_icmp_gt (tgt := 181) C (dx dX7_copy 92 rfl) (by decide) (fun c219 => ?_) (fun c219 => ?_)
                                          ·
                                            have c219 : (xI h (k + 3) π) - (nI ν) < nI ι := c219
                                            refine r_aload_n C (dx dX7_copy 101 rfl) rfl ?_
                                            refine r_bipush (v := -2) C (dx dX7_copy 102 rfl) rfl ?_
                                            refine r_cv (as := [vi (-2)]) (st := []) C X I_X7_refuse l_X7_83 (c_X7_refuse hm (x := -2) (j := 2) (by decide) (by decide)) (by decide) (Nat.le_of_ble_eq_true rfl) List.prefix_rfl List.prefix_rfl rfl rfl (Nat.le_of_ble_eq_true rfl) rfl (dx dX7_copy 103 rfl) ?_
                                            rintro _ h220 ⟨rfl, ⟨wh220, m9h220, s9h220⟩, qh220⟩ kkh220
                                            obtain ⟨vh220, mh220, zh220⟩ : ∃ v9, MilAt h220 k v9 ∧ Sz v v9 := ⟨_, m9h220, s9h220⟩
                                            have ph220 : Kp k h h220 := qh220
                                            have kh220 : xK h220 = xK h := kkh220
                                            obtain ⟨ah220, bh220, ch220⟩ := zh220
                                            have eA : copA g (nI π) (nI θ) (nI ι) (nI ξ) (nI ν) = -2 := by (have hq : ¬ (ι + ν ≤ ν1 ∧ ξ + ν ≤ ν2) := by omega); (have hq2 := cp_row e31 e32 (i := ι) (j := ξ) (n := ν) (by omega) (by omega) (by omega) (by omega) (by omega)); rw [decide_eq_false hq] at hq2; simp [copA, copG, copF, c1, c3, c202, c204, c206, c209, c211, c213, c215, c217, c219, e01, e11, e21, e31, e41, e51, e61, e71, e02, e12, e22, e32, e42, e52, e62, clN (show π < 2 ^ 31 by omega), clN (show θ < 2 ^ 31 by omega), clN (show ν < 2 ^ 31 by omega), clN (show ι < 2 ^ 31 by omega), clN (show ξ < 2 ^ 31 by omega), inR_nI (show π < 2 ^ 31 by omega), inR_nI (show θ < 2 ^ 31 by omega), inR_nI (show ν < 2 ^ 31 by omega), inR_nI (show ι < 2 ^ 31 by omega), inR_nI (show ξ < 2 ^ 31 by omega), hq2, show π < 8 by omega, show θ < 8 by omega]
                                            have eG : copG g (nI π) (nI θ) (nI ι) (nI ξ) (nI ν) = g := by (have hq : ¬ (ι + ν ≤ ν1 ∧ ξ + ν ≤ ν2) := by omega); (have hq2 := cp_row e31 e32 (i := ι) (j := ξ) (n := ν) (by omega) (by omega) (by omega) (by omega) (by omega)); rw [decide_eq_false hq] at hq2; simp [copA, copG, copF, c1, c3, c202, c204, c206, c209, c211, c213, c215, c217, c219, e01, e11, e21, e31, e41, e51, e61, e71, e02, e12, e22, e32, e42, e52, e62, clN (show π < 2 ^ 31 by omega), clN (show θ < 2 ^ 31 by omega), clN (show ν < 2 ^ 31 by omega), clN (show ι < 2 ^ 31 by omega), clN (show ξ < 2 ^ 31 by omega), inR_nI (show π < 2 ^ 31 by omega), inR_nI (show θ < 2 ^ 31 by omega), inR_nI (show ν < 2 ^ 31 by omega), inR_nI (show ι < 2 ^ 31 by omega), inR_nI (show ξ < 2 ^ 31 by omega), hq2, show π < 8 by omega, show θ < 8 by omega]
                                            exact F.1 _ _ _ _ _ rfl rfl (dx dX7_copy 104 rfl) kh220 (show some (vi (-2)) = some (vi (copA g (nI π) (nI θ) (nI ι) (nI ξ) (nI ν))) ∧ (∃ v', MilAt h220 k v') ∧ MshAt h220 k (copG g (nI π) (nI θ) (nI ι) (nI ξ) (nI ν)) ∧ Ks k h h220 from by rw [eA, eG]; exact ⟨rfl, ⟨_, mh220⟩, hs.kp ph220, ph220.ks⟩)
                                          ·
                                            have c219 : ¬ (xI h (k + 3) π) - (nI ν) < nI ι := c219
                                            refine r_iload C (dx dX7_copy 93 rfl) rfl ?_
                                            refine r_aload_n C (dx dX7_copy 94 rfl) rfl ?_
                                            refine g_X7_16 C (dx dX7_copy 95 rfl) ?_
                                            refine r_iload_n C (dx dX7_copy 96 rfl) rfl ?_
                                            refine r_iald (j := θ) (x := nI ν2) C rfl rfl (by decide) rfl (by omega) (dx dX7_copy 97 rfl) a52 ?_
                                            refine r_iload C (dx dX7_copy 98 rfl) rfl ?_
                                            refine rn_isub (a := ν2) (b := ν) C (by omega) (dx dX7_copy 99 rfl) ?_
                                            refine rn_le (a := ξ) (b := ν2 - ν) (tgt := 188) C (by omega) (by omega) (dx dX7_copy 100 rfl) (by decide) (fun c221 => ?_) (fun c221 => ?_)
                                            · first
                                              | (omega; done)
                                              | (
                                                  have c221 : ξ ≤ ν2 - ν := c221
                                                  refine r_iconst (v := nI 0) C (dx dX7_copy 105 rfl) rfl ?_
                                                  refine r_istore (ls' := [(0, vr 7 k), (1, vi (nI π)), (2, vi (nI θ)), (3, vi (nI ι)), (4, vi (nI ξ)), (5, vi (nI ν)), (6, vi (nI 0))]) C (dx dX7_copy 106 rfl) (by decide) [1, 2, 3, 4, 5, 6, 0] rfl ?_
                                                  refine loopU (Φ := fun p => ∀ h9, (∀ t, t < p → xL h9 (k + 13) t = gE g π (ι + t)) → Fr (k + 13) (k + 14) h h9 → xK h9 = xK h → Rr G 191 [(0, vr 7 k), (1, vi (nI π)), (2, vi (nI θ)), (3, vi (nI ι)), (4, vi (nI ξ)), (5, vi (nI ν)), (6, vi (nI p))] [] h9) (N := ν) ?_ ?_ 0 (by omega) _ (fun i hi => absurd hi (by omega)) Fr.rf rfl
                                                  ·
                                                    intro h9 q9 f9 k9
                                                    refine r_iload C (dx dX7_copy 107 rfl) rfl ?_
                                                    refine r_iload C (dx dX7_copy 108 rfl) rfl ?_
                                                    refine rn_ge (a := ν) (b := ν) (tgt := 222) C (by omega) (by omega) (dx dX7_copy 109 rfl) (by decide) (fun c222 => ?_) (fun c222 => ?_)
                                                    · first
                                                      | (omega; done)
                                                      | (
                                                          have c222 : ν ≤ ν := c222
                                                          refine r_iconst (v := nI 0) C (dx dX7_copy 124 rfl) rfl ?_
                                                          refine r_istore (ls' := [(0, vr 7 k), (1, vi (nI π)), (2, vi (nI θ)), (3, vi (nI ι)), (4, vi (nI ξ)), (5, vi (nI ν)), (6, vi (nI 0))]) C (dx dX7_copy 125 rfl) (by decide) [1, 2, 3, 4, 5, 6, 0] rfl ?_
                                                          have r9 := MsR.fr (show MsR h k g θ from ⟨_, _, a12, a22, a32, a42, a52, a62, a72, a82⟩) hθ f9
                                                          refine loopU (Φ := fun p => ∀ h8, (∀ i, i < 40 → xL h8 (k + 5 + θ) i = if ξ ≤ i ∧ i < ξ + p then gE g π (ι + (i - ξ)) else gE g θ i) → (∀ t, t < ν → xL h8 (k + 13) t = gE g π (ι + t)) → Fr (k + 5 + θ) (k + 5 + θ + 1) h9 h8 → xK h8 = xK h → Rr G 225 [(0, vr 7 k), (1, vi (nI π)), (2, vi (nI θ)), (3, vi (nI ι)), (4, vi (nI ξ)), (5, vi (nI ν)), (6, vi (nI p))] [] h8) (N := ν) ?_ ?_ 0 (by omega) _ (fun i hi => by rw [if_neg (by omega), f9.L (by omega)]; exact a82 i hi) q9 Fr.rf k9
                                                          ·
                                                            intro h8 q8 u8 f8 k8
                                                            have s9 : MshAt h8 k (pCp g π θ ι ξ ν) := msh_els (hs.mv f9) hθ r9 f8 (fun i hi => by rw [q8 i hi]; rfl)
                                                            have g9 : Fr (k + 1) (k + 17) h h8 := (f9.mono (by omega) (by omega)).tr (f8.mono (by omega) (by omega))
                                                            refine r_iload C (dx dX7_copy 126 rfl) rfl ?_
                                                            refine r_iload C (dx dX7_copy 127 rfl) rfl ?_
                                                            refine rn_ge (a := ν) (b := ν) (tgt := 257) C (by omega) (by omega) (dx dX7_copy 128 rfl) (by decide) (fun c223 => ?_) (fun c223 => ?_)
                                                            · first
                                                              | (omega; done)
                                                              | (
                                                                  have c223 : ν ≤ ν := c223
                                                                  refine r_iload C (dx dX7_copy 143 rfl) rfl ?_
                                                                  have eA : copA g (nI π) (nI θ) (nI ι) (nI ξ) (nI ν) = nI ν := by simp [copA, copG, copF, c1, c3, c202, c204, c206, c209, c211, c213, c215, c217, c219, c221, c222, c223, e01, e11, e21, e31, e41, e51, e61, e71, e02, e12, e22, e32, e42, e52, e62, clN (show π < 2 ^ 31 by omega), clN (show θ < 2 ^ 31 by omega), clN (show ν < 2 ^ 31 by omega), clN (show ι < 2 ^ 31 by omega), clN (show ξ < 2 ^ 31 by omega), inR_nI (show π < 2 ^ 31 by omega), inR_nI (show θ < 2 ^ 31 by omega), inR_nI (show ν < 2 ^ 31 by omega), inR_nI (show ι < 2 ^ 31 by omega), inR_nI (show ξ < 2 ^ 31 by omega), show π < 8 by omega, show θ < 8 by omega, cp_row e31 e32 (by omega) (by omega) (show ι < 2 ^ 31 by omega) (show ξ < 2 ^ 31 by omega) (show ν < 2 ^ 31 by omega), show ι + ν ≤ ν1 by omega, show ξ + ν ≤ ν2 by omega]
                                                                  have eG : copG g (nI π) (nI θ) (nI ι) (nI ξ) (nI ν) = pCp g π θ ι ξ ν := by simp [copA, copG, copF, c1, c3, c202, c204, c206, c209, c211, c213, c215, c217, c219, c221, c222, c223, e01, e11, e21, e31, e41, e51, e61, e71, e02, e12, e22, e32, e42, e52, e62, clN (show π < 2 ^ 31 by omega), clN (show θ < 2 ^ 31 by omega), clN (show ν < 2 ^ 31 by omega), clN (show ι < 2 ^ 31 by omega), clN (show ξ < 2 ^ 31 by omega), inR_nI (show π < 2 ^ 31 by omega), inR_nI (show θ < 2 ^ 31 by omega), inR_nI (show ν < 2 ^ 31 by omega), inR_nI (show ι < 2 ^ 31 by omega), inR_nI (show ξ < 2 ^ 31 by omega), show π < 8 by omega, show θ < 8 by omega, cp_row e31 e32 (by omega) (by omega) (show ι < 2 ^ 31 by omega) (show ξ < 2 ^ 31 by omega) (show ν < 2 ^ 31 by omega), show ι + ν ≤ ν1 by omega, show ξ + ν ≤ ν2 by omega]
                                                                  exact F.1 _ _ _ _ _ rfl rfl (dx dX7_copy 144 rfl) k8 (show some (vi (nI ν)) = some (vi (copA g (nI π) (nI θ) (nI ι) (nI ξ) (nI ν))) ∧ (∃ v', MilAt h8 k v') ∧ MshAt h8 k (copG g (nI π) (nI θ) (nI ι) (nI ξ) (nI ν)) ∧ Ks k h h8 from by rw [eA, eG]; exact ⟨rfl, ⟨_, hm.fr g9 (by omega)⟩, s9, (Ks.fr g9 (by omega) (by omega))⟩))
                                                            · first
                                                              | (omega; done)
                                                          ·
                                                            intro p hp ih h8 q8 u8 f8 k8
                                                            refine r_iload C (dx dX7_copy 126 rfl) rfl ?_
                                                            refine r_iload C (dx dX7_copy 127 rfl) rfl ?_
                                                            refine rn_ge (a := p) (b := ν) (tgt := 257) C (by omega) (by omega) (dx dX7_copy 128 rfl) (by decide) (fun c224 => ?_) (fun c224 => ?_)
                                                            · first
                                                              | (omega; done)
                                                              | (
                                                                  have c224 : ν ≤ p := c224
                                                                  refine r_iload C (dx dX7_copy 143 rfl) rfl ?_
                                                                  have eA : copA g (nI π) (nI θ) (nI ι) (nI ξ) (nI ν) = nI ν := by simp [copA, copG, copF, c1, c3, c202, c204, c206, c209, c211, c213, c215, c217, c219, c221, c222, c224, e01, e11, e21, e31, e41, e51, e61, e71, e02, e12, e22, e32, e42, e52, e62, clN (show π < 2 ^ 31 by omega), clN (show θ < 2 ^ 31 by omega), clN (show ν < 2 ^ 31 by omega), clN (show ι < 2 ^ 31 by omega), clN (show ξ < 2 ^ 31 by omega), inR_nI (show π < 2 ^ 31 by omega), inR_nI (show θ < 2 ^ 31 by omega), inR_nI (show ν < 2 ^ 31 by omega), inR_nI (show ι < 2 ^ 31 by omega), inR_nI (show ξ < 2 ^ 31 by omega), show π < 8 by omega, show θ < 8 by omega, cp_row e31 e32 (by omega) (by omega) (show ι < 2 ^ 31 by omega) (show ξ < 2 ^ 31 by omega) (show ν < 2 ^ 31 by omega), show ι + ν ≤ ν1 by omega, show ξ + ν ≤ ν2 by omega]
                                                                  have eG : copG g (nI π) (nI θ) (nI ι) (nI ξ) (nI ν) = g := by simp [copA, copG, copF, c1, c3, c202, c204, c206, c209, c211, c213, c215, c217, c219, c221, c222, c224, e01, e11, e21, e31, e41, e51, e61, e71, e02, e12, e22, e32, e42, e52, e62, clN (show π < 2 ^ 31 by omega), clN (show θ < 2 ^ 31 by omega), clN (show ν < 2 ^ 31 by omega), clN (show ι < 2 ^ 31 by omega), clN (show ξ < 2 ^ 31 by omega), inR_nI (show π < 2 ^ 31 by omega), inR_nI (show θ < 2 ^ 31 by omega), inR_nI (show ν < 2 ^ 31 by omega), inR_nI (show ι < 2 ^ 31 by omega), inR_nI (show ξ < 2 ^ 31 by omega), show π < 8 by omega, show θ < 8 by omega, cp_row e31 e32 (by omega) (by omega) (show ι < 2 ^ 31 by omega) (show ξ < 2 ^ 31 by omega) (show ν < 2 ^ 31 by omega), show ι + ν ≤ ν1 by omega, show ξ + ν ≤ ν2 by omega]
                                                                  exact F.1 _ _ _ _ _ rfl rfl (dx dX7_copy 144 rfl) k8 (show some (vi (nI ν)) = some (vi (copA g (nI π) (nI θ) (nI ι) (nI ξ) (nI ν))) ∧ (∃ v', MilAt h8 k v') ∧ MshAt h8 k (copG g (nI π) (nI θ) (nI ι) (nI ξ) (nI ν)) ∧ Ks k h h8 from by rw [eA, eG]; exact ⟨rfl, ⟨_, hm⟩, hs, Ks.rf⟩))
                                                            · first
                                                              | (omega; done)
                                                              | (
                                                                  have c224 : p < ν := c224
                                                                  refine r_aload_n C (dx dX7_copy 129 rfl) rfl ?_
                                                                  refine g_X7_21 C (dx dX7_copy 130 rfl) ?_
                                                                  refine r_iload_n C (dx dX7_copy 131 rfl) rfl ?_
                                                                  refine r_aald5 (j := θ) C rfl rfl (by decide) rfl (by omega) (dx dX7_copy 132 rfl) ?_
                                                                  refine r_iload C (dx dX7_copy 133 rfl) rfl ?_
                                                                  refine r_iload C (dx dX7_copy 134 rfl) rfl ?_
                                                                  refine rn_iadd (a := ξ) (b := p) C (dx dX7_copy 135 rfl) ?_
                                                                  refine r_aload_n C (dx dX7_copy 136 rfl) rfl ?_
                                                                  refine g_X7_24 C (dx dX7_copy 137 rfl) ?_
                                                                  refine r_iload C (dx dX7_copy 138 rfl) rfl ?_
                                                                  refine r_lald (j := p) (x := gE g π (ι + p)) C rfl rfl (by decide) rfl (by omega) (dx dX7_copy 139 rfl) (u8 _ (by omega)) ?_
                                                                  refine r_last (j := ξ + p) C rfl rfl (by decide) rfl (by omega) (dx dX7_copy 140 rfl) ?_
                                                                  refine rn_iinc (a := p) (k := 1) (ls' := [(0, vr 7 k), (1, vi (nI π)), (2, vi (nI θ)), (3, vi (nI ι)), (4, vi (nI ξ)), (5, vi (nI ν)), (6, vi (nI (p + 1)))]) C (dx dX7_copy 141 rfl) rfl rfl (by decide) [1, 2, 3, 4, 5, 6, 0] rfl ?_
                                                                  refine r_goto (tgt := 225) C (dx dX7_copy 142 rfl) (by decide) ?_
                                                                  exact ih _ (fun i hi => by rw [sL_at]; exact cp2_step q8 i hi) (fun t ht => by rw [sL_ne (by omega)]; exact u8 t ht) (f8.tr (Fr.sL (by omega) (by omega))) k8))
                                                    · first
                                                      | (omega; done)
                                                  ·
                                                    intro p hp ih h9 q9 f9 k9
                                                    refine r_iload C (dx dX7_copy 107 rfl) rfl ?_
                                                    refine r_iload C (dx dX7_copy 108 rfl) rfl ?_
                                                    refine rn_ge (a := p) (b := ν) (tgt := 222) C (by omega) (by omega) (dx dX7_copy 109 rfl) (by decide) (fun c225 => ?_) (fun c225 => ?_)
                                                    · first
                                                      | (omega; done)
                                                      | (
                                                          have c225 : ν ≤ p := c225
                                                          refine r_iconst (v := nI 0) C (dx dX7_copy 124 rfl) rfl ?_
                                                          refine r_istore (ls' := [(0, vr 7 k), (1, vi (nI π)), (2, vi (nI θ)), (3, vi (nI ι)), (4, vi (nI ξ)), (5, vi (nI ν)), (6, vi (nI 0))]) C (dx dX7_copy 125 rfl) (by decide) [1, 2, 3, 4, 5, 6, 0] rfl ?_
                                                          have r9 := MsR.fr (show MsR h k g θ from ⟨_, _, a12, a22, a32, a42, a52, a62, a72, a82⟩) hθ f9
                                                          refine loopU (Φ := fun p => ∀ h8, (∀ i, i < 40 → xL h8 (k + 5 + θ) i = if ξ ≤ i ∧ i < ξ + p then gE g π (ι + (i - ξ)) else gE g θ i) → (∀ t, t < ν → xL h8 (k + 13) t = gE g π (ι + t)) → Fr (k + 5 + θ) (k + 5 + θ + 1) h9 h8 → xK h8 = xK h → Rr G 225 [(0, vr 7 k), (1, vi (nI π)), (2, vi (nI θ)), (3, vi (nI ι)), (4, vi (nI ξ)), (5, vi (nI ν)), (6, vi (nI p))] [] h8) (N := ν) ?_ ?_ 0 (by omega) _ (fun i hi => by rw [if_neg (by omega), f9.L (by omega)]; exact a82 i hi) q9 Fr.rf k9
                                                          ·
                                                            intro h8 q8 u8 f8 k8
                                                            have s9 : MshAt h8 k (pCp g π θ ι ξ ν) := msh_els (hs.mv f9) hθ r9 f8 (fun i hi => by rw [q8 i hi]; rfl)
                                                            have g9 : Fr (k + 1) (k + 17) h h8 := (f9.mono (by omega) (by omega)).tr (f8.mono (by omega) (by omega))
                                                            refine r_iload C (dx dX7_copy 126 rfl) rfl ?_
                                                            refine r_iload C (dx dX7_copy 127 rfl) rfl ?_
                                                            refine rn_ge (a := ν) (b := ν) (tgt := 257) C (by omega) (by omega) (dx dX7_copy 128 rfl) (by decide) (fun c226 => ?_) (fun c226 => ?_)
                                                            · first
                                                              | (omega; done)
                                                              | (
                                                                  have c226 : ν ≤ ν := c226
                                                                  refine r_iload C (dx dX7_copy 143 rfl) rfl ?_
                                                                  have eA : copA g (nI π) (nI θ) (nI ι) (nI ξ) (nI ν) = nI ν := by simp [copA, copG, copF, c1, c3, c202, c204, c206, c209, c211, c213, c215, c217, c219, c221, c225, c226, e01, e11, e21, e31, e41, e51, e61, e71, e02, e12, e22, e32, e42, e52, e62, clN (show π < 2 ^ 31 by omega), clN (show θ < 2 ^ 31 by omega), clN (show ν < 2 ^ 31 by omega), clN (show ι < 2 ^ 31 by omega), clN (show ξ < 2 ^ 31 by omega), inR_nI (show π < 2 ^ 31 by omega), inR_nI (show θ < 2 ^ 31 by omega), inR_nI (show ν < 2 ^ 31 by omega), inR_nI (show ι < 2 ^ 31 by omega), inR_nI (show ξ < 2 ^ 31 by omega), show π < 8 by omega, show θ < 8 by omega, cp_row e31 e32 (by omega) (by omega) (show ι < 2 ^ 31 by omega) (show ξ < 2 ^ 31 by omega) (show ν < 2 ^ 31 by omega), show ι + ν ≤ ν1 by omega, show ξ + ν ≤ ν2 by omega]
                                                                  have eG : copG g (nI π) (nI θ) (nI ι) (nI ξ) (nI ν) = pCp g π θ ι ξ ν := by simp [copA, copG, copF, c1, c3, c202, c204, c206, c209, c211, c213, c215, c217, c219, c221, c225, c226, e01, e11, e21, e31, e41, e51, e61, e71, e02, e12, e22, e32, e42, e52, e62, clN (show π < 2 ^ 31 by omega), clN (show θ < 2 ^ 31 by omega), clN (show ν < 2 ^ 31 by omega), clN (show ι < 2 ^ 31 by omega), clN (show ξ < 2 ^ 31 by omega), inR_nI (show π < 2 ^ 31 by omega), inR_nI (show θ < 2 ^ 31 by omega), inR_nI (show ν < 2 ^ 31 by omega), inR_nI (show ι < 2 ^ 31 by omega), inR_nI (show ξ < 2 ^ 31 by omega), show π < 8 by omega, show θ < 8 by omega, cp_row e31 e32 (by omega) (by omega) (show ι < 2 ^ 31 by omega) (show ξ < 2 ^ 31 by omega) (show ν < 2 ^ 31 by omega), show ι + ν ≤ ν1 by omega, show ξ + ν ≤ ν2 by omega]
                                                                  exact F.1 _ _ _ _ _ rfl rfl (dx dX7_copy 144 rfl) k8 (show some (vi (nI ν)) = some (vi (copA g (nI π) (nI θ) (nI ι) (nI ξ) (nI ν))) ∧ (∃ v', MilAt h8 k v') ∧ MshAt h8 k (copG g (nI π) (nI θ) (nI ι) (nI ξ) (nI ν)) ∧ Ks k h h8 from by rw [eA, eG]; exact ⟨rfl, ⟨_, hm.fr g9 (by omega)⟩, s9, (Ks.fr g9 (by omega) (by omega))⟩))
                                                            · first
                                                              | (omega; done)
                                                          ·
                                                            intro p hp ih h8 q8 u8 f8 k8
                                                            refine r_iload C (dx dX7_copy 126 rfl) rfl ?_
                                                            refine r_iload C (dx dX7_copy 127 rfl) rfl ?_
                                                            refine rn_ge (a := p) (b := ν) (tgt := 257) C (by omega) (by omega) (dx dX7_copy 128 rfl) (by decide) (fun c227 => ?_) (fun c227 => ?_)
                                                            · first
                                                              | (omega; done)
                                                              | (
                                                                  have c227 : ν ≤ p := c227
                                                                  refine r_iload C (dx dX7_copy 143 rfl) rfl ?_
                                                                  have eA : copA g (nI π) (nI θ) (nI ι) (nI ξ) (nI ν) = nI ν := by simp [copA, copG, copF, c1, c3, c202, c204, c206, c209, c211, c213, c215, c217, c219, c221, c225, c227, e01, e11, e21, e31, e41, e51, e61, e71, e02, e12, e22, e32, e42, e52, e62, clN (show π < 2 ^ 31 by omega), clN (show θ < 2 ^ 31 by omega), clN (show ν < 2 ^ 31 by omega), clN (show ι < 2 ^ 31 by omega), clN (show ξ < 2 ^ 31 by omega), inR_nI (show π < 2 ^ 31 by omega), inR_nI (show θ < 2 ^ 31 by omega), inR_nI (show ν < 2 ^ 31 by omega), inR_nI (show ι < 2 ^ 31 by omega), inR_nI (show ξ < 2 ^ 31 by omega), show π < 8 by omega, show θ < 8 by omega, cp_row e31 e32 (by omega) (by omega) (show ι < 2 ^ 31 by omega) (show ξ < 2 ^ 31 by omega) (show ν < 2 ^ 31 by omega), show ι + ν ≤ ν1 by omega, show ξ + ν ≤ ν2 by omega]
                                                                  have eG : copG g (nI π) (nI θ) (nI ι) (nI ξ) (nI ν) = g := by simp [copA, copG, copF, c1, c3, c202, c204, c206, c209, c211, c213, c215, c217, c219, c221, c225, c227, e01, e11, e21, e31, e41, e51, e61, e71, e02, e12, e22, e32, e42, e52, e62, clN (show π < 2 ^ 31 by omega), clN (show θ < 2 ^ 31 by omega), clN (show ν < 2 ^ 31 by omega), clN (show ι < 2 ^ 31 by omega), clN (show ξ < 2 ^ 31 by omega), inR_nI (show π < 2 ^ 31 by omega), inR_nI (show θ < 2 ^ 31 by omega), inR_nI (show ν < 2 ^ 31 by omega), inR_nI (show ι < 2 ^ 31 by omega), inR_nI (show ξ < 2 ^ 31 by omega), show π < 8 by omega, show θ < 8 by omega, cp_row e31 e32 (by omega) (by omega) (show ι < 2 ^ 31 by omega) (show ξ < 2 ^ 31 by omega) (show ν < 2 ^ 31 by omega), show ι + ν ≤ ν1 by omega, show ξ + ν ≤ ν2 by omega]
                                                                  exact F.1 _ _ _ _ _ rfl rfl (dx dX7_copy 144 rfl) k8 (show some (vi (nI ν)) = some (vi (copA g (nI π) (nI θ) (nI ι) (nI ξ) (nI ν))) ∧ (∃ v', MilAt h8 k v') ∧ MshAt h8 k (copG g (nI π) (nI θ) (nI ι) (nI ξ) (nI ν)) ∧ Ks k h h8 from by rw [eA, eG]; exact ⟨rfl, ⟨_, hm⟩, hs, Ks.rf⟩))
                                                            · first
                                                              | (omega; done)
                                                              | (
                                                                  have c227 : p < ν := c227
                                                                  refine r_aload_n C (dx dX7_copy 129 rfl) rfl ?_
                                                                  refine g_X7_21 C (dx dX7_copy 130 rfl) ?_
                                                                  refine r_iload_n C (dx dX7_copy 131 rfl) rfl ?_
                                                                  refine r_aald5 (j := θ) C rfl rfl (by decide) rfl (by omega) (dx dX7_copy 132 rfl) ?_
                                                                  refine r_iload C (dx dX7_copy 133 rfl) rfl ?_
                                                                  refine r_iload C (dx dX7_copy 134 rfl) rfl ?_
                                                                  refine rn_iadd (a := ξ) (b := p) C (dx dX7_copy 135 rfl) ?_
                                                                  refine r_aload_n C (dx dX7_copy 136 rfl) rfl ?_
                                                                  refine g_X7_24 C (dx dX7_copy 137 rfl) ?_
                                                                  refine r_iload C (dx dX7_copy 138 rfl) rfl ?_
                                                                  refine r_lald (j := p) (x := gE g π (ι + p)) C rfl rfl (by decide) rfl (by omega) (dx dX7_copy 139 rfl) (u8 _ (by omega)) ?_
                                                                  refine r_last (j := ξ + p) C rfl rfl (by decide) rfl (by omega) (dx dX7_copy 140 rfl) ?_
                                                                  refine rn_iinc (a := p) (k := 1) (ls' := [(0, vr 7 k), (1, vi (nI π)), (2, vi (nI θ)), (3, vi (nI ι)), (4, vi (nI ξ)), (5, vi (nI ν)), (6, vi (nI (p + 1)))]) C (dx dX7_copy 141 rfl) rfl rfl (by decide) [1, 2, 3, 4, 5, 6, 0] rfl ?_
                                                                  refine r_goto (tgt := 225) C (dx dX7_copy 142 rfl) (by decide) ?_
                                                                  exact ih _ (fun i hi => by rw [sL_at]; exact cp2_step q8 i hi) (fun t ht => by rw [sL_ne (by omega)]; exact u8 t ht) (f8.tr (Fr.sL (by omega) (by omega))) k8))
                                                    · first
                                                      | (omega; done)
                                                      | (
                                                          have c225 : p < ν := c225
                                                          refine r_aload_n C (dx dX7_copy 110 rfl) rfl ?_
                                                          refine g_X7_24 C (dx dX7_copy 111 rfl) ?_
                                                          refine r_iload C (dx dX7_copy 112 rfl) rfl ?_
                                                          refine r_aload_n C (dx dX7_copy 113 rfl) rfl ?_
                                                          refine g_X7_21 C (dx dX7_copy 114 rfl) ?_
                                                          refine r_iload_n C (dx dX7_copy 115 rfl) rfl ?_
                                                          refine r_aald5 (j := π) C rfl rfl (by decide) rfl (by omega) (dx dX7_copy 116 rfl) ?_
                                                          refine r_iload_n C (dx dX7_copy 117 rfl) rfl ?_
                                                          refine r_iload C (dx dX7_copy 118 rfl) rfl ?_
                                                          refine rn_iadd (a := ι) (b := p) C (dx dX7_copy 119 rfl) ?_
                                                          refine r_lald (j := ι + p) (x := gE g π (ι + p)) C rfl rfl (by decide) rfl (by omega) (dx dX7_copy 120 rfl) ((f9.L (by omega) _).trans (a81 _ (by omega))) ?_
                                                          refine r_last (j := p) C rfl rfl (by decide) rfl (by omega) (dx dX7_copy 121 rfl) ?_
                                                          refine rn_iinc (a := p) (k := 1) (ls' := [(0, vr 7 k), (1, vi (nI π)), (2, vi (nI θ)), (3, vi (nI ι)), (4, vi (nI ξ)), (5, vi (nI ν)), (6, vi (nI (p + 1)))]) C (dx dX7_copy 122 rfl) rfl rfl (by decide) [1, 2, 3, 4, 5, 6, 0] rfl ?_
                                                          refine r_goto (tgt := 191) C (dx dX7_copy 123 rfl) (by decide) ?_
                                                          exact ih _ (fun t ht => by rw [sL_at]; split; (next e => rw [e]); exact q9 t (by omega)) (f9.tr (Fr.sL (by omega) (by omega))) k9))
                                            · first
                                              | (omega; done)
                                              | (
                                                  have c221 : ν2 - ν < ξ := c221
                                                  refine r_aload_n C (dx dX7_copy 101 rfl) rfl ?_
                                                  refine r_bipush (v := -2) C (dx dX7_copy 102 rfl) rfl ?_
                                                  refine r_cv (as := [vi (-2)]) (st := []) C X I_X7_refuse l_X7_83 (c_X7_refuse hm (x := -2) (j := 2) (by decide) (by decide)) (by decide) (Nat.le_of_ble_eq_true rfl) List.prefix_rfl List.prefix_rfl rfl rfl (Nat.le_of_ble_eq_true rfl) rfl (dx dX7_copy 103 rfl) ?_
                                                  rintro _ h228 ⟨rfl, ⟨wh228, m9h228, s9h228⟩, qh228⟩ kkh228
                                                  obtain ⟨vh228, mh228, zh228⟩ : ∃ v9, MilAt h228 k v9 ∧ Sz v v9 := ⟨_, m9h228, s9h228⟩
                                                  have ph228 : Kp k h h228 := qh228
                                                  have kh228 : xK h228 = xK h := kkh228
                                                  obtain ⟨ah228, bh228, ch228⟩ := zh228
                                                  have eA : copA g (nI π) (nI θ) (nI ι) (nI ξ) (nI ν) = -2 := by (have hq : ¬ (ι + ν ≤ ν1 ∧ ξ + ν ≤ ν2) := by omega); (have hq2 := cp_row e31 e32 (i := ι) (j := ξ) (n := ν) (by omega) (by omega) (by omega) (by omega) (by omega)); rw [decide_eq_false hq] at hq2; simp [copA, copG, copF, c1, c3, c202, c204, c206, c209, c211, c213, c215, c217, c219, c221, e01, e11, e21, e31, e41, e51, e61, e71, e02, e12, e22, e32, e42, e52, e62, clN (show π < 2 ^ 31 by omega), clN (show θ < 2 ^ 31 by omega), clN (show ν < 2 ^ 31 by omega), clN (show ι < 2 ^ 31 by omega), clN (show ξ < 2 ^ 31 by omega), inR_nI (show π < 2 ^ 31 by omega), inR_nI (show θ < 2 ^ 31 by omega), inR_nI (show ν < 2 ^ 31 by omega), inR_nI (show ι < 2 ^ 31 by omega), inR_nI (show ξ < 2 ^ 31 by omega), hq2, show π < 8 by omega, show θ < 8 by omega]
                                                  have eG : copG g (nI π) (nI θ) (nI ι) (nI ξ) (nI ν) = g := by (have hq : ¬ (ι + ν ≤ ν1 ∧ ξ + ν ≤ ν2) := by omega); (have hq2 := cp_row e31 e32 (i := ι) (j := ξ) (n := ν) (by omega) (by omega) (by omega) (by omega) (by omega)); rw [decide_eq_false hq] at hq2; simp [copA, copG, copF, c1, c3, c202, c204, c206, c209, c211, c213, c215, c217, c219, c221, e01, e11, e21, e31, e41, e51, e61, e71, e02, e12, e22, e32, e42, e52, e62, clN (show π < 2 ^ 31 by omega), clN (show θ < 2 ^ 31 by omega), clN (show ν < 2 ^ 31 by omega), clN (show ι < 2 ^ 31 by omega), clN (show ξ < 2 ^ 31 by omega), inR_nI (show π < 2 ^ 31 by omega), inR_nI (show θ < 2 ^ 31 by omega), inR_nI (show ν < 2 ^ 31 by omega), inR_nI (show ι < 2 ^ 31 by omega), inR_nI (show ξ < 2 ^ 31 by omega), hq2, show π < 8 by omega, show θ < 8 by omega]
                                                  exact F.1 _ _ _ _ _ rfl rfl (dx dX7_copy 104 rfl) kh228 (show some (vi (-2)) = some (vi (copA g (nI π) (nI θ) (nI ι) (nI ξ) (nI ν))) ∧ (∃ v', MilAt h228 k v') ∧ MshAt h228 k (copG g (nI π) (nI θ) (nI ι) (nI ξ) (nI ν)) ∧ Ks k h h228 from by rw [eA, eG]; exact ⟨rfl, ⟨_, mh228⟩, hs.kp ph228, ph228.ks⟩))))
                      · first
                        | (omega; done)
                        | (
                            have c206 : 2 = 1 := c206
                            refine r_aload_n C (dx dX7_copy 34 rfl) rfl ?_
                            refine g_X7_7 C (dx dX7_copy 35 rfl) ?_
                            refine r_iload_n C (dx dX7_copy 36 rfl) rfl ?_
                            refine r_iald (j := θ) (x := nI 1) C rfl rfl (by decide) rfl (by omega) (dx dX7_copy 37 rfl) a32 ?_
                            refine r_iconst (v := nI 1) C (dx dX7_copy 38 rfl) rfl ?_
                            refine rn_ne (a := 1) (b := 1) (tgt := 93) C (by omega) (by omega) (dx dX7_copy 39 rfl) (by decide) (fun c229 => ?_) (fun c229 => ?_)
                            · first
                              | (omega; done)
                              | (
                                  have c229 : ¬ 1 = 1 := c229
                                  refine r_aload_n C (dx dX7_copy 53 rfl) rfl ?_
                                  refine g_X7_7 C (dx dX7_copy 54 rfl) ?_
                                  refine r_iload_n C (dx dX7_copy 55 rfl) rfl ?_
                                  refine r_iald (j := π) (x := nI 2) C rfl rfl (by decide) rfl (by omega) (dx dX7_copy 56 rfl) a41 ?_
                                  refine r_if_eq (tgt := 111) C (dx dX7_copy 57 rfl) (by decide) (fun c230 => (show False from by revert c230; decide).elim) (fun _ => ?_)
                                  refine r_aload_n C (dx dX7_copy 58 rfl) rfl ?_
                                  refine g_X7_7 C (dx dX7_copy 59 rfl) ?_
                                  refine r_iload_n C (dx dX7_copy 60 rfl) rfl ?_
                                  refine r_iald (j := θ) (x := nI 1) C rfl rfl (by decide) rfl (by omega) (dx dX7_copy 61 rfl) a32 ?_
                                  refine r_if_ne (tgt := 118) C (dx dX7_copy 62 rfl) (by decide) (fun _ => ?_) (fun c231 => (show False from by revert c231; decide).elim)
                                  refine r_iload C (dx dX7_copy 67 rfl) rfl ?_
                                  refine r_if_lt (tgt := 181) C (dx dX7_copy 68 rfl) (by decide) (fun c232 => ?_) (fun c232 => ?_)
                                  ·
                                    have c232 : n < 0 := c232
                                    refine r_aload_n C (dx dX7_copy 101 rfl) rfl ?_
                                    refine r_bipush (v := -2) C (dx dX7_copy 102 rfl) rfl ?_
                                    refine r_cv (as := [vi (-2)]) (st := []) C X I_X7_refuse l_X7_83 (c_X7_refuse hm (x := -2) (j := 2) (by decide) (by decide)) (by decide) (Nat.le_of_ble_eq_true rfl) List.prefix_rfl List.prefix_rfl rfl rfl (Nat.le_of_ble_eq_true rfl) rfl (dx dX7_copy 103 rfl) ?_
                                    rintro _ h233 ⟨rfl, ⟨wh233, m9h233, s9h233⟩, qh233⟩ kkh233
                                    obtain ⟨vh233, mh233, zh233⟩ : ∃ v9, MilAt h233 k v9 ∧ Sz v v9 := ⟨_, m9h233, s9h233⟩
                                    have ph233 : Kp k h h233 := qh233
                                    have kh233 : xK h233 = xK h := kkh233
                                    obtain ⟨ah233, bh233, ch233⟩ := zh233
                                    have eA : copA g (nI π) (nI θ) i j n = -2 := by simp [copA, copG, copF, cpOk, c1, c3, c202, c204, c206, c229, (fun n9 => inR_neg (n := n9) c232 : ∀ n9, inR n n9 = false), c232, e01, e11, e21, e31, e41, e51, e61, e71, e02, e12, e22, e32, e42, e52, e62, clN (show π < 2 ^ 31 by omega), clN (show θ < 2 ^ 31 by omega), inR_nI (show π < 2 ^ 31 by omega), inR_nI (show θ < 2 ^ 31 by omega), show π < 8 by omega, show θ < 8 by omega]
                                    have eG : copG g (nI π) (nI θ) i j n = g := by simp [copA, copG, copF, cpOk, c1, c3, c202, c204, c206, c229, (fun n9 => inR_neg (n := n9) c232 : ∀ n9, inR n n9 = false), c232, e01, e11, e21, e31, e41, e51, e61, e71, e02, e12, e22, e32, e42, e52, e62, clN (show π < 2 ^ 31 by omega), clN (show θ < 2 ^ 31 by omega), inR_nI (show π < 2 ^ 31 by omega), inR_nI (show θ < 2 ^ 31 by omega), show π < 8 by omega, show θ < 8 by omega]
                                    exact F.1 _ _ _ _ _ rfl rfl (dx dX7_copy 104 rfl) kh233 (show some (vi (-2)) = some (vi (copA g (nI π) (nI θ) i j n)) ∧ (∃ v', MilAt h233 k v') ∧ MshAt h233 k (copG g (nI π) (nI θ) i j n) ∧ Ks k h h233 from by rw [eA, eG]; exact ⟨rfl, ⟨_, mh233⟩, hs.kp ph233, ph233.ks⟩)
                                  ·
                                    have c232 : ¬ n < 0 := c232
                                    obtain ⟨ν, hν, rfl⟩ := nI_of c232
                                    refine r_iload_n C (dx dX7_copy 69 rfl) rfl ?_
                                    refine r_if_lt (tgt := 181) C (dx dX7_copy 70 rfl) (by decide) (fun c234 => ?_) (fun c234 => ?_)
                                    ·
                                      have c234 : i < 0 := c234
                                      refine r_aload_n C (dx dX7_copy 101 rfl) rfl ?_
                                      refine r_bipush (v := -2) C (dx dX7_copy 102 rfl) rfl ?_
                                      refine r_cv (as := [vi (-2)]) (st := []) C X I_X7_refuse l_X7_83 (c_X7_refuse hm (x := -2) (j := 2) (by decide) (by decide)) (by decide) (Nat.le_of_ble_eq_true rfl) List.prefix_rfl List.prefix_rfl rfl rfl (Nat.le_of_ble_eq_true rfl) rfl (dx dX7_copy 103 rfl) ?_
                                      rintro _ h235 ⟨rfl, ⟨wh235, m9h235, s9h235⟩, qh235⟩ kkh235
                                      obtain ⟨vh235, mh235, zh235⟩ : ∃ v9, MilAt h235 k v9 ∧ Sz v v9 := ⟨_, m9h235, s9h235⟩
                                      have ph235 : Kp k h h235 := qh235
                                      have kh235 : xK h235 = xK h := kkh235
                                      obtain ⟨ah235, bh235, ch235⟩ := zh235
                                      have eA : copA g (nI π) (nI θ) i j (nI ν) = -2 := by simp [copA, copG, copF, cpOk, c1, c3, c202, c204, c206, c229, c232, (fun n9 => inR_neg (n := n9) c234 : ∀ n9, inR i n9 = false), c234, e01, e11, e21, e31, e41, e51, e61, e71, e02, e12, e22, e32, e42, e52, e62, clN (show π < 2 ^ 31 by omega), clN (show θ < 2 ^ 31 by omega), clN (show ν < 2 ^ 31 by omega), inR_nI (show π < 2 ^ 31 by omega), inR_nI (show θ < 2 ^ 31 by omega), inR_nI (show ν < 2 ^ 31 by omega), show π < 8 by omega, show θ < 8 by omega]
                                      have eG : copG g (nI π) (nI θ) i j (nI ν) = g := by simp [copA, copG, copF, cpOk, c1, c3, c202, c204, c206, c229, c232, (fun n9 => inR_neg (n := n9) c234 : ∀ n9, inR i n9 = false), c234, e01, e11, e21, e31, e41, e51, e61, e71, e02, e12, e22, e32, e42, e52, e62, clN (show π < 2 ^ 31 by omega), clN (show θ < 2 ^ 31 by omega), clN (show ν < 2 ^ 31 by omega), inR_nI (show π < 2 ^ 31 by omega), inR_nI (show θ < 2 ^ 31 by omega), inR_nI (show ν < 2 ^ 31 by omega), show π < 8 by omega, show θ < 8 by omega]
                                      exact F.1 _ _ _ _ _ rfl rfl (dx dX7_copy 104 rfl) kh235 (show some (vi (-2)) = some (vi (copA g (nI π) (nI θ) i j (nI ν))) ∧ (∃ v', MilAt h235 k v') ∧ MshAt h235 k (copG g (nI π) (nI θ) i j (nI ν)) ∧ Ks k h h235 from by rw [eA, eG]; exact ⟨rfl, ⟨_, mh235⟩, hs.kp ph235, ph235.ks⟩)
                                    ·
                                      have c234 : ¬ i < 0 := c234
                                      obtain ⟨ι, hι, rfl⟩ := nI_of c234
                                      refine r_iload C (dx dX7_copy 71 rfl) rfl ?_
                                      refine r_if_lt (tgt := 181) C (dx dX7_copy 72 rfl) (by decide) (fun c236 => ?_) (fun c236 => ?_)
                                      ·
                                        have c236 : j < 0 := c236
                                        refine r_aload_n C (dx dX7_copy 101 rfl) rfl ?_
                                        refine r_bipush (v := -2) C (dx dX7_copy 102 rfl) rfl ?_
                                        refine r_cv (as := [vi (-2)]) (st := []) C X I_X7_refuse l_X7_83 (c_X7_refuse hm (x := -2) (j := 2) (by decide) (by decide)) (by decide) (Nat.le_of_ble_eq_true rfl) List.prefix_rfl List.prefix_rfl rfl rfl (Nat.le_of_ble_eq_true rfl) rfl (dx dX7_copy 103 rfl) ?_
                                        rintro _ h237 ⟨rfl, ⟨wh237, m9h237, s9h237⟩, qh237⟩ kkh237
                                        obtain ⟨vh237, mh237, zh237⟩ : ∃ v9, MilAt h237 k v9 ∧ Sz v v9 := ⟨_, m9h237, s9h237⟩
                                        have ph237 : Kp k h h237 := qh237
                                        have kh237 : xK h237 = xK h := kkh237
                                        obtain ⟨ah237, bh237, ch237⟩ := zh237
                                        have eA : copA g (nI π) (nI θ) (nI ι) j (nI ν) = -2 := by simp [copA, copG, copF, cpOk, c1, c3, c202, c204, c206, c229, c232, c234, (fun n9 => inR_neg (n := n9) c236 : ∀ n9, inR j n9 = false), c236, e01, e11, e21, e31, e41, e51, e61, e71, e02, e12, e22, e32, e42, e52, e62, clN (show π < 2 ^ 31 by omega), clN (show θ < 2 ^ 31 by omega), clN (show ν < 2 ^ 31 by omega), clN (show ι < 2 ^ 31 by omega), inR_nI (show π < 2 ^ 31 by omega), inR_nI (show θ < 2 ^ 31 by omega), inR_nI (show ν < 2 ^ 31 by omega), inR_nI (show ι < 2 ^ 31 by omega), show π < 8 by omega, show θ < 8 by omega]
                                        have eG : copG g (nI π) (nI θ) (nI ι) j (nI ν) = g := by simp [copA, copG, copF, cpOk, c1, c3, c202, c204, c206, c229, c232, c234, (fun n9 => inR_neg (n := n9) c236 : ∀ n9, inR j n9 = false), c236, e01, e11, e21, e31, e41, e51, e61, e71, e02, e12, e22, e32, e42, e52, e62, clN (show π < 2 ^ 31 by omega), clN (show θ < 2 ^ 31 by omega), clN (show ν < 2 ^ 31 by omega), clN (show ι < 2 ^ 31 by omega), inR_nI (show π < 2 ^ 31 by omega), inR_nI (show θ < 2 ^ 31 by omega), inR_nI (show ν < 2 ^ 31 by omega), inR_nI (show ι < 2 ^ 31 by omega), show π < 8 by omega, show θ < 8 by omega]
                                        exact F.1 _ _ _ _ _ rfl rfl (dx dX7_copy 104 rfl) kh237 (show some (vi (-2)) = some (vi (copA g (nI π) (nI θ) (nI ι) j (nI ν))) ∧ (∃ v', MilAt h237 k v') ∧ MshAt h237 k (copG g (nI π) (nI θ) (nI ι) j (nI ν)) ∧ Ks k h h237 from by rw [eA, eG]; exact ⟨rfl, ⟨_, mh237⟩, hs.kp ph237, ph237.ks⟩)
                                      ·
                                        have c236 : ¬ j < 0 := c236
                                        obtain ⟨ξ, hξ, rfl⟩ := nI_of c236
                                        refine r_iload C (dx dX7_copy 73 rfl) rfl ?_
                                        refine r_aload_n C (dx dX7_copy 74 rfl) rfl ?_
                                        refine g_X7_16 C (dx dX7_copy 75 rfl) ?_
                                        refine r_iload_n C (dx dX7_copy 76 rfl) rfl ?_
                                        refine r_iald (j := π) (x := xI h (k + 3) π) C rfl rfl (by decide) rfl (by omega) (dx dX7_copy 77 rfl) rfl ?_
                                        refine r_icmp_gt (tgt := 181) C (dx dX7_copy 78 rfl) (by decide) (fun c238 => ?_) (fun c238 => ?_)
                                        ·
                                          have c238 : xI h (k + 3) π < nI ν := c238
                                          refine r_aload_n C (dx dX7_copy 101 rfl) rfl ?_
                                          refine r_bipush (v := -2) C (dx dX7_copy 102 rfl) rfl ?_
                                          refine r_cv (as := [vi (-2)]) (st := []) C X I_X7_refuse l_X7_83 (c_X7_refuse hm (x := -2) (j := 2) (by decide) (by decide)) (by decide) (Nat.le_of_ble_eq_true rfl) List.prefix_rfl List.prefix_rfl rfl rfl (Nat.le_of_ble_eq_true rfl) rfl (dx dX7_copy 103 rfl) ?_
                                          rintro _ h239 ⟨rfl, ⟨wh239, m9h239, s9h239⟩, qh239⟩ kkh239
                                          obtain ⟨vh239, mh239, zh239⟩ : ∃ v9, MilAt h239 k v9 ∧ Sz v v9 := ⟨_, m9h239, s9h239⟩
                                          have ph239 : Kp k h h239 := qh239
                                          have kh239 : xK h239 = xK h := kkh239
                                          obtain ⟨ah239, bh239, ch239⟩ := zh239
                                          have eA : copA g (nI π) (nI θ) (nI ι) (nI ξ) (nI ν) = -2 := by (have hq : ¬ (ι + ν ≤ ν1 ∧ ξ + ν ≤ ν2) := by omega); (have hq2 := cp_row e31 e32 (i := ι) (j := ξ) (n := ν) (by omega) (by omega) (by omega) (by omega) (by omega)); rw [decide_eq_false hq] at hq2; simp [copA, copG, copF, c1, c3, c202, c204, c206, c229, c232, c234, c236, c238, e01, e11, e21, e31, e41, e51, e61, e71, e02, e12, e22, e32, e42, e52, e62, clN (show π < 2 ^ 31 by omega), clN (show θ < 2 ^ 31 by omega), clN (show ν < 2 ^ 31 by omega), clN (show ι < 2 ^ 31 by omega), clN (show ξ < 2 ^ 31 by omega), inR_nI (show π < 2 ^ 31 by omega), inR_nI (show θ < 2 ^ 31 by omega), inR_nI (show ν < 2 ^ 31 by omega), inR_nI (show ι < 2 ^ 31 by omega), inR_nI (show ξ < 2 ^ 31 by omega), hq2, show π < 8 by omega, show θ < 8 by omega]
                                          have eG : copG g (nI π) (nI θ) (nI ι) (nI ξ) (nI ν) = g := by (have hq : ¬ (ι + ν ≤ ν1 ∧ ξ + ν ≤ ν2) := by omega); (have hq2 := cp_row e31 e32 (i := ι) (j := ξ) (n := ν) (by omega) (by omega) (by omega) (by omega) (by omega)); rw [decide_eq_false hq] at hq2; simp [copA, copG, copF, c1, c3, c202, c204, c206, c229, c232, c234, c236, c238, e01, e11, e21, e31, e41, e51, e61, e71, e02, e12, e22, e32, e42, e52, e62, clN (show π < 2 ^ 31 by omega), clN (show θ < 2 ^ 31 by omega), clN (show ν < 2 ^ 31 by omega), clN (show ι < 2 ^ 31 by omega), clN (show ξ < 2 ^ 31 by omega), inR_nI (show π < 2 ^ 31 by omega), inR_nI (show θ < 2 ^ 31 by omega), inR_nI (show ν < 2 ^ 31 by omega), inR_nI (show ι < 2 ^ 31 by omega), inR_nI (show ξ < 2 ^ 31 by omega), hq2, show π < 8 by omega, show θ < 8 by omega]
                                          exact F.1 _ _ _ _ _ rfl rfl (dx dX7_copy 104 rfl) kh239 (show some (vi (-2)) = some (vi (copA g (nI π) (nI θ) (nI ι) (nI ξ) (nI ν))) ∧ (∃ v', MilAt h239 k v') ∧ MshAt h239 k (copG g (nI π) (nI θ) (nI ι) (nI ξ) (nI ν)) ∧ Ks k h h239 from by rw [eA, eG]; exact ⟨rfl, ⟨_, mh239⟩, hs.kp ph239, ph239.ks⟩)
                                        ·
                                          have c238 : ¬ xI h (k + 3) π < nI ν := c238
                                          refine r_iload C (dx dX7_copy 79 rfl) rfl ?_
                                          refine r_aload_n C (dx dX7_copy 80 rfl) rfl ?_
                                          refine g_X7_16 C (dx dX7_copy 81 rfl) ?_
                                          refine r_iload_n C (dx dX7_copy 82 rfl) rfl ?_
                                          refine r_iald (j := θ) (x := nI ν2) C rfl rfl (by decide) rfl (by omega) (dx dX7_copy 83 rfl) a52 ?_
                                          refine rn_gt (a := ν) (b := ν2) (tgt := 181) C (by omega) (by omega) (dx dX7_copy 84 rfl) (by decide) (fun c240 => ?_) (fun c240 => ?_)
                                          · first
                                            | (omega; done)
                                            | (
                                                have c240 : ν2 < ν := c240
                                                refine r_aload_n C (dx dX7_copy 101 rfl) rfl ?_
                                                refine r_bipush (v := -2) C (dx dX7_copy 102 rfl) rfl ?_
                                                refine r_cv (as := [vi (-2)]) (st := []) C X I_X7_refuse l_X7_83 (c_X7_refuse hm (x := -2) (j := 2) (by decide) (by decide)) (by decide) (Nat.le_of_ble_eq_true rfl) List.prefix_rfl List.prefix_rfl rfl rfl (Nat.le_of_ble_eq_true rfl) rfl (dx dX7_copy 103 rfl) ?_
                                                rintro _ h241 ⟨rfl, ⟨wh241, m9h241, s9h241⟩, qh241⟩ kkh241
                                                obtain ⟨vh241, mh241, zh241⟩ : ∃ v9, MilAt h241 k v9 ∧ Sz v v9 := ⟨_, m9h241, s9h241⟩
                                                have ph241 : Kp k h h241 := qh241
                                                have kh241 : xK h241 = xK h := kkh241
                                                obtain ⟨ah241, bh241, ch241⟩ := zh241
                                                have eA : copA g (nI π) (nI θ) (nI ι) (nI ξ) (nI ν) = -2 := by (have hq : ¬ (ι + ν ≤ ν1 ∧ ξ + ν ≤ ν2) := by omega); (have hq2 := cp_row e31 e32 (i := ι) (j := ξ) (n := ν) (by omega) (by omega) (by omega) (by omega) (by omega)); rw [decide_eq_false hq] at hq2; simp [copA, copG, copF, c1, c3, c202, c204, c206, c229, c232, c234, c236, c238, c240, e01, e11, e21, e31, e41, e51, e61, e71, e02, e12, e22, e32, e42, e52, e62, clN (show π < 2 ^ 31 by omega), clN (show θ < 2 ^ 31 by omega), clN (show ν < 2 ^ 31 by omega), clN (show ι < 2 ^ 31 by omega), clN (show ξ < 2 ^ 31 by omega), inR_nI (show π < 2 ^ 31 by omega), inR_nI (show θ < 2 ^ 31 by omega), inR_nI (show ν < 2 ^ 31 by omega), inR_nI (show ι < 2 ^ 31 by omega), inR_nI (show ξ < 2 ^ 31 by omega), hq2, show π < 8 by omega, show θ < 8 by omega]
                                                have eG : copG g (nI π) (nI θ) (nI ι) (nI ξ) (nI ν) = g := by (have hq : ¬ (ι + ν ≤ ν1 ∧ ξ + ν ≤ ν2) := by omega); (have hq2 := cp_row e31 e32 (i := ι) (j := ξ) (n := ν) (by omega) (by omega) (by omega) (by omega) (by omega)); rw [decide_eq_false hq] at hq2; simp [copA, copG, copF, c1, c3, c202, c204, c206, c229, c232, c234, c236, c238, c240, e01, e11, e21, e31, e41, e51, e61, e71, e02, e12, e22, e32, e42, e52, e62, clN (show π < 2 ^ 31 by omega), clN (show θ < 2 ^ 31 by omega), clN (show ν < 2 ^ 31 by omega), clN (show ι < 2 ^ 31 by omega), clN (show ξ < 2 ^ 31 by omega), inR_nI (show π < 2 ^ 31 by omega), inR_nI (show θ < 2 ^ 31 by omega), inR_nI (show ν < 2 ^ 31 by omega), inR_nI (show ι < 2 ^ 31 by omega), inR_nI (show ξ < 2 ^ 31 by omega), hq2, show π < 8 by omega, show θ < 8 by omega]
                                                exact F.1 _ _ _ _ _ rfl rfl (dx dX7_copy 104 rfl) kh241 (show some (vi (-2)) = some (vi (copA g (nI π) (nI θ) (nI ι) (nI ξ) (nI ν))) ∧ (∃ v', MilAt h241 k v') ∧ MshAt h241 k (copG g (nI π) (nI θ) (nI ι) (nI ξ) (nI ν)) ∧ Ks k h h241 from by rw [eA, eG]; exact ⟨rfl, ⟨_, mh241⟩, hs.kp ph241, ph241.ks⟩))
                                          · first
                                            | (omega; done)
                                            | (
                                                have c240 : ν ≤ ν2 := c240
                                                refine r_iload_n C (dx dX7_copy 85 rfl) rfl ?_
                                                refine r_aload_n C (dx dX7_copy 86 rfl) rfl ?_
                                                refine g_X7_16 C (dx dX7_copy 87 rfl) ?_
                                                refine r_iload_n C (dx dX7_copy 88 rfl) rfl ?_
                                                refine r_iald (j := π) (x := xI h (k + 3) π) C rfl rfl (by decide) rfl (by omega) (dx dX7_copy 89 rfl) rfl ?_
                                                refine r_iload C (dx dX7_copy 90 rfl) rfl ?_
                                                refine r_isub C (dx dX7_copy 91 rfl) ?_
                                                refine r_icmp_gt (tgt := 181) C (dx dX7_copy 92 rfl) (by decide) (fun c242 => ?_) (fun c242 => ?_)
                                                ·
                                                  have c242 : (xI h (k + 3) π) - (nI ν) < nI ι := c242
                                                  refine r_aload_n C (dx dX7_copy 101 rfl) rfl ?_
                                                  refine r_bipush (v := -2) C (dx dX7_copy 102 rfl) rfl ?_
                                                  refine r_cv (as := [vi (-2)]) (st := []) C X I_X7_refuse l_X7_83 (c_X7_refuse hm (x := -2) (j := 2) (by decide) (by decide)) (by decide) (Nat.le_of_ble_eq_true rfl) List.prefix_rfl List.prefix_rfl rfl rfl (Nat.le_of_ble_eq_true rfl) rfl (dx dX7_copy 103 rfl) ?_
                                                  rintro _ h243 ⟨rfl, ⟨wh243, m9h243, s9h243⟩, qh243⟩ kkh243
                                                  obtain ⟨vh243, mh243, zh243⟩ : ∃ v9, MilAt h243 k v9 ∧ Sz v v9 := ⟨_, m9h243, s9h243⟩
                                                  have ph243 : Kp k h h243 := qh243
                                                  have kh243 : xK h243 = xK h := kkh243
                                                  obtain ⟨ah243, bh243, ch243⟩ := zh243
                                                  have eA : copA g (nI π) (nI θ) (nI ι) (nI ξ) (nI ν) = -2 := by (have hq : ¬ (ι + ν ≤ ν1 ∧ ξ + ν ≤ ν2) := by omega); (have hq2 := cp_row e31 e32 (i := ι) (j := ξ) (n := ν) (by omega) (by omega) (by omega) (by omega) (by omega)); rw [decide_eq_false hq] at hq2; simp [copA, copG, copF, c1, c3, c202, c204, c206, c229, c232, c234, c236, c238, c240, c242, e01, e11, e21, e31, e41, e51, e61, e71, e02, e12, e22, e32, e42, e52, e62, clN (show π < 2 ^ 31 by omega), clN (show θ < 2 ^ 31 by omega), clN (show ν < 2 ^ 31 by omega), clN (show ι < 2 ^ 31 by omega), clN (show ξ < 2 ^ 31 by omega), inR_nI (show π < 2 ^ 31 by omega), inR_nI (show θ < 2 ^ 31 by omega), inR_nI (show ν < 2 ^ 31 by omega), inR_nI (show ι < 2 ^ 31 by omega), inR_nI (show ξ < 2 ^ 31 by omega), hq2, show π < 8 by omega, show θ < 8 by omega]
                                                  have eG : copG g (nI π) (nI θ) (nI ι) (nI ξ) (nI ν) = g := by (have hq : ¬ (ι + ν ≤ ν1 ∧ ξ + ν ≤ ν2) := by omega); (have hq2 := cp_row e31 e32 (i := ι) (j := ξ) (n := ν) (by omega) (by omega) (by omega) (by omega) (by omega)); rw [decide_eq_false hq] at hq2; simp [copA, copG, copF, c1, c3, c202, c204, c206, c229, c232, c234, c236, c238, c240, c242, e01, e11, e21, e31, e41, e51, e61, e71, e02, e12, e22, e32, e42, e52, e62, clN (show π < 2 ^ 31 by omega), clN (show θ < 2 ^ 31 by omega), clN (show ν < 2 ^ 31 by omega), clN (show ι < 2 ^ 31 by omega), clN (show ξ < 2 ^ 31 by omega), inR_nI (show π < 2 ^ 31 by omega), inR_nI (show θ < 2 ^ 31 by omega), inR_nI (show ν < 2 ^ 31 by omega), inR_nI (show ι < 2 ^ 31 by omega), inR_nI (show ξ < 2 ^ 31 by omega), hq2, show π < 8 by omega, show θ < 8 by omega]
                                                  exact F.1 _ _ _ _ _ rfl rfl (dx dX7_copy 104 rfl) kh243 (show some (vi (-2)) = some (vi (copA g (nI π) (nI θ) (nI ι) (nI ξ) (nI ν))) ∧ (∃ v', MilAt h243 k v') ∧ MshAt h243 k (copG g (nI π) (nI θ) (nI ι) (nI ξ) (nI ν)) ∧ Ks k h h243 from by rw [eA, eG]; exact ⟨rfl, ⟨_, mh243⟩, hs.kp ph243, ph243.ks⟩)
                                                ·
                                                  have c242 : ¬ (xI h (k + 3) π) - (nI ν) < nI ι := c242
                                                  refine r_iload C (dx dX7_copy 93 rfl) rfl ?_
                                                  refine r_aload_n C (dx dX7_copy 94 rfl) rfl ?_
                                                  refine g_X7_16 C (dx dX7_copy 95 rfl) ?_
                                                  refine r_iload_n C (dx dX7_copy 96 rfl) rfl ?_
                                                  refine r_iald (j := θ) (x := nI ν2) C rfl rfl (by decide) rfl (by omega) (dx dX7_copy 97 rfl) a52 ?_
                                                  refine r_iload C (dx dX7_copy 98 rfl) rfl ?_
                                                  refine rn_isub (a := ν2) (b := ν) C (by omega) (dx dX7_copy 99 rfl) ?_
                                                  refine rn_le (a := ξ) (b := ν2 - ν) (tgt := 188) C (by omega) (by omega) (dx dX7_copy 100 rfl) (by decide) (fun c244 => ?_) (fun c244 => ?_)
                                                  · first
                                                    | (omega; done)
                                                    | (
                                                        have c244 : ξ ≤ ν2 - ν := c244
                                                        refine r_iconst (v := nI 0) C (dx dX7_copy 105 rfl) rfl ?_
                                                        refine r_istore (ls' := [(0, vr 7 k), (1, vi (nI π)), (2, vi (nI θ)), (3, vi (nI ι)), (4, vi (nI ξ)), (5, vi (nI ν)), (6, vi (nI 0))]) C (dx dX7_copy 106 rfl) (by decide) [1, 2, 3, 4, 5, 6, 0] rfl ?_
                                                        refine loopU (Φ := fun p => ∀ h9, (∀ t, t < p → xL h9 (k + 13) t = gE g π (ι + t)) → Fr (k + 13) (k + 14) h h9 → xK h9 = xK h → Rr G 191 [(0, vr 7 k), (1, vi (nI π)), (2, vi (nI θ)), (3, vi (nI ι)), (4, vi (nI ξ)), (5, vi (nI ν)), (6, vi (nI p))] [] h9) (N := ν) ?_ ?_ 0 (by omega) _ (fun i hi => absurd hi (by omega)) Fr.rf rfl
                                                        ·
                                                          intro h9 q9 f9 k9
                                                          refine r_iload C (dx dX7_copy 107 rfl) rfl ?_
                                                          refine r_iload C (dx dX7_copy 108 rfl) rfl ?_
                                                          refine rn_ge (a := ν) (b := ν) (tgt := 222) C (by omega) (by omega) (dx dX7_copy 109 rfl) (by decide) (fun c245 => ?_) (fun c245 => ?_)
                                                          · first
                                                            | (omega; done)
                                                            | (
                                                                have c245 : ν ≤ ν := c245
                                                                refine r_iconst (v := nI 0) C (dx dX7_copy 124 rfl) rfl ?_
                                                                refine r_istore (ls' := [(0, vr 7 k), (1, vi (nI π)), (2, vi (nI θ)), (3, vi (nI ι)), (4, vi (nI ξ)), (5, vi (nI ν)), (6, vi (nI 0))]) C (dx dX7_copy 125 rfl) (by decide) [1, 2, 3, 4, 5, 6, 0] rfl ?_
                                                                have r9 := MsR.fr (show MsR h k g θ from ⟨_, _, a12, a22, a32, a42, a52, a62, a72, a82⟩) hθ f9
                                                                refine loopU (Φ := fun p => ∀ h8, (∀ i, i < 40 → xL h8 (k + 5 + θ) i = if ξ ≤ i ∧ i < ξ + p then gE g π (ι + (i - ξ)) else gE g θ i) → (∀ t, t < ν → xL h8 (k + 13) t = gE g π (ι + t)) → Fr (k + 5 + θ) (k + 5 + θ + 1) h9 h8 → xK h8 = xK h → Rr G 225 [(0, vr 7 k), (1, vi (nI π)), (2, vi (nI θ)), (3, vi (nI ι)), (4, vi (nI ξ)), (5, vi (nI ν)), (6, vi (nI p))] [] h8) (N := ν) ?_ ?_ 0 (by omega) _ (fun i hi => by rw [if_neg (by omega), f9.L (by omega)]; exact a82 i hi) q9 Fr.rf k9
                                                                ·
                                                                  intro h8 q8 u8 f8 k8
                                                                  have s9 : MshAt h8 k (pCp g π θ ι ξ ν) := msh_els (hs.mv f9) hθ r9 f8 (fun i hi => by rw [q8 i hi]; rfl)
                                                                  have g9 : Fr (k + 1) (k + 17) h h8 := (f9.mono (by omega) (by omega)).tr (f8.mono (by omega) (by omega))
                                                                  refine r_iload C (dx dX7_copy 126 rfl) rfl ?_
                                                                  refine r_iload C (dx dX7_copy 127 rfl) rfl ?_
                                                                  refine rn_ge (a := ν) (b := ν) (tgt := 257) C (by omega) (by omega) (dx dX7_copy 128 rfl) (by decide) (fun c246 => ?_) (fun c246 => ?_)
                                                                  · first
                                                                    | (omega; done)
                                                                    | (
                                                                        have c246 : ν ≤ ν := c246
                                                                        refine r_iload C (dx dX7_copy 143 rfl) rfl ?_
                                                                        have eA : copA g (nI π) (nI θ) (nI ι) (nI ξ) (nI ν) = nI ν := by simp [copA, copG, copF, c1, c3, c202, c204, c206, c229, c232, c234, c236, c238, c240, c242, c244, c245, c246, e01, e11, e21, e31, e41, e51, e61, e71, e02, e12, e22, e32, e42, e52, e62, clN (show π < 2 ^ 31 by omega), clN (show θ < 2 ^ 31 by omega), clN (show ν < 2 ^ 31 by omega), clN (show ι < 2 ^ 31 by omega), clN (show ξ < 2 ^ 31 by omega), inR_nI (show π < 2 ^ 31 by omega), inR_nI (show θ < 2 ^ 31 by omega), inR_nI (show ν < 2 ^ 31 by omega), inR_nI (show ι < 2 ^ 31 by omega), inR_nI (show ξ < 2 ^ 31 by omega), show π < 8 by omega, show θ < 8 by omega, cp_row e31 e32 (by omega) (by omega) (show ι < 2 ^ 31 by omega) (show ξ < 2 ^ 31 by omega) (show ν < 2 ^ 31 by omega), show ι + ν ≤ ν1 by omega, show ξ + ν ≤ ν2 by omega]
                                                                        have eG : copG g (nI π) (nI θ) (nI ι) (nI ξ) (nI ν) = pCp g π θ ι ξ ν := by simp [copA, copG, copF, c1, c3, c202, c204, c206, c229, c232, c234, c236, c238, c240, c242, c244, c245, c246, e01, e11, e21, e31, e41, e51, e61, e71, e02, e12, e22, e32, e42, e52, e62, clN (show π < 2 ^ 31 by omega), clN (show θ < 2 ^ 31 by omega), clN (show ν < 2 ^ 31 by omega), clN (show ι < 2 ^ 31 by omega), clN (show ξ < 2 ^ 31 by omega), inR_nI (show π < 2 ^ 31 by omega), inR_nI (show θ < 2 ^ 31 by omega), inR_nI (show ν < 2 ^ 31 by omega), inR_nI (show ι < 2 ^ 31 by omega), inR_nI (show ξ < 2 ^ 31 by omega), show π < 8 by omega, show θ < 8 by omega, cp_row e31 e32 (by omega) (by omega) (show ι < 2 ^ 31 by omega) (show ξ < 2 ^ 31 by omega) (show ν < 2 ^ 31 by omega), show ι + ν ≤ ν1 by omega, show ξ + ν ≤ ν2 by omega]
                                                                        exact F.1 _ _ _ _ _ rfl rfl (dx dX7_copy 144 rfl) k8 (show some (vi (nI ν)) = some (vi (copA g (nI π) (nI θ) (nI ι) (nI ξ) (nI ν))) ∧ (∃ v', MilAt h8 k v') ∧ MshAt h8 k (copG g (nI π) (nI θ) (nI ι) (nI ξ) (nI ν)) ∧ Ks k h h8 from by rw [eA, eG]; exact ⟨rfl, ⟨_, hm.fr g9 (by omega)⟩, s9, (Ks.fr g9 (by omega) (by omega))⟩))
                                                                  · first
                                                                    | (omega; done)
                                                                ·
                                                                  intro p hp ih h8 q8 u8 f8 k8
                                                                  refine r_iload C (dx dX7_copy 126 rfl) rfl ?_
                                                                  refine r_iload C (dx dX7_copy 127 rfl) rfl ?_
                                                                  refine rn_ge (a := p) (b := ν) (tgt := 257) C (by omega) (by omega) (dx dX7_copy 128 rfl) (by decide) (fun c247 => ?_) (fun c247 => ?_)
                                                                  · first
                                                                    | (omega; done)
                                                                    | (
                                                                        have c247 : ν ≤ p := c247
                                                                        refine r_iload C (dx dX7_copy 143 rfl) rfl ?_
                                                                        have eA : copA g (nI π) (nI θ) (nI ι) (nI ξ) (nI ν) = nI ν := by simp [copA, copG, copF, c1, c3, c202, c204, c206, c229, c232, c234, c236, c238, c240, c242, c244, c245, c247, e01, e11, e21, e31, e41, e51, e61, e71, e02, e12, e22, e32, e42, e52, e62, clN (show π < 2 ^ 31 by omega), clN (show θ < 2 ^ 31 by omega), clN (show ν < 2 ^ 31 by omega), clN (show ι < 2 ^ 31 by omega), clN (show ξ < 2 ^ 31 by omega), inR_nI (show π < 2 ^ 31 by omega), inR_nI (show θ < 2 ^ 31 by omega), inR_nI (show ν < 2 ^ 31 by omega), inR_nI (show ι < 2 ^ 31 by omega), inR_nI (show ξ < 2 ^ 31 by omega), show π < 8 by omega, show θ < 8 by omega, cp_row e31 e32 (by omega) (by omega) (show ι < 2 ^ 31 by omega) (show ξ < 2 ^ 31 by omega) (show ν < 2 ^ 31 by omega), show ι + ν ≤ ν1 by omega, show ξ + ν ≤ ν2 by omega]
                                                                        have eG : copG g (nI π) (nI θ) (nI ι) (nI ξ) (nI ν) = g := by simp [copA, copG, copF, c1, c3, c202, c204, c206, c229, c232, c234, c236, c238, c240, c242, c244, c245, c247, e01, e11, e21, e31, e41, e51, e61, e71, e02, e12, e22, e32, e42, e52, e62, clN (show π < 2 ^ 31 by omega), clN (show θ < 2 ^ 31 by omega), clN (show ν < 2 ^ 31 by omega), clN (show ι < 2 ^ 31 by omega), clN (show ξ < 2 ^ 31 by omega), inR_nI (show π < 2 ^ 31 by omega), inR_nI (show θ < 2 ^ 31 by omega), inR_nI (show ν < 2 ^ 31 by omega), inR_nI (show ι < 2 ^ 31 by omega), inR_nI (show ξ < 2 ^ 31 by omega), show π < 8 by omega, show θ < 8 by omega, cp_row e31 e32 (by omega) (by omega) (show ι < 2 ^ 31 by omega) (show ξ < 2 ^ 31 by omega) (show ν < 2 ^ 31 by omega), show ι + ν ≤ ν1 by omega, show ξ + ν ≤ ν2 by omega]
                                                                        exact F.1 _ _ _ _ _ rfl rfl (dx dX7_copy 144 rfl) k8 (show some (vi (nI ν)) = some (vi (copA g (nI π) (nI θ) (nI ι) (nI ξ) (nI ν))) ∧ (∃ v', MilAt h8 k v') ∧ MshAt h8 k (copG g (nI π) (nI θ) (nI ι) (nI ξ) (nI ν)) ∧ Ks k h h8 from by rw [eA, eG]; exact ⟨rfl, ⟨_, hm⟩, hs, Ks.rf⟩))
                                                                  · first
                                                                    | (omega; done)
                                                                    | (
                                                                        have c247 : p < ν := c247
                                                                        refine r_aload_n C (dx dX7_copy 129 rfl) rfl ?_
                                                                        refine g_X7_21 C (dx dX7_copy 130 rfl) ?_
                                                                        refine r_iload_n C (dx dX7_copy 131 rfl) rfl ?_
                                                                        refine r_aald5 (j := θ) C rfl rfl (by decide) rfl (by omega) (dx dX7_copy 132 rfl) ?_
                                                                        refine r_iload C (dx dX7_copy 133 rfl) rfl ?_
                                                                        refine r_iload C (dx dX7_copy 134 rfl) rfl ?_
                                                                        refine rn_iadd (a := ξ) (b := p) C (dx dX7_copy 135 rfl) ?_
                                                                        refine r_aload_n C (dx dX7_copy 136 rfl) rfl ?_
                                                                        refine g_X7_24 C (dx dX7_copy 137 rfl) ?_
                                                                        refine r_iload C (dx dX7_copy 138 rfl) rfl ?_
                                                                        refine r_lald (j := p) (x := gE g π (ι + p)) C rfl rfl (by decide) rfl (by omega) (dx dX7_copy 139 rfl) (u8 _ (by omega)) ?_
                                                                        refine r_last (j := ξ + p) C rfl rfl (by decide) rfl (by omega) (dx dX7_copy 140 rfl) ?_
                                                                        refine rn_iinc (a := p) (k := 1) (ls' := [(0, vr 7 k), (1, vi (nI π)), (2, vi (nI θ)), (3, vi (nI ι)), (4, vi (nI ξ)), (5, vi (nI ν)), (6, vi (nI (p + 1)))]) C (dx dX7_copy 141 rfl) rfl rfl (by decide) [1, 2, 3, 4, 5, 6, 0] rfl ?_
                                                                        refine r_goto (tgt := 225) C (dx dX7_copy 142 rfl) (by decide) ?_
                                                                        exact ih _ (fun i hi => by rw [sL_at]; exact cp2_step q8 i hi) (fun t ht => by rw [sL_ne (by omega)]; exact u8 t ht) (f8.tr (Fr.sL (by omega) (by omega))) k8))
                                                          · first
                                                            | (omega; done)
                                                        ·
                                                          intro p hp ih h9 q9 f9 k9
                                                          refine r_iload C (dx dX7_copy 107 rfl) rfl ?_
                                                          refine r_iload C (dx dX7_copy 108 rfl) rfl ?_
                                                          refine rn_ge (a := p) (b := ν) (tgt := 222) C (by omega) (by omega) (dx dX7_copy 109 rfl) (by decide) (fun c248 => ?_) (fun c248 => ?_)
                                                          · first
                                                            | (omega; done)
                                                            | (
                                                                have c248 : ν ≤ p := c248
                                                                refine r_iconst (v := nI 0) C (dx dX7_copy 124 rfl) rfl ?_
                                                                refine r_istore (ls' := [(0, vr 7 k), (1, vi (nI π)), (2, vi (nI θ)), (3, vi (nI ι)), (4, vi (nI ξ)), (5, vi (nI ν)), (6, vi (nI 0))]) C (dx dX7_copy 125 rfl) (by decide) [1, 2, 3, 4, 5, 6, 0] rfl ?_
                                                                have r9 := MsR.fr (show MsR h k g θ from ⟨_, _, a12, a22, a32, a42, a52, a62, a72, a82⟩) hθ f9
                                                                refine loopU (Φ := fun p => ∀ h8, (∀ i, i < 40 → xL h8 (k + 5 + θ) i = if ξ ≤ i ∧ i < ξ + p then gE g π (ι + (i - ξ)) else gE g θ i) → (∀ t, t < ν → xL h8 (k + 13) t = gE g π (ι + t)) → Fr (k + 5 + θ) (k + 5 + θ + 1) h9 h8 → xK h8 = xK h → Rr G 225 [(0, vr 7 k), (1, vi (nI π)), (2, vi (nI θ)), (3, vi (nI ι)), (4, vi (nI ξ)), (5, vi (nI ν)), (6, vi (nI p))] [] h8) (N := ν) ?_ ?_ 0 (by omega) _ (fun i hi => by rw [if_neg (by omega), f9.L (by omega)]; exact a82 i hi) q9 Fr.rf k9
                                                                ·
                                                                  intro h8 q8 u8 f8 k8
                                                                  have s9 : MshAt h8 k (pCp g π θ ι ξ ν) := msh_els (hs.mv f9) hθ r9 f8 (fun i hi => by rw [q8 i hi]; rfl)
                                                                  have g9 : Fr (k + 1) (k + 17) h h8 := (f9.mono (by omega) (by omega)).tr (f8.mono (by omega) (by omega))
                                                                  refine r_iload C (dx dX7_copy 126 rfl) rfl ?_
                                                                  refine r_iload C (dx dX7_copy 127 rfl) rfl ?_
                                                                  refine rn_ge (a := ν) (b := ν) (tgt := 257) C (by omega) (by omega) (dx dX7_copy 128 rfl) (by decide) (fun c249 => ?_) (fun c249 => ?_)
                                                                  · first
                                                                    | (omega; done)
                                                                    | (
                                                                        have c249 : ν ≤ ν := c249
                                                                        refine r_iload C (dx dX7_copy 143 rfl) rfl ?_
                                                                        have eA : copA g (nI π) (nI θ) (nI ι) (nI ξ) (nI ν) = nI ν := by simp [copA, copG, copF, c1, c3, c202, c204, c206, c229, c232, c234, c236, c238, c240, c242, c244, c248, c249, e01, e11, e21, e31, e41, e51, e61, e71, e02, e12, e22, e32, e42, e52, e62, clN (show π < 2 ^ 31 by omega), clN (show θ < 2 ^ 31 by omega), clN (show ν < 2 ^ 31 by omega), clN (show ι < 2 ^ 31 by omega), clN (show ξ < 2 ^ 31 by omega), inR_nI (show π < 2 ^ 31 by omega), inR_nI (show θ < 2 ^ 31 by omega), inR_nI (show ν < 2 ^ 31 by omega), inR_nI (show ι < 2 ^ 31 by omega), inR_nI (show ξ < 2 ^ 31 by omega), show π < 8 by omega, show θ < 8 by omega, cp_row e31 e32 (by omega) (by omega) (show ι < 2 ^ 31 by omega) (show ξ < 2 ^ 31 by omega) (show ν < 2 ^ 31 by omega), show ι + ν ≤ ν1 by omega, show ξ + ν ≤ ν2 by omega]
                                                                        have eG : copG g (nI π) (nI θ) (nI ι) (nI ξ) (nI ν) = pCp g π θ ι ξ ν := by simp [copA, copG, copF, c1, c3, c202, c204, c206, c229, c232, c234, c236, c238, c240, c242, c244, c248, c249, e01, e11, e21, e31, e41, e51, e61, e71, e02, e12, e22, e32, e42, e52, e62, clN (show π < 2 ^ 31 by omega), clN (show θ < 2 ^ 31 by omega), clN (show ν < 2 ^ 31 by omega), clN (show ι < 2 ^ 31 by omega), clN (show ξ < 2 ^ 31 by omega), inR_nI (show π < 2 ^ 31 by omega), inR_nI (show θ < 2 ^ 31 by omega), inR_nI (show ν < 2 ^ 31 by omega), inR_nI (show ι < 2 ^ 31 by omega), inR_nI (show ξ < 2 ^ 31 by omega), show π < 8 by omega, show θ < 8 by omega, cp_row e31 e32 (by omega) (by omega) (show ι < 2 ^ 31 by omega) (show ξ < 2 ^ 31 by omega) (show ν < 2 ^ 31 by omega), show ι + ν ≤ ν1 by omega, show ξ + ν ≤ ν2 by omega]
                                                                        exact F.1 _ _ _ _ _ rfl rfl (dx dX7_copy 144 rfl) k8 (show some (vi (nI ν)) = some (vi (copA g (nI π) (nI θ) (nI ι) (nI ξ) (nI ν))) ∧ (∃ v', MilAt h8 k v') ∧ MshAt h8 k (copG g (nI π) (nI θ) (nI ι) (nI ξ) (nI ν)) ∧ Ks k h h8 from by rw [eA, eG]; exact ⟨rfl, ⟨_, hm.fr g9 (by omega)⟩, s9, (Ks.fr g9 (by omega) (by omega))⟩))
                                                                  · first
                                                                    | (omega; done)
                                                                ·
                                                                  intro p hp ih h8 q8 u8 f8 k8
                                                                  refine r_iload C (dx dX7_copy 126 rfl) rfl ?_
                                                                  refine r_iload C (dx dX7_copy 127 rfl) rfl ?_
                                                                  refine rn_ge (a := p) (b := ν) (tgt := 257) C (by omega) (by omega) (dx dX7_copy 128 rfl) (by decide) (fun c250 => ?_) (fun c250 => ?_)
                                                                  · first
                                                                    | (omega; done)
                                                                    | (
                                                                        have c250 : ν ≤ p := c250
                                                                        refine r_iload C (dx dX7_copy 143 rfl) rfl ?_
                                                                        have eA : copA g (nI π) (nI θ) (nI ι) (nI ξ) (nI ν) = nI ν := by simp [copA, copG, copF, c1, c3, c202, c204, c206, c229, c232, c234, c236, c238, c240, c242, c244, c248, c250, e01, e11, e21, e31, e41, e51, e61, e71, e02, e12, e22, e32, e42, e52, e62, clN (show π < 2 ^ 31 by omega), clN (show θ < 2 ^ 31 by omega), clN (show ν < 2 ^ 31 by omega), clN (show ι < 2 ^ 31 by omega), clN (show ξ < 2 ^ 31 by omega), inR_nI (show π < 2 ^ 31 by omega), inR_nI (show θ < 2 ^ 31 by omega), inR_nI (show ν < 2 ^ 31 by omega), inR_nI (show ι < 2 ^ 31 by omega), inR_nI (show ξ < 2 ^ 31 by omega), show π < 8 by omega, show θ < 8 by omega, cp_row e31 e32 (by omega) (by omega) (show ι < 2 ^ 31 by omega) (show ξ < 2 ^ 31 by omega) (show ν < 2 ^ 31 by omega), show ι + ν ≤ ν1 by omega, show ξ + ν ≤ ν2 by omega]
                                                                        have eG : copG g (nI π) (nI θ) (nI ι) (nI ξ) (nI ν) = g := by simp [copA, copG, copF, c1, c3, c202, c204, c206, c229, c232, c234, c236, c238, c240, c242, c244, c248, c250, e01, e11, e21, e31, e41, e51, e61, e71, e02, e12, e22, e32, e42, e52, e62, clN (show π < 2 ^ 31 by omega), clN (show θ < 2 ^ 31 by omega), clN (show ν < 2 ^ 31 by omega), clN (show ι < 2 ^ 31 by omega), clN (show ξ < 2 ^ 31 by omega), inR_nI (show π < 2 ^ 31 by omega), inR_nI (show θ < 2 ^ 31 by omega), inR_nI (show ν < 2 ^ 31 by omega), inR_nI (show ι < 2 ^ 31 by omega), inR_nI (show ξ < 2 ^ 31 by omega), show π < 8 by omega, show θ < 8 by omega, cp_row e31 e32 (by omega) (by omega) (show ι < 2 ^ 31 by omega) (show ξ < 2 ^ 31 by omega) (show ν < 2 ^ 31 by omega), show ι + ν ≤ ν1 by omega, show ξ + ν ≤ ν2 by omega]
                                                                        exact F.1 _ _ _ _ _ rfl rfl (dx dX7_copy 144 rfl) k8 (show some (vi (nI ν)) = some (vi (copA g (nI π) (nI θ) (nI ι) (nI ξ) (nI ν))) ∧ (∃ v', MilAt h8 k v') ∧ MshAt h8 k (copG g (nI π) (nI θ) (nI ι) (nI ξ) (nI ν)) ∧ Ks k h h8 from by rw [eA, eG]; exact ⟨rfl, ⟨_, hm⟩, hs, Ks.rf⟩))
                                                                  · first
                                                                    | (omega; done)
                                                                    | (
                                                                        have c250 : p < ν := c250
                                                                        refine r_aload_n C (dx dX7_copy 129 rfl) rfl ?_
                                                                        refine g_X7_21 C (dx dX7_copy 130 rfl) ?_
                                                                        refine r_iload_n C (dx dX7_copy 131 rfl) rfl ?_
                                                                        refine r_aald5 (j := θ) C rfl rfl (by decide) rfl (by omega) (dx dX7_copy 132 rfl) ?_
                                                                        refine r_iload C (dx dX7_copy 133 rfl) rfl ?_
                                                                        refine r_iload C (dx dX7_copy 134 rfl) rfl ?_
                                                                        refine rn_iadd (a := ξ) (b := p) C (dx dX7_copy 135 rfl) ?_
                                                                        refine r_aload_n C (dx dX7_copy 136 rfl) rfl ?_
                                                                        refine g_X7_24 C (dx dX7_copy 137 rfl) ?_
                                                                        refine r_iload C (dx dX7_copy 138 rfl) rfl ?_
                                                                        refine r_lald (j := p) (x := gE g π (ι + p)) C rfl rfl (by decide) rfl (by omega) (dx dX7_copy 139 rfl) (u8 _ (by omega)) ?_
                                                                        refine r_last (j := ξ + p) C rfl rfl (by decide) rfl (by omega) (dx dX7_copy 140 rfl) ?_
                                                                        refine rn_iinc (a := p) (k := 1) (ls' := [(0, vr 7 k), (1, vi (nI π)), (2, vi (nI θ)), (3, vi (nI ι)), (4, vi (nI ξ)), (5, vi (nI ν)), (6, vi (nI (p + 1)))]) C (dx dX7_copy 141 rfl) rfl rfl (by decide) [1, 2, 3, 4, 5, 6, 0] rfl ?_
                                                                        refine r_goto (tgt := 225) C (dx dX7_copy 142 rfl) (by decide) ?_
                                                                        exact ih _ (fun i hi => by rw [sL_at]; exact cp2_step q8 i hi) (fun t ht => by rw [sL_ne (by omega)]; exact u8 t ht) (f8.tr (Fr.sL (by omega) (by omega))) k8))
                                                          · first
                                                            | (omega; done)
                                                            | (
                                                                have c248 : p < ν := c248
                                                                refine r_aload_n C (dx dX7_copy 110 rfl) rfl ?_
                                                                refine g_X7_24 C (dx dX7_copy 111 rfl) ?_
                                                                refine r_iload C (dx dX7_copy 112 rfl) rfl ?_
                                                                refine r_aload_n C (dx dX7_copy 113 rfl) rfl ?_
                                                                refine g_X7_21 C (dx dX7_copy 114 rfl) ?_
                                                                refine r_iload_n C (dx dX7_copy 115 rfl) rfl ?_
                                                                refine r_aald5 (j := π) C rfl rfl (by decide) rfl (by omega) (dx dX7_copy 116 rfl) ?_
                                                                refine r_iload_n C (dx dX7_copy 117 rfl) rfl ?_
                                                                refine r_iload C (dx dX7_copy 118 rfl) rfl ?_
                                                                refine rn_iadd (a := ι) (b := p) C (dx dX7_copy 119 rfl) ?_
                                                                refine r_lald (j := ι + p) (x := gE g π (ι + p)) C rfl rfl (by decide) rfl (by omega) (dx dX7_copy 120 rfl) ((f9.L (by omega) _).trans (a81 _ (by omega))) ?_
                                                                refine r_last (j := p) C rfl rfl (by decide) rfl (by omega) (dx dX7_copy 121 rfl) ?_
                                                                refine rn_iinc (a := p) (k := 1) (ls' := [(0, vr 7 k), (1, vi (nI π)), (2, vi (nI θ)), (3, vi (nI ι)), (4, vi (nI ξ)), (5, vi (nI ν)), (6, vi (nI (p + 1)))]) C (dx dX7_copy 122 rfl) rfl rfl (by decide) [1, 2, 3, 4, 5, 6, 0] rfl ?_
                                                                refine r_goto (tgt := 191) C (dx dX7_copy 123 rfl) (by decide) ?_
                                                                exact ih _ (fun t ht => by rw [sL_at]; split; (next e => rw [e]); exact q9 t (by omega)) (f9.tr (Fr.sL (by omega) (by omega))) k9))
                                                  · first
                                                    | (omega; done)
                                                    | (
                                                        have c244 : ν2 - ν < ξ := c244
                                                        refine r_aload_n C (dx dX7_copy 101 rfl) rfl ?_
                                                        refine r_bipush (v := -2) C (dx dX7_copy 102 rfl) rfl ?_
                                                        refine r_cv (as := [vi (-2)]) (st := []) C X I_X7_refuse l_X7_83 (c_X7_refuse hm (x := -2) (j := 2) (by decide) (by decide)) (by decide) (Nat.le_of_ble_eq_true rfl) List.prefix_rfl List.prefix_rfl rfl rfl (Nat.le_of_ble_eq_true rfl) rfl (dx dX7_copy 103 rfl) ?_
                                                        rintro _ h251 ⟨rfl, ⟨wh251, m9h251, s9h251⟩, qh251⟩ kkh251
                                                        obtain ⟨vh251, mh251, zh251⟩ : ∃ v9, MilAt h251 k v9 ∧ Sz v v9 := ⟨_, m9h251, s9h251⟩
                                                        have ph251 : Kp k h h251 := qh251
                                                        have kh251 : xK h251 = xK h := kkh251
                                                        obtain ⟨ah251, bh251, ch251⟩ := zh251
                                                        have eA : copA g (nI π) (nI θ) (nI ι) (nI ξ) (nI ν) = -2 := by (have hq : ¬ (ι + ν ≤ ν1 ∧ ξ + ν ≤ ν2) := by omega); (have hq2 := cp_row e31 e32 (i := ι) (j := ξ) (n := ν) (by omega) (by omega) (by omega) (by omega) (by omega)); rw [decide_eq_false hq] at hq2; simp [copA, copG, copF, c1, c3, c202, c204, c206, c229, c232, c234, c236, c238, c240, c242, c244, e01, e11, e21, e31, e41, e51, e61, e71, e02, e12, e22, e32, e42, e52, e62, clN (show π < 2 ^ 31 by omega), clN (show θ < 2 ^ 31 by omega), clN (show ν < 2 ^ 31 by omega), clN (show ι < 2 ^ 31 by omega), clN (show ξ < 2 ^ 31 by omega), inR_nI (show π < 2 ^ 31 by omega), inR_nI (show θ < 2 ^ 31 by omega), inR_nI (show ν < 2 ^ 31 by omega), inR_nI (show ι < 2 ^ 31 by omega), inR_nI (show ξ < 2 ^ 31 by omega), hq2, show π < 8 by omega, show θ < 8 by omega]
                                                        have eG : copG g (nI π) (nI θ) (nI ι) (nI ξ) (nI ν) = g := by (have hq : ¬ (ι + ν ≤ ν1 ∧ ξ + ν ≤ ν2) := by omega); (have hq2 := cp_row e31 e32 (i := ι) (j := ξ) (n := ν) (by omega) (by omega) (by omega) (by omega) (by omega)); rw [decide_eq_false hq] at hq2; simp [copA, copG, copF, c1, c3, c202, c204, c206, c229, c232, c234, c236, c238, c240, c242, c244, e01, e11, e21, e31, e41, e51, e61, e71, e02, e12, e22, e32, e42, e52, e62, clN (show π < 2 ^ 31 by omega), clN (show θ < 2 ^ 31 by omega), clN (show ν < 2 ^ 31 by omega), clN (show ι < 2 ^ 31 by omega), clN (show ξ < 2 ^ 31 by omega), inR_nI (show π < 2 ^ 31 by omega), inR_nI (show θ < 2 ^ 31 by omega), inR_nI (show ν < 2 ^ 31 by omega), inR_nI (show ι < 2 ^ 31 by omega), inR_nI (show ξ < 2 ^ 31 by omega), hq2, show π < 8 by omega, show θ < 8 by omega]
                                                        exact F.1 _ _ _ _ _ rfl rfl (dx dX7_copy 104 rfl) kh251 (show some (vi (-2)) = some (vi (copA g (nI π) (nI θ) (nI ι) (nI ξ) (nI ν))) ∧ (∃ v', MilAt h251 k v') ∧ MshAt h251 k (copG g (nI π) (nI θ) (nI ι) (nI ξ) (nI ν)) ∧ Ks k h h251 from by rw [eA, eG]; exact ⟨rfl, ⟨_, mh251⟩, hs.kp ph251, ph251.ks⟩))))
                            · first
                              | (omega; done)
                              | (
                                  have c229 : 1 = 1 := c229
                                  refine r_aload_n C (dx dX7_copy 40 rfl) rfl ?_
                                  refine g_X7_13 C (dx dX7_copy 41 rfl) ?_
                                  refine r_iload_n C (dx dX7_copy 42 rfl) rfl ?_
                                  refine r_iald (j := π) (x := xI h (k + 2) π) C rfl rfl (by decide) rfl (by omega) (dx dX7_copy 43 rfl) rfl ?_
                                  refine r_aload_n C (dx dX7_copy 44 rfl) rfl ?_
                                  refine g_X7_13 C (dx dX7_copy 45 rfl) ?_
                                  refine r_iload_n C (dx dX7_copy 46 rfl) rfl ?_
                                  refine r_iald (j := θ) (x := nI τ2) C rfl rfl (by decide) rfl (by omega) (dx dX7_copy 47 rfl) a42 ?_
                                  refine r_icmp_eq (tgt := 93) C (dx dX7_copy 48 rfl) (by decide) (fun c252 => ?_) (fun c252 => ?_)
                                  ·
                                    have c252 : xI h (k + 2) π = nI τ2 := c252
                                    refine r_aload_n C (dx dX7_copy 53 rfl) rfl ?_
                                    refine g_X7_7 C (dx dX7_copy 54 rfl) ?_
                                    refine r_iload_n C (dx dX7_copy 55 rfl) rfl ?_
                                    refine r_iald (j := π) (x := nI 2) C rfl rfl (by decide) rfl (by omega) (dx dX7_copy 56 rfl) a41 ?_
                                    refine r_if_eq (tgt := 111) C (dx dX7_copy 57 rfl) (by decide) (fun c253 => (show False from by revert c253; decide).elim) (fun _ => ?_)
                                    refine r_aload_n C (dx dX7_copy 58 rfl) rfl ?_
                                    refine g_X7_7 C (dx dX7_copy 59 rfl) ?_
                                    refine r_iload_n C (dx dX7_copy 60 rfl) rfl ?_
                                    refine r_iald (j := θ) (x := nI 1) C rfl rfl (by decide) rfl (by omega) (dx dX7_copy 61 rfl) a32 ?_
                                    refine r_if_ne (tgt := 118) C (dx dX7_copy 62 rfl) (by decide) (fun _ => ?_) (fun c254 => (show False from by revert c254; decide).elim)
                                    refine r_iload C (dx dX7_copy 67 rfl) rfl ?_
                                    refine r_if_lt (tgt := 181) C (dx dX7_copy 68 rfl) (by decide) (fun c255 => ?_) (fun c255 => ?_)
                                    ·
                                      have c255 : n < 0 := c255
                                      refine r_aload_n C (dx dX7_copy 101 rfl) rfl ?_
                                      refine r_bipush (v := -2) C (dx dX7_copy 102 rfl) rfl ?_
                                      refine r_cv (as := [vi (-2)]) (st := []) C X I_X7_refuse l_X7_83 (c_X7_refuse hm (x := -2) (j := 2) (by decide) (by decide)) (by decide) (Nat.le_of_ble_eq_true rfl) List.prefix_rfl List.prefix_rfl rfl rfl (Nat.le_of_ble_eq_true rfl) rfl (dx dX7_copy 103 rfl) ?_
                                      rintro _ h256 ⟨rfl, ⟨wh256, m9h256, s9h256⟩, qh256⟩ kkh256
                                      obtain ⟨vh256, mh256, zh256⟩ : ∃ v9, MilAt h256 k v9 ∧ Sz v v9 := ⟨_, m9h256, s9h256⟩
                                      have ph256 : Kp k h h256 := qh256
                                      have kh256 : xK h256 = xK h := kkh256
                                      obtain ⟨ah256, bh256, ch256⟩ := zh256
                                      have eA : copA g (nI π) (nI θ) i j n = -2 := by simp [copA, copG, copF, cpOk, c1, c3, c202, c204, c206, c229, c252, (fun n9 => inR_neg (n := n9) c255 : ∀ n9, inR n n9 = false), c255, e01, e11, e21, e31, e41, e51, e61, e71, e02, e12, e22, e32, e42, e52, e62, clN (show π < 2 ^ 31 by omega), clN (show θ < 2 ^ 31 by omega), inR_nI (show π < 2 ^ 31 by omega), inR_nI (show θ < 2 ^ 31 by omega), show π < 8 by omega, show θ < 8 by omega]
                                      have eG : copG g (nI π) (nI θ) i j n = g := by simp [copA, copG, copF, cpOk, c1, c3, c202, c204, c206, c229, c252, (fun n9 => inR_neg (n := n9) c255 : ∀ n9, inR n n9 = false), c255, e01, e11, e21, e31, e41, e51, e61, e71, e02, e12, e22, e32, e42, e52, e62, clN (show π < 2 ^ 31 by omega), clN (show θ < 2 ^ 31 by omega), inR_nI (show π < 2 ^ 31 by omega), inR_nI (show θ < 2 ^ 31 by omega), show π < 8 by omega, show θ < 8 by omega]
                                      exact F.1 _ _ _ _ _ rfl rfl (dx dX7_copy 104 rfl) kh256 (show some (vi (-2)) = some (vi (copA g (nI π) (nI θ) i j n)) ∧ (∃ v', MilAt h256 k v') ∧ MshAt h256 k (copG g (nI π) (nI θ) i j n) ∧ Ks k h h256 from by rw [eA, eG]; exact ⟨rfl, ⟨_, mh256⟩, hs.kp ph256, ph256.ks⟩)
                                    ·
                                      have c255 : ¬ n < 0 := c255
                                      obtain ⟨ν, hν, rfl⟩ := nI_of c255
                                      refine r_iload_n C (dx dX7_copy 69 rfl) rfl ?_
                                      refine r_if_lt (tgt := 181) C (dx dX7_copy 70 rfl) (by decide) (fun c257 => ?_) (fun c257 => ?_)
                                      ·
                                        have c257 : i < 0 := c257
                                        refine r_aload_n C (dx dX7_copy 101 rfl) rfl ?_
                                        refine r_bipush (v := -2) C (dx dX7_copy 102 rfl) rfl ?_
                                        refine r_cv (as := [vi (-2)]) (st := []) C X I_X7_refuse l_X7_83 (c_X7_refuse hm (x := -2) (j := 2) (by decide) (by decide)) (by decide) (Nat.le_of_ble_eq_true rfl) List.prefix_rfl List.prefix_rfl rfl rfl (Nat.le_of_ble_eq_true rfl) rfl (dx dX7_copy 103 rfl) ?_
                                        rintro _ h258 ⟨rfl, ⟨wh258, m9h258, s9h258⟩, qh258⟩ kkh258
                                        obtain ⟨vh258, mh258, zh258⟩ : ∃ v9, MilAt h258 k v9 ∧ Sz v v9 := ⟨_, m9h258, s9h258⟩
                                        have ph258 : Kp k h h258 := qh258
                                        have kh258 : xK h258 = xK h := kkh258
                                        obtain ⟨ah258, bh258, ch258⟩ := zh258
                                        have eA : copA g (nI π) (nI θ) i j (nI ν) = -2 := by simp [copA, copG, copF, cpOk, c1, c3, c202, c204, c206, c229, c252, c255, (fun n9 => inR_neg (n := n9) c257 : ∀ n9, inR i n9 = false), c257, e01, e11, e21, e31, e41, e51, e61, e71, e02, e12, e22, e32, e42, e52, e62, clN (show π < 2 ^ 31 by omega), clN (show θ < 2 ^ 31 by omega), clN (show ν < 2 ^ 31 by omega), inR_nI (show π < 2 ^ 31 by omega), inR_nI (show θ < 2 ^ 31 by omega), inR_nI (show ν < 2 ^ 31 by omega), show π < 8 by omega, show θ < 8 by omega]
                                        have eG : copG g (nI π) (nI θ) i j (nI ν) = g := by simp [copA, copG, copF, cpOk, c1, c3, c202, c204, c206, c229, c252, c255, (fun n9 => inR_neg (n := n9) c257 : ∀ n9, inR i n9 = false), c257, e01, e11, e21, e31, e41, e51, e61, e71, e02, e12, e22, e32, e42, e52, e62, clN (show π < 2 ^ 31 by omega), clN (show θ < 2 ^ 31 by omega), clN (show ν < 2 ^ 31 by omega), inR_nI (show π < 2 ^ 31 by omega), inR_nI (show θ < 2 ^ 31 by omega), inR_nI (show ν < 2 ^ 31 by omega), show π < 8 by omega, show θ < 8 by omega]
                                        exact F.1 _ _ _ _ _ rfl rfl (dx dX7_copy 104 rfl) kh258 (show some (vi (-2)) = some (vi (copA g (nI π) (nI θ) i j (nI ν))) ∧ (∃ v', MilAt h258 k v') ∧ MshAt h258 k (copG g (nI π) (nI θ) i j (nI ν)) ∧ Ks k h h258 from by rw [eA, eG]; exact ⟨rfl, ⟨_, mh258⟩, hs.kp ph258, ph258.ks⟩)
                                      ·
                                        have c257 : ¬ i < 0 := c257
                                        obtain ⟨ι, hι, rfl⟩ := nI_of c257
                                        refine r_iload C (dx dX7_copy 71 rfl) rfl ?_
                                        refine r_if_lt (tgt := 181) C (dx dX7_copy 72 rfl) (by decide) (fun c259 => ?_) (fun c259 => ?_)
                                        ·
                                          have c259 : j < 0 := c259
                                          refine r_aload_n C (dx dX7_copy 101 rfl) rfl ?_
                                          refine r_bipush (v := -2) C (dx dX7_copy 102 rfl) rfl ?_
                                          refine r_cv (as := [vi (-2)]) (st := []) C X I_X7_refuse l_X7_83 (c_X7_refuse hm (x := -2) (j := 2) (by decide) (by decide)) (by decide) (Nat.le_of_ble_eq_true rfl) List.prefix_rfl List.prefix_rfl rfl rfl (Nat.le_of_ble_eq_true rfl) rfl (dx dX7_copy 103 rfl) ?_
                                          rintro _ h260 ⟨rfl, ⟨wh260, m9h260, s9h260⟩, qh260⟩ kkh260
                                          obtain ⟨vh260, mh260, zh260⟩ : ∃ v9, MilAt h260 k v9 ∧ Sz v v9 := ⟨_, m9h260, s9h260⟩
                                          have ph260 : Kp k h h260 := qh260
                                          have kh260 : xK h260 = xK h := kkh260
                                          obtain ⟨ah260, bh260, ch260⟩ := zh260
                                          have eA : copA g (nI π) (nI θ) (nI ι) j (nI ν) = -2 := by simp [copA, copG, copF, cpOk, c1, c3, c202, c204, c206, c229, c252, c255, c257, (fun n9 => inR_neg (n := n9) c259 : ∀ n9, inR j n9 = false), c259, e01, e11, e21, e31, e41, e51, e61, e71, e02, e12, e22, e32, e42, e52, e62, clN (show π < 2 ^ 31 by omega), clN (show θ < 2 ^ 31 by omega), clN (show ν < 2 ^ 31 by omega), clN (show ι < 2 ^ 31 by omega), inR_nI (show π < 2 ^ 31 by omega), inR_nI (show θ < 2 ^ 31 by omega), inR_nI (show ν < 2 ^ 31 by omega), inR_nI (show ι < 2 ^ 31 by omega), show π < 8 by omega, show θ < 8 by omega]
                                          have eG : copG g (nI π) (nI θ) (nI ι) j (nI ν) = g := by simp [copA, copG, copF, cpOk, c1, c3, c202, c204, c206, c229, c252, c255, c257, (fun n9 => inR_neg (n := n9) c259 : ∀ n9, inR j n9 = false), c259, e01, e11, e21, e31, e41, e51, e61, e71, e02, e12, e22, e32, e42, e52, e62, clN (show π < 2 ^ 31 by omega), clN (show θ < 2 ^ 31 by omega), clN (show ν < 2 ^ 31 by omega), clN (show ι < 2 ^ 31 by omega), inR_nI (show π < 2 ^ 31 by omega), inR_nI (show θ < 2 ^ 31 by omega), inR_nI (show ν < 2 ^ 31 by omega), inR_nI (show ι < 2 ^ 31 by omega), show π < 8 by omega, show θ < 8 by omega]
                                          exact F.1 _ _ _ _ _ rfl rfl (dx dX7_copy 104 rfl) kh260 (show some (vi (-2)) = some (vi (copA g (nI π) (nI θ) (nI ι) j (nI ν))) ∧ (∃ v', MilAt h260 k v') ∧ MshAt h260 k (copG g (nI π) (nI θ) (nI ι) j (nI ν)) ∧ Ks k h h260 from by rw [eA, eG]; exact ⟨rfl, ⟨_, mh260⟩, hs.kp ph260, ph260.ks⟩)
                                        ·
                                          have c259 : ¬ j < 0 := c259
                                          obtain ⟨ξ, hξ, rfl⟩ := nI_of c259
                                          refine r_iload C (dx dX7_copy 73 rfl) rfl ?_
                                          refine r_aload_n C (dx dX7_copy 74 rfl) rfl ?_
                                          refine g_X7_16 C (dx dX7_copy 75 rfl) ?_
                                          refine r_iload_n C (dx dX7_copy 76 rfl) rfl ?_
                                          refine r_iald (j := π) (x := xI h (k + 3) π) C rfl rfl (by decide) rfl (by omega) (dx dX7_copy 77 rfl) rfl ?_
                                          refine r_icmp_gt (tgt := 181) C (dx dX7_copy 78 rfl) (by decide) (fun c261 => ?_) (fun c261 => ?_)
                                          ·
                                            have c261 : xI h (k + 3) π < nI ν := c261
                                            refine r_aload_n C (dx dX7_copy 101 rfl) rfl ?_
                                            refine r_bipush (v := -2) C (dx dX7_copy 102 rfl) rfl ?_
                                            refine r_cv (as := [vi (-2)]) (st := []) C X I_X7_refuse l_X7_83 (c_X7_refuse hm (x := -2) (j := 2) (by decide) (by decide)) (by decide) (Nat.le_of_ble_eq_true rfl) List.prefix_rfl List.prefix_rfl rfl rfl (Nat.le_of_ble_eq_true rfl) rfl (dx dX7_copy 103 rfl) ?_
                                            rintro _ h262 ⟨rfl, ⟨wh262, m9h262, s9h262⟩, qh262⟩ kkh262
                                            obtain ⟨vh262, mh262, zh262⟩ : ∃ v9, MilAt h262 k v9 ∧ Sz v v9 := ⟨_, m9h262, s9h262⟩
                                            have ph262 : Kp k h h262 := qh262
                                            have kh262 : xK h262 = xK h := kkh262
                                            obtain ⟨ah262, bh262, ch262⟩ := zh262
                                            have eA : copA g (nI π) (nI θ) (nI ι) (nI ξ) (nI ν) = -2 := by (have hq : ¬ (ι + ν ≤ ν1 ∧ ξ + ν ≤ ν2) := by omega); (have hq2 := cp_row e31 e32 (i := ι) (j := ξ) (n := ν) (by omega) (by omega) (by omega) (by omega) (by omega)); rw [decide_eq_false hq] at hq2; simp [copA, copG, copF, c1, c3, c202, c204, c206, c229, c252, c255, c257, c259, c261, e01, e11, e21, e31, e41, e51, e61, e71, e02, e12, e22, e32, e42, e52, e62, clN (show π < 2 ^ 31 by omega), clN (show θ < 2 ^ 31 by omega), clN (show ν < 2 ^ 31 by omega), clN (show ι < 2 ^ 31 by omega), clN (show ξ < 2 ^ 31 by omega), inR_nI (show π < 2 ^ 31 by omega), inR_nI (show θ < 2 ^ 31 by omega), inR_nI (show ν < 2 ^ 31 by omega), inR_nI (show ι < 2 ^ 31 by omega), inR_nI (show ξ < 2 ^ 31 by omega), hq2, show π < 8 by omega, show θ < 8 by omega]
                                            have eG : copG g (nI π) (nI θ) (nI ι) (nI ξ) (nI ν) = g := by (have hq : ¬ (ι + ν ≤ ν1 ∧ ξ + ν ≤ ν2) := by omega); (have hq2 := cp_row e31 e32 (i := ι) (j := ξ) (n := ν) (by omega) (by omega) (by omega) (by omega) (by omega)); rw [decide_eq_false hq] at hq2; simp [copA, copG, copF, c1, c3, c202, c204, c206, c229, c252, c255, c257, c259, c261, e01, e11, e21, e31, e41, e51, e61, e71, e02, e12, e22, e32, e42, e52, e62, clN (show π < 2 ^ 31 by omega), clN (show θ < 2 ^ 31 by omega), clN (show ν < 2 ^ 31 by omega), clN (show ι < 2 ^ 31 by omega), clN (show ξ < 2 ^ 31 by omega), inR_nI (show π < 2 ^ 31 by omega), inR_nI (show θ < 2 ^ 31 by omega), inR_nI (show ν < 2 ^ 31 by omega), inR_nI (show ι < 2 ^ 31 by omega), inR_nI (show ξ < 2 ^ 31 by omega), hq2, show π < 8 by omega, show θ < 8 by omega]
                                            exact F.1 _ _ _ _ _ rfl rfl (dx dX7_copy 104 rfl) kh262 (show some (vi (-2)) = some (vi (copA g (nI π) (nI θ) (nI ι) (nI ξ) (nI ν))) ∧ (∃ v', MilAt h262 k v') ∧ MshAt h262 k (copG g (nI π) (nI θ) (nI ι) (nI ξ) (nI ν)) ∧ Ks k h h262 from by rw [eA, eG]; exact ⟨rfl, ⟨_, mh262⟩, hs.kp ph262, ph262.ks⟩)
                                          ·
                                            have c261 : ¬ xI h (k + 3) π < nI ν := c261
                                            refine r_iload C (dx dX7_copy 79 rfl) rfl ?_
                                            refine r_aload_n C (dx dX7_copy 80 rfl) rfl ?_
                                            refine g_X7_16 C (dx dX7_copy 81 rfl) ?_
                                            refine r_iload_n C (dx dX7_copy 82 rfl) rfl ?_
                                            refine r_iald (j := θ) (x := nI ν2) C rfl rfl (by decide) rfl (by omega) (dx dX7_copy 83 rfl) a52 ?_
                                            refine rn_gt (a := ν) (b := ν2) (tgt := 181) C (by omega) (by omega) (dx dX7_copy 84 rfl) (by decide) (fun c263 => ?_) (fun c263 => ?_)
                                            · first
                                              | (omega; done)
                                              | (
                                                  have c263 : ν2 < ν := c263
                                                  refine r_aload_n C (dx dX7_copy 101 rfl) rfl ?_
                                                  refine r_bipush (v := -2) C (dx dX7_copy 102 rfl) rfl ?_
                                                  refine r_cv (as := [vi (-2)]) (st := []) C X I_X7_refuse l_X7_83 (c_X7_refuse hm (x := -2) (j := 2) (by decide) (by decide)) (by decide) (Nat.le_of_ble_eq_true rfl) List.prefix_rfl List.prefix_rfl rfl rfl (Nat.le_of_ble_eq_true rfl) rfl (dx dX7_copy 103 rfl) ?_
                                                  rintro _ h264 ⟨rfl, ⟨wh264, m9h264, s9h264⟩, qh264⟩ kkh264
                                                  obtain ⟨vh264, mh264, zh264⟩ : ∃ v9, MilAt h264 k v9 ∧ Sz v v9 := ⟨_, m9h264, s9h264⟩
                                                  have ph264 : Kp k h h264 := qh264
                                                  have kh264 : xK h264 = xK h := kkh264
                                                  obtain ⟨ah264, bh264, ch264⟩ := zh264
                                                  have eA : copA g (nI π) (nI θ) (nI ι) (nI ξ) (nI ν) = -2 := by (have hq : ¬ (ι + ν ≤ ν1 ∧ ξ + ν ≤ ν2) := by omega); (have hq2 := cp_row e31 e32 (i := ι) (j := ξ) (n := ν) (by omega) (by omega) (by omega) (by omega) (by omega)); rw [decide_eq_false hq] at hq2; simp [copA, copG, copF, c1, c3, c202, c204, c206, c229, c252, c255, c257, c259, c261, c263, e01, e11, e21, e31, e41, e51, e61, e71, e02, e12, e22, e32, e42, e52, e62, clN (show π < 2 ^ 31 by omega), clN (show θ < 2 ^ 31 by omega), clN (show ν < 2 ^ 31 by omega), clN (show ι < 2 ^ 31 by omega), clN (show ξ < 2 ^ 31 by omega), inR_nI (show π < 2 ^ 31 by omega), inR_nI (show θ < 2 ^ 31 by omega), inR_nI (show ν < 2 ^ 31 by omega), inR_nI (show ι < 2 ^ 31 by omega), inR_nI (show ξ < 2 ^ 31 by omega), hq2, show π < 8 by omega, show θ < 8 by omega]
                                                  have eG : copG g (nI π) (nI θ) (nI ι) (nI ξ) (nI ν) = g := by (have hq : ¬ (ι + ν ≤ ν1 ∧ ξ + ν ≤ ν2) := by omega); (have hq2 := cp_row e31 e32 (i := ι) (j := ξ) (n := ν) (by omega) (by omega) (by omega) (by omega) (by omega)); rw [decide_eq_false hq] at hq2; simp [copA, copG, copF, c1, c3, c202, c204, c206, c229, c252, c255, c257, c259, c261, c263, e01, e11, e21, e31, e41, e51, e61, e71, e02, e12, e22, e32, e42, e52, e62, clN (show π < 2 ^ 31 by omega), clN (show θ < 2 ^ 31 by omega), clN (show ν < 2 ^ 31 by omega), clN (show ι < 2 ^ 31 by omega), clN (show ξ < 2 ^ 31 by omega), inR_nI (show π < 2 ^ 31 by omega), inR_nI (show θ < 2 ^ 31 by omega), inR_nI (show ν < 2 ^ 31 by omega), inR_nI (show ι < 2 ^ 31 by omega), inR_nI (show ξ < 2 ^ 31 by omega), hq2, show π < 8 by omega, show θ < 8 by omega]
                                                  exact F.1 _ _ _ _ _ rfl rfl (dx dX7_copy 104 rfl) kh264 (show some (vi (-2)) = some (vi (copA g (nI π) (nI θ) (nI ι) (nI ξ) (nI ν))) ∧ (∃ v', MilAt h264 k v') ∧ MshAt h264 k (copG g (nI π) (nI θ) (nI ι) (nI ξ) (nI ν)) ∧ Ks k h h264 from by rw [eA, eG]; exact ⟨rfl, ⟨_, mh264⟩, hs.kp ph264, ph264.ks⟩))
                                            · first
                                              | (omega; done)
                                              | (
                                                  have c263 : ν ≤ ν2 := c263
                                                  refine r_iload_n C (dx dX7_copy 85 rfl) rfl ?_
                                                  refine r_aload_n C (dx dX7_copy 86 rfl) rfl ?_
                                                  refine g_X7_16 C (dx dX7_copy 87 rfl) ?_
                                                  refine r_iload_n C (dx dX7_copy 88 rfl) rfl ?_
                                                  refine r_iald (j := π) (x := xI h (k + 3) π) C rfl rfl (by decide) rfl (by omega) (dx dX7_copy 89 rfl) rfl ?_
                                                  refine r_iload C (dx dX7_copy 90 rfl) rfl ?_
                                                  refine r_isub C (dx dX7_copy 91 rfl) ?_
                                                  refine r_icmp_gt (tgt := 181) C (dx dX7_copy 92 rfl) (by decide) (fun c265 => ?_) (fun c265 => ?_)
                                                  ·
                                                    have c265 : (xI h (k + 3) π) - (nI ν) < nI ι := c265
                                                    refine r_aload_n C (dx dX7_copy 101 rfl) rfl ?_
                                                    refine r_bipush (v := -2) C (dx dX7_copy 102 rfl) rfl ?_
                                                    refine r_cv (as := [vi (-2)]) (st := []) C X I_X7_refuse l_X7_83 (c_X7_refuse hm (x := -2) (j := 2) (by decide) (by decide)) (by decide) (Nat.le_of_ble_eq_true rfl) List.prefix_rfl List.prefix_rfl rfl rfl (Nat.le_of_ble_eq_true rfl) rfl (dx dX7_copy 103 rfl) ?_
                                                    rintro _ h266 ⟨rfl, ⟨wh266, m9h266, s9h266⟩, qh266⟩ kkh266
                                                    obtain ⟨vh266, mh266, zh266⟩ : ∃ v9, MilAt h266 k v9 ∧ Sz v v9 := ⟨_, m9h266, s9h266⟩
                                                    have ph266 : Kp k h h266 := qh266
                                                    have kh266 : xK h266 = xK h := kkh266
                                                    obtain ⟨ah266, bh266, ch266⟩ := zh266
                                                    have eA : copA g (nI π) (nI θ) (nI ι) (nI ξ) (nI ν) = -2 := by (have hq : ¬ (ι + ν ≤ ν1 ∧ ξ + ν ≤ ν2) := by omega); (have hq2 := cp_row e31 e32 (i := ι) (j := ξ) (n := ν) (by omega) (by omega) (by omega) (by omega) (by omega)); rw [decide_eq_false hq] at hq2; simp [copA, copG, copF, c1, c3, c202, c204, c206, c229, c252, c255, c257, c259, c261, c263, c265, e01, e11, e21, e31, e41, e51, e61, e71, e02, e12, e22, e32, e42, e52, e62, clN (show π < 2 ^ 31 by omega), clN (show θ < 2 ^ 31 by omega), clN (show ν < 2 ^ 31 by omega), clN (show ι < 2 ^ 31 by omega), clN (show ξ < 2 ^ 31 by omega), inR_nI (show π < 2 ^ 31 by omega), inR_nI (show θ < 2 ^ 31 by omega), inR_nI (show ν < 2 ^ 31 by omega), inR_nI (show ι < 2 ^ 31 by omega), inR_nI (show ξ < 2 ^ 31 by omega), hq2, show π < 8 by omega, show θ < 8 by omega]
                                                    have eG : copG g (nI π) (nI θ) (nI ι) (nI ξ) (nI ν) = g := by (have hq : ¬ (ι + ν ≤ ν1 ∧ ξ + ν ≤ ν2) := by omega); (have hq2 := cp_row e31 e32 (i := ι) (j := ξ) (n := ν) (by omega) (by omega) (by omega) (by omega) (by omega)); rw [decide_eq_false hq] at hq2; simp [copA, copG, copF, c1, c3, c202, c204, c206, c229, c252, c255, c257, c259, c261, c263, c265, e01, e11, e21, e31, e41, e51, e61, e71, e02, e12, e22, e32, e42, e52, e62, clN (show π < 2 ^ 31 by omega), clN (show θ < 2 ^ 31 by omega), clN (show ν < 2 ^ 31 by omega), clN (show ι < 2 ^ 31 by omega), clN (show ξ < 2 ^ 31 by omega), inR_nI (show π < 2 ^ 31 by omega), inR_nI (show θ < 2 ^ 31 by omega), inR_nI (show ν < 2 ^ 31 by omega), inR_nI (show ι < 2 ^ 31 by omega), inR_nI (show ξ < 2 ^ 31 by omega), hq2, show π < 8 by omega, show θ < 8 by omega]
                                                    exact F.1 _ _ _ _ _ rfl rfl (dx dX7_copy 104 rfl) kh266 (show some (vi (-2)) = some (vi (copA g (nI π) (nI θ) (nI ι) (nI ξ) (nI ν))) ∧ (∃ v', MilAt h266 k v') ∧ MshAt h266 k (copG g (nI π) (nI θ) (nI ι) (nI ξ) (nI ν)) ∧ Ks k h h266 from by rw [eA, eG]; exact ⟨rfl, ⟨_, mh266⟩, hs.kp ph266, ph266.ks⟩)
                                                  ·
                                                    have c265 : ¬ (xI h (k + 3) π) - (nI ν) < nI ι := c265
                                                    refine r_iload C (dx dX7_copy 93 rfl) rfl ?_
                                                    refine r_aload_n C (dx dX7_copy 94 rfl) rfl ?_
                                                    refine g_X7_16 C (dx dX7_copy 95 rfl) ?_
                                                    refine r_iload_n C (dx dX7_copy 96 rfl) rfl ?_
                                                    refine r_iald (j := θ) (x := nI ν2) C rfl rfl (by decide) rfl (by omega) (dx dX7_copy 97 rfl) a52 ?_
                                                    refine r_iload C (dx dX7_copy 98 rfl) rfl ?_
                                                    refine rn_isub (a := ν2) (b := ν) C (by omega) (dx dX7_copy 99 rfl) ?_
                                                    refine rn_le (a := ξ) (b := ν2 - ν) (tgt := 188) C (by omega) (by omega) (dx dX7_copy 100 rfl) (by decide) (fun c267 => ?_) (fun c267 => ?_)
                                                    · first
                                                      | (omega; done)
                                                      | (
                                                          have c267 : ξ ≤ ν2 - ν := c267
                                                          refine r_iconst (v := nI 0) C (dx dX7_copy 105 rfl) rfl ?_
                                                          refine r_istore (ls' := [(0, vr 7 k), (1, vi (nI π)), (2, vi (nI θ)), (3, vi (nI ι)), (4, vi (nI ξ)), (5, vi (nI ν)), (6, vi (nI 0))]) C (dx dX7_copy 106 rfl) (by decide) [1, 2, 3, 4, 5, 6, 0] rfl ?_
                                                          refine loopU (Φ := fun p => ∀ h9, (∀ t, t < p → xL h9 (k + 13) t = gE g π (ι + t)) → Fr (k + 13) (k + 14) h h9 → xK h9 = xK h → Rr G 191 [(0, vr 7 k), (1, vi (nI π)), (2, vi (nI θ)), (3, vi (nI ι)), (4, vi (nI ξ)), (5, vi (nI ν)), (6, vi (nI p))] [] h9) (N := ν) ?_ ?_ 0 (by omega) _ (fun i hi => absurd hi (by omega)) Fr.rf rfl
                                                          ·
                                                            intro h9 q9 f9 k9
                                                            refine r_iload C (dx dX7_copy 107 rfl) rfl ?_
                                                            refine r_iload C (dx dX7_copy 108 rfl) rfl ?_
                                                            refine rn_ge (a := ν) (b := ν) (tgt := 222) C (by omega) (by omega) (dx dX7_copy 109 rfl) (by decide) (fun c268 => ?_) (fun c268 => ?_)
                                                            · first
                                                              | (omega; done)
                                                              | (
                                                                  have c268 : ν ≤ ν := c268
                                                                  refine r_iconst (v := nI 0) C (dx dX7_copy 124 rfl) rfl ?_
                                                                  refine r_istore (ls' := [(0, vr 7 k), (1, vi (nI π)), (2, vi (nI θ)), (3, vi (nI ι)), (4, vi (nI ξ)), (5, vi (nI ν)), (6, vi (nI 0))]) C (dx dX7_copy 125 rfl) (by decide) [1, 2, 3, 4, 5, 6, 0] rfl ?_
                                                                  have r9 := MsR.fr (show MsR h k g θ from ⟨_, _, a12, a22, a32, a42, a52, a62, a72, a82⟩) hθ f9
                                                                  refine loopU (Φ := fun p => ∀ h8, (∀ i, i < 40 → xL h8 (k + 5 + θ) i = if ξ ≤ i ∧ i < ξ + p then gE g π (ι + (i - ξ)) else gE g θ i) → (∀ t, t < ν → xL h8 (k + 13) t = gE g π (ι + t)) → Fr (k + 5 + θ) (k + 5 + θ + 1) h9 h8 → xK h8 = xK h → Rr G 225 [(0, vr 7 k), (1, vi (nI π)), (2, vi (nI θ)), (3, vi (nI ι)), (4, vi (nI ξ)), (5, vi (nI ν)), (6, vi (nI p))] [] h8) (N := ν) ?_ ?_ 0 (by omega) _ (fun i hi => by rw [if_neg (by omega), f9.L (by omega)]; exact a82 i hi) q9 Fr.rf k9
                                                                  ·
                                                                    intro h8 q8 u8 f8 k8
                                                                    have s9 : MshAt h8 k (pCp g π θ ι ξ ν) := msh_els (hs.mv f9) hθ r9 f8 (fun i hi => by rw [q8 i hi]; rfl)
                                                                    have g9 : Fr (k + 1) (k + 17) h h8 := (f9.mono (by omega) (by omega)).tr (f8.mono (by omega) (by omega))
                                                                    refine r_iload C (dx dX7_copy 126 rfl) rfl ?_
                                                                    refine r_iload C (dx dX7_copy 127 rfl) rfl ?_
                                                                    refine rn_ge (a := ν) (b := ν) (tgt := 257) C (by omega) (by omega) (dx dX7_copy 128 rfl) (by decide) (fun c269 => ?_) (fun c269 => ?_)
                                                                    · first
                                                                      | (omega; done)
                                                                      | (
                                                                          have c269 : ν ≤ ν := c269
                                                                          refine r_iload C (dx dX7_copy 143 rfl) rfl ?_
                                                                          have eA : copA g (nI π) (nI θ) (nI ι) (nI ξ) (nI ν) = nI ν := by simp [copA, copG, copF, c1, c3, c202, c204, c206, c229, c252, c255, c257, c259, c261, c263, c265, c267, c268, c269, e01, e11, e21, e31, e41, e51, e61, e71, e02, e12, e22, e32, e42, e52, e62, clN (show π < 2 ^ 31 by omega), clN (show θ < 2 ^ 31 by omega), clN (show ν < 2 ^ 31 by omega), clN (show ι < 2 ^ 31 by omega), clN (show ξ < 2 ^ 31 by omega), inR_nI (show π < 2 ^ 31 by omega), inR_nI (show θ < 2 ^ 31 by omega), inR_nI (show ν < 2 ^ 31 by omega), inR_nI (show ι < 2 ^ 31 by omega), inR_nI (show ξ < 2 ^ 31 by omega), show π < 8 by omega, show θ < 8 by omega, cp_row e31 e32 (by omega) (by omega) (show ι < 2 ^ 31 by omega) (show ξ < 2 ^ 31 by omega) (show ν < 2 ^ 31 by omega), show ι + ν ≤ ν1 by omega, show ξ + ν ≤ ν2 by omega]
                                                                          have eG : copG g (nI π) (nI θ) (nI ι) (nI ξ) (nI ν) = pCp g π θ ι ξ ν := by simp [copA, copG, copF, c1, c3, c202, c204, c206, c229, c252, c255, c257, c259, c261, c263, c265, c267, c268, c269, e01, e11, e21, e31, e41, e51, e61, e71, e02, e12, e22, e32, e42, e52, e62, clN (show π < 2 ^ 31 by omega), clN (show θ < 2 ^ 31 by omega), clN (show ν < 2 ^ 31 by omega), clN (show ι < 2 ^ 31 by omega), clN (show ξ < 2 ^ 31 by omega), inR_nI (show π < 2 ^ 31 by omega), inR_nI (show θ < 2 ^ 31 by omega), inR_nI (show ν < 2 ^ 31 by omega), inR_nI (show ι < 2 ^ 31 by omega), inR_nI (show ξ < 2 ^ 31 by omega), show π < 8 by omega, show θ < 8 by omega, cp_row e31 e32 (by omega) (by omega) (show ι < 2 ^ 31 by omega) (show ξ < 2 ^ 31 by omega) (show ν < 2 ^ 31 by omega), show ι + ν ≤ ν1 by omega, show ξ + ν ≤ ν2 by omega]
                                                                          exact F.1 _ _ _ _ _ rfl rfl (dx dX7_copy 144 rfl) k8 (show some (vi (nI ν)) = some (vi (copA g (nI π) (nI θ) (nI ι) (nI ξ) (nI ν))) ∧ (∃ v', MilAt h8 k v') ∧ MshAt h8 k (copG g (nI π) (nI θ) (nI ι) (nI ξ) (nI ν)) ∧ Ks k h h8 from by rw [eA, eG]; exact ⟨rfl, ⟨_, hm.fr g9 (by omega)⟩, s9, (Ks.fr g9 (by omega) (by omega))⟩))
                                                                    · first
                                                                      | (omega; done)
                                                                  ·
                                                                    intro p hp ih h8 q8 u8 f8 k8
                                                                    refine r_iload C (dx dX7_copy 126 rfl) rfl ?_
                                                                    refine r_iload C (dx dX7_copy 127 rfl) rfl ?_
                                                                    refine rn_ge (a := p) (b := ν) (tgt := 257) C (by omega) (by omega) (dx dX7_copy 128 rfl) (by decide) (fun c270 => ?_) (fun c270 => ?_)
                                                                    · first
                                                                      | (omega; done)
                                                                      | (
                                                                          have c270 : ν ≤ p := c270
                                                                          refine r_iload C (dx dX7_copy 143 rfl) rfl ?_
                                                                          have eA : copA g (nI π) (nI θ) (nI ι) (nI ξ) (nI ν) = nI ν := by simp [copA, copG, copF, c1, c3, c202, c204, c206, c229, c252, c255, c257, c259, c261, c263, c265, c267, c268, c270, e01, e11, e21, e31, e41, e51, e61, e71, e02, e12, e22, e32, e42, e52, e62, clN (show π < 2 ^ 31 by omega), clN (show θ < 2 ^ 31 by omega), clN (show ν < 2 ^ 31 by omega), clN (show ι < 2 ^ 31 by omega), clN (show ξ < 2 ^ 31 by omega), inR_nI (show π < 2 ^ 31 by omega), inR_nI (show θ < 2 ^ 31 by omega), inR_nI (show ν < 2 ^ 31 by omega), inR_nI (show ι < 2 ^ 31 by omega), inR_nI (show ξ < 2 ^ 31 by omega), show π < 8 by omega, show θ < 8 by omega, cp_row e31 e32 (by omega) (by omega) (show ι < 2 ^ 31 by omega) (show ξ < 2 ^ 31 by omega) (show ν < 2 ^ 31 by omega), show ι + ν ≤ ν1 by omega, show ξ + ν ≤ ν2 by omega]
                                                                          have eG : copG g (nI π) (nI θ) (nI ι) (nI ξ) (nI ν) = g := by simp [copA, copG, copF, c1, c3, c202, c204, c206, c229, c252, c255, c257, c259, c261, c263, c265, c267, c268, c270, e01, e11, e21, e31, e41, e51, e61, e71, e02, e12, e22, e32, e42, e52, e62, clN (show π < 2 ^ 31 by omega), clN (show θ < 2 ^ 31 by omega), clN (show ν < 2 ^ 31 by omega), clN (show ι < 2 ^ 31 by omega), clN (show ξ < 2 ^ 31 by omega), inR_nI (show π < 2 ^ 31 by omega), inR_nI (show θ < 2 ^ 31 by omega), inR_nI (show ν < 2 ^ 31 by omega), inR_nI (show ι < 2 ^ 31 by omega), inR_nI (show ξ < 2 ^ 31 by omega), show π < 8 by omega, show θ < 8 by omega, cp_row e31 e32 (by omega) (by omega) (show ι < 2 ^ 31 by omega) (show ξ < 2 ^ 31 by omega) (show ν < 2 ^ 31 by omega), show ι + ν ≤ ν1 by omega, show ξ + ν ≤ ν2 by omega]
                                                                          exact F.1 _ _ _ _ _ rfl rfl (dx dX7_copy 144 rfl) k8 (show some (vi (nI ν)) = some (vi (copA g (nI π) (nI θ) (nI ι) (nI ξ) (nI ν))) ∧ (∃ v', MilAt h8 k v') ∧ MshAt h8 k (copG g (nI π) (nI θ) (nI ι) (nI ξ) (nI ν)) ∧ Ks k h h8 from by rw [eA, eG]; exact ⟨rfl, ⟨_, hm⟩, hs, Ks.rf⟩))
                                                                    · first
                                                                      | (omega; done)
                                                                      | (
                                                                          have c270 : p < ν := c270
                                                                          refine r_aload_n C (dx dX7_copy 129 rfl) rfl ?_
                                                                          refine g_X7_21 C (dx dX7_copy 130 rfl) ?_
                                                                          refine r_iload_n C (dx dX7_copy 131 rfl) rfl ?_
                                                                          refine r_aald5 (j := θ) C rfl rfl (by decide) rfl (by omega) (dx dX7_copy 132 rfl) ?_
                                                                          refine r_iload C (dx dX7_copy 133 rfl) rfl ?_
                                                                          refine r_iload C (dx dX7_copy 134 rfl) rfl ?_
                                                                          refine rn_iadd (a := ξ) (b := p) C (dx dX7_copy 135 rfl) ?_
                                                                          refine r_aload_n C (dx dX7_copy 136 rfl) rfl ?_
                                                                          refine g_X7_24 C (dx dX7_copy 137 rfl) ?_
                                                                          refine r_iload C (dx dX7_copy 138 rfl) rfl ?_
                                                                          refine r_lald (j := p) (x := gE g π (ι + p)) C rfl rfl (by decide) rfl (by omega) (dx dX7_copy 139 rfl) (u8 _ (by omega)) ?_
                                                                          refine r_last (j := ξ + p) C rfl rfl (by decide) rfl (by omega) (dx dX7_copy 140 rfl) ?_
                                                                          refine rn_iinc (a := p) (k := 1) (ls' := [(0, vr 7 k), (1, vi (nI π)), (2, vi (nI θ)), (3, vi (nI ι)), (4, vi (nI ξ)), (5, vi (nI ν)), (6, vi (nI (p + 1)))]) C (dx dX7_copy 141 rfl) rfl rfl (by decide) [1, 2, 3, 4, 5, 6, 0] rfl ?_
                                                                          refine r_goto (tgt := 225) C (dx dX7_copy 142 rfl) (by decide) ?_
                                                                          exact ih _ (fun i hi => by rw [sL_at]; exact cp2_step q8 i hi) (fun t ht => by rw [sL_ne (by omega)]; exact u8 t ht) (f8.tr (Fr.sL (by omega) (by omega))) k8))
                                                            · first
                                                              | (omega; done)
                                                          ·
                                                            intro p hp ih h9 q9 f9 k9
                                                            refine r_iload C (dx dX7_copy 107 rfl) rfl ?_
                                                            refine r_iload C (dx dX7_copy 108 rfl) rfl ?_
                                                            refine rn_ge (a := p) (b := ν) (tgt := 222) C (by omega) (by omega) (dx dX7_copy 109 rfl) (by decide) (fun c271 => ?_) (fun c271 => ?_)
                                                            · first
                                                              | (omega; done)
                                                              | (
                                                                  have c271 : ν ≤ p := c271
                                                                  refine r_iconst (v := nI 0) C (dx dX7_copy 124 rfl) rfl ?_
                                                                  refine r_istore (ls' := [(0, vr 7 k), (1, vi (nI π)), (2, vi (nI θ)), (3, vi (nI ι)), (4, vi (nI ξ)), (5, vi (nI ν)), (6, vi (nI 0))]) C (dx dX7_copy 125 rfl) (by decide) [1, 2, 3, 4, 5, 6, 0] rfl ?_
                                                                  have r9 := MsR.fr (show MsR h k g θ from ⟨_, _, a12, a22, a32, a42, a52, a62, a72, a82⟩) hθ f9
                                                                  refine loopU (Φ := fun p => ∀ h8, (∀ i, i < 40 → xL h8 (k + 5 + θ) i = if ξ ≤ i ∧ i < ξ + p then gE g π (ι + (i - ξ)) else gE g θ i) → (∀ t, t < ν → xL h8 (k + 13) t = gE g π (ι + t)) → Fr (k + 5 + θ) (k + 5 + θ + 1) h9 h8 → xK h8 = xK h → Rr G 225 [(0, vr 7 k), (1, vi (nI π)), (2, vi (nI θ)), (3, vi (nI ι)), (4, vi (nI ξ)), (5, vi (nI ν)), (6, vi (nI p))] [] h8) (N := ν) ?_ ?_ 0 (by omega) _ (fun i hi => by rw [if_neg (by omega), f9.L (by omega)]; exact a82 i hi) q9 Fr.rf k9
                                                                  ·
                                                                    intro h8 q8 u8 f8 k8
                                                                    have s9 : MshAt h8 k (pCp g π θ ι ξ ν) := msh_els (hs.mv f9) hθ r9 f8 (fun i hi => by rw [q8 i hi]; rfl)
                                                                    have g9 : Fr (k + 1) (k + 17) h h8 := (f9.mono (by omega) (by omega)).tr (f8.mono (by omega) (by omega))
                                                                    refine r_iload C (dx dX7_copy 126 rfl) rfl ?_
                                                                    refine r_iload C (dx dX7_copy 127 rfl) rfl ?_
                                                                    refine rn_ge (a := ν) (b := ν) (tgt := 257) C (by omega) (by omega) (dx dX7_copy 128 rfl) (by decide) (fun c272 => ?_) (fun c272 => ?_)
                                                                    · first
                                                                      | (omega; done)
                                                                      | (
                                                                          have c272 : ν ≤ ν := c272
                                                                          refine r_iload C (dx dX7_copy 143 rfl) rfl ?_
                                                                          have eA : copA g (nI π) (nI θ) (nI ι) (nI ξ) (nI ν) = nI ν := by simp [copA, copG, copF, c1, c3, c202, c204, c206, c229, c252, c255, c257, c259, c261, c263, c265, c267, c271, c272, e01, e11, e21, e31, e41, e51, e61, e71, e02, e12, e22, e32, e42, e52, e62, clN (show π < 2 ^ 31 by omega), clN (show θ < 2 ^ 31 by omega), clN (show ν < 2 ^ 31 by omega), clN (show ι < 2 ^ 31 by omega), clN (show ξ < 2 ^ 31 by omega), inR_nI (show π < 2 ^ 31 by omega), inR_nI (show θ < 2 ^ 31 by omega), inR_nI (show ν < 2 ^ 31 by omega), inR_nI (show ι < 2 ^ 31 by omega), inR_nI (show ξ < 2 ^ 31 by omega), show π < 8 by omega, show θ < 8 by omega, cp_row e31 e32 (by omega) (by omega) (show ι < 2 ^ 31 by omega) (show ξ < 2 ^ 31 by omega) (show ν < 2 ^ 31 by omega), show ι + ν ≤ ν1 by omega, show ξ + ν ≤ ν2 by omega]
                                                                          have eG : copG g (nI π) (nI θ) (nI ι) (nI ξ) (nI ν) = pCp g π θ ι ξ ν := by simp [copA, copG, copF, c1, c3, c202, c204, c206, c229, c252, c255, c257, c259, c261, c263, c265, c267, c271, c272, e01, e11, e21, e31, e41, e51, e61, e71, e02, e12, e22, e32, e42, e52, e62, clN (show π < 2 ^ 31 by omega), clN (show θ < 2 ^ 31 by omega), clN (show ν < 2 ^ 31 by omega), clN (show ι < 2 ^ 31 by omega), clN (show ξ < 2 ^ 31 by omega), inR_nI (show π < 2 ^ 31 by omega), inR_nI (show θ < 2 ^ 31 by omega), inR_nI (show ν < 2 ^ 31 by omega), inR_nI (show ι < 2 ^ 31 by omega), inR_nI (show ξ < 2 ^ 31 by omega), show π < 8 by omega, show θ < 8 by omega, cp_row e31 e32 (by omega) (by omega) (show ι < 2 ^ 31 by omega) (show ξ < 2 ^ 31 by omega) (show ν < 2 ^ 31 by omega), show ι + ν ≤ ν1 by omega, show ξ + ν ≤ ν2 by omega]
                                                                          exact F.1 _ _ _ _ _ rfl rfl (dx dX7_copy 144 rfl) k8 (show some (vi (nI ν)) = some (vi (copA g (nI π) (nI θ) (nI ι) (nI ξ) (nI ν))) ∧ (∃ v', MilAt h8 k v') ∧ MshAt h8 k (copG g (nI π) (nI θ) (nI ι) (nI ξ) (nI ν)) ∧ Ks k h h8 from by rw [eA, eG]; exact ⟨rfl, ⟨_, hm.fr g9 (by omega)⟩, s9, (Ks.fr g9 (by omega) (by omega))⟩))
                                                                    · first
                                                                      | (omega; done)
                                                                  ·
                                                                    intro p hp ih h8 q8 u8 f8 k8
                                                                    refine r_iload C (dx dX7_copy 126 rfl) rfl ?_
                                                                    refine r_iload C (dx dX7_copy 127 rfl) rfl ?_
                                                                    refine rn_ge (a := p) (b := ν) (tgt := 257) C (by omega) (by omega) (dx dX7_copy 128 rfl) (by decide) (fun c273 => ?_) (fun c273 => ?_)
                                                                    · first
                                                                      | (omega; done)
                                                                      | (
                                                                          have c273 : ν ≤ p := c273
                                                                          refine r_iload C (dx dX7_copy 143 rfl) rfl ?_
                                                                          have eA : copA g (nI π) (nI θ) (nI ι) (nI ξ) (nI ν) = nI ν := by simp [copA, copG, copF, c1, c3, c202, c204, c206, c229, c252, c255, c257, c259, c261, c263, c265, c267, c271, c273, e01, e11, e21, e31, e41, e51, e61, e71, e02, e12, e22, e32, e42, e52, e62, clN (show π < 2 ^ 31 by omega), clN (show θ < 2 ^ 31 by omega), clN (show ν < 2 ^ 31 by omega), clN (show ι < 2 ^ 31 by omega), clN (show ξ < 2 ^ 31 by omega), inR_nI (show π < 2 ^ 31 by omega), inR_nI (show θ < 2 ^ 31 by omega), inR_nI (show ν < 2 ^ 31 by omega), inR_nI (show ι < 2 ^ 31 by omega), inR_nI (show ξ < 2 ^ 31 by omega), show π < 8 by omega, show θ < 8 by omega, cp_row e31 e32 (by omega) (by omega) (show ι < 2 ^ 31 by omega) (show ξ < 2 ^ 31 by omega) (show ν < 2 ^ 31 by omega), show ι + ν ≤ ν1 by omega, show ξ + ν ≤ ν2 by omega]
                                                                          have eG : copG g (nI π) (nI θ) (nI ι) (nI ξ) (nI ν) = g := by simp [copA, copG, copF, c1, c3, c202, c204, c206, c229, c252, c255, c257, c259, c261, c263, c265, c267, c271, c273, e01, e11, e21, e31, e41, e51, e61, e71, e02, e12, e22, e32, e42, e52, e62, clN (show π < 2 ^ 31 by omega), clN (show θ < 2 ^ 31 by omega), clN (show ν < 2 ^ 31 by omega), clN (show ι < 2 ^ 31 by omega), clN (show ξ < 2 ^ 31 by omega), inR_nI (show π < 2 ^ 31 by omega), inR_nI (show θ < 2 ^ 31 by omega), inR_nI (show ν < 2 ^ 31 by omega), inR_nI (show ι < 2 ^ 31 by omega), inR_nI (show ξ < 2 ^ 31 by omega), show π < 8 by omega, show θ < 8 by omega, cp_row e31 e32 (by omega) (by omega) (show ι < 2 ^ 31 by omega) (show ξ < 2 ^ 31 by omega) (show ν < 2 ^ 31 by omega), show ι + ν ≤ ν1 by omega, show ξ + ν ≤ ν2 by omega]
                                                                          exact F.1 _ _ _ _ _ rfl rfl (dx dX7_copy 144 rfl) k8 (show some (vi (nI ν)) = some (vi (copA g (nI π) (nI θ) (nI ι) (nI ξ) (nI ν))) ∧ (∃ v', MilAt h8 k v') ∧ MshAt h8 k (copG g (nI π) (nI θ) (nI ι) (nI ξ) (nI ν)) ∧ Ks k h h8 from by rw [eA, eG]; exact ⟨rfl, ⟨_, hm⟩, hs, Ks.rf⟩))
                                                                    · first
                                                                      | (omega; done)
                                                                      | (
                                                                          have c273 : p < ν := c273
                                                                          refine r_aload_n C (dx dX7_copy 129 rfl) rfl ?_
                                                                          refine g_X7_21 C (dx dX7_copy 130 rfl) ?_
                                                                          refine r_iload_n C (dx dX7_copy 131 rfl) rfl ?_
                                                                          refine r_aald5 (j := θ) C rfl rfl (by decide) rfl (by omega) (dx dX7_copy 132 rfl) ?_
                                                                          refine r_iload C (dx dX7_copy 133 rfl) rfl ?_
                                                                          refine r_iload C (dx dX7_copy 134 rfl) rfl ?_
                                                                          refine rn_iadd (a := ξ) (b := p) C (dx dX7_copy 135 rfl) ?_
                                                                          refine r_aload_n C (dx dX7_copy 136 rfl) rfl ?_
                                                                          refine g_X7_24 C (dx dX7_copy 137 rfl) ?_
                                                                          refine r_iload C (dx dX7_copy 138 rfl) rfl ?_
                                                                          refine r_lald (j := p) (x := gE g π (ι + p)) C rfl rfl (by decide) rfl (by omega) (dx dX7_copy 139 rfl) (u8 _ (by omega)) ?_
                                                                          refine r_last (j := ξ + p) C rfl rfl (by decide) rfl (by omega) (dx dX7_copy 140 rfl) ?_
                                                                          refine rn_iinc (a := p) (k := 1) (ls' := [(0, vr 7 k), (1, vi (nI π)), (2, vi (nI θ)), (3, vi (nI ι)), (4, vi (nI ξ)), (5, vi (nI ν)), (6, vi (nI (p + 1)))]) C (dx dX7_copy 141 rfl) rfl rfl (by decide) [1, 2, 3, 4, 5, 6, 0] rfl ?_
                                                                          refine r_goto (tgt := 225) C (dx dX7_copy 142 rfl) (by decide) ?_
                                                                          exact ih _ (fun i hi => by rw [sL_at]; exact cp2_step q8 i hi) (fun t ht => by rw [sL_ne (by omega)]; exact u8 t ht) (f8.tr (Fr.sL (by omega) (by omega))) k8))
                                                            · first
                                                              | (omega; done)
                                                              | (
                                                                  have c271 : p < ν := c271
                                                                  refine r_aload_n C (dx dX7_copy 110 rfl) rfl ?_
                                                                  refine g_X7_24 C (dx dX7_copy 111 rfl) ?_
                                                                  refine r_iload C (dx dX7_copy 112 rfl) rfl ?_
                                                                  refine r_aload_n C (dx dX7_copy 113 rfl) rfl ?_
                                                                  refine g_X7_21 C (dx dX7_copy 114 rfl) ?_
                                                                  refine r_iload_n C (dx dX7_copy 115 rfl) rfl ?_
                                                                  refine r_aald5 (j := π) C rfl rfl (by decide) rfl (by omega) (dx dX7_copy 116 rfl) ?_
                                                                  refine r_iload_n C (dx dX7_copy 117 rfl) rfl ?_
                                                                  refine r_iload C (dx dX7_copy 118 rfl) rfl ?_
                                                                  refine rn_iadd (a := ι) (b := p) C (dx dX7_copy 119 rfl) ?_
                                                                  refine r_lald (j := ι + p) (x := gE g π (ι + p)) C rfl rfl (by decide) rfl (by omega) (dx dX7_copy 120 rfl) ((f9.L (by omega) _).trans (a81 _ (by omega))) ?_
                                                                  refine r_last (j := p) C rfl rfl (by decide) rfl (by omega) (dx dX7_copy 121 rfl) ?_
                                                                  refine rn_iinc (a := p) (k := 1) (ls' := [(0, vr 7 k), (1, vi (nI π)), (2, vi (nI θ)), (3, vi (nI ι)), (4, vi (nI ξ)), (5, vi (nI ν)), (6, vi (nI (p + 1)))]) C (dx dX7_copy 122 rfl) rfl rfl (by decide) [1, 2, 3, 4, 5, 6, 0] rfl ?_
                                                                  refine r_goto (tgt := 191) C (dx dX7_copy 123 rfl) (by decide) ?_
                                                                  exact ih _ (fun t ht => by rw [sL_at]; split; (next e => rw [e]); exact q9 t (by omega)) (f9.tr (Fr.sL (by omega) (by omega))) k9))
                                                    · first
                                                      | (omega; done)
                                                      | (
                                                          have c267 : ν2 - ν < ξ := c267
                                                          refine r_aload_n C (dx dX7_copy 101 rfl) rfl ?_
                                                          refine r_bipush (v := -2) C (dx dX7_copy 102 rfl) rfl ?_
                                                          refine r_cv (as := [vi (-2)]) (st := []) C X I_X7_refuse l_X7_83 (c_X7_refuse hm (x := -2) (j := 2) (by decide) (by decide)) (by decide) (Nat.le_of_ble_eq_true rfl) List.prefix_rfl List.prefix_rfl rfl rfl (Nat.le_of_ble_eq_true rfl) rfl (dx dX7_copy 103 rfl) ?_
                                                          rintro _ h274 ⟨rfl, ⟨wh274, m9h274, s9h274⟩, qh274⟩ kkh274
                                                          obtain ⟨vh274, mh274, zh274⟩ : ∃ v9, MilAt h274 k v9 ∧ Sz v v9 := ⟨_, m9h274, s9h274⟩
                                                          have ph274 : Kp k h h274 := qh274
                                                          have kh274 : xK h274 = xK h := kkh274
                                                          obtain ⟨ah274, bh274, ch274⟩ := zh274
                                                          have eA : copA g (nI π) (nI θ) (nI ι) (nI ξ) (nI ν) = -2 := by (have hq : ¬ (ι + ν ≤ ν1 ∧ ξ + ν ≤ ν2) := by omega); (have hq2 := cp_row e31 e32 (i := ι) (j := ξ) (n := ν) (by omega) (by omega) (by omega) (by omega) (by omega)); rw [decide_eq_false hq] at hq2; simp [copA, copG, copF, c1, c3, c202, c204, c206, c229, c252, c255, c257, c259, c261, c263, c265, c267, e01, e11, e21, e31, e41, e51, e61, e71, e02, e12, e22, e32, e42, e52, e62, clN (show π < 2 ^ 31 by omega), clN (show θ < 2 ^ 31 by omega), clN (show ν < 2 ^ 31 by omega), clN (show ι < 2 ^ 31 by omega), clN (show ξ < 2 ^ 31 by omega), inR_nI (show π < 2 ^ 31 by omega), inR_nI (show θ < 2 ^ 31 by omega), inR_nI (show ν < 2 ^ 31 by omega), inR_nI (show ι < 2 ^ 31 by omega), inR_nI (show ξ < 2 ^ 31 by omega), hq2, show π < 8 by omega, show θ < 8 by omega]
                                                          have eG : copG g (nI π) (nI θ) (nI ι) (nI ξ) (nI ν) = g := by (have hq : ¬ (ι + ν ≤ ν1 ∧ ξ + ν ≤ ν2) := by omega); (have hq2 := cp_row e31 e32 (i := ι) (j := ξ) (n := ν) (by omega) (by omega) (by omega) (by omega) (by omega)); rw [decide_eq_false hq] at hq2; simp [copA, copG, copF, c1, c3, c202, c204, c206, c229, c252, c255, c257, c259, c261, c263, c265, c267, e01, e11, e21, e31, e41, e51, e61, e71, e02, e12, e22, e32, e42, e52, e62, clN (show π < 2 ^ 31 by omega), clN (show θ < 2 ^ 31 by omega), clN (show ν < 2 ^ 31 by omega), clN (show ι < 2 ^ 31 by omega), clN (show ξ < 2 ^ 31 by omega), inR_nI (show π < 2 ^ 31 by omega), inR_nI (show θ < 2 ^ 31 by omega), inR_nI (show ν < 2 ^ 31 by omega), inR_nI (show ι < 2 ^ 31 by omega), inR_nI (show ξ < 2 ^ 31 by omega), hq2, show π < 8 by omega, show θ < 8 by omega]
                                                          exact F.1 _ _ _ _ _ rfl rfl (dx dX7_copy 104 rfl) kh274 (show some (vi (-2)) = some (vi (copA g (nI π) (nI θ) (nI ι) (nI ξ) (nI ν))) ∧ (∃ v', MilAt h274 k v') ∧ MshAt h274 k (copG g (nI π) (nI θ) (nI ι) (nI ξ) (nI ν)) ∧ Ks k h h274 from by rw [eA, eG]; exact ⟨rfl, ⟨_, mh274⟩, hs.kp ph274, ph274.ks⟩)))
                                  ·
                                    have c252 : ¬ xI h (k + 2) π = nI τ2 := c252
                                    refine r_aload_n C (dx dX7_copy 49 rfl) rfl ?_
                                    refine r_bipush (v := -3) C (dx dX7_copy 50 rfl) rfl ?_
                                    refine r_cv (as := [vi (-3)]) (st := []) C X I_X7_refuse l_X7_83 (c_X7_refuse hm (x := -3) (j := 3) (by decide) (by decide)) (by decide) (Nat.le_of_ble_eq_true rfl) List.prefix_rfl List.prefix_rfl rfl rfl (Nat.le_of_ble_eq_true rfl) rfl (dx dX7_copy 51 rfl) ?_
                                    rintro _ h275 ⟨rfl, ⟨wh275, m9h275, s9h275⟩, qh275⟩ kkh275
                                    obtain ⟨vh275, mh275, zh275⟩ : ∃ v9, MilAt h275 k v9 ∧ Sz v v9 := ⟨_, m9h275, s9h275⟩
                                    have ph275 : Kp k h h275 := qh275
                                    have kh275 : xK h275 = xK h := kkh275
                                    obtain ⟨ah275, bh275, ch275⟩ := zh275
                                    have eA : copA g (nI π) (nI θ) i j n = -3 := by simp [copA, copG, copF, cpOk, c1, c3, c202, c204, c206, c229, c252, e01, e11, e21, e31, e41, e51, e61, e71, e02, e12, e22, e32, e42, e52, e62, clN (show π < 2 ^ 31 by omega), clN (show θ < 2 ^ 31 by omega), inR_nI (show π < 2 ^ 31 by omega), inR_nI (show θ < 2 ^ 31 by omega), show π < 8 by omega, show θ < 8 by omega]
                                    have eG : copG g (nI π) (nI θ) i j n = g := by simp [copA, copG, copF, cpOk, c1, c3, c202, c204, c206, c229, c252, e01, e11, e21, e31, e41, e51, e61, e71, e02, e12, e22, e32, e42, e52, e62, clN (show π < 2 ^ 31 by omega), clN (show θ < 2 ^ 31 by omega), inR_nI (show π < 2 ^ 31 by omega), inR_nI (show θ < 2 ^ 31 by omega), show π < 8 by omega, show θ < 8 by omega]
                                    exact F.1 _ _ _ _ _ rfl rfl (dx dX7_copy 52 rfl) kh275 (show some (vi (-3)) = some (vi (copA g (nI π) (nI θ) i j n)) ∧ (∃ v', MilAt h275 k v') ∧ MshAt h275 k (copG g (nI π) (nI θ) i j n) ∧ Ks k h h275 from by rw [eA, eG]; exact ⟨rfl, ⟨_, mh275⟩, hs.kp ph275, ph275.ks⟩)))))
        ·
          obtain ⟨e02, e12, e22, e32, e42, e52, e62, e72⟩ := sh_hold hθ a22 a72 a82
          refine r_aload_n C (dx dX7_copy 16 rfl) rfl ?_
          refine g_X7_7 C (dx dX7_copy 17 rfl) ?_
          refine r_iload_n C (dx dX7_copy 18 rfl) rfl ?_
          refine r_iald (j := π) (x := nI 2) C rfl rfl (by decide) rfl (by omega) (dx dX7_copy 19 rfl) a41 ?_
          refine r_iconst (v := nI 2) C (dx dX7_copy 20 rfl) rfl ?_
          refine rn_eq (a := 2) (b := 2) (tgt := 86) C (by omega) (by omega) (dx dX7_copy 21 rfl) (by decide) (fun c276 => ?_) (fun c276 => ?_)
          · first
            | (omega; done)
            | (
                have c276 : 2 = 2 := c276
                refine r_aload_n C (dx dX7_copy 49 rfl) rfl ?_
                refine r_bipush (v := -3) C (dx dX7_copy 50 rfl) rfl ?_
                refine r_cv (as := [vi (-3)]) (st := []) C X I_X7_refuse l_X7_83 (c_X7_refuse hm (x := -3) (j := 3) (by decide) (by decide)) (by decide) (Nat.le_of_ble_eq_true rfl) List.prefix_rfl List.prefix_rfl rfl rfl (Nat.le_of_ble_eq_true rfl) rfl (dx dX7_copy 51 rfl) ?_
                rintro _ h277 ⟨rfl, ⟨wh277, m9h277, s9h277⟩, qh277⟩ kkh277
                obtain ⟨vh277, mh277, zh277⟩ : ∃ v9, MilAt h277 k v9 ∧ Sz v v9 := ⟨_, m9h277, s9h277⟩
                have ph277 : Kp k h h277 := qh277
                have kh277 : xK h277 = xK h := kkh277
                obtain ⟨ah277, bh277, ch277⟩ := zh277
                have eA : copA g (nI π) (nI θ) i j n = -3 := by simp [copA, copG, copF, cpOk, c1, c3, c276, e01, e11, e21, e31, e41, e51, e61, e71, e02, e12, e22, e32, e42, e52, e62, e72, clN (show π < 2 ^ 31 by omega), clN (show θ < 2 ^ 31 by omega), inR_nI (show π < 2 ^ 31 by omega), inR_nI (show θ < 2 ^ 31 by omega), show π < 8 by omega, show θ < 8 by omega]
                have eG : copG g (nI π) (nI θ) i j n = g := by simp [copA, copG, copF, cpOk, c1, c3, c276, e01, e11, e21, e31, e41, e51, e61, e71, e02, e12, e22, e32, e42, e52, e62, e72, clN (show π < 2 ^ 31 by omega), clN (show θ < 2 ^ 31 by omega), inR_nI (show π < 2 ^ 31 by omega), inR_nI (show θ < 2 ^ 31 by omega), show π < 8 by omega, show θ < 8 by omega]
                exact F.1 _ _ _ _ _ rfl rfl (dx dX7_copy 52 rfl) kh277 (show some (vi (-3)) = some (vi (copA g (nI π) (nI θ) i j n)) ∧ (∃ v', MilAt h277 k v') ∧ MshAt h277 k (copG g (nI π) (nI θ) i j n) ∧ Ks k h h277 from by rw [eA, eG]; exact ⟨rfl, ⟨_, mh277⟩, hs.kp ph277, ph277.ks⟩))
          · first
            | (omega; done)
            | (
                have c276 : ¬ 2 = 2 := c276
                refine r_aload_n C (dx dX7_copy 22 rfl) rfl ?_
                refine g_X7_7 C (dx dX7_copy 23 rfl) ?_
                refine r_iload_n C (dx dX7_copy 24 rfl) rfl ?_
                refine r_iald (j := θ) (x := nI 2) C rfl rfl (by decide) rfl (by omega) (dx dX7_copy 25 rfl) a42 ?_
                refine r_iconst (v := nI 2) C (dx dX7_copy 26 rfl) rfl ?_
                refine rn_eq (a := 2) (b := 2) (tgt := 86) C (by omega) (by omega) (dx dX7_copy 27 rfl) (by decide) (fun c278 => ?_) (fun c278 => ?_)
                ·
                  have c278 : 2 = 2 := c278
                  exact absurd c278 c276
                · first
                  | (omega; done)
                  | (
                      have c278 : ¬ 2 = 2 := c278
                      refine r_aload_n C (dx dX7_copy 28 rfl) rfl ?_
                      refine g_X7_7 C (dx dX7_copy 29 rfl) ?_
                      refine r_iload_n C (dx dX7_copy 30 rfl) rfl ?_
                      refine r_iald (j := π) (x := nI 2) C rfl rfl (by decide) rfl (by omega) (dx dX7_copy 31 rfl) a41 ?_
                      refine r_iconst (v := nI 1) C (dx dX7_copy 32 rfl) rfl ?_
                      refine rn_ne (a := 2) (b := 1) (tgt := 93) C (by omega) (by omega) (dx dX7_copy 33 rfl) (by decide) (fun c279 => ?_) (fun c279 => ?_)
                      · first
                        | (omega; done)
                        | (
                            have c279 : ¬ 2 = 1 := c279
                            refine r_aload_n C (dx dX7_copy 53 rfl) rfl ?_
                            refine g_X7_7 C (dx dX7_copy 54 rfl) ?_
                            refine r_iload_n C (dx dX7_copy 55 rfl) rfl ?_
                            refine r_iald (j := π) (x := nI 2) C rfl rfl (by decide) rfl (by omega) (dx dX7_copy 56 rfl) a41 ?_
                            refine r_if_eq (tgt := 111) C (dx dX7_copy 57 rfl) (by decide) (fun c280 => (show False from by revert c280; decide).elim) (fun _ => ?_)
                            refine r_aload_n C (dx dX7_copy 58 rfl) rfl ?_
                            refine g_X7_7 C (dx dX7_copy 59 rfl) ?_
                            refine r_iload_n C (dx dX7_copy 60 rfl) rfl ?_
                            refine r_iald (j := θ) (x := nI 2) C rfl rfl (by decide) rfl (by omega) (dx dX7_copy 61 rfl) a42 ?_
                            refine r_if_ne (tgt := 118) C (dx dX7_copy 62 rfl) (by decide) (fun _ => ?_) (fun c281 => (show False from by revert c281; decide).elim)
                            refine r_iload C (dx dX7_copy 67 rfl) rfl ?_
                            refine r_if_lt (tgt := 181) C (dx dX7_copy 68 rfl) (by decide) (fun c282 => ?_) (fun c282 => ?_)
                            ·
                              have c282 : n < 0 := c282
                              refine r_aload_n C (dx dX7_copy 101 rfl) rfl ?_
                              refine r_bipush (v := -2) C (dx dX7_copy 102 rfl) rfl ?_
                              refine r_cv (as := [vi (-2)]) (st := []) C X I_X7_refuse l_X7_83 (c_X7_refuse hm (x := -2) (j := 2) (by decide) (by decide)) (by decide) (Nat.le_of_ble_eq_true rfl) List.prefix_rfl List.prefix_rfl rfl rfl (Nat.le_of_ble_eq_true rfl) rfl (dx dX7_copy 103 rfl) ?_
                              rintro _ h283 ⟨rfl, ⟨wh283, m9h283, s9h283⟩, qh283⟩ kkh283
                              obtain ⟨vh283, mh283, zh283⟩ : ∃ v9, MilAt h283 k v9 ∧ Sz v v9 := ⟨_, m9h283, s9h283⟩
                              have ph283 : Kp k h h283 := qh283
                              have kh283 : xK h283 = xK h := kkh283
                              obtain ⟨ah283, bh283, ch283⟩ := zh283
                              have eA : copA g (nI π) (nI θ) i j n = -2 := by simp [copA, copG, copF, cpOk, c1, c3, c276, c278, c279, (fun n9 => inR_neg (n := n9) c282 : ∀ n9, inR n n9 = false), c282, e01, e11, e21, e31, e41, e51, e61, e71, e02, e12, e22, e32, e42, e52, e62, e72, clN (show π < 2 ^ 31 by omega), clN (show θ < 2 ^ 31 by omega), inR_nI (show π < 2 ^ 31 by omega), inR_nI (show θ < 2 ^ 31 by omega), show π < 8 by omega, show θ < 8 by omega]
                              have eG : copG g (nI π) (nI θ) i j n = g := by simp [copA, copG, copF, cpOk, c1, c3, c276, c278, c279, (fun n9 => inR_neg (n := n9) c282 : ∀ n9, inR n n9 = false), c282, e01, e11, e21, e31, e41, e51, e61, e71, e02, e12, e22, e32, e42, e52, e62, e72, clN (show π < 2 ^ 31 by omega), clN (show θ < 2 ^ 31 by omega), inR_nI (show π < 2 ^ 31 by omega), inR_nI (show θ < 2 ^ 31 by omega), show π < 8 by omega, show θ < 8 by omega]
                              exact F.1 _ _ _ _ _ rfl rfl (dx dX7_copy 104 rfl) kh283 (show some (vi (-2)) = some (vi (copA g (nI π) (nI θ) i j n)) ∧ (∃ v', MilAt h283 k v') ∧ MshAt h283 k (copG g (nI π) (nI θ) i j n) ∧ Ks k h h283 from by rw [eA, eG]; exact ⟨rfl, ⟨_, mh283⟩, hs.kp ph283, ph283.ks⟩)
                            ·
                              have c282 : ¬ n < 0 := c282
                              obtain ⟨ν, hν, rfl⟩ := nI_of c282
                              refine r_iload_n C (dx dX7_copy 69 rfl) rfl ?_
                              refine r_if_lt (tgt := 181) C (dx dX7_copy 70 rfl) (by decide) (fun c284 => ?_) (fun c284 => ?_)
                              ·
                                have c284 : i < 0 := c284
                                refine r_aload_n C (dx dX7_copy 101 rfl) rfl ?_
                                refine r_bipush (v := -2) C (dx dX7_copy 102 rfl) rfl ?_
                                refine r_cv (as := [vi (-2)]) (st := []) C X I_X7_refuse l_X7_83 (c_X7_refuse hm (x := -2) (j := 2) (by decide) (by decide)) (by decide) (Nat.le_of_ble_eq_true rfl) List.prefix_rfl List.prefix_rfl rfl rfl (Nat.le_of_ble_eq_true rfl) rfl (dx dX7_copy 103 rfl) ?_
                                rintro _ h285 ⟨rfl, ⟨wh285, m9h285, s9h285⟩, qh285⟩ kkh285
                                obtain ⟨vh285, mh285, zh285⟩ : ∃ v9, MilAt h285 k v9 ∧ Sz v v9 := ⟨_, m9h285, s9h285⟩
                                have ph285 : Kp k h h285 := qh285
                                have kh285 : xK h285 = xK h := kkh285
                                obtain ⟨ah285, bh285, ch285⟩ := zh285
                                have eA : copA g (nI π) (nI θ) i j (nI ν) = -2 := by simp [copA, copG, copF, cpOk, c1, c3, c276, c278, c279, c282, (fun n9 => inR_neg (n := n9) c284 : ∀ n9, inR i n9 = false), c284, e01, e11, e21, e31, e41, e51, e61, e71, e02, e12, e22, e32, e42, e52, e62, e72, clN (show π < 2 ^ 31 by omega), clN (show θ < 2 ^ 31 by omega), clN (show ν < 2 ^ 31 by omega), inR_nI (show π < 2 ^ 31 by omega), inR_nI (show θ < 2 ^ 31 by omega), inR_nI (show ν < 2 ^ 31 by omega), show π < 8 by omega, show θ < 8 by omega]
                                have eG : copG g (nI π) (nI θ) i j (nI ν) = g := by simp [copA, copG, copF, cpOk, c1, c3, c276, c278, c279, c282, (fun n9 => inR_neg (n := n9) c284 : ∀ n9, inR i n9 = false), c284, e01, e11, e21, e31, e41, e51, e61, e71, e02, e12, e22, e32, e42, e52, e62, e72, clN (show π < 2 ^ 31 by omega), clN (show θ < 2 ^ 31 by omega), clN (show ν < 2 ^ 31 by omega), inR_nI (show π < 2 ^ 31 by omega), inR_nI (show θ < 2 ^ 31 by omega), inR_nI (show ν < 2 ^ 31 by omega), show π < 8 by omega, show θ < 8 by omega]
                                exact F.1 _ _ _ _ _ rfl rfl (dx dX7_copy 104 rfl) kh285 (show some (vi (-2)) = some (vi (copA g (nI π) (nI θ) i j (nI ν))) ∧ (∃ v', MilAt h285 k v') ∧ MshAt h285 k (copG g (nI π) (nI θ) i j (nI ν)) ∧ Ks k h h285 from by rw [eA, eG]; exact ⟨rfl, ⟨_, mh285⟩, hs.kp ph285, ph285.ks⟩)
                              ·
                                have c284 : ¬ i < 0 := c284
                                obtain ⟨ι, hι, rfl⟩ := nI_of c284
                                refine r_iload C (dx dX7_copy 71 rfl) rfl ?_
                                refine r_if_lt (tgt := 181) C (dx dX7_copy 72 rfl) (by decide) (fun c286 => ?_) (fun c286 => ?_)
                                ·
                                  have c286 : j < 0 := c286
                                  refine r_aload_n C (dx dX7_copy 101 rfl) rfl ?_
                                  refine r_bipush (v := -2) C (dx dX7_copy 102 rfl) rfl ?_
                                  refine r_cv (as := [vi (-2)]) (st := []) C X I_X7_refuse l_X7_83 (c_X7_refuse hm (x := -2) (j := 2) (by decide) (by decide)) (by decide) (Nat.le_of_ble_eq_true rfl) List.prefix_rfl List.prefix_rfl rfl rfl (Nat.le_of_ble_eq_true rfl) rfl (dx dX7_copy 103 rfl) ?_
                                  rintro _ h287 ⟨rfl, ⟨wh287, m9h287, s9h287⟩, qh287⟩ kkh287
                                  obtain ⟨vh287, mh287, zh287⟩ : ∃ v9, MilAt h287 k v9 ∧ Sz v v9 := ⟨_, m9h287, s9h287⟩
                                  have ph287 : Kp k h h287 := qh287
                                  have kh287 : xK h287 = xK h := kkh287
                                  obtain ⟨ah287, bh287, ch287⟩ := zh287
                                  have eA : copA g (nI π) (nI θ) (nI ι) j (nI ν) = -2 := by simp [copA, copG, copF, cpOk, c1, c3, c276, c278, c279, c282, c284, (fun n9 => inR_neg (n := n9) c286 : ∀ n9, inR j n9 = false), c286, e01, e11, e21, e31, e41, e51, e61, e71, e02, e12, e22, e32, e42, e52, e62, e72, clN (show π < 2 ^ 31 by omega), clN (show θ < 2 ^ 31 by omega), clN (show ν < 2 ^ 31 by omega), clN (show ι < 2 ^ 31 by omega), inR_nI (show π < 2 ^ 31 by omega), inR_nI (show θ < 2 ^ 31 by omega), inR_nI (show ν < 2 ^ 31 by omega), inR_nI (show ι < 2 ^ 31 by omega), show π < 8 by omega, show θ < 8 by omega]
                                  have eG : copG g (nI π) (nI θ) (nI ι) j (nI ν) = g := by simp [copA, copG, copF, cpOk, c1, c3, c276, c278, c279, c282, c284, (fun n9 => inR_neg (n := n9) c286 : ∀ n9, inR j n9 = false), c286, e01, e11, e21, e31, e41, e51, e61, e71, e02, e12, e22, e32, e42, e52, e62, e72, clN (show π < 2 ^ 31 by omega), clN (show θ < 2 ^ 31 by omega), clN (show ν < 2 ^ 31 by omega), clN (show ι < 2 ^ 31 by omega), inR_nI (show π < 2 ^ 31 by omega), inR_nI (show θ < 2 ^ 31 by omega), inR_nI (show ν < 2 ^ 31 by omega), inR_nI (show ι < 2 ^ 31 by omega), show π < 8 by omega, show θ < 8 by omega]
                                  exact F.1 _ _ _ _ _ rfl rfl (dx dX7_copy 104 rfl) kh287 (show some (vi (-2)) = some (vi (copA g (nI π) (nI θ) (nI ι) j (nI ν))) ∧ (∃ v', MilAt h287 k v') ∧ MshAt h287 k (copG g (nI π) (nI θ) (nI ι) j (nI ν)) ∧ Ks k h h287 from by rw [eA, eG]; exact ⟨rfl, ⟨_, mh287⟩, hs.kp ph287, ph287.ks⟩)
                                ·
                                  have c286 : ¬ j < 0 := c286
                                  obtain ⟨ξ, hξ, rfl⟩ := nI_of c286
                                  refine r_iload C (dx dX7_copy 73 rfl) rfl ?_
                                  refine r_aload_n C (dx dX7_copy 74 rfl) rfl ?_
                                  refine g_X7_16 C (dx dX7_copy 75 rfl) ?_
                                  refine r_iload_n C (dx dX7_copy 76 rfl) rfl ?_
                                  refine r_iald (j := π) (x := xI h (k + 3) π) C rfl rfl (by decide) rfl (by omega) (dx dX7_copy 77 rfl) rfl ?_
                                  refine r_icmp_gt (tgt := 181) C (dx dX7_copy 78 rfl) (by decide) (fun c288 => ?_) (fun c288 => ?_)
                                  ·
                                    have c288 : xI h (k + 3) π < nI ν := c288
                                    refine r_aload_n C (dx dX7_copy 101 rfl) rfl ?_
                                    refine r_bipush (v := -2) C (dx dX7_copy 102 rfl) rfl ?_
                                    refine r_cv (as := [vi (-2)]) (st := []) C X I_X7_refuse l_X7_83 (c_X7_refuse hm (x := -2) (j := 2) (by decide) (by decide)) (by decide) (Nat.le_of_ble_eq_true rfl) List.prefix_rfl List.prefix_rfl rfl rfl (Nat.le_of_ble_eq_true rfl) rfl (dx dX7_copy 103 rfl) ?_
                                    rintro _ h289 ⟨rfl, ⟨wh289, m9h289, s9h289⟩, qh289⟩ kkh289
                                    obtain ⟨vh289, mh289, zh289⟩ : ∃ v9, MilAt h289 k v9 ∧ Sz v v9 := ⟨_, m9h289, s9h289⟩
                                    have ph289 : Kp k h h289 := qh289
                                    have kh289 : xK h289 = xK h := kkh289
                                    obtain ⟨ah289, bh289, ch289⟩ := zh289
                                    have eA : copA g (nI π) (nI θ) (nI ι) (nI ξ) (nI ν) = -2 := by (have hq : ¬ (ι + ν ≤ ν1 ∧ ξ + ν ≤ ν2) := by omega); (have hq2 := cp_row e31 e32 (i := ι) (j := ξ) (n := ν) (by omega) (by omega) (by omega) (by omega) (by omega)); rw [decide_eq_false hq] at hq2; simp [copA, copG, copF, c1, c3, c276, c278, c279, c282, c284, c286, c288, e01, e11, e21, e31, e41, e51, e61, e71, e02, e12, e22, e32, e42, e52, e62, e72, clN (show π < 2 ^ 31 by omega), clN (show θ < 2 ^ 31 by omega), clN (show ν < 2 ^ 31 by omega), clN (show ι < 2 ^ 31 by omega), clN (show ξ < 2 ^ 31 by omega), inR_nI (show π < 2 ^ 31 by omega), inR_nI (show θ < 2 ^ 31 by omega), inR_nI (show ν < 2 ^ 31 by omega), inR_nI (show ι < 2 ^ 31 by omega), inR_nI (show ξ < 2 ^ 31 by omega), hq2, show π < 8 by omega, show θ < 8 by omega]
                                    have eG : copG g (nI π) (nI θ) (nI ι) (nI ξ) (nI ν) = g := by (have hq : ¬ (ι + ν ≤ ν1 ∧ ξ + ν ≤ ν2) := by omega); (have hq2 := cp_row e31 e32 (i := ι) (j := ξ) (n := ν) (by omega) (by omega) (by omega) (by omega) (by omega)); rw [decide_eq_false hq] at hq2; simp [copA, copG, copF, c1, c3, c276, c278, c279, c282, c284, c286, c288, e01, e11, e21, e31, e41, e51, e61, e71, e02, e12, e22, e32, e42, e52, e62, e72, clN (show π < 2 ^ 31 by omega), clN (show θ < 2 ^ 31 by omega), clN (show ν < 2 ^ 31 by omega), clN (show ι < 2 ^ 31 by omega), clN (show ξ < 2 ^ 31 by omega), inR_nI (show π < 2 ^ 31 by omega), inR_nI (show θ < 2 ^ 31 by omega), inR_nI (show ν < 2 ^ 31 by omega), inR_nI (show ι < 2 ^ 31 by omega), inR_nI (show ξ < 2 ^ 31 by omega), hq2, show π < 8 by omega, show θ < 8 by omega]
                                    exact F.1 _ _ _ _ _ rfl rfl (dx dX7_copy 104 rfl) kh289 (show some (vi (-2)) = some (vi (copA g (nI π) (nI θ) (nI ι) (nI ξ) (nI ν))) ∧ (∃ v', MilAt h289 k v') ∧ MshAt h289 k (copG g (nI π) (nI θ) (nI ι) (nI ξ) (nI ν)) ∧ Ks k h h289 from by rw [eA, eG]; exact ⟨rfl, ⟨_, mh289⟩, hs.kp ph289, ph289.ks⟩)
                                  ·
                                    have c288 : ¬ xI h (k + 3) π < nI ν := c288
                                    refine r_iload C (dx dX7_copy 79 rfl) rfl ?_
                                    refine r_aload_n C (dx dX7_copy 80 rfl) rfl ?_
                                    refine g_X7_16 C (dx dX7_copy 81 rfl) ?_
                                    refine r_iload_n C (dx dX7_copy 82 rfl) rfl ?_
                                    refine r_iald (j := θ) (x := xI h (k + 3) θ) C rfl rfl (by decide) rfl (by omega) (dx dX7_copy 83 rfl) rfl ?_
                                    refine r_icmp_gt (tgt := 181) C (dx dX7_copy 84 rfl) (by decide) (fun c290 => ?_) (fun c290 => ?_)
                                    ·
                                      have c290 : xI h (k + 3) θ < nI ν := c290
                                      refine r_aload_n C (dx dX7_copy 101 rfl) rfl ?_
                                      refine r_bipush (v := -2) C (dx dX7_copy 102 rfl) rfl ?_
                                      refine r_cv (as := [vi (-2)]) (st := []) C X I_X7_refuse l_X7_83 (c_X7_refuse hm (x := -2) (j := 2) (by decide) (by decide)) (by decide) (Nat.le_of_ble_eq_true rfl) List.prefix_rfl List.prefix_rfl rfl rfl (Nat.le_of_ble_eq_true rfl) rfl (dx dX7_copy 103 rfl) ?_
                                      rintro _ h291 ⟨rfl, ⟨wh291, m9h291, s9h291⟩, qh291⟩ kkh291
                                      obtain ⟨vh291, mh291, zh291⟩ : ∃ v9, MilAt h291 k v9 ∧ Sz v v9 := ⟨_, m9h291, s9h291⟩
                                      have ph291 : Kp k h h291 := qh291
                                      have kh291 : xK h291 = xK h := kkh291
                                      obtain ⟨ah291, bh291, ch291⟩ := zh291
                                      have eA : copA g (nI π) (nI θ) (nI ι) (nI ξ) (nI ν) = -2 := by (have hq : ¬ (ι + ν ≤ ν1 ∧ ξ + ν ≤ ν2) := by omega); (have hq2 := cp_row e31 e32 (i := ι) (j := ξ) (n := ν) (by omega) (by omega) (by omega) (by omega) (by omega)); rw [decide_eq_false hq] at hq2; simp [copA, copG, copF, c1, c3, c276, c278, c279, c282, c284, c286, c288, c290, e01, e11, e21, e31, e41, e51, e61, e71, e02, e12, e22, e32, e42, e52, e62, e72, clN (show π < 2 ^ 31 by omega), clN (show θ < 2 ^ 31 by omega), clN (show ν < 2 ^ 31 by omega), clN (show ι < 2 ^ 31 by omega), clN (show ξ < 2 ^ 31 by omega), inR_nI (show π < 2 ^ 31 by omega), inR_nI (show θ < 2 ^ 31 by omega), inR_nI (show ν < 2 ^ 31 by omega), inR_nI (show ι < 2 ^ 31 by omega), inR_nI (show ξ < 2 ^ 31 by omega), hq2, show π < 8 by omega, show θ < 8 by omega]
                                      have eG : copG g (nI π) (nI θ) (nI ι) (nI ξ) (nI ν) = g := by (have hq : ¬ (ι + ν ≤ ν1 ∧ ξ + ν ≤ ν2) := by omega); (have hq2 := cp_row e31 e32 (i := ι) (j := ξ) (n := ν) (by omega) (by omega) (by omega) (by omega) (by omega)); rw [decide_eq_false hq] at hq2; simp [copA, copG, copF, c1, c3, c276, c278, c279, c282, c284, c286, c288, c290, e01, e11, e21, e31, e41, e51, e61, e71, e02, e12, e22, e32, e42, e52, e62, e72, clN (show π < 2 ^ 31 by omega), clN (show θ < 2 ^ 31 by omega), clN (show ν < 2 ^ 31 by omega), clN (show ι < 2 ^ 31 by omega), clN (show ξ < 2 ^ 31 by omega), inR_nI (show π < 2 ^ 31 by omega), inR_nI (show θ < 2 ^ 31 by omega), inR_nI (show ν < 2 ^ 31 by omega), inR_nI (show ι < 2 ^ 31 by omega), inR_nI (show ξ < 2 ^ 31 by omega), hq2, show π < 8 by omega, show θ < 8 by omega]
                                      exact F.1 _ _ _ _ _ rfl rfl (dx dX7_copy 104 rfl) kh291 (show some (vi (-2)) = some (vi (copA g (nI π) (nI θ) (nI ι) (nI ξ) (nI ν))) ∧ (∃ v', MilAt h291 k v') ∧ MshAt h291 k (copG g (nI π) (nI θ) (nI ι) (nI ξ) (nI ν)) ∧ Ks k h h291 from by rw [eA, eG]; exact ⟨rfl, ⟨_, mh291⟩, hs.kp ph291, ph291.ks⟩)
                                    ·
                                      have c290 : ¬ xI h (k + 3) θ < nI ν := c290
                                      refine r_iload_n C (dx dX7_copy 85 rfl) rfl ?_
                                      refine r_aload_n C (dx dX7_copy 86 rfl) rfl ?_
                                      refine g_X7_16 C (dx dX7_copy 87 rfl) ?_
                                      refine r_iload_n C (dx dX7_copy 88 rfl) rfl ?_
                                      refine r_iald (j := π) (x := xI h (k + 3) π) C rfl rfl (by decide) rfl (by omega) (dx dX7_copy 89 rfl) rfl ?_
                                      refine r_iload C (dx dX7_copy 90 rfl) rfl ?_
                                      refine r_isub C (dx dX7_copy 91 rfl) ?_
                                      refine r_icmp_gt (tgt := 181) C (dx dX7_copy 92 rfl) (by decide) (fun c292 => ?_) (fun c292 => ?_)
                                      ·
                                        have c292 : (xI h (k + 3) π) - (nI ν) < nI ι := c292
                                        refine r_aload_n C (dx dX7_copy 101 rfl) rfl ?_
                                        refine r_bipush (v := -2) C (dx dX7_copy 102 rfl) rfl ?_
                                        refine r_cv (as := [vi (-2)]) (st := []) C X I_X7_refuse l_X7_83 (c_X7_refuse hm (x := -2) (j := 2) (by decide) (by decide)) (by decide) (Nat.le_of_ble_eq_true rfl) List.prefix_rfl List.prefix_rfl rfl rfl (Nat.le_of_ble_eq_true rfl) rfl (dx dX7_copy 103 rfl) ?_
                                        rintro _ h293 ⟨rfl, ⟨wh293, m9h293, s9h293⟩, qh293⟩ kkh293
                                        obtain ⟨vh293, mh293, zh293⟩ : ∃ v9, MilAt h293 k v9 ∧ Sz v v9 := ⟨_, m9h293, s9h293⟩
                                        have ph293 : Kp k h h293 := qh293
                                        have kh293 : xK h293 = xK h := kkh293
                                        obtain ⟨ah293, bh293, ch293⟩ := zh293
                                        have eA : copA g (nI π) (nI θ) (nI ι) (nI ξ) (nI ν) = -2 := by (have hq : ¬ (ι + ν ≤ ν1 ∧ ξ + ν ≤ ν2) := by omega); (have hq2 := cp_row e31 e32 (i := ι) (j := ξ) (n := ν) (by omega) (by omega) (by omega) (by omega) (by omega)); rw [decide_eq_false hq] at hq2; simp [copA, copG, copF, c1, c3, c276, c278, c279, c282, c284, c286, c288, c290, c292, e01, e11, e21, e31, e41, e51, e61, e71, e02, e12, e22, e32, e42, e52, e62, e72, clN (show π < 2 ^ 31 by omega), clN (show θ < 2 ^ 31 by omega), clN (show ν < 2 ^ 31 by omega), clN (show ι < 2 ^ 31 by omega), clN (show ξ < 2 ^ 31 by omega), inR_nI (show π < 2 ^ 31 by omega), inR_nI (show θ < 2 ^ 31 by omega), inR_nI (show ν < 2 ^ 31 by omega), inR_nI (show ι < 2 ^ 31 by omega), inR_nI (show ξ < 2 ^ 31 by omega), hq2, show π < 8 by omega, show θ < 8 by omega]
                                        have eG : copG g (nI π) (nI θ) (nI ι) (nI ξ) (nI ν) = g := by (have hq : ¬ (ι + ν ≤ ν1 ∧ ξ + ν ≤ ν2) := by omega); (have hq2 := cp_row e31 e32 (i := ι) (j := ξ) (n := ν) (by omega) (by omega) (by omega) (by omega) (by omega)); rw [decide_eq_false hq] at hq2; simp [copA, copG, copF, c1, c3, c276, c278, c279, c282, c284, c286, c288, c290, c292, e01, e11, e21, e31, e41, e51, e61, e71, e02, e12, e22, e32, e42, e52, e62, e72, clN (show π < 2 ^ 31 by omega), clN (show θ < 2 ^ 31 by omega), clN (show ν < 2 ^ 31 by omega), clN (show ι < 2 ^ 31 by omega), clN (show ξ < 2 ^ 31 by omega), inR_nI (show π < 2 ^ 31 by omega), inR_nI (show θ < 2 ^ 31 by omega), inR_nI (show ν < 2 ^ 31 by omega), inR_nI (show ι < 2 ^ 31 by omega), inR_nI (show ξ < 2 ^ 31 by omega), hq2, show π < 8 by omega, show θ < 8 by omega]
                                        exact F.1 _ _ _ _ _ rfl rfl (dx dX7_copy 104 rfl) kh293 (show some (vi (-2)) = some (vi (copA g (nI π) (nI θ) (nI ι) (nI ξ) (nI ν))) ∧ (∃ v', MilAt h293 k v') ∧ MshAt h293 k (copG g (nI π) (nI θ) (nI ι) (nI ξ) (nI ν)) ∧ Ks k h h293 from by rw [eA, eG]; exact ⟨rfl, ⟨_, mh293⟩, hs.kp ph293, ph293.ks⟩)
                                      ·
                                        have c292 : ¬ (xI h (k + 3) π) - (nI ν) < nI ι := c292
                                        refine r_iload C (dx dX7_copy 93 rfl) rfl ?_
                                        refine r_aload_n C (dx dX7_copy 94 rfl) rfl ?_
                                        refine g_X7_16 C (dx dX7_copy 95 rfl) ?_
                                        refine r_iload_n C (dx dX7_copy 96 rfl) rfl ?_
                                        refine r_iald (j := θ) (x := xI h (k + 3) θ) C rfl rfl (by decide) rfl (by omega) (dx dX7_copy 97 rfl) rfl ?_
                                        refine r_iload C (dx dX7_copy 98 rfl) rfl ?_
                                        refine r_isub C (dx dX7_copy 99 rfl) ?_
                                        refine r_icmp_le (tgt := 188) C (dx dX7_copy 100 rfl) (by decide) (fun c294 => ?_) (fun c294 => ?_)
                                        ·
                                          have c294 : nI ξ ≤ (xI h (k + 3) θ) - (nI ν) := c294
                                          refine r_iconst (v := nI 0) C (dx dX7_copy 105 rfl) rfl ?_
                                          refine r_istore (ls' := [(0, vr 7 k), (1, vi (nI π)), (2, vi (nI θ)), (3, vi (nI ι)), (4, vi (nI ξ)), (5, vi (nI ν)), (6, vi (nI 0))]) C (dx dX7_copy 106 rfl) (by decide) [1, 2, 3, 4, 5, 6, 0] rfl ?_
                                          refine loopU (Φ := fun p => ∀ h9, (∀ t, t < p → xL h9 (k + 13) t = gE g π (ι + t)) → Fr (k + 13) (k + 14) h h9 → xK h9 = xK h → Rr G 191 [(0, vr 7 k), (1, vi (nI π)), (2, vi (nI θ)), (3, vi (nI ι)), (4, vi (nI ξ)), (5, vi (nI ν)), (6, vi (nI p))] [] h9) (N := ν) ?_ ?_ 0 (by omega) _ (fun i hi => absurd hi (by omega)) Fr.rf rfl
                                          ·
                                            intro h9 q9 f9 k9
                                            refine r_iload C (dx dX7_copy 107 rfl) rfl ?_
                                            refine r_iload C (dx dX7_copy 108 rfl) rfl ?_
                                            refine rn_ge (a := ν) (b := ν) (tgt := 222) C (by omega) (by omega) (dx dX7_copy 109 rfl) (by decide) (fun c295 => ?_) (fun c295 => ?_)
                                            · first
                                              | (omega; done)
                                              | (
                                                  have c295 : ν ≤ ν := c295
                                                  refine r_iconst (v := nI 0) C (dx dX7_copy 124 rfl) rfl ?_
                                                  refine r_istore (ls' := [(0, vr 7 k), (1, vi (nI π)), (2, vi (nI θ)), (3, vi (nI ι)), (4, vi (nI ξ)), (5, vi (nI ν)), (6, vi (nI 0))]) C (dx dX7_copy 125 rfl) (by decide) [1, 2, 3, 4, 5, 6, 0] rfl ?_
                                                  have r9 := MsR.fr (show MsR h k g θ from ⟨_, _, a12, a22, a32, a42, a52, a62, a72, a82⟩) hθ f9
                                                  refine loopU (Φ := fun p => ∀ h8, (∀ i, i < 40 → xL h8 (k + 5 + θ) i = if ξ ≤ i ∧ i < ξ + p then gE g π (ι + (i - ξ)) else gE g θ i) → (∀ t, t < ν → xL h8 (k + 13) t = gE g π (ι + t)) → Fr (k + 5 + θ) (k + 5 + θ + 1) h9 h8 → xK h8 = xK h → Rr G 225 [(0, vr 7 k), (1, vi (nI π)), (2, vi (nI θ)), (3, vi (nI ι)), (4, vi (nI ξ)), (5, vi (nI ν)), (6, vi (nI p))] [] h8) (N := ν) ?_ ?_ 0 (by omega) _ (fun i hi => by rw [if_neg (by omega), f9.L (by omega)]; exact a82 i hi) q9 Fr.rf k9
                                                  ·
                                                    intro h8 q8 u8 f8 k8
                                                    have s9 : MshAt h8 k (pCp g π θ ι ξ ν) := msh_els (hs.mv f9) hθ r9 f8 (fun i hi => by rw [q8 i hi]; rfl)
                                                    have g9 : Fr (k + 1) (k + 17) h h8 := (f9.mono (by omega) (by omega)).tr (f8.mono (by omega) (by omega))
                                                    refine r_iload C (dx dX7_copy 126 rfl) rfl ?_
                                                    refine r_iload C (dx dX7_copy 127 rfl) rfl ?_
                                                    refine rn_ge (a := ν) (b := ν) (tgt := 257) C (by omega) (by omega) (dx dX7_copy 128 rfl) (by decide) (fun c296 => ?_) (fun c296 => ?_)
                                                    · first
                                                      | (omega; done)
                                                      | (
                                                          have c296 : ν ≤ ν := c296
                                                          refine r_iload C (dx dX7_copy 143 rfl) rfl ?_
                                                          have eA : copA g (nI π) (nI θ) (nI ι) (nI ξ) (nI ν) = nI ν := by simp [copA, copG, copF, c1, c3, c276, c278, c279, c282, c284, c286, c288, c290, c292, c294, c295, c296, e01, e11, e21, e31, e41, e51, e61, e71, e02, e12, e22, e32, e42, e52, e62, e72, clN (show π < 2 ^ 31 by omega), clN (show θ < 2 ^ 31 by omega), clN (show ν < 2 ^ 31 by omega), clN (show ι < 2 ^ 31 by omega), clN (show ξ < 2 ^ 31 by omega), inR_nI (show π < 2 ^ 31 by omega), inR_nI (show θ < 2 ^ 31 by omega), inR_nI (show ν < 2 ^ 31 by omega), inR_nI (show ι < 2 ^ 31 by omega), inR_nI (show ξ < 2 ^ 31 by omega), show π < 8 by omega, show θ < 8 by omega, cp_row e31 e32 (by omega) (by omega) (show ι < 2 ^ 31 by omega) (show ξ < 2 ^ 31 by omega) (show ν < 2 ^ 31 by omega), show ι + ν ≤ ν1 by omega, show ξ + ν ≤ ν2 by omega]
                                                          have eG : copG g (nI π) (nI θ) (nI ι) (nI ξ) (nI ν) = pCp g π θ ι ξ ν := by simp [copA, copG, copF, c1, c3, c276, c278, c279, c282, c284, c286, c288, c290, c292, c294, c295, c296, e01, e11, e21, e31, e41, e51, e61, e71, e02, e12, e22, e32, e42, e52, e62, e72, clN (show π < 2 ^ 31 by omega), clN (show θ < 2 ^ 31 by omega), clN (show ν < 2 ^ 31 by omega), clN (show ι < 2 ^ 31 by omega), clN (show ξ < 2 ^ 31 by omega), inR_nI (show π < 2 ^ 31 by omega), inR_nI (show θ < 2 ^ 31 by omega), inR_nI (show ν < 2 ^ 31 by omega), inR_nI (show ι < 2 ^ 31 by omega), inR_nI (show ξ < 2 ^ 31 by omega), show π < 8 by omega, show θ < 8 by omega, cp_row e31 e32 (by omega) (by omega) (show ι < 2 ^ 31 by omega) (show ξ < 2 ^ 31 by omega) (show ν < 2 ^ 31 by omega), show ι + ν ≤ ν1 by omega, show ξ + ν ≤ ν2 by omega]
                                                          exact F.1 _ _ _ _ _ rfl rfl (dx dX7_copy 144 rfl) k8 (show some (vi (nI ν)) = some (vi (copA g (nI π) (nI θ) (nI ι) (nI ξ) (nI ν))) ∧ (∃ v', MilAt h8 k v') ∧ MshAt h8 k (copG g (nI π) (nI θ) (nI ι) (nI ξ) (nI ν)) ∧ Ks k h h8 from by rw [eA, eG]; exact ⟨rfl, ⟨_, hm.fr g9 (by omega)⟩, s9, (Ks.fr g9 (by omega) (by omega))⟩))
                                                    · first
                                                      | (omega; done)
                                                  ·
                                                    intro p hp ih h8 q8 u8 f8 k8
                                                    refine r_iload C (dx dX7_copy 126 rfl) rfl ?_
                                                    refine r_iload C (dx dX7_copy 127 rfl) rfl ?_
                                                    refine rn_ge (a := p) (b := ν) (tgt := 257) C (by omega) (by omega) (dx dX7_copy 128 rfl) (by decide) (fun c297 => ?_) (fun c297 => ?_)
                                                    · first
                                                      | (omega; done)
                                                      | (
                                                          have c297 : ν ≤ p := c297
                                                          refine r_iload C (dx dX7_copy 143 rfl) rfl ?_
                                                          have eA : copA g (nI π) (nI θ) (nI ι) (nI ξ) (nI ν) = nI ν := by simp [copA, copG, copF, c1, c3, c276, c278, c279, c282, c284, c286, c288, c290, c292, c294, c295, c297, e01, e11, e21, e31, e41, e51, e61, e71, e02, e12, e22, e32, e42, e52, e62, e72, clN (show π < 2 ^ 31 by omega), clN (show θ < 2 ^ 31 by omega), clN (show ν < 2 ^ 31 by omega), clN (show ι < 2 ^ 31 by omega), clN (show ξ < 2 ^ 31 by omega), inR_nI (show π < 2 ^ 31 by omega), inR_nI (show θ < 2 ^ 31 by omega), inR_nI (show ν < 2 ^ 31 by omega), inR_nI (show ι < 2 ^ 31 by omega), inR_nI (show ξ < 2 ^ 31 by omega), show π < 8 by omega, show θ < 8 by omega, cp_row e31 e32 (by omega) (by omega) (show ι < 2 ^ 31 by omega) (show ξ < 2 ^ 31 by omega) (show ν < 2 ^ 31 by omega), show ι + ν ≤ ν1 by omega, show ξ + ν ≤ ν2 by omega]
                                                          have eG : copG g (nI π) (nI θ) (nI ι) (nI ξ) (nI ν) = g := by simp [copA, copG, copF, c1, c3, c276, c278, c279, c282, c284, c286, c288, c290, c292, c294, c295, c297, e01, e11, e21, e31, e41, e51, e61, e71, e02, e12, e22, e32, e42, e52, e62, e72, clN (show π < 2 ^ 31 by omega), clN (show θ < 2 ^ 31 by omega), clN (show ν < 2 ^ 31 by omega), clN (show ι < 2 ^ 31 by omega), clN (show ξ < 2 ^ 31 by omega), inR_nI (show π < 2 ^ 31 by omega), inR_nI (show θ < 2 ^ 31 by omega), inR_nI (show ν < 2 ^ 31 by omega), inR_nI (show ι < 2 ^ 31 by omega), inR_nI (show ξ < 2 ^ 31 by omega), show π < 8 by omega, show θ < 8 by omega, cp_row e31 e32 (by omega) (by omega) (show ι < 2 ^ 31 by omega) (show ξ < 2 ^ 31 by omega) (show ν < 2 ^ 31 by omega), show ι + ν ≤ ν1 by omega, show ξ + ν ≤ ν2 by omega]
                                                          exact F.1 _ _ _ _ _ rfl rfl (dx dX7_copy 144 rfl) k8 (show some (vi (nI ν)) = some (vi (copA g (nI π) (nI θ) (nI ι) (nI ξ) (nI ν))) ∧ (∃ v', MilAt h8 k v') ∧ MshAt h8 k (copG g (nI π) (nI θ) (nI ι) (nI ξ) (nI ν)) ∧ Ks k h h8 from by rw [eA, eG]; exact ⟨rfl, ⟨_, hm⟩, hs, Ks.rf⟩))
                                                    · first
                                                      | (omega; done)
                                                      | (
                                                          have c297 : p < ν := c297
                                                          refine r_aload_n C (dx dX7_copy 129 rfl) rfl ?_
                                                          refine g_X7_21 C (dx dX7_copy 130 rfl) ?_
                                                          refine r_iload_n C (dx dX7_copy 131 rfl) rfl ?_
                                                          refine r_aald5 (j := θ) C rfl rfl (by decide) rfl (by omega) (dx dX7_copy 132 rfl) ?_
                                                          refine r_iload C (dx dX7_copy 133 rfl) rfl ?_
                                                          refine r_iload C (dx dX7_copy 134 rfl) rfl ?_
                                                          refine rn_iadd (a := ξ) (b := p) C (dx dX7_copy 135 rfl) ?_
                                                          refine r_aload_n C (dx dX7_copy 136 rfl) rfl ?_
                                                          refine g_X7_24 C (dx dX7_copy 137 rfl) ?_
                                                          refine r_iload C (dx dX7_copy 138 rfl) rfl ?_
                                                          refine r_lald (j := p) (x := gE g π (ι + p)) C rfl rfl (by decide) rfl (by omega) (dx dX7_copy 139 rfl) (u8 _ (by omega)) ?_
                                                          refine r_last (j := ξ + p) C rfl rfl (by decide) rfl (by omega) (dx dX7_copy 140 rfl) ?_
                                                          refine rn_iinc (a := p) (k := 1) (ls' := [(0, vr 7 k), (1, vi (nI π)), (2, vi (nI θ)), (3, vi (nI ι)), (4, vi (nI ξ)), (5, vi (nI ν)), (6, vi (nI (p + 1)))]) C (dx dX7_copy 141 rfl) rfl rfl (by decide) [1, 2, 3, 4, 5, 6, 0] rfl ?_
                                                          refine r_goto (tgt := 225) C (dx dX7_copy 142 rfl) (by decide) ?_
                                                          exact ih _ (fun i hi => by rw [sL_at]; exact cp2_step q8 i hi) (fun t ht => by rw [sL_ne (by omega)]; exact u8 t ht) (f8.tr (Fr.sL (by omega) (by omega))) k8))
                                            · first
                                              | (omega; done)
                                          ·
                                            intro p hp ih h9 q9 f9 k9
                                            refine r_iload C (dx dX7_copy 107 rfl) rfl ?_
                                            refine r_iload C (dx dX7_copy 108 rfl) rfl ?_
                                            refine rn_ge (a := p) (b := ν) (tgt := 222) C (by omega) (by omega) (dx dX7_copy 109 rfl) (by decide) (fun c298 => ?_) (fun c298 => ?_)
                                            · first
                                              | (omega; done)
                                              | (
                                                  have c298 : ν ≤ p := c298
                                                  refine r_iconst (v := nI 0) C (dx dX7_copy 124 rfl) rfl ?_
                                                  refine r_istore (ls' := [(0, vr 7 k), (1, vi (nI π)), (2, vi (nI θ)), (3, vi (nI ι)), (4, vi (nI ξ)), (5, vi (nI ν)), (6, vi (nI 0))]) C (dx dX7_copy 125 rfl) (by decide) [1, 2, 3, 4, 5, 6, 0] rfl ?_
                                                  have r9 := MsR.fr (show MsR h k g θ from ⟨_, _, a12, a22, a32, a42, a52, a62, a72, a82⟩) hθ f9
                                                  refine loopU (Φ := fun p => ∀ h8, (∀ i, i < 40 → xL h8 (k + 5 + θ) i = if ξ ≤ i ∧ i < ξ + p then gE g π (ι + (i - ξ)) else gE g θ i) → (∀ t, t < ν → xL h8 (k + 13) t = gE g π (ι + t)) → Fr (k + 5 + θ) (k + 5 + θ + 1) h9 h8 → xK h8 = xK h → Rr G 225 [(0, vr 7 k), (1, vi (nI π)), (2, vi (nI θ)), (3, vi (nI ι)), (4, vi (nI ξ)), (5, vi (nI ν)), (6, vi (nI p))] [] h8) (N := ν) ?_ ?_ 0 (by omega) _ (fun i hi => by rw [if_neg (by omega), f9.L (by omega)]; exact a82 i hi) q9 Fr.rf k9
                                                  ·
                                                    intro h8 q8 u8 f8 k8
                                                    have s9 : MshAt h8 k (pCp g π θ ι ξ ν) := msh_els (hs.mv f9) hθ r9 f8 (fun i hi => by rw [q8 i hi]; rfl)
                                                    have g9 : Fr (k + 1) (k + 17) h h8 := (f9.mono (by omega) (by omega)).tr (f8.mono (by omega) (by omega))
                                                    refine r_iload C (dx dX7_copy 126 rfl) rfl ?_
                                                    refine r_iload C (dx dX7_copy 127 rfl) rfl ?_
                                                    refine rn_ge (a := ν) (b := ν) (tgt := 257) C (by omega) (by omega) (dx dX7_copy 128 rfl) (by decide) (fun c299 => ?_) (fun c299 => ?_)
                                                    · first
                                                      | (omega; done)
                                                      | (
                                                          have c299 : ν ≤ ν := c299
                                                          refine r_iload C (dx dX7_copy 143 rfl) rfl ?_
                                                          have eA : copA g (nI π) (nI θ) (nI ι) (nI ξ) (nI ν) = nI ν := by simp [copA, copG, copF, c1, c3, c276, c278, c279, c282, c284, c286, c288, c290, c292, c294, c298, c299, e01, e11, e21, e31, e41, e51, e61, e71, e02, e12, e22, e32, e42, e52, e62, e72, clN (show π < 2 ^ 31 by omega), clN (show θ < 2 ^ 31 by omega), clN (show ν < 2 ^ 31 by omega), clN (show ι < 2 ^ 31 by omega), clN (show ξ < 2 ^ 31 by omega), inR_nI (show π < 2 ^ 31 by omega), inR_nI (show θ < 2 ^ 31 by omega), inR_nI (show ν < 2 ^ 31 by omega), inR_nI (show ι < 2 ^ 31 by omega), inR_nI (show ξ < 2 ^ 31 by omega), show π < 8 by omega, show θ < 8 by omega, cp_row e31 e32 (by omega) (by omega) (show ι < 2 ^ 31 by omega) (show ξ < 2 ^ 31 by omega) (show ν < 2 ^ 31 by omega), show ι + ν ≤ ν1 by omega, show ξ + ν ≤ ν2 by omega]
                                                          have eG : copG g (nI π) (nI θ) (nI ι) (nI ξ) (nI ν) = pCp g π θ ι ξ ν := by simp [copA, copG, copF, c1, c3, c276, c278, c279, c282, c284, c286, c288, c290, c292, c294, c298, c299, e01, e11, e21, e31, e41, e51, e61, e71, e02, e12, e22, e32, e42, e52, e62, e72, clN (show π < 2 ^ 31 by omega), clN (show θ < 2 ^ 31 by omega), clN (show ν < 2 ^ 31 by omega), clN (show ι < 2 ^ 31 by omega), clN (show ξ < 2 ^ 31 by omega), inR_nI (show π < 2 ^ 31 by omega), inR_nI (show θ < 2 ^ 31 by omega), inR_nI (show ν < 2 ^ 31 by omega), inR_nI (show ι < 2 ^ 31 by omega), inR_nI (show ξ < 2 ^ 31 by omega), show π < 8 by omega, show θ < 8 by omega, cp_row e31 e32 (by omega) (by omega) (show ι < 2 ^ 31 by omega) (show ξ < 2 ^ 31 by omega) (show ν < 2 ^ 31 by omega), show ι + ν ≤ ν1 by omega, show ξ + ν ≤ ν2 by omega]
                                                          exact F.1 _ _ _ _ _ rfl rfl (dx dX7_copy 144 rfl) k8 (show some (vi (nI ν)) = some (vi (copA g (nI π) (nI θ) (nI ι) (nI ξ) (nI ν))) ∧ (∃ v', MilAt h8 k v') ∧ MshAt h8 k (copG g (nI π) (nI θ) (nI ι) (nI ξ) (nI ν)) ∧ Ks k h h8 from by rw [eA, eG]; exact ⟨rfl, ⟨_, hm.fr g9 (by omega)⟩, s9, (Ks.fr g9 (by omega) (by omega))⟩))
                                                    · first
                                                      | (omega; done)
                                                  ·
                                                    intro p hp ih h8 q8 u8 f8 k8
                                                    refine r_iload C (dx dX7_copy 126 rfl) rfl ?_
                                                    refine r_iload C (dx dX7_copy 127 rfl) rfl ?_
                                                    refine rn_ge (a := p) (b := ν) (tgt := 257) C (by omega) (by omega) (dx dX7_copy 128 rfl) (by decide) (fun c300 => ?_) (fun c300 => ?_)
                                                    · first
                                                      | (omega; done)
                                                      | (
                                                          have c300 : ν ≤ p := c300
                                                          refine r_iload C (dx dX7_copy 143 rfl) rfl ?_
                                                          have eA : copA g (nI π) (nI θ) (nI ι) (nI ξ) (nI ν) = nI ν := by simp [copA, copG, copF, c1, c3, c276, c278, c279, c282, c284, c286, c288, c290, c292, c294, c298, c300, e01, e11, e21, e31, e41, e51, e61, e71, e02, e12, e22, e32, e42, e52, e62, e72, clN (show π < 2 ^ 31 by omega), clN (show θ < 2 ^ 31 by omega), clN (show ν < 2 ^ 31 by omega), clN (show ι < 2 ^ 31 by omega), clN (show ξ < 2 ^ 31 by omega), inR_nI (show π < 2 ^ 31 by omega), inR_nI (show θ < 2 ^ 31 by omega), inR_nI (show ν < 2 ^ 31 by omega), inR_nI (show ι < 2 ^ 31 by omega), inR_nI (show ξ < 2 ^ 31 by omega), show π < 8 by omega, show θ < 8 by omega, cp_row e31 e32 (by omega) (by omega) (show ι < 2 ^ 31 by omega) (show ξ < 2 ^ 31 by omega) (show ν < 2 ^ 31 by omega), show ι + ν ≤ ν1 by omega, show ξ + ν ≤ ν2 by omega]
                                                          have eG : copG g (nI π) (nI θ) (nI ι) (nI ξ) (nI ν) = g := by simp [copA, copG, copF, c1, c3, c276, c278, c279, c282, c284, c286, c288, c290, c292, c294, c298, c300, e01, e11, e21, e31, e41, e51, e61, e71, e02, e12, e22, e32, e42, e52, e62, e72, clN (show π < 2 ^ 31 by omega), clN (show θ < 2 ^ 31 by omega), clN (show ν < 2 ^ 31 by omega), clN (show ι < 2 ^ 31 by omega), clN (show ξ < 2 ^ 31 by omega), inR_nI (show π < 2 ^ 31 by omega), inR_nI (show θ < 2 ^ 31 by omega), inR_nI (show ν < 2 ^ 31 by omega), inR_nI (show ι < 2 ^ 31 by omega), inR_nI (show ξ < 2 ^ 31 by omega), show π < 8 by omega, show θ < 8 by omega, cp_row e31 e32 (by omega) (by omega) (show ι < 2 ^ 31 by omega) (show ξ < 2 ^ 31 by omega) (show ν < 2 ^ 31 by omega), show ι + ν ≤ ν1 by omega, show ξ + ν ≤ ν2 by omega]
                                                          exact F.1 _ _ _ _ _ rfl rfl (dx dX7_copy 144 rfl) k8 (show some (vi (nI ν)) = some (vi (copA g (nI π) (nI θ) (nI ι) (nI ξ) (nI ν))) ∧ (∃ v', MilAt h8 k v') ∧ MshAt h8 k (copG g (nI π) (nI θ) (nI ι) (nI ξ) (nI ν)) ∧ Ks k h h8 from by rw [eA, eG]; exact ⟨rfl, ⟨_, hm⟩, hs, Ks.rf⟩))
                                                    · first
                                                      | (omega; done)
                                                      | (
                                                          have c300 : p < ν := c300
                                                          refine r_aload_n C (dx dX7_copy 129 rfl) rfl ?_
                                                          refine g_X7_21 C (dx dX7_copy 130 rfl) ?_
                                                          refine r_iload_n C (dx dX7_copy 131 rfl) rfl ?_
                                                          refine r_aald5 (j := θ) C rfl rfl (by decide) rfl (by omega) (dx dX7_copy 132 rfl) ?_
                                                          refine r_iload C (dx dX7_copy 133 rfl) rfl ?_
                                                          refine r_iload C (dx dX7_copy 134 rfl) rfl ?_
                                                          refine rn_iadd (a := ξ) (b := p) C (dx dX7_copy 135 rfl) ?_
                                                          refine r_aload_n C (dx dX7_copy 136 rfl) rfl ?_
                                                          refine g_X7_24 C (dx dX7_copy 137 rfl) ?_
                                                          refine r_iload C (dx dX7_copy 138 rfl) rfl ?_
                                                          refine r_lald (j := p) (x := gE g π (ι + p)) C rfl rfl (by decide) rfl (by omega) (dx dX7_copy 139 rfl) (u8 _ (by omega)) ?_
                                                          refine r_last (j := ξ + p) C rfl rfl (by decide) rfl (by omega) (dx dX7_copy 140 rfl) ?_
                                                          refine rn_iinc (a := p) (k := 1) (ls' := [(0, vr 7 k), (1, vi (nI π)), (2, vi (nI θ)), (3, vi (nI ι)), (4, vi (nI ξ)), (5, vi (nI ν)), (6, vi (nI (p + 1)))]) C (dx dX7_copy 141 rfl) rfl rfl (by decide) [1, 2, 3, 4, 5, 6, 0] rfl ?_
                                                          refine r_goto (tgt := 225) C (dx dX7_copy 142 rfl) (by decide) ?_
                                                          exact ih _ (fun i hi => by rw [sL_at]; exact cp2_step q8 i hi) (fun t ht => by rw [sL_ne (by omega)]; exact u8 t ht) (f8.tr (Fr.sL (by omega) (by omega))) k8))
                                            · first
                                              | (omega; done)
                                              | (
                                                  have c298 : p < ν := c298
                                                  refine r_aload_n C (dx dX7_copy 110 rfl) rfl ?_
                                                  refine g_X7_24 C (dx dX7_copy 111 rfl) ?_
                                                  refine r_iload C (dx dX7_copy 112 rfl) rfl ?_
                                                  refine r_aload_n C (dx dX7_copy 113 rfl) rfl ?_
                                                  refine g_X7_21 C (dx dX7_copy 114 rfl) ?_
                                                  refine r_iload_n C (dx dX7_copy 115 rfl) rfl ?_
                                                  refine r_aald5 (j := π) C rfl rfl (by decide) rfl (by omega) (dx dX7_copy 116 rfl) ?_
                                                  refine r_iload_n C (dx dX7_copy 117 rfl) rfl ?_
                                                  refine r_iload C (dx dX7_copy 118 rfl) rfl ?_
                                                  refine rn_iadd (a := ι) (b := p) C (dx dX7_copy 119 rfl) ?_
                                                  refine r_lald (j := ι + p) (x := gE g π (ι + p)) C rfl rfl (by decide) rfl (by omega) (dx dX7_copy 120 rfl) ((f9.L (by omega) _).trans (a81 _ (by omega))) ?_
                                                  refine r_last (j := p) C rfl rfl (by decide) rfl (by omega) (dx dX7_copy 121 rfl) ?_
                                                  refine rn_iinc (a := p) (k := 1) (ls' := [(0, vr 7 k), (1, vi (nI π)), (2, vi (nI θ)), (3, vi (nI ι)), (4, vi (nI ξ)), (5, vi (nI ν)), (6, vi (nI (p + 1)))]) C (dx dX7_copy 122 rfl) rfl rfl (by decide) [1, 2, 3, 4, 5, 6, 0] rfl ?_
                                                  refine r_goto (tgt := 191) C (dx dX7_copy 123 rfl) (by decide) ?_
                                                  exact ih _ (fun t ht => by rw [sL_at]; split; (next e => rw [e]); exact q9 t (by omega)) (f9.tr (Fr.sL (by omega) (by omega))) k9)
                                        ·
                                          have c294 : ¬ nI ξ ≤ (xI h (k + 3) θ) - (nI ν) := c294
                                          refine r_aload_n C (dx dX7_copy 101 rfl) rfl ?_
                                          refine r_bipush (v := -2) C (dx dX7_copy 102 rfl) rfl ?_
                                          refine r_cv (as := [vi (-2)]) (st := []) C X I_X7_refuse l_X7_83 (c_X7_refuse hm (x := -2) (j := 2) (by decide) (by decide)) (by decide) (Nat.le_of_ble_eq_true rfl) List.prefix_rfl List.prefix_rfl rfl rfl (Nat.le_of_ble_eq_true rfl) rfl (dx dX7_copy 103 rfl) ?_
                                          rintro _ h301 ⟨rfl, ⟨wh301, m9h301, s9h301⟩, qh301⟩ kkh301
                                          obtain ⟨vh301, mh301, zh301⟩ : ∃ v9, MilAt h301 k v9 ∧ Sz v v9 := ⟨_, m9h301, s9h301⟩
                                          have ph301 : Kp k h h301 := qh301
                                          have kh301 : xK h301 = xK h := kkh301
                                          obtain ⟨ah301, bh301, ch301⟩ := zh301
                                          have eA : copA g (nI π) (nI θ) (nI ι) (nI ξ) (nI ν) = -2 := by (have hq : ¬ (ι + ν ≤ ν1 ∧ ξ + ν ≤ ν2) := by omega); (have hq2 := cp_row e31 e32 (i := ι) (j := ξ) (n := ν) (by omega) (by omega) (by omega) (by omega) (by omega)); rw [decide_eq_false hq] at hq2; simp [copA, copG, copF, c1, c3, c276, c278, c279, c282, c284, c286, c288, c290, c292, c294, e01, e11, e21, e31, e41, e51, e61, e71, e02, e12, e22, e32, e42, e52, e62, e72, clN (show π < 2 ^ 31 by omega), clN (show θ < 2 ^ 31 by omega), clN (show ν < 2 ^ 31 by omega), clN (show ι < 2 ^ 31 by omega), clN (show ξ < 2 ^ 31 by omega), inR_nI (show π < 2 ^ 31 by omega), inR_nI (show θ < 2 ^ 31 by omega), inR_nI (show ν < 2 ^ 31 by omega), inR_nI (show ι < 2 ^ 31 by omega), inR_nI (show ξ < 2 ^ 31 by omega), hq2, show π < 8 by omega, show θ < 8 by omega]
                                          have eG : copG g (nI π) (nI θ) (nI ι) (nI ξ) (nI ν) = g := by (have hq : ¬ (ι + ν ≤ ν1 ∧ ξ + ν ≤ ν2) := by omega); (have hq2 := cp_row e31 e32 (i := ι) (j := ξ) (n := ν) (by omega) (by omega) (by omega) (by omega) (by omega)); rw [decide_eq_false hq] at hq2; simp [copA, copG, copF, c1, c3, c276, c278, c279, c282, c284, c286, c288, c290, c292, c294, e01, e11, e21, e31, e41, e51, e61, e71, e02, e12, e22, e32, e42, e52, e62, e72, clN (show π < 2 ^ 31 by omega), clN (show θ < 2 ^ 31 by omega), clN (show ν < 2 ^ 31 by omega), clN (show ι < 2 ^ 31 by omega), clN (show ξ < 2 ^ 31 by omega), inR_nI (show π < 2 ^ 31 by omega), inR_nI (show θ < 2 ^ 31 by omega), inR_nI (show ν < 2 ^ 31 by omega), inR_nI (show ι < 2 ^ 31 by omega), inR_nI (show ξ < 2 ^ 31 by omega), hq2, show π < 8 by omega, show θ < 8 by omega]
                                          exact F.1 _ _ _ _ _ rfl rfl (dx dX7_copy 104 rfl) kh301 (show some (vi (-2)) = some (vi (copA g (nI π) (nI θ) (nI ι) (nI ξ) (nI ν))) ∧ (∃ v', MilAt h301 k v') ∧ MshAt h301 k (copG g (nI π) (nI θ) (nI ι) (nI ξ) (nI ν)) ∧ Ks k h h301 from by rw [eA, eG]; exact ⟨rfl, ⟨_, mh301⟩, hs.kp ph301, ph301.ks⟩))
                      · first
                        | (omega; done)
                        | (
                            have c279 : 2 = 1 := c279
                            refine r_aload_n C (dx dX7_copy 34 rfl) rfl ?_
                            refine g_X7_7 C (dx dX7_copy 35 rfl) ?_
                            refine r_iload_n C (dx dX7_copy 36 rfl) rfl ?_
                            refine r_iald (j := θ) (x := nI 2) C rfl rfl (by decide) rfl (by omega) (dx dX7_copy 37 rfl) a42 ?_
                            refine r_iconst (v := nI 1) C (dx dX7_copy 38 rfl) rfl ?_
                            refine rn_ne (a := 2) (b := 1) (tgt := 93) C (by omega) (by omega) (dx dX7_copy 39 rfl) (by decide) (fun c302 => ?_) (fun c302 => ?_)
                            ·
                              have c302 : ¬ 2 = 1 := c302
                              exact absurd c279 c302
                            · first
                              | (omega; done)
                              | (
                                  have c302 : 2 = 1 := c302
                                  refine r_aload_n C (dx dX7_copy 40 rfl) rfl ?_
                                  refine g_X7_13 C (dx dX7_copy 41 rfl) ?_
                                  refine r_iload_n C (dx dX7_copy 42 rfl) rfl ?_
                                  refine r_iald (j := π) (x := xI h (k + 2) π) C rfl rfl (by decide) rfl (by omega) (dx dX7_copy 43 rfl) rfl ?_
                                  refine r_aload_n C (dx dX7_copy 44 rfl) rfl ?_
                                  refine g_X7_13 C (dx dX7_copy 45 rfl) ?_
                                  refine r_iload_n C (dx dX7_copy 46 rfl) rfl ?_
                                  refine r_iald (j := θ) (x := xI h (k + 2) θ) C rfl rfl (by decide) rfl (by omega) (dx dX7_copy 47 rfl) rfl ?_
                                  refine r_icmp_eq (tgt := 93) C (dx dX7_copy 48 rfl) (by decide) (fun c303 => ?_) (fun c303 => ?_)
                                  ·
                                    have c303 : xI h (k + 2) π = xI h (k + 2) θ := c303
                                    refine r_aload_n C (dx dX7_copy 53 rfl) rfl ?_
                                    refine g_X7_7 C (dx dX7_copy 54 rfl) ?_
                                    refine r_iload_n C (dx dX7_copy 55 rfl) rfl ?_
                                    refine r_iald (j := π) (x := nI 2) C rfl rfl (by decide) rfl (by omega) (dx dX7_copy 56 rfl) a41 ?_
                                    refine r_if_eq (tgt := 111) C (dx dX7_copy 57 rfl) (by decide) (fun c304 => (show False from by revert c304; decide).elim) (fun _ => ?_)
                                    refine r_aload_n C (dx dX7_copy 58 rfl) rfl ?_
                                    refine g_X7_7 C (dx dX7_copy 59 rfl) ?_
                                    refine r_iload_n C (dx dX7_copy 60 rfl) rfl ?_
                                    refine r_iald (j := θ) (x := nI 2) C rfl rfl (by decide) rfl (by omega) (dx dX7_copy 61 rfl) a42 ?_
                                    refine r_if_ne (tgt := 118) C (dx dX7_copy 62 rfl) (by decide) (fun _ => ?_) (fun c305 => (show False from by revert c305; decide).elim)
                                    refine r_iload C (dx dX7_copy 67 rfl) rfl ?_
                                    refine r_if_lt (tgt := 181) C (dx dX7_copy 68 rfl) (by decide) (fun c306 => ?_) (fun c306 => ?_)
                                    ·
                                      have c306 : n < 0 := c306
                                      refine r_aload_n C (dx dX7_copy 101 rfl) rfl ?_
                                      refine r_bipush (v := -2) C (dx dX7_copy 102 rfl) rfl ?_
                                      refine r_cv (as := [vi (-2)]) (st := []) C X I_X7_refuse l_X7_83 (c_X7_refuse hm (x := -2) (j := 2) (by decide) (by decide)) (by decide) (Nat.le_of_ble_eq_true rfl) List.prefix_rfl List.prefix_rfl rfl rfl (Nat.le_of_ble_eq_true rfl) rfl (dx dX7_copy 103 rfl) ?_
                                      rintro _ h307 ⟨rfl, ⟨wh307, m9h307, s9h307⟩, qh307⟩ kkh307
                                      obtain ⟨vh307, mh307, zh307⟩ : ∃ v9, MilAt h307 k v9 ∧ Sz v v9 := ⟨_, m9h307, s9h307⟩
                                      have ph307 : Kp k h h307 := qh307
                                      have kh307 : xK h307 = xK h := kkh307
                                      obtain ⟨ah307, bh307, ch307⟩ := zh307
                                      have eA : copA g (nI π) (nI θ) i j n = -2 := by simp [copA, copG, copF, cpOk, c1, c3, c276, c278, c279, c302, c303, (fun n9 => inR_neg (n := n9) c306 : ∀ n9, inR n n9 = false), c306, e01, e11, e21, e31, e41, e51, e61, e71, e02, e12, e22, e32, e42, e52, e62, e72, clN (show π < 2 ^ 31 by omega), clN (show θ < 2 ^ 31 by omega), inR_nI (show π < 2 ^ 31 by omega), inR_nI (show θ < 2 ^ 31 by omega), show π < 8 by omega, show θ < 8 by omega]
                                      have eG : copG g (nI π) (nI θ) i j n = g := by simp [copA, copG, copF, cpOk, c1, c3, c276, c278, c279, c302, c303, (fun n9 => inR_neg (n := n9) c306 : ∀ n9, inR n n9 = false), c306, e01, e11, e21, e31, e41, e51, e61, e71, e02, e12, e22, e32, e42, e52, e62, e72, clN (show π < 2 ^ 31 by omega), clN (show θ < 2 ^ 31 by omega), inR_nI (show π < 2 ^ 31 by omega), inR_nI (show θ < 2 ^ 31 by omega), show π < 8 by omega, show θ < 8 by omega]
                                      exact F.1 _ _ _ _ _ rfl rfl (dx dX7_copy 104 rfl) kh307 (show some (vi (-2)) = some (vi (copA g (nI π) (nI θ) i j n)) ∧ (∃ v', MilAt h307 k v') ∧ MshAt h307 k (copG g (nI π) (nI θ) i j n) ∧ Ks k h h307 from by rw [eA, eG]; exact ⟨rfl, ⟨_, mh307⟩, hs.kp ph307, ph307.ks⟩)
                                    ·
                                      have c306 : ¬ n < 0 := c306
                                      obtain ⟨ν, hν, rfl⟩ := nI_of c306
                                      refine r_iload_n C (dx dX7_copy 69 rfl) rfl ?_
                                      refine r_if_lt (tgt := 181) C (dx dX7_copy 70 rfl) (by decide) (fun c308 => ?_) (fun c308 => ?_)
                                      ·
                                        have c308 : i < 0 := c308
                                        refine r_aload_n C (dx dX7_copy 101 rfl) rfl ?_
                                        refine r_bipush (v := -2) C (dx dX7_copy 102 rfl) rfl ?_
                                        refine r_cv (as := [vi (-2)]) (st := []) C X I_X7_refuse l_X7_83 (c_X7_refuse hm (x := -2) (j := 2) (by decide) (by decide)) (by decide) (Nat.le_of_ble_eq_true rfl) List.prefix_rfl List.prefix_rfl rfl rfl (Nat.le_of_ble_eq_true rfl) rfl (dx dX7_copy 103 rfl) ?_
                                        rintro _ h309 ⟨rfl, ⟨wh309, m9h309, s9h309⟩, qh309⟩ kkh309
                                        obtain ⟨vh309, mh309, zh309⟩ : ∃ v9, MilAt h309 k v9 ∧ Sz v v9 := ⟨_, m9h309, s9h309⟩
                                        have ph309 : Kp k h h309 := qh309
                                        have kh309 : xK h309 = xK h := kkh309
                                        obtain ⟨ah309, bh309, ch309⟩ := zh309
                                        have eA : copA g (nI π) (nI θ) i j (nI ν) = -2 := by simp [copA, copG, copF, cpOk, c1, c3, c276, c278, c279, c302, c303, c306, (fun n9 => inR_neg (n := n9) c308 : ∀ n9, inR i n9 = false), c308, e01, e11, e21, e31, e41, e51, e61, e71, e02, e12, e22, e32, e42, e52, e62, e72, clN (show π < 2 ^ 31 by omega), clN (show θ < 2 ^ 31 by omega), clN (show ν < 2 ^ 31 by omega), inR_nI (show π < 2 ^ 31 by omega), inR_nI (show θ < 2 ^ 31 by omega), inR_nI (show ν < 2 ^ 31 by omega), show π < 8 by omega, show θ < 8 by omega]
                                        have eG : copG g (nI π) (nI θ) i j (nI ν) = g := by simp [copA, copG, copF, cpOk, c1, c3, c276, c278, c279, c302, c303, c306, (fun n9 => inR_neg (n := n9) c308 : ∀ n9, inR i n9 = false), c308, e01, e11, e21, e31, e41, e51, e61, e71, e02, e12, e22, e32, e42, e52, e62, e72, clN (show π < 2 ^ 31 by omega), clN (show θ < 2 ^ 31 by omega), clN (show ν < 2 ^ 31 by omega), inR_nI (show π < 2 ^ 31 by omega), inR_nI (show θ < 2 ^ 31 by omega), inR_nI (show ν < 2 ^ 31 by omega), show π < 8 by omega, show θ < 8 by omega]
                                        exact F.1 _ _ _ _ _ rfl rfl (dx dX7_copy 104 rfl) kh309 (show some (vi (-2)) = some (vi (copA g (nI π) (nI θ) i j (nI ν))) ∧ (∃ v', MilAt h309 k v') ∧ MshAt h309 k (copG g (nI π) (nI θ) i j (nI ν)) ∧ Ks k h h309 from by rw [eA, eG]; exact ⟨rfl, ⟨_, mh309⟩, hs.kp ph309, ph309.ks⟩)
                                      ·
                                        have c308 : ¬ i < 0 := c308
                                        obtain ⟨ι, hι, rfl⟩ := nI_of c308
                                        refine r_iload C (dx dX7_copy 71 rfl) rfl ?_
                                        refine r_if_lt (tgt := 181) C (dx dX7_copy 72 rfl) (by decide) (fun c310 => ?_) (fun c310 => ?_)
                                        ·
                                          have c310 : j < 0 := c310
                                          refine r_aload_n C (dx dX7_copy 101 rfl) rfl ?_
                                          refine r_bipush (v := -2) C (dx dX7_copy 102 rfl) rfl ?_
                                          refine r_cv (as := [vi (-2)]) (st := []) C X I_X7_refuse l_X7_83 (c_X7_refuse hm (x := -2) (j := 2) (by decide) (by decide)) (by decide) (Nat.le_of_ble_eq_true rfl) List.prefix_rfl List.prefix_rfl rfl rfl (Nat.le_of_ble_eq_true rfl) rfl (dx dX7_copy 103 rfl) ?_
                                          rintro _ h311 ⟨rfl, ⟨wh311, m9h311, s9h311⟩, qh311⟩ kkh311
                                          obtain ⟨vh311, mh311, zh311⟩ : ∃ v9, MilAt h311 k v9 ∧ Sz v v9 := ⟨_, m9h311, s9h311⟩
                                          have ph311 : Kp k h h311 := qh311
                                          have kh311 : xK h311 = xK h := kkh311
                                          obtain ⟨ah311, bh311, ch311⟩ := zh311
                                          have eA : copA g (nI π) (nI θ) (nI ι) j (nI ν) = -2 := by simp [copA, copG, copF, cpOk, c1, c3, c276, c278, c279, c302, c303, c306, c308, (fun n9 => inR_neg (n := n9) c310 : ∀ n9, inR j n9 = false), c310, e01, e11, e21, e31, e41, e51, e61, e71, e02, e12, e22, e32, e42, e52, e62, e72, clN (show π < 2 ^ 31 by omega), clN (show θ < 2 ^ 31 by omega), clN (show ν < 2 ^ 31 by omega), clN (show ι < 2 ^ 31 by omega), inR_nI (show π < 2 ^ 31 by omega), inR_nI (show θ < 2 ^ 31 by omega), inR_nI (show ν < 2 ^ 31 by omega), inR_nI (show ι < 2 ^ 31 by omega), show π < 8 by omega, show θ < 8 by omega]
                                          have eG : copG g (nI π) (nI θ) (nI ι) j (nI ν) = g := by simp [copA, copG, copF, cpOk, c1, c3, c276, c278, c279, c302, c303, c306, c308, (fun n9 => inR_neg (n := n9) c310 : ∀ n9, inR j n9 = false), c310, e01, e11, e21, e31, e41, e51, e61, e71, e02, e12, e22, e32, e42, e52, e62, e72, clN (show π < 2 ^ 31 by omega), clN (show θ < 2 ^ 31 by omega), clN (show ν < 2 ^ 31 by omega), clN (show ι < 2 ^ 31 by omega), inR_nI (show π < 2 ^ 31 by omega), inR_nI (show θ < 2 ^ 31 by omega), inR_nI (show ν < 2 ^ 31 by omega), inR_nI (show ι < 2 ^ 31 by omega), show π < 8 by omega, show θ < 8 by omega]
                                          exact F.1 _ _ _ _ _ rfl rfl (dx dX7_copy 104 rfl) kh311 (show some (vi (-2)) = some (vi (copA g (nI π) (nI θ) (nI ι) j (nI ν))) ∧ (∃ v', MilAt h311 k v') ∧ MshAt h311 k (copG g (nI π) (nI θ) (nI ι) j (nI ν)) ∧ Ks k h h311 from by rw [eA, eG]; exact ⟨rfl, ⟨_, mh311⟩, hs.kp ph311, ph311.ks⟩)
                                        ·
                                          have c310 : ¬ j < 0 := c310
                                          obtain ⟨ξ, hξ, rfl⟩ := nI_of c310
                                          refine r_iload C (dx dX7_copy 73 rfl) rfl ?_
                                          refine r_aload_n C (dx dX7_copy 74 rfl) rfl ?_
                                          refine g_X7_16 C (dx dX7_copy 75 rfl) ?_
                                          refine r_iload_n C (dx dX7_copy 76 rfl) rfl ?_
                                          refine r_iald (j := π) (x := xI h (k + 3) π) C rfl rfl (by decide) rfl (by omega) (dx dX7_copy 77 rfl) rfl ?_
                                          refine r_icmp_gt (tgt := 181) C (dx dX7_copy 78 rfl) (by decide) (fun c312 => ?_) (fun c312 => ?_)
                                          ·
                                            have c312 : xI h (k + 3) π < nI ν := c312
                                            refine r_aload_n C (dx dX7_copy 101 rfl) rfl ?_
                                            refine r_bipush (v := -2) C (dx dX7_copy 102 rfl) rfl ?_
                                            refine r_cv (as := [vi (-2)]) (st := []) C X I_X7_refuse l_X7_83 (c_X7_refuse hm (x := -2) (j := 2) (by decide) (by decide)) (by decide) (Nat.le_of_ble_eq_true rfl) List.prefix_rfl List.prefix_rfl rfl rfl (Nat.le_of_ble_eq_true rfl) rfl (dx dX7_copy 103 rfl) ?_
                                            rintro _ h313 ⟨rfl, ⟨wh313, m9h313, s9h313⟩, qh313⟩ kkh313
                                            obtain ⟨vh313, mh313, zh313⟩ : ∃ v9, MilAt h313 k v9 ∧ Sz v v9 := ⟨_, m9h313, s9h313⟩
                                            have ph313 : Kp k h h313 := qh313
                                            have kh313 : xK h313 = xK h := kkh313
                                            obtain ⟨ah313, bh313, ch313⟩ := zh313
                                            have eA : copA g (nI π) (nI θ) (nI ι) (nI ξ) (nI ν) = -2 := by (have hq : ¬ (ι + ν ≤ ν1 ∧ ξ + ν ≤ ν2) := by omega); (have hq2 := cp_row e31 e32 (i := ι) (j := ξ) (n := ν) (by omega) (by omega) (by omega) (by omega) (by omega)); rw [decide_eq_false hq] at hq2; simp [copA, copG, copF, c1, c3, c276, c278, c279, c302, c303, c306, c308, c310, c312, e01, e11, e21, e31, e41, e51, e61, e71, e02, e12, e22, e32, e42, e52, e62, e72, clN (show π < 2 ^ 31 by omega), clN (show θ < 2 ^ 31 by omega), clN (show ν < 2 ^ 31 by omega), clN (show ι < 2 ^ 31 by omega), clN (show ξ < 2 ^ 31 by omega), inR_nI (show π < 2 ^ 31 by omega), inR_nI (show θ < 2 ^ 31 by omega), inR_nI (show ν < 2 ^ 31 by omega), inR_nI (show ι < 2 ^ 31 by omega), inR_nI (show ξ < 2 ^ 31 by omega), hq2, show π < 8 by omega, show θ < 8 by omega]
                                            have eG : copG g (nI π) (nI θ) (nI ι) (nI ξ) (nI ν) = g := by (have hq : ¬ (ι + ν ≤ ν1 ∧ ξ + ν ≤ ν2) := by omega); (have hq2 := cp_row e31 e32 (i := ι) (j := ξ) (n := ν) (by omega) (by omega) (by omega) (by omega) (by omega)); rw [decide_eq_false hq] at hq2; simp [copA, copG, copF, c1, c3, c276, c278, c279, c302, c303, c306, c308, c310, c312, e01, e11, e21, e31, e41, e51, e61, e71, e02, e12, e22, e32, e42, e52, e62, e72, clN (show π < 2 ^ 31 by omega), clN (show θ < 2 ^ 31 by omega), clN (show ν < 2 ^ 31 by omega), clN (show ι < 2 ^ 31 by omega), clN (show ξ < 2 ^ 31 by omega), inR_nI (show π < 2 ^ 31 by omega), inR_nI (show θ < 2 ^ 31 by omega), inR_nI (show ν < 2 ^ 31 by omega), inR_nI (show ι < 2 ^ 31 by omega), inR_nI (show ξ < 2 ^ 31 by omega), hq2, show π < 8 by omega, show θ < 8 by omega]
                                            exact F.1 _ _ _ _ _ rfl rfl (dx dX7_copy 104 rfl) kh313 (show some (vi (-2)) = some (vi (copA g (nI π) (nI θ) (nI ι) (nI ξ) (nI ν))) ∧ (∃ v', MilAt h313 k v') ∧ MshAt h313 k (copG g (nI π) (nI θ) (nI ι) (nI ξ) (nI ν)) ∧ Ks k h h313 from by rw [eA, eG]; exact ⟨rfl, ⟨_, mh313⟩, hs.kp ph313, ph313.ks⟩)
                                          ·
                                            have c312 : ¬ xI h (k + 3) π < nI ν := c312
                                            refine r_iload C (dx dX7_copy 79 rfl) rfl ?_
                                            refine r_aload_n C (dx dX7_copy 80 rfl) rfl ?_
                                            refine g_X7_16 C (dx dX7_copy 81 rfl) ?_
                                            refine r_iload_n C (dx dX7_copy 82 rfl) rfl ?_
                                            refine r_iald (j := θ) (x := xI h (k + 3) θ) C rfl rfl (by decide) rfl (by omega) (dx dX7_copy 83 rfl) rfl ?_
                                            refine r_icmp_gt (tgt := 181) C (dx dX7_copy 84 rfl) (by decide) (fun c314 => ?_) (fun c314 => ?_)
                                            ·
                                              have c314 : xI h (k + 3) θ < nI ν := c314
                                              refine r_aload_n C (dx dX7_copy 101 rfl) rfl ?_
                                              refine r_bipush (v := -2) C (dx dX7_copy 102 rfl) rfl ?_
                                              refine r_cv (as := [vi (-2)]) (st := []) C X I_X7_refuse l_X7_83 (c_X7_refuse hm (x := -2) (j := 2) (by decide) (by decide)) (by decide) (Nat.le_of_ble_eq_true rfl) List.prefix_rfl List.prefix_rfl rfl rfl (Nat.le_of_ble_eq_true rfl) rfl (dx dX7_copy 103 rfl) ?_
                                              rintro _ h315 ⟨rfl, ⟨wh315, m9h315, s9h315⟩, qh315⟩ kkh315
                                              obtain ⟨vh315, mh315, zh315⟩ : ∃ v9, MilAt h315 k v9 ∧ Sz v v9 := ⟨_, m9h315, s9h315⟩
                                              have ph315 : Kp k h h315 := qh315
                                              have kh315 : xK h315 = xK h := kkh315
                                              obtain ⟨ah315, bh315, ch315⟩ := zh315
                                              have eA : copA g (nI π) (nI θ) (nI ι) (nI ξ) (nI ν) = -2 := by (have hq : ¬ (ι + ν ≤ ν1 ∧ ξ + ν ≤ ν2) := by omega); (have hq2 := cp_row e31 e32 (i := ι) (j := ξ) (n := ν) (by omega) (by omega) (by omega) (by omega) (by omega)); rw [decide_eq_false hq] at hq2; simp [copA, copG, copF, c1, c3, c276, c278, c279, c302, c303, c306, c308, c310, c312, c314, e01, e11, e21, e31, e41, e51, e61, e71, e02, e12, e22, e32, e42, e52, e62, e72, clN (show π < 2 ^ 31 by omega), clN (show θ < 2 ^ 31 by omega), clN (show ν < 2 ^ 31 by omega), clN (show ι < 2 ^ 31 by omega), clN (show ξ < 2 ^ 31 by omega), inR_nI (show π < 2 ^ 31 by omega), inR_nI (show θ < 2 ^ 31 by omega), inR_nI (show ν < 2 ^ 31 by omega), inR_nI (show ι < 2 ^ 31 by omega), inR_nI (show ξ < 2 ^ 31 by omega), hq2, show π < 8 by omega, show θ < 8 by omega]
                                              have eG : copG g (nI π) (nI θ) (nI ι) (nI ξ) (nI ν) = g := by (have hq : ¬ (ι + ν ≤ ν1 ∧ ξ + ν ≤ ν2) := by omega); (have hq2 := cp_row e31 e32 (i := ι) (j := ξ) (n := ν) (by omega) (by omega) (by omega) (by omega) (by omega)); rw [decide_eq_false hq] at hq2; simp [copA, copG, copF, c1, c3, c276, c278, c279, c302, c303, c306, c308, c310, c312, c314, e01, e11, e21, e31, e41, e51, e61, e71, e02, e12, e22, e32, e42, e52, e62, e72, clN (show π < 2 ^ 31 by omega), clN (show θ < 2 ^ 31 by omega), clN (show ν < 2 ^ 31 by omega), clN (show ι < 2 ^ 31 by omega), clN (show ξ < 2 ^ 31 by omega), inR_nI (show π < 2 ^ 31 by omega), inR_nI (show θ < 2 ^ 31 by omega), inR_nI (show ν < 2 ^ 31 by omega), inR_nI (show ι < 2 ^ 31 by omega), inR_nI (show ξ < 2 ^ 31 by omega), hq2, show π < 8 by omega, show θ < 8 by omega]
                                              exact F.1 _ _ _ _ _ rfl rfl (dx dX7_copy 104 rfl) kh315 (show some (vi (-2)) = some (vi (copA g (nI π) (nI θ) (nI ι) (nI ξ) (nI ν))) ∧ (∃ v', MilAt h315 k v') ∧ MshAt h315 k (copG g (nI π) (nI θ) (nI ι) (nI ξ) (nI ν)) ∧ Ks k h h315 from by rw [eA, eG]; exact ⟨rfl, ⟨_, mh315⟩, hs.kp ph315, ph315.ks⟩)
                                            ·
                                              have c314 : ¬ xI h (k + 3) θ < nI ν := c314
                                              refine r_iload_n C (dx dX7_copy 85 rfl) rfl ?_
                                              refine r_aload_n C (dx dX7_copy 86 rfl) rfl ?_
                                              refine g_X7_16 C (dx dX7_copy 87 rfl) ?_
                                              refine r_iload_n C (dx dX7_copy 88 rfl) rfl ?_
                                              refine r_iald (j := π) (x := xI h (k + 3) π) C rfl rfl (by decide) rfl (by omega) (dx dX7_copy 89 rfl) rfl ?_
                                              refine r_iload C (dx dX7_copy 90 rfl) rfl ?_
                                              refine r_isub C (dx dX7_copy 91 rfl) ?_
                                              refine r_icmp_gt (tgt := 181) C (dx dX7_copy 92 rfl) (by decide) (fun c316 => ?_) (fun c316 => ?_)
                                              ·
                                                have c316 : (xI h (k + 3) π) - (nI ν) < nI ι := c316
                                                refine r_aload_n C (dx dX7_copy 101 rfl) rfl ?_
                                                refine r_bipush (v := -2) C (dx dX7_copy 102 rfl) rfl ?_
                                                refine r_cv (as := [vi (-2)]) (st := []) C X I_X7_refuse l_X7_83 (c_X7_refuse hm (x := -2) (j := 2) (by decide) (by decide)) (by decide) (Nat.le_of_ble_eq_true rfl) List.prefix_rfl List.prefix_rfl rfl rfl (Nat.le_of_ble_eq_true rfl) rfl (dx dX7_copy 103 rfl) ?_
                                                rintro _ h317 ⟨rfl, ⟨wh317, m9h317, s9h317⟩, qh317⟩ kkh317
                                                obtain ⟨vh317, mh317, zh317⟩ : ∃ v9, MilAt h317 k v9 ∧ Sz v v9 := ⟨_, m9h317, s9h317⟩
                                                have ph317 : Kp k h h317 := qh317
                                                have kh317 : xK h317 = xK h := kkh317
                                                obtain ⟨ah317, bh317, ch317⟩ := zh317
                                                have eA : copA g (nI π) (nI θ) (nI ι) (nI ξ) (nI ν) = -2 := by (have hq : ¬ (ι + ν ≤ ν1 ∧ ξ + ν ≤ ν2) := by omega); (have hq2 := cp_row e31 e32 (i := ι) (j := ξ) (n := ν) (by omega) (by omega) (by omega) (by omega) (by omega)); rw [decide_eq_false hq] at hq2; simp [copA, copG, copF, c1, c3, c276, c278, c279, c302, c303, c306, c308, c310, c312, c314, c316, e01, e11, e21, e31, e41, e51, e61, e71, e02, e12, e22, e32, e42, e52, e62, e72, clN (show π < 2 ^ 31 by omega), clN (show θ < 2 ^ 31 by omega), clN (show ν < 2 ^ 31 by omega), clN (show ι < 2 ^ 31 by omega), clN (show ξ < 2 ^ 31 by omega), inR_nI (show π < 2 ^ 31 by omega), inR_nI (show θ < 2 ^ 31 by omega), inR_nI (show ν < 2 ^ 31 by omega), inR_nI (show ι < 2 ^ 31 by omega), inR_nI (show ξ < 2 ^ 31 by omega), hq2, show π < 8 by omega, show θ < 8 by omega]
                                                have eG : copG g (nI π) (nI θ) (nI ι) (nI ξ) (nI ν) = g := by (have hq : ¬ (ι + ν ≤ ν1 ∧ ξ + ν ≤ ν2) := by omega); (have hq2 := cp_row e31 e32 (i := ι) (j := ξ) (n := ν) (by omega) (by omega) (by omega) (by omega) (by omega)); rw [decide_eq_false hq] at hq2; simp [copA, copG, copF, c1, c3, c276, c278, c279, c302, c303, c306, c308, c310, c312, c314, c316, e01, e11, e21, e31, e41, e51, e61, e71, e02, e12, e22, e32, e42, e52, e62, e72, clN (show π < 2 ^ 31 by omega), clN (show θ < 2 ^ 31 by omega), clN (show ν < 2 ^ 31 by omega), clN (show ι < 2 ^ 31 by omega), clN (show ξ < 2 ^ 31 by omega), inR_nI (show π < 2 ^ 31 by omega), inR_nI (show θ < 2 ^ 31 by omega), inR_nI (show ν < 2 ^ 31 by omega), inR_nI (show ι < 2 ^ 31 by omega), inR_nI (show ξ < 2 ^ 31 by omega), hq2, show π < 8 by omega, show θ < 8 by omega]
                                                exact F.1 _ _ _ _ _ rfl rfl (dx dX7_copy 104 rfl) kh317 (show some (vi (-2)) = some (vi (copA g (nI π) (nI θ) (nI ι) (nI ξ) (nI ν))) ∧ (∃ v', MilAt h317 k v') ∧ MshAt h317 k (copG g (nI π) (nI θ) (nI ι) (nI ξ) (nI ν)) ∧ Ks k h h317 from by rw [eA, eG]; exact ⟨rfl, ⟨_, mh317⟩, hs.kp ph317, ph317.ks⟩)
                                              ·
                                                have c316 : ¬ (xI h (k + 3) π) - (nI ν) < nI ι := c316
                                                refine r_iload C (dx dX7_copy 93 rfl) rfl ?_
                                                refine r_aload_n C (dx dX7_copy 94 rfl) rfl ?_
                                                refine g_X7_16 C (dx dX7_copy 95 rfl) ?_
                                                refine r_iload_n C (dx dX7_copy 96 rfl) rfl ?_
                                                refine r_iald (j := θ) (x := xI h (k + 3) θ) C rfl rfl (by decide) rfl (by omega) (dx dX7_copy 97 rfl) rfl ?_
                                                refine r_iload C (dx dX7_copy 98 rfl) rfl ?_
                                                refine r_isub C (dx dX7_copy 99 rfl) ?_
                                                refine r_icmp_le (tgt := 188) C (dx dX7_copy 100 rfl) (by decide) (fun c318 => ?_) (fun c318 => ?_)
                                                ·
                                                  have c318 : nI ξ ≤ (xI h (k + 3) θ) - (nI ν) := c318
                                                  refine r_iconst (v := nI 0) C (dx dX7_copy 105 rfl) rfl ?_
                                                  refine r_istore (ls' := [(0, vr 7 k), (1, vi (nI π)), (2, vi (nI θ)), (3, vi (nI ι)), (4, vi (nI ξ)), (5, vi (nI ν)), (6, vi (nI 0))]) C (dx dX7_copy 106 rfl) (by decide) [1, 2, 3, 4, 5, 6, 0] rfl ?_
                                                  refine loopU (Φ := fun p => ∀ h9, (∀ t, t < p → xL h9 (k + 13) t = gE g π (ι + t)) → Fr (k + 13) (k + 14) h h9 → xK h9 = xK h → Rr G 191 [(0, vr 7 k), (1, vi (nI π)), (2, vi (nI θ)), (3, vi (nI ι)), (4, vi (nI ξ)), (5, vi (nI ν)), (6, vi (nI p))] [] h9) (N := ν) ?_ ?_ 0 (by omega) _ (fun i hi => absurd hi (by omega)) Fr.rf rfl
                                                  ·
                                                    intro h9 q9 f9 k9
                                                    refine r_iload C (dx dX7_copy 107 rfl) rfl ?_
                                                    refine r_iload C (dx dX7_copy 108 rfl) rfl ?_
                                                    refine rn_ge (a := ν) (b := ν) (tgt := 222) C (by omega) (by omega) (dx dX7_copy 109 rfl) (by decide) (fun c319 => ?_) (fun c319 => ?_)
                                                    · first
                                                      | (omega; done)
                                                      | (
                                                          have c319 : ν ≤ ν := c319
                                                          refine r_iconst (v := nI 0) C (dx dX7_copy 124 rfl) rfl ?_
                                                          refine r_istore (ls' := [(0, vr 7 k), (1, vi (nI π)), (2, vi (nI θ)), (3, vi (nI ι)), (4, vi (nI ξ)), (5, vi (nI ν)), (6, vi (nI 0))]) C (dx dX7_copy 125 rfl) (by decide) [1, 2, 3, 4, 5, 6, 0] rfl ?_
                                                          have r9 := MsR.fr (show MsR h k g θ from ⟨_, _, a12, a22, a32, a42, a52, a62, a72, a82⟩) hθ f9
                                                          refine loopU (Φ := fun p => ∀ h8, (∀ i, i < 40 → xL h8 (k + 5 + θ) i = if ξ ≤ i ∧ i < ξ + p then gE g π (ι + (i - ξ)) else gE g θ i) → (∀ t, t < ν → xL h8 (k + 13) t = gE g π (ι + t)) → Fr (k + 5 + θ) (k + 5 + θ + 1) h9 h8 → xK h8 = xK h → Rr G 225 [(0, vr 7 k), (1, vi (nI π)), (2, vi (nI θ)), (3, vi (nI ι)), (4, vi (nI ξ)), (5, vi (nI ν)), (6, vi (nI p))] [] h8) (N := ν) ?_ ?_ 0 (by omega) _ (fun i hi => by rw [if_neg (by omega), f9.L (by omega)]; exact a82 i hi) q9 Fr.rf k9
                                                          ·
                                                            intro h8 q8 u8 f8 k8
                                                            have s9 : MshAt h8 k (pCp g π θ ι ξ ν) := msh_els (hs.mv f9) hθ r9 f8 (fun i hi => by rw [q8 i hi]; rfl)
                                                            have g9 : Fr (k + 1) (k + 17) h h8 := (f9.mono (by omega) (by omega)).tr (f8.mono (by omega) (by omega))
                                                            refine r_iload C (dx dX7_copy 126 rfl) rfl ?_
                                                            refine r_iload C (dx dX7_copy 127 rfl) rfl ?_
                                                            refine rn_ge (a := ν) (b := ν) (tgt := 257) C (by omega) (by omega) (dx dX7_copy 128 rfl) (by decide) (fun c320 => ?_) (fun c320 => ?_)
                                                            · first
                                                              | (omega; done)
                                                              | (
                                                                  have c320 : ν ≤ ν := c320
                                                                  refine r_iload C (dx dX7_copy 143 rfl) rfl ?_
                                                                  have eA : copA g (nI π) (nI θ) (nI ι) (nI ξ) (nI ν) = nI ν := by simp [copA, copG, copF, c1, c3, c276, c278, c279, c302, c303, c306, c308, c310, c312, c314, c316, c318, c319, c320, e01, e11, e21, e31, e41, e51, e61, e71, e02, e12, e22, e32, e42, e52, e62, e72, clN (show π < 2 ^ 31 by omega), clN (show θ < 2 ^ 31 by omega), clN (show ν < 2 ^ 31 by omega), clN (show ι < 2 ^ 31 by omega), clN (show ξ < 2 ^ 31 by omega), inR_nI (show π < 2 ^ 31 by omega), inR_nI (show θ < 2 ^ 31 by omega), inR_nI (show ν < 2 ^ 31 by omega), inR_nI (show ι < 2 ^ 31 by omega), inR_nI (show ξ < 2 ^ 31 by omega), show π < 8 by omega, show θ < 8 by omega, cp_row e31 e32 (by omega) (by omega) (show ι < 2 ^ 31 by omega) (show ξ < 2 ^ 31 by omega) (show ν < 2 ^ 31 by omega), show ι + ν ≤ ν1 by omega, show ξ + ν ≤ ν2 by omega]
                                                                  have eG : copG g (nI π) (nI θ) (nI ι) (nI ξ) (nI ν) = pCp g π θ ι ξ ν := by simp [copA, copG, copF, c1, c3, c276, c278, c279, c302, c303, c306, c308, c310, c312, c314, c316, c318, c319, c320, e01, e11, e21, e31, e41, e51, e61, e71, e02, e12, e22, e32, e42, e52, e62, e72, clN (show π < 2 ^ 31 by omega), clN (show θ < 2 ^ 31 by omega), clN (show ν < 2 ^ 31 by omega), clN (show ι < 2 ^ 31 by omega), clN (show ξ < 2 ^ 31 by omega), inR_nI (show π < 2 ^ 31 by omega), inR_nI (show θ < 2 ^ 31 by omega), inR_nI (show ν < 2 ^ 31 by omega), inR_nI (show ι < 2 ^ 31 by omega), inR_nI (show ξ < 2 ^ 31 by omega), show π < 8 by omega, show θ < 8 by omega, cp_row e31 e32 (by omega) (by omega) (show ι < 2 ^ 31 by omega) (show ξ < 2 ^ 31 by omega) (show ν < 2 ^ 31 by omega), show ι + ν ≤ ν1 by omega, show ξ + ν ≤ ν2 by omega]
                                                                  exact F.1 _ _ _ _ _ rfl rfl (dx dX7_copy 144 rfl) k8 (show some (vi (nI ν)) = some (vi (copA g (nI π) (nI θ) (nI ι) (nI ξ) (nI ν))) ∧ (∃ v', MilAt h8 k v') ∧ MshAt h8 k (copG g (nI π) (nI θ) (nI ι) (nI ξ) (nI ν)) ∧ Ks k h h8 from by rw [eA, eG]; exact ⟨rfl, ⟨_, hm.fr g9 (by omega)⟩, s9, (Ks.fr g9 (by omega) (by omega))⟩))
                                                            · first
                                                              | (omega; done)
                                                          ·
                                                            intro p hp ih h8 q8 u8 f8 k8
                                                            refine r_iload C (dx dX7_copy 126 rfl) rfl ?_
                                                            refine r_iload C (dx dX7_copy 127 rfl) rfl ?_
                                                            refine rn_ge (a := p) (b := ν) (tgt := 257) C (by omega) (by omega) (dx dX7_copy 128 rfl) (by decide) (fun c321 => ?_) (fun c321 => ?_)
                                                            · first
                                                              | (omega; done)
                                                              | (
                                                                  have c321 : ν ≤ p := c321
                                                                  refine r_iload C (dx dX7_copy 143 rfl) rfl ?_
                                                                  have eA : copA g (nI π) (nI θ) (nI ι) (nI ξ) (nI ν) = nI ν := by simp [copA, copG, copF, c1, c3, c276, c278, c279, c302, c303, c306, c308, c310, c312, c314, c316, c318, c319, c321, e01, e11, e21, e31, e41, e51, e61, e71, e02, e12, e22, e32, e42, e52, e62, e72, clN (show π < 2 ^ 31 by omega), clN (show θ < 2 ^ 31 by omega), clN (show ν < 2 ^ 31 by omega), clN (show ι < 2 ^ 31 by omega), clN (show ξ < 2 ^ 31 by omega), inR_nI (show π < 2 ^ 31 by omega), inR_nI (show θ < 2 ^ 31 by omega), inR_nI (show ν < 2 ^ 31 by omega), inR_nI (show ι < 2 ^ 31 by omega), inR_nI (show ξ < 2 ^ 31 by omega), show π < 8 by omega, show θ < 8 by omega, cp_row e31 e32 (by omega) (by omega) (show ι < 2 ^ 31 by omega) (show ξ < 2 ^ 31 by omega) (show ν < 2 ^ 31 by omega), show ι + ν ≤ ν1 by omega, show ξ + ν ≤ ν2 by omega]
                                                                  have eG : copG g (nI π) (nI θ) (nI ι) (nI ξ) (nI ν) = g := by simp [copA, copG, copF, c1, c3, c276, c278, c279, c302, c303, c306, c308, c310, c312, c314, c316, c318, c319, c321, e01, e11, e21, e31, e41, e51, e61, e71, e02, e12, e22, e32, e42, e52, e62, e72, clN (show π < 2 ^ 31 by omega), clN (show θ < 2 ^ 31 by omega), clN (show ν < 2 ^ 31 by omega), clN (show ι < 2 ^ 31 by omega), clN (show ξ < 2 ^ 31 by omega), inR_nI (show π < 2 ^ 31 by omega), inR_nI (show θ < 2 ^ 31 by omega), inR_nI (show ν < 2 ^ 31 by omega), inR_nI (show ι < 2 ^ 31 by omega), inR_nI (show ξ < 2 ^ 31 by omega), show π < 8 by omega, show θ < 8 by omega, cp_row e31 e32 (by omega) (by omega) (show ι < 2 ^ 31 by omega) (show ξ < 2 ^ 31 by omega) (show ν < 2 ^ 31 by omega), show ι + ν ≤ ν1 by omega, show ξ + ν ≤ ν2 by omega]
                                                                  exact F.1 _ _ _ _ _ rfl rfl (dx dX7_copy 144 rfl) k8 (show some (vi (nI ν)) = some (vi (copA g (nI π) (nI θ) (nI ι) (nI ξ) (nI ν))) ∧ (∃ v', MilAt h8 k v') ∧ MshAt h8 k (copG g (nI π) (nI θ) (nI ι) (nI ξ) (nI ν)) ∧ Ks k h h8 from by rw [eA, eG]; exact ⟨rfl, ⟨_, hm⟩, hs, Ks.rf⟩))
                                                            · first
                                                              | (omega; done)
                                                              | (
                                                                  have c321 : p < ν := c321
                                                                  refine r_aload_n C (dx dX7_copy 129 rfl) rfl ?_
                                                                  refine g_X7_21 C (dx dX7_copy 130 rfl) ?_
                                                                  refine r_iload_n C (dx dX7_copy 131 rfl) rfl ?_
                                                                  refine r_aald5 (j := θ) C rfl rfl (by decide) rfl (by omega) (dx dX7_copy 132 rfl) ?_
                                                                  refine r_iload C (dx dX7_copy 133 rfl) rfl ?_
                                                                  refine r_iload C (dx dX7_copy 134 rfl) rfl ?_
                                                                  refine rn_iadd (a := ξ) (b := p) C (dx dX7_copy 135 rfl) ?_
                                                                  refine r_aload_n C (dx dX7_copy 136 rfl) rfl ?_
                                                                  refine g_X7_24 C (dx dX7_copy 137 rfl) ?_
                                                                  refine r_iload C (dx dX7_copy 138 rfl) rfl ?_
                                                                  refine r_lald (j := p) (x := gE g π (ι + p)) C rfl rfl (by decide) rfl (by omega) (dx dX7_copy 139 rfl) (u8 _ (by omega)) ?_
                                                                  refine r_last (j := ξ + p) C rfl rfl (by decide) rfl (by omega) (dx dX7_copy 140 rfl) ?_
                                                                  refine rn_iinc (a := p) (k := 1) (ls' := [(0, vr 7 k), (1, vi (nI π)), (2, vi (nI θ)), (3, vi (nI ι)), (4, vi (nI ξ)), (5, vi (nI ν)), (6, vi (nI (p + 1)))]) C (dx dX7_copy 141 rfl) rfl rfl (by decide) [1, 2, 3, 4, 5, 6, 0] rfl ?_
                                                                  refine r_goto (tgt := 225) C (dx dX7_copy 142 rfl) (by decide) ?_
                                                                  exact ih _ (fun i hi => by rw [sL_at]; exact cp2_step q8 i hi) (fun t ht => by rw [sL_ne (by omega)]; exact u8 t ht) (f8.tr (Fr.sL (by omega) (by omega))) k8))
                                                    · first
                                                      | (omega; done)
                                                  ·
                                                    intro p hp ih h9 q9 f9 k9
                                                    refine r_iload C (dx dX7_copy 107 rfl) rfl ?_
                                                    refine r_iload C (dx dX7_copy 108 rfl) rfl ?_
                                                    refine rn_ge (a := p) (b := ν) (tgt := 222) C (by omega) (by omega) (dx dX7_copy 109 rfl) (by decide) (fun c322 => ?_) (fun c322 => ?_)
                                                    · first
                                                      | (omega; done)
                                                      | (
                                                          have c322 : ν ≤ p := c322
                                                          refine r_iconst (v := nI 0) C (dx dX7_copy 124 rfl) rfl ?_
                                                          refine r_istore (ls' := [(0, vr 7 k), (1, vi (nI π)), (2, vi (nI θ)), (3, vi (nI ι)), (4, vi (nI ξ)), (5, vi (nI ν)), (6, vi (nI 0))]) C (dx dX7_copy 125 rfl) (by decide) [1, 2, 3, 4, 5, 6, 0] rfl ?_
                                                          have r9 := MsR.fr (show MsR h k g θ from ⟨_, _, a12, a22, a32, a42, a52, a62, a72, a82⟩) hθ f9
                                                          refine loopU (Φ := fun p => ∀ h8, (∀ i, i < 40 → xL h8 (k + 5 + θ) i = if ξ ≤ i ∧ i < ξ + p then gE g π (ι + (i - ξ)) else gE g θ i) → (∀ t, t < ν → xL h8 (k + 13) t = gE g π (ι + t)) → Fr (k + 5 + θ) (k + 5 + θ + 1) h9 h8 → xK h8 = xK h → Rr G 225 [(0, vr 7 k), (1, vi (nI π)), (2, vi (nI θ)), (3, vi (nI ι)), (4, vi (nI ξ)), (5, vi (nI ν)), (6, vi (nI p))] [] h8) (N := ν) ?_ ?_ 0 (by omega) _ (fun i hi => by rw [if_neg (by omega), f9.L (by omega)]; exact a82 i hi) q9 Fr.rf k9
                                                          ·
                                                            intro h8 q8 u8 f8 k8
                                                            have s9 : MshAt h8 k (pCp g π θ ι ξ ν) := msh_els (hs.mv f9) hθ r9 f8 (fun i hi => by rw [q8 i hi]; rfl)
                                                            have g9 : Fr (k + 1) (k + 17) h h8 := (f9.mono (by omega) (by omega)).tr (f8.mono (by omega) (by omega))
                                                            refine r_iload C (dx dX7_copy 126 rfl) rfl ?_
                                                            refine r_iload C (dx dX7_copy 127 rfl) rfl ?_
                                                            refine rn_ge (a := ν) (b := ν) (tgt := 257) C (by omega) (by omega) (dx dX7_copy 128 rfl) (by decide) (fun c323 => ?_) (fun c323 => ?_)
                                                            · first
                                                              | (omega; done)
                                                              | (
                                                                  have c323 : ν ≤ ν := c323
                                                                  refine r_iload C (dx dX7_copy 143 rfl) rfl ?_
                                                                  have eA : copA g (nI π) (nI θ) (nI ι) (nI ξ) (nI ν) = nI ν := by simp [copA, copG, copF, c1, c3, c276, c278, c279, c302, c303, c306, c308, c310, c312, c314, c316, c318, c322, c323, e01, e11, e21, e31, e41, e51, e61, e71, e02, e12, e22, e32, e42, e52, e62, e72, clN (show π < 2 ^ 31 by omega), clN (show θ < 2 ^ 31 by omega), clN (show ν < 2 ^ 31 by omega), clN (show ι < 2 ^ 31 by omega), clN (show ξ < 2 ^ 31 by omega), inR_nI (show π < 2 ^ 31 by omega), inR_nI (show θ < 2 ^ 31 by omega), inR_nI (show ν < 2 ^ 31 by omega), inR_nI (show ι < 2 ^ 31 by omega), inR_nI (show ξ < 2 ^ 31 by omega), show π < 8 by omega, show θ < 8 by omega, cp_row e31 e32 (by omega) (by omega) (show ι < 2 ^ 31 by omega) (show ξ < 2 ^ 31 by omega) (show ν < 2 ^ 31 by omega), show ι + ν ≤ ν1 by omega, show ξ + ν ≤ ν2 by omega]
                                                                  have eG : copG g (nI π) (nI θ) (nI ι) (nI ξ) (nI ν) = pCp g π θ ι ξ ν := by simp [copA, copG, copF, c1, c3, c276, c278, c279, c302, c303, c306, c308, c310, c312, c314, c316, c318, c322, c323, e01, e11, e21, e31, e41, e51, e61, e71, e02, e12, e22, e32, e42, e52, e62, e72, clN (show π < 2 ^ 31 by omega), clN (show θ < 2 ^ 31 by omega), clN (show ν < 2 ^ 31 by omega), clN (show ι < 2 ^ 31 by omega), clN (show ξ < 2 ^ 31 by omega), inR_nI (show π < 2 ^ 31 by omega), inR_nI (show θ < 2 ^ 31 by omega), inR_nI (show ν < 2 ^ 31 by omega), inR_nI (show ι < 2 ^ 31 by omega), inR_nI (show ξ < 2 ^ 31 by omega), show π < 8 by omega, show θ < 8 by omega, cp_row e31 e32 (by omega) (by omega) (show ι < 2 ^ 31 by omega) (show ξ < 2 ^ 31 by omega) (show ν < 2 ^ 31 by omega), show ι + ν ≤ ν1 by omega, show ξ + ν ≤ ν2 by omega]
                                                                  exact F.1 _ _ _ _ _ rfl rfl (dx dX7_copy 144 rfl) k8 (show some (vi (nI ν)) = some (vi (copA g (nI π) (nI θ) (nI ι) (nI ξ) (nI ν))) ∧ (∃ v', MilAt h8 k v') ∧ MshAt h8 k (copG g (nI π) (nI θ) (nI ι) (nI ξ) (nI ν)) ∧ Ks k h h8 from by rw [eA, eG]; exact ⟨rfl, ⟨_, hm.fr g9 (by omega)⟩, s9, (Ks.fr g9 (by omega) (by omega))⟩))
                                                            · first
                                                              | (omega; done)
                                                          ·
                                                            intro p hp ih h8 q8 u8 f8 k8
                                                            refine r_iload C (dx dX7_copy 126 rfl) rfl ?_
                                                            refine r_iload C (dx dX7_copy 127 rfl) rfl ?_
                                                            refine rn_ge (a := p) (b := ν) (tgt := 257) C (by omega) (by omega) (dx dX7_copy 128 rfl) (by decide) (fun c324 => ?_) (fun c324 => ?_)
                                                            · first
                                                              | (omega; done)
                                                              | (
                                                                  have c324 : ν ≤ p := c324
                                                                  refine r_iload C (dx dX7_copy 143 rfl) rfl ?_
                                                                  have eA : copA g (nI π) (nI θ) (nI ι) (nI ξ) (nI ν) = nI ν := by simp [copA, copG, copF, c1, c3, c276, c278, c279, c302, c303, c306, c308, c310, c312, c314, c316, c318, c322, c324, e01, e11, e21, e31, e41, e51, e61, e71, e02, e12, e22, e32, e42, e52, e62, e72, clN (show π < 2 ^ 31 by omega), clN (show θ < 2 ^ 31 by omega), clN (show ν < 2 ^ 31 by omega), clN (show ι < 2 ^ 31 by omega), clN (show ξ < 2 ^ 31 by omega), inR_nI (show π < 2 ^ 31 by omega), inR_nI (show θ < 2 ^ 31 by omega), inR_nI (show ν < 2 ^ 31 by omega), inR_nI (show ι < 2 ^ 31 by omega), inR_nI (show ξ < 2 ^ 31 by omega), show π < 8 by omega, show θ < 8 by omega, cp_row e31 e32 (by omega) (by omega) (show ι < 2 ^ 31 by omega) (show ξ < 2 ^ 31 by omega) (show ν < 2 ^ 31 by omega), show ι + ν ≤ ν1 by omega, show ξ + ν ≤ ν2 by omega]
                                                                  have eG : copG g (nI π) (nI θ) (nI ι) (nI ξ) (nI ν) = g := by simp [copA, copG, copF, c1, c3, c276, c278, c279, c302, c303, c306, c308, c310, c312, c314, c316, c318, c322, c324, e01, e11, e21, e31, e41, e51, e61, e71, e02, e12, e22, e32, e42, e52, e62, e72, clN (show π < 2 ^ 31 by omega), clN (show θ < 2 ^ 31 by omega), clN (show ν < 2 ^ 31 by omega), clN (show ι < 2 ^ 31 by omega), clN (show ξ < 2 ^ 31 by omega), inR_nI (show π < 2 ^ 31 by omega), inR_nI (show θ < 2 ^ 31 by omega), inR_nI (show ν < 2 ^ 31 by omega), inR_nI (show ι < 2 ^ 31 by omega), inR_nI (show ξ < 2 ^ 31 by omega), show π < 8 by omega, show θ < 8 by omega, cp_row e31 e32 (by omega) (by omega) (show ι < 2 ^ 31 by omega) (show ξ < 2 ^ 31 by omega) (show ν < 2 ^ 31 by omega), show ι + ν ≤ ν1 by omega, show ξ + ν ≤ ν2 by omega]
                                                                  exact F.1 _ _ _ _ _ rfl rfl (dx dX7_copy 144 rfl) k8 (show some (vi (nI ν)) = some (vi (copA g (nI π) (nI θ) (nI ι) (nI ξ) (nI ν))) ∧ (∃ v', MilAt h8 k v') ∧ MshAt h8 k (copG g (nI π) (nI θ) (nI ι) (nI ξ) (nI ν)) ∧ Ks k h h8 from by rw [eA, eG]; exact ⟨rfl, ⟨_, hm⟩, hs, Ks.rf⟩))
                                                            · first
                                                              | (omega; done)
                                                              | (
                                                                  have c324 : p < ν := c324
                                                                  refine r_aload_n C (dx dX7_copy 129 rfl) rfl ?_
                                                                  refine g_X7_21 C (dx dX7_copy 130 rfl) ?_
                                                                  refine r_iload_n C (dx dX7_copy 131 rfl) rfl ?_
                                                                  refine r_aald5 (j := θ) C rfl rfl (by decide) rfl (by omega) (dx dX7_copy 132 rfl) ?_
                                                                  refine r_iload C (dx dX7_copy 133 rfl) rfl ?_
                                                                  refine r_iload C (dx dX7_copy 134 rfl) rfl ?_
                                                                  refine rn_iadd (a := ξ) (b := p) C (dx dX7_copy 135 rfl) ?_
                                                                  refine r_aload_n C (dx dX7_copy 136 rfl) rfl ?_
                                                                  refine g_X7_24 C (dx dX7_copy 137 rfl) ?_
                                                                  refine r_iload C (dx dX7_copy 138 rfl) rfl ?_
                                                                  refine r_lald (j := p) (x := gE g π (ι + p)) C rfl rfl (by decide) rfl (by omega) (dx dX7_copy 139 rfl) (u8 _ (by omega)) ?_
                                                                  refine r_last (j := ξ + p) C rfl rfl (by decide) rfl (by omega) (dx dX7_copy 140 rfl) ?_
                                                                  refine rn_iinc (a := p) (k := 1) (ls' := [(0, vr 7 k), (1, vi (nI π)), (2, vi (nI θ)), (3, vi (nI ι)), (4, vi (nI ξ)), (5, vi (nI ν)), (6, vi (nI (p + 1)))]) C (dx dX7_copy 141 rfl) rfl rfl (by decide) [1, 2, 3, 4, 5, 6, 0] rfl ?_
                                                                  refine r_goto (tgt := 225) C (dx dX7_copy 142 rfl) (by decide) ?_
                                                                  exact ih _ (fun i hi => by rw [sL_at]; exact cp2_step q8 i hi) (fun t ht => by rw [sL_ne (by omega)]; exact u8 t ht) (f8.tr (Fr.sL (by omega) (by omega))) k8))
                                                    · first
                                                      | (omega; done)
                                                      | (
                                                          have c322 : p < ν := c322
                                                          refine r_aload_n C (dx dX7_copy 110 rfl) rfl ?_
                                                          refine g_X7_24 C (dx dX7_copy 111 rfl) ?_
                                                          refine r_iload C (dx dX7_copy 112 rfl) rfl ?_
                                                          refine r_aload_n C (dx dX7_copy 113 rfl) rfl ?_
                                                          refine g_X7_21 C (dx dX7_copy 114 rfl) ?_
                                                          refine r_iload_n C (dx dX7_copy 115 rfl) rfl ?_
                                                          refine r_aald5 (j := π) C rfl rfl (by decide) rfl (by omega) (dx dX7_copy 116 rfl) ?_
                                                          refine r_iload_n C (dx dX7_copy 117 rfl) rfl ?_
                                                          refine r_iload C (dx dX7_copy 118 rfl) rfl ?_
                                                          refine rn_iadd (a := ι) (b := p) C (dx dX7_copy 119 rfl) ?_
                                                          refine r_lald (j := ι + p) (x := gE g π (ι + p)) C rfl rfl (by decide) rfl (by omega) (dx dX7_copy 120 rfl) ((f9.L (by omega) _).trans (a81 _ (by omega))) ?_
                                                          refine r_last (j := p) C rfl rfl (by decide) rfl (by omega) (dx dX7_copy 121 rfl) ?_
                                                          refine rn_iinc (a := p) (k := 1) (ls' := [(0, vr 7 k), (1, vi (nI π)), (2, vi (nI θ)), (3, vi (nI ι)), (4, vi (nI ξ)), (5, vi (nI ν)), (6, vi (nI (p + 1)))]) C (dx dX7_copy 122 rfl) rfl rfl (by decide) [1, 2, 3, 4, 5, 6, 0] rfl ?_
                                                          refine r_goto (tgt := 191) C (dx dX7_copy 123 rfl) (by decide) ?_
                                                          exact ih _ (fun t ht => by rw [sL_at]; split; (next e => rw [e]); exact q9 t (by omega)) (f9.tr (Fr.sL (by omega) (by omega))) k9)
                                                ·
                                                  have c318 : ¬ nI ξ ≤ (xI h (k + 3) θ) - (nI ν) := c318
                                                  refine r_aload_n C (dx dX7_copy 101 rfl) rfl ?_
                                                  refine r_bipush (v := -2) C (dx dX7_copy 102 rfl) rfl ?_
                                                  refine r_cv (as := [vi (-2)]) (st := []) C X I_X7_refuse l_X7_83 (c_X7_refuse hm (x := -2) (j := 2) (by decide) (by decide)) (by decide) (Nat.le_of_ble_eq_true rfl) List.prefix_rfl List.prefix_rfl rfl rfl (Nat.le_of_ble_eq_true rfl) rfl (dx dX7_copy 103 rfl) ?_
                                                  rintro _ h325 ⟨rfl, ⟨wh325, m9h325, s9h325⟩, qh325⟩ kkh325
                                                  obtain ⟨vh325, mh325, zh325⟩ : ∃ v9, MilAt h325 k v9 ∧ Sz v v9 := ⟨_, m9h325, s9h325⟩
                                                  have ph325 : Kp k h h325 := qh325
                                                  have kh325 : xK h325 = xK h := kkh325
                                                  obtain ⟨ah325, bh325, ch325⟩ := zh325
                                                  have eA : copA g (nI π) (nI θ) (nI ι) (nI ξ) (nI ν) = -2 := by (have hq : ¬ (ι + ν ≤ ν1 ∧ ξ + ν ≤ ν2) := by omega); (have hq2 := cp_row e31 e32 (i := ι) (j := ξ) (n := ν) (by omega) (by omega) (by omega) (by omega) (by omega)); rw [decide_eq_false hq] at hq2; simp [copA, copG, copF, c1, c3, c276, c278, c279, c302, c303, c306, c308, c310, c312, c314, c316, c318, e01, e11, e21, e31, e41, e51, e61, e71, e02, e12, e22, e32, e42, e52, e62, e72, clN (show π < 2 ^ 31 by omega), clN (show θ < 2 ^ 31 by omega), clN (show ν < 2 ^ 31 by omega), clN (show ι < 2 ^ 31 by omega), clN (show ξ < 2 ^ 31 by omega), inR_nI (show π < 2 ^ 31 by omega), inR_nI (show θ < 2 ^ 31 by omega), inR_nI (show ν < 2 ^ 31 by omega), inR_nI (show ι < 2 ^ 31 by omega), inR_nI (show ξ < 2 ^ 31 by omega), hq2, show π < 8 by omega, show θ < 8 by omega]
                                                  have eG : copG g (nI π) (nI θ) (nI ι) (nI ξ) (nI ν) = g := by (have hq : ¬ (ι + ν ≤ ν1 ∧ ξ + ν ≤ ν2) := by omega); (have hq2 := cp_row e31 e32 (i := ι) (j := ξ) (n := ν) (by omega) (by omega) (by omega) (by omega) (by omega)); rw [decide_eq_false hq] at hq2; simp [copA, copG, copF, c1, c3, c276, c278, c279, c302, c303, c306, c308, c310, c312, c314, c316, c318, e01, e11, e21, e31, e41, e51, e61, e71, e02, e12, e22, e32, e42, e52, e62, e72, clN (show π < 2 ^ 31 by omega), clN (show θ < 2 ^ 31 by omega), clN (show ν < 2 ^ 31 by omega), clN (show ι < 2 ^ 31 by omega), clN (show ξ < 2 ^ 31 by omega), inR_nI (show π < 2 ^ 31 by omega), inR_nI (show θ < 2 ^ 31 by omega), inR_nI (show ν < 2 ^ 31 by omega), inR_nI (show ι < 2 ^ 31 by omega), inR_nI (show ξ < 2 ^ 31 by omega), hq2, show π < 8 by omega, show θ < 8 by omega]
                                                  exact F.1 _ _ _ _ _ rfl rfl (dx dX7_copy 104 rfl) kh325 (show some (vi (-2)) = some (vi (copA g (nI π) (nI θ) (nI ι) (nI ξ) (nI ν))) ∧ (∃ v', MilAt h325 k v') ∧ MshAt h325 k (copG g (nI π) (nI θ) (nI ι) (nI ξ) (nI ν)) ∧ Ks k h h325 from by rw [eA, eG]; exact ⟨rfl, ⟨_, mh325⟩, hs.kp ph325, ph325.ks⟩)
                                  ·
                                    have c303 : ¬ xI h (k + 2) π = xI h (k + 2) θ := c303
                                    refine r_aload_n C (dx dX7_copy 49 rfl) rfl ?_
                                    refine r_bipush (v := -3) C (dx dX7_copy 50 rfl) rfl ?_
                                    refine r_cv (as := [vi (-3)]) (st := []) C X I_X7_refuse l_X7_83 (c_X7_refuse hm (x := -3) (j := 3) (by decide) (by decide)) (by decide) (Nat.le_of_ble_eq_true rfl) List.prefix_rfl List.prefix_rfl rfl rfl (Nat.le_of_ble_eq_true rfl) rfl (dx dX7_copy 51 rfl) ?_
                                    rintro _ h326 ⟨rfl, ⟨wh326, m9h326, s9h326⟩, qh326⟩ kkh326
                                    obtain ⟨vh326, mh326, zh326⟩ : ∃ v9, MilAt h326 k v9 ∧ Sz v v9 := ⟨_, m9h326, s9h326⟩
                                    have ph326 : Kp k h h326 := qh326
                                    have kh326 : xK h326 = xK h := kkh326
                                    obtain ⟨ah326, bh326, ch326⟩ := zh326
                                    have eA : copA g (nI π) (nI θ) i j n = -3 := by simp [copA, copG, copF, cpOk, c1, c3, c276, c278, c279, c302, c303, e01, e11, e21, e31, e41, e51, e61, e71, e02, e12, e22, e32, e42, e52, e62, e72, clN (show π < 2 ^ 31 by omega), clN (show θ < 2 ^ 31 by omega), inR_nI (show π < 2 ^ 31 by omega), inR_nI (show θ < 2 ^ 31 by omega), show π < 8 by omega, show θ < 8 by omega]
                                    have eG : copG g (nI π) (nI θ) i j n = g := by simp [copA, copG, copF, cpOk, c1, c3, c276, c278, c279, c302, c303, e01, e11, e21, e31, e41, e51, e61, e71, e02, e12, e22, e32, e42, e52, e62, e72, clN (show π < 2 ^ 31 by omega), clN (show θ < 2 ^ 31 by omega), inR_nI (show π < 2 ^ 31 by omega), inR_nI (show θ < 2 ^ 31 by omega), show π < 8 by omega, show θ < 8 by omega]
                                    exact F.1 _ _ _ _ _ rfl rfl (dx dX7_copy 52 rfl) kh326 (show some (vi (-3)) = some (vi (copA g (nI π) (nI θ) i j n)) ∧ (∃ v', MilAt h326 k v') ∧ MshAt h326 k (copG g (nI π) (nI θ) i j n) ∧ Ks k h h326 from by rw [eA, eG]; exact ⟨rfl, ⟨_, mh326⟩, hs.kp ph326, ph326.ks⟩)))))
    ·
      have c3 : (inR q 8) = false := c3
      refine r_aload_n C (dx dX7_copy 12 rfl) rfl ?_
      refine r_bipush (v := -2) C (dx dX7_copy 13 rfl) rfl ?_
      refine r_cv (as := [vi (-2)]) (st := []) C X I_X7_refuse l_X7_83 (c_X7_refuse hm (x := -2) (j := 2) (by decide) (by decide)) (by decide) (Nat.le_of_ble_eq_true rfl) List.prefix_rfl List.prefix_rfl rfl rfl (Nat.le_of_ble_eq_true rfl) rfl (dx dX7_copy 14 rfl) ?_
      rintro _ h327 ⟨rfl, ⟨wh327, m9h327, s9h327⟩, qh327⟩ kkh327
      obtain ⟨vh327, mh327, zh327⟩ : ∃ v9, MilAt h327 k v9 ∧ Sz v v9 := ⟨_, m9h327, s9h327⟩
      have ph327 : Kp k h h327 := qh327
      have kh327 : xK h327 = xK h := kkh327
      obtain ⟨ah327, bh327, ch327⟩ := zh327
      have eA : copA g (nI π) q i j n = -2 := by simp [copA, copG, copF, cpOk, c1, c3, clN (show π < 2 ^ 31 by omega), inR_nI (show π < 2 ^ 31 by omega), show π < 8 by omega]
      have eG : copG g (nI π) q i j n = g := by simp [copA, copG, copF, cpOk, c1, c3, clN (show π < 2 ^ 31 by omega), inR_nI (show π < 2 ^ 31 by omega), show π < 8 by omega]
      exact F.1 _ _ _ _ _ rfl rfl (dx dX7_copy 15 rfl) kh327 (show some (vi (-2)) = some (vi (copA g (nI π) q i j n)) ∧ (∃ v', MilAt h327 k v') ∧ MshAt h327 k (copG g (nI π) q i j n) ∧ Ks k h h327 from by rw [eA, eG]; exact ⟨rfl, ⟨_, mh327⟩, hs.kp ph327, ph327.ks⟩)
set_option maxHeartbeats 4000000 in
theorem c_X7_lay {l : Launch} {h : Hp} {k : Nat} {v : Vg} {g : Sg} (hm : MilAt h k v) (hs : MshAt h k g) (s : Int32) : Ms l yX7_lay cX7_lay 3 (some .int) 10 [vr 7 k, vi s] h (xK h) (fun r h' => PI r ∧ (∃ v', MilAt h' k v') ∧ Kp k h h') := by
  refine Ms.of (by decide) (Nat.le_of_ble_eq_true rfl) (fun G C X F => ?_)
  have C : Cx G cX7_lay 3 RX7 := C
  show Rr G 0 [(0, vr 7 k), (1, vi s)] [] h
  have bP := hm.bP
  have bM := hm.bM
  have bN := hm.bN
  refine r_aload_n C (dx dX7_lay 0 rfl) rfl ?_
  refine r_iload_n C (dx dX7_lay 1 rfl) rfl ?_
  refine r_cv (as := [vi s]) (st := []) C X I_X7_noHolding l_X7_292 (c_X7_noHolding hm hs s) (by decide) (Nat.le_of_ble_eq_true rfl) List.prefix_rfl List.prefix_rfl rfl rfl (Nat.le_of_ble_eq_true rfl) rfl (dx dX7_lay 2 rfl) ?_
  rintro _ h1 ⟨rfl, ⟨wh1, m9h1, s9h1⟩, qh1⟩ kkh1
  obtain ⟨vh1, mh1, zh1⟩ : ∃ v9, MilAt h1 k v9 ∧ Sz v v9 := ⟨_, m9h1, s9h1⟩
  have ph1 : Kp k h h1 := qh1
  have kh1 : xK h1 = xK h := kkh1
  obtain ⟨ah1, bh1, ch1⟩ := zh1
  refine r_istore_n (ls' := [(0, vr 7 k), (1, vi s), (2, vi (nhA g s))]) C (dx dX7_lay 3 rfl) (by decide) [1, 2, 0] rfl ?_
  refine r_iload_n C (dx dX7_lay 4 rfl) rfl ?_
  refine r_if_eq (tgt := 12) C (dx dX7_lay 5 rfl) (by decide) (fun c2 => ?_) (fun c2 => ?_)
  ·
    have c2 : nhA g s = 0 := c2
    obtain ⟨σ, hσ, rfl, r9⟩ := nh_ok (hs.kp ph1) c2
    have r8 := r9
    obtain ⟨κ1, b1, a11, a21, a31, a41, a51, a61, a71, a81⟩ := r9
    obtain ⟨e01, e11, e21, e31, e41, e51, e61, e71⟩ := sh_hold hσ a21 a71 a81
    refine r_aload_n C (dx dX7_lay 8 rfl) rfl ?_
    refine r_aload_n C (dx dX7_lay 9 rfl) rfl ?_
    refine g_X7_28 C (dx dX7_lay 10 rfl) ?_
    refine r_iload_n C (dx dX7_lay 11 rfl) rfl ?_
    refine r_iald (j := σ) (x := nI κ1) C rfl rfl (by decide) rfl (by omega) (dx dX7_lay 12 rfl) a51 ?_
    refine r_aload_n C (dx dX7_lay 13 rfl) rfl ?_
    refine g_X7_31 C (dx dX7_lay 14 rfl) ?_
    refine r_iload_n C (dx dX7_lay 15 rfl) rfl ?_
    refine r_iald (j := σ) (x := nI b1) C rfl rfl (by decide) rfl (by omega) (dx dX7_lay 16 rfl) a61 ?_
    refine r_cv (as := [vi (nI κ1), vi (nI b1)]) (st := []) C X I_X7_holdAll l_X7_106 (c_X7_holdAll mh1 (κ := κ1) (b := b1) (by omega) (by omega)) (by decide) (Nat.le_of_ble_eq_true rfl) List.prefix_rfl (pfx_eq kh1) rfl rfl (Nat.le_of_ble_eq_true rfl) rfl (dx dX7_lay 17 rfl) ?_
    rintro _ h3 ⟨rfl, ⟨wh3, m9h3, s9h3⟩, qh3⟩ kkh3
    obtain ⟨vh3, mh3, zh3⟩ : ∃ v9, MilAt h3 k v9 ∧ Sz vh1 v9 := ⟨_, m9h3, s9h3⟩
    have ph3 : Kp k h h3 := ph1.tr (qh3)
    have kh3 : xK h3 = xK h := (kkh3).trans kh1
    obtain ⟨ah3, bh3, ch3⟩ := zh3
    refine r_aload_n C (dx dX7_lay 18 rfl) rfl ?_
    refine r_iconst (v := nI 0) C (dx dX7_lay 19 rfl) rfl ?_
    refine r_cvW (as := [vi (nI 0)]) (st := []) C X I_X7_held l_X7_114 (c_X7_held mh3 false) (by decide) (Nat.le_of_ble_eq_true rfl) (pfx_eq kh3) rfl rfl (Nat.le_of_ble_eq_true rfl) rfl (dx dX7_lay 20 rfl) ?_
    rintro _ ⟨x4, rfl⟩
    exact F.1 _ _ _ _ .int rfl rfl (dx dX7_lay 21 rfl) kh3 ⟨⟨_, rfl⟩, ⟨_, mh3⟩, ph3⟩
  ·
    have c2 : ¬ nhA g s = 0 := c2
    refine r_iload_n C (dx dX7_lay 6 rfl) rfl ?_
    exact F.1 _ _ _ _ .int rfl rfl (dx dX7_lay 7 rfl) kh1 ⟨⟨_, rfl⟩, ⟨_, mh1⟩, ph1⟩
set_option maxHeartbeats 4000000 in
theorem c_X7_noTold {l : Launch} {h : Hp} {k : Nat} {v : Vg} {g : Sg} (hm : MilAt h k v) (hs : MshAt h k g) (s n : Int32) : Ms l yX7_noTold cX7_noTold 4 (some .int) 5 [vr 7 k, vi s, vi n] h (xK h) (fun r h' => r = some (vi (tfV g s n)) ∧ (∃ v', MilAt h' k v' ∧ Sz v v') ∧ Kp k h h') := by
  refine Ms.of (by decide) (Nat.le_of_ble_eq_true rfl) (fun G C X F => ?_)
  have C : Cx G cX7_noTold 4 RX7 := C
  show Rr G 0 [(0, vr 7 k), (1, vi s), (2, vi n)] [] h
  have bP := hm.bP
  have bM := hm.bM
  have bN := hm.bN
  refine r_iload_n C (dx dX7_noTold 0 rfl) rfl ?_
  refine r_i2l C (dx dX7_noTold 1 rfl) ?_
  refine r_lconst (v := 0) C (dx dX7_noTold 2 rfl) rfl ?_
  refine r_ldc2 C n_X7_77 (dx dX7_noTold 3 rfl) ?_
  refine r_csP (as := [vl s.toInt64, vl 0, vl 7]) (st := []) (v := vi (b2i (inR s 8))) C X I_X7_in l_X7_67 (c_inR (b := 7) (by decide) (by decide)) (by decide) (Nat.le_of_ble_eq_true rfl) List.prefix_rfl (Nat.le_of_ble_eq_true rfl) rfl (dx dX7_noTold 4 rfl) ?_
  refine rb_eq (b := inR s 8) (tgt := 24) C (dx dX7_noTold 5 rfl) (by decide) (fun c1 => ?_) (fun c1 => ?_)
  ·
    have c1 : (inR s 8) = false := c1
    refine r_aload_n C (dx dX7_noTold 12 rfl) rfl ?_
    refine r_bipush (v := -2) C (dx dX7_noTold 13 rfl) rfl ?_
    refine r_cv (as := [vi (-2)]) (st := []) C X I_X7_refuse l_X7_83 (c_X7_refuse hm (x := -2) (j := 2) (by decide) (by decide)) (by decide) (Nat.le_of_ble_eq_true rfl) List.prefix_rfl List.prefix_rfl rfl rfl (Nat.le_of_ble_eq_true rfl) rfl (dx dX7_noTold 14 rfl) ?_
    rintro _ h2 ⟨rfl, ⟨wh2, m9h2, s9h2⟩, qh2⟩ kkh2
    obtain ⟨vh2, mh2, zh2⟩ : ∃ v9, MilAt h2 k v9 ∧ Sz v v9 := ⟨_, m9h2, s9h2⟩
    have ph2 : Kp k h h2 := qh2
    have kh2 : xK h2 = xK h := kkh2
    obtain ⟨ah2, bh2, ch2⟩ := zh2
    have eA : tfV g s n = -2 := by exact tf_in (fun z => by rw [c1] at z; cases z.1)
    exact F.1 _ _ _ _ _ rfl rfl (dx dX7_noTold 15 rfl) kh2 (show some (vi (-2)) = some (vi (tfV g s n)) ∧ (∃ v', MilAt h2 k v' ∧ Sz v v') ∧ Kp k h h2 from by rw [eA]; exact ⟨rfl, ⟨_, mh2, ⟨by omega, by omega, by omega⟩⟩, ph2⟩)
  ·
    have c1 : (inR s 8) = true := c1
    refine r_iload_n C (dx dX7_noTold 6 rfl) rfl ?_
    refine r_i2l C (dx dX7_noTold 7 rfl) ?_
    refine r_lconst (v := 0) C (dx dX7_noTold 8 rfl) rfl ?_
    refine r_ldc2 C n_X7_327 (dx dX7_noTold 9 rfl) ?_
    refine r_csP (as := [vl n.toInt64, vl 0, vl 20]) (st := []) (v := vi (b2i (inR n 21))) C X I_X7_in l_X7_67 (c_inR (b := 20) (by decide) (by decide)) (by decide) (Nat.le_of_ble_eq_true rfl) List.prefix_rfl (Nat.le_of_ble_eq_true rfl) rfl (dx dX7_noTold 10 rfl) ?_
    refine rb_ne (b := inR n 21) (tgt := 31) C (dx dX7_noTold 11 rfl) (by decide) (fun c3 => ?_) (fun c3 => ?_)
    ·
      have c3 : (inR n 21) = true := c3
      obtain ⟨ν, hν, rfl⟩ := inR_ex (n := 21) (by omega) c3
      refine r_aload_n C (dx dX7_noTold 16 rfl) rfl ?_
      refine r_iload_n C (dx dX7_noTold 17 rfl) rfl ?_
      refine r_cv (as := [vi s]) (st := []) C X I_X7_noRow l_X7_87 (c_X7_noRow hm hs s) (by decide) (Nat.le_of_ble_eq_true rfl) List.prefix_rfl List.prefix_rfl rfl rfl (Nat.le_of_ble_eq_true rfl) rfl (dx dX7_noTold 18 rfl) ?_
      rintro _ h4 ⟨rfl, ⟨wh4, m9h4, s9h4⟩, qh4⟩ kkh4
      obtain ⟨vh4, mh4, zh4⟩ : ∃ v9, MilAt h4 k v9 ∧ Sz v v9 := ⟨_, m9h4, s9h4⟩
      have ph4 : Kp k h h4 := qh4
      have kh4 : xK h4 = xK h := kkh4
      obtain ⟨ah4, bh4, ch4⟩ := zh4
      refine r_istore_n (ls' := [(0, vr 7 k), (1, vi s), (2, vi (nI ν)), (3, vi (nrA g s))]) C (dx dX7_noTold 19 rfl) (by decide) [1, 2, 3, 0] rfl ?_
      refine r_iload_n C (dx dX7_noTold 20 rfl) rfl ?_
      refine r_if_eq (tgt := 43) C (dx dX7_noTold 21 rfl) (by decide) (fun c5 => ?_) (fun c5 => ?_)
      ·
        have c5 : nrA g s = 0 := c5
        obtain ⟨σ, hσ, rfl, r9⟩ := nr_ok (hs.kp ph4) c5
        have r8 := r9
        obtain ⟨τ1, ν1, a11, a21, a31, a41, a51, a61, a71, a81⟩ := r9
        obtain ⟨e01, e11, e21, e31, e41, e51, e61⟩ := sh_row hσ a11 a61 a71
        refine r_aload_n C (dx dX7_noTold 24 rfl) rfl ?_
        refine g_X7_16 C (dx dX7_noTold 25 rfl) ?_
        refine r_iload_n C (dx dX7_noTold 26 rfl) rfl ?_
        refine r_iald (j := σ) (x := nI ν1) C rfl rfl (by decide) rfl (by omega) (dx dX7_noTold 27 rfl) a51 ?_
        refine r_iload_n C (dx dX7_noTold 28 rfl) rfl ?_
        refine rn_ge (a := ν1) (b := ν) (tgt := 62) C (by omega) (by omega) (dx dX7_noTold 29 rfl) (by decide) (fun c6 => ?_) (fun c6 => ?_)
        · first
          | (omega; done)
          | (
              have c6 : ν ≤ ν1 := c6
              refine r_iconst (v := nI 0) C (dx dX7_noTold 34 rfl) rfl ?_
              have eA : tfV g (nI σ) (nI ν) = nI 0 := by rw [tf_row hσ (by omega) e51 e31 (by omega)]; first | (rw [if_pos (by omega)]; done) | (rw [if_neg (by omega)])
              exact F.1 _ _ _ _ _ rfl rfl (dx dX7_noTold 35 rfl) kh4 (show some (vi (nI 0)) = some (vi (tfV g (nI σ) (nI ν))) ∧ (∃ v', MilAt h4 k v' ∧ Sz v v') ∧ Kp k h h4 from by rw [eA]; exact ⟨rfl, ⟨_, mh4, ⟨by omega, by omega, by omega⟩⟩, ph4⟩))
        · first
          | (omega; done)
          | (
              have c6 : ν1 < ν := c6
              refine r_aload_n C (dx dX7_noTold 30 rfl) rfl ?_
              refine r_bipush (v := -2) C (dx dX7_noTold 31 rfl) rfl ?_
              refine r_cv (as := [vi (-2)]) (st := []) C X I_X7_refuse l_X7_83 (c_X7_refuse mh4 (x := -2) (j := 2) (by decide) (by decide)) (by decide) (Nat.le_of_ble_eq_true rfl) List.prefix_rfl (pfx_eq kh4) rfl rfl (Nat.le_of_ble_eq_true rfl) rfl (dx dX7_noTold 32 rfl) ?_
              rintro _ h7 ⟨rfl, ⟨wh7, m9h7, s9h7⟩, qh7⟩ kkh7
              obtain ⟨vh7, mh7, zh7⟩ : ∃ v9, MilAt h7 k v9 ∧ Sz vh4 v9 := ⟨_, m9h7, s9h7⟩
              have ph7 : Kp k h h7 := ph4.tr (qh7)
              have kh7 : xK h7 = xK h := (kkh7).trans kh4
              obtain ⟨ah7, bh7, ch7⟩ := zh7
              refine r_goto (tgt := 63) C (dx dX7_noTold 33 rfl) (by decide) ?_
              have eA : tfV g (nI σ) (nI ν) = -2 := by rw [tf_row hσ (by omega) e51 e31 (by omega)]; first | (rw [if_pos (by omega)]; done) | (rw [if_neg (by omega)])
              exact F.1 _ _ _ _ _ rfl rfl (dx dX7_noTold 35 rfl) kh7 (show some (vi (-2)) = some (vi (tfV g (nI σ) (nI ν))) ∧ (∃ v', MilAt h7 k v' ∧ Sz v v') ∧ Kp k h h7 from by rw [eA]; exact ⟨rfl, ⟨_, mh7, ⟨by omega, by omega, by omega⟩⟩, ph7⟩))
      ·
        have c5 : ¬ nrA g s = 0 := c5
        refine r_iload_n C (dx dX7_noTold 22 rfl) rfl ?_
        have eA : tfV g s (nI ν) = nrA g s := by exact tf_no c1 c3 c5
        exact F.1 _ _ _ _ _ rfl rfl (dx dX7_noTold 23 rfl) kh4 (show some (vi (nrA g s)) = some (vi (tfV g s (nI ν))) ∧ (∃ v', MilAt h4 k v' ∧ Sz v v') ∧ Kp k h h4 from by rw [eA]; exact ⟨rfl, ⟨_, mh4, ⟨by omega, by omega, by omega⟩⟩, ph4⟩)
    ·
      have c3 : (inR n 21) = false := c3
      refine r_aload_n C (dx dX7_noTold 12 rfl) rfl ?_
      refine r_bipush (v := -2) C (dx dX7_noTold 13 rfl) rfl ?_
      refine r_cv (as := [vi (-2)]) (st := []) C X I_X7_refuse l_X7_83 (c_X7_refuse hm (x := -2) (j := 2) (by decide) (by decide)) (by decide) (Nat.le_of_ble_eq_true rfl) List.prefix_rfl List.prefix_rfl rfl rfl (Nat.le_of_ble_eq_true rfl) rfl (dx dX7_noTold 14 rfl) ?_
      rintro _ h8 ⟨rfl, ⟨wh8, m9h8, s9h8⟩, qh8⟩ kkh8
      obtain ⟨vh8, mh8, zh8⟩ : ∃ v9, MilAt h8 k v9 ∧ Sz v v9 := ⟨_, m9h8, s9h8⟩
      have ph8 : Kp k h h8 := qh8
      have kh8 : xK h8 = xK h := kkh8
      obtain ⟨ah8, bh8, ch8⟩ := zh8
      have eA : tfV g s n = -2 := by exact tf_in (fun z => by rw [c3] at z; cases z.2)
      exact F.1 _ _ _ _ _ rfl rfl (dx dX7_noTold 15 rfl) kh8 (show some (vi (-2)) = some (vi (tfV g s n)) ∧ (∃ v', MilAt h8 k v' ∧ Sz v v') ∧ Kp k h h8 from by rw [eA]; exact ⟨rfl, ⟨_, mh8, ⟨by omega, by omega, by omega⟩⟩, ph8⟩)
set_option maxHeartbeats 4000000 in
theorem c_X7_comeOn {l : Launch} {h : Hp} {k : Nat} {v : Vg} (hm : MilAt h k v) {σ i : Nat} (hσ : σ < 8) (hi : i < 40) : Ms l yX7_comeOn cX7_comeOn 3 (some .int) 4 [vr 7 k, vi (nI σ), vi (nI i)] h (xK h) (fun r h' => PI r ∧ h' = h) := by
  refine Ms.of (by decide) (Nat.le_of_ble_eq_true rfl) (fun G C X F => ?_)
  have C : Cx G cX7_comeOn 3 RX7 := C
  show Rr G 0 [(0, vr 7 k), (1, vi (nI σ)), (2, vi (nI i))] [] h
  have bP := hm.bP
  have bM := hm.bM
  have bN := hm.bN
  refine r_aload_n C (dx dX7_comeOn 0 rfl) rfl ?_
  refine g_X7_21 C (dx dX7_comeOn 1 rfl) ?_
  refine r_iload_n C (dx dX7_comeOn 2 rfl) rfl ?_
  refine r_aald5 (j := σ) C rfl rfl (by decide) rfl (by omega) (dx dX7_comeOn 3 rfl) ?_
  refine r_iload_n C (dx dX7_comeOn 4 rfl) rfl ?_
  refine r_lald (j := i) (x := xL h (k + 5 + σ) i) C rfl rfl (by decide) rfl (by omega) (dx dX7_comeOn 5 rfl) rfl ?_
  refine r_l2i C (dx dX7_comeOn 6 rfl) ?_
  refine r_aload_n C (dx dX7_comeOn 7 rfl) rfl ?_
  refine r_cvP (as := []) (st := [vi ((xL h (k + 5 + σ) i).toInt32)]) (v := vi (full (vN v))) C X I_X7_all l_X7_253 (c_X7_all hm) (by decide) (Nat.le_of_ble_eq_true rfl) List.prefix_rfl rfl rfl (Nat.le_of_ble_eq_true rfl) rfl (dx dX7_comeOn 8 rfl) ?_
  refine r_iand C (dx dX7_comeOn 9 rfl) ?_
  refine r_aload_n C (dx dX7_comeOn 10 rfl) rfl ?_
  refine r_cvW (as := []) (st := [vi (((xL h (k + 5 + σ) i).toInt32) &&& (full (vN v)))]) C X I_X7_crossOnes l_X7_322 (c_X7_crossOnes hm) (by decide) (Nat.le_of_ble_eq_true rfl) List.prefix_rfl rfl rfl (Nat.le_of_ble_eq_true rfl) rfl (dx dX7_comeOn 11 rfl) ?_
  rintro _ ⟨x1, rfl⟩
  refine r_iconst (v := -1) C (dx dX7_comeOn 12 rfl) rfl ?_
  refine r_ixor C (dx dX7_comeOn 13 rfl) ?_
  refine r_iand C (dx dX7_comeOn 14 rfl) ?_
  exact F.1 _ _ _ _ .int rfl rfl (dx dX7_comeOn 15 rfl) rfl ⟨⟨_, rfl⟩, rfl⟩
set_option maxHeartbeats 4000000 in
theorem c_X7_judge {l : Launch} {h : Hp} {k : Nat} {v : Vg} {g : Sg} (hm : MilAt h k v) (hs : MshAt h k g) (m s n : Int32) : Ms l yX7_judge cX7_judge 6 (some .int) 8 [vr 7 k, vi m, vi s, vi n] h (xK h) (fun r h' => PI r ∧ (∃ v', MilAt h' k v') ∧ Kp k h h') := by
  refine Ms.of (by decide) (Nat.le_of_ble_eq_true rfl) (fun G C X F => ?_)
  have C : Cx G cX7_judge 6 RX7 := C
  show Rr G 0 [(0, vr 7 k), (1, vi m), (2, vi s), (3, vi n)] [] h
  have bP := hm.bP
  have bM := hm.bM
  have bN := hm.bN
  refine r_aload_n C (dx dX7_judge 0 rfl) rfl ?_
  refine r_iload_n C (dx dX7_judge 1 rfl) rfl ?_
  refine r_cvP (as := [vi m]) (st := []) (v := vi (b2i (inR m (vM v)))) C X I_X7_isMachine l_X7_241 (c_X7_isMachine hm _) (by decide) (Nat.le_of_ble_eq_true rfl) List.prefix_rfl rfl rfl (Nat.le_of_ble_eq_true rfl) rfl (dx dX7_judge 2 rfl) ?_
  refine rb_ne (b := inR m (vM v)) (tgt := 15) C (dx dX7_judge 3 rfl) (by decide) (fun c1 => ?_) (fun c1 => ?_)
  ·
    have c1 : (inR m (vM v)) = true := c1
    obtain ⟨μ, hμ, rfl⟩ := inR_ex (n := (vM v)) (by omega) c1
    refine r_aload_n C (dx dX7_judge 8 rfl) rfl ?_
    refine r_iload_n C (dx dX7_judge 9 rfl) rfl ?_
    refine r_iload_n C (dx dX7_judge 10 rfl) rfl ?_
    refine r_cv (as := [vi s, vi n]) (st := []) C X I_X7_noTold l_X7_329 (c_X7_noTold hm hs _ _) (by decide) (Nat.le_of_ble_eq_true rfl) List.prefix_rfl List.prefix_rfl rfl rfl (Nat.le_of_ble_eq_true rfl) rfl (dx dX7_judge 11 rfl) ?_
    rintro _ h2 ⟨rfl, ⟨wh2, m9h2, s9h2⟩, qh2⟩ kkh2
    obtain ⟨vh2, mh2, zh2⟩ : ∃ v9, MilAt h2 k v9 ∧ Sz v v9 := ⟨_, m9h2, s9h2⟩
    have ph2 : Kp k h h2 := qh2
    have kh2 : xK h2 = xK h := kkh2
    obtain ⟨ah2, bh2, ch2⟩ := zh2
    refine r_istore (ls' := [(0, vr 7 k), (1, vi (nI μ)), (2, vi s), (3, vi n), (4, vi (tfV g s n))]) C (dx dX7_judge 12 rfl) (by decide) [1, 2, 3, 4, 0] rfl ?_
    refine r_iload C (dx dX7_judge 13 rfl) rfl ?_
    refine r_if_eq (tgt := 31) C (dx dX7_judge 14 rfl) (by decide) (fun c3 => ?_) (fun c3 => ?_)
    ·
      have c3 : tfV g s n = 0 := c3
      obtain ⟨σ, hσ, ν, hν, rfl, rfl⟩ := tf_ok2 c3
      refine r_iconst (v := nI 0) C (dx dX7_judge 17 rfl) rfl ?_
      refine r_istore (ls' := [(0, vr 7 k), (1, vi (nI μ)), (2, vi (nI σ)), (3, vi (nI ν)), (4, vi (tfV g (nI σ) (nI ν))), (5, vi (nI 0))]) C (dx dX7_judge 18 rfl) (by decide) [1, 2, 3, 4, 5, 0] rfl ?_
      refine loopU (Φ := fun p => Rr G 34 [(0, vr 7 k), (1, vi (nI μ)), (2, vi (nI σ)), (3, vi (nI ν)), (4, vi (tfV g (nI σ) (nI ν))), (5, vi (nI p))] [] h2) (N := ν) ?_ ?_ 0 (by omega) 
      ·
        refine r_iload C (dx dX7_judge 19 rfl) rfl ?_
        refine r_iload_n C (dx dX7_judge 20 rfl) rfl ?_
        refine rn_ge (a := ν) (b := ν) (tgt := 64) C (by omega) (by omega) (dx dX7_judge 21 rfl) (by decide) (fun c4 => ?_) (fun c4 => ?_)
        · first
          | (omega; done)
          | (
              have c4 : ν ≤ ν := c4
              refine r_iconst (v := -1) C (dx dX7_judge 34 rfl) rfl ?_
              exact F.1 _ _ _ _ .int rfl rfl (dx dX7_judge 35 rfl) kh2 ⟨⟨_, rfl⟩, ⟨_, mh2⟩, ph2⟩)
        · first
          | (omega; done)
      ·
        intro p hp ihp
        refine r_iload C (dx dX7_judge 19 rfl) rfl ?_
        refine r_iload_n C (dx dX7_judge 20 rfl) rfl ?_
        refine rn_ge (a := p) (b := ν) (tgt := 64) C (by omega) (by omega) (dx dX7_judge 21 rfl) (by decide) (fun c8 => ?_) (fun c8 => ?_)
        · first
          | (omega; done)
          | (
              have c8 : ν ≤ p := c8
              refine r_iconst (v := -1) C (dx dX7_judge 34 rfl) rfl ?_
              exact F.1 _ _ _ _ .int rfl rfl (dx dX7_judge 35 rfl) kh2 ⟨⟨_, rfl⟩, ⟨_, mh2⟩, ph2⟩)
        · first
          | (omega; done)
          | (
              have c8 : p < ν := c8
              refine r_aload_n C (dx dX7_judge 22 rfl) rfl ?_
              refine r_iload_n C (dx dX7_judge 23 rfl) rfl ?_
              refine r_aload_n C (dx dX7_judge 24 rfl) rfl ?_
              refine r_iload_n C (dx dX7_judge 25 rfl) rfl ?_
              refine r_iload C (dx dX7_judge 26 rfl) rfl ?_
              refine r_cvW (as := [vi (nI σ), vi (nI p)]) (st := [vi (nI μ), vr 7 k]) C X I_X7_comeOn l_X7_332 (c_X7_comeOn mh2 (σ := σ) (i := p) (by omega) (by omega)) (by decide) (Nat.le_of_ble_eq_true rfl) (pfx_eq kh2) rfl rfl (Nat.le_of_ble_eq_true rfl) rfl (dx dX7_judge 27 rfl) ?_
              rintro _ ⟨x9, rfl⟩
              refine r_cvW (as := [vi (nI μ), vi x9]) (st := []) C X I_X7_worksOf l_X7_250 (c_X7_worksOf mh2 (m := μ) (by omega) _) (by decide) (Nat.le_of_ble_eq_true rfl) (pfx_eq kh2) rfl rfl (Nat.le_of_ble_eq_true rfl) rfl (dx dX7_judge 28 rfl) ?_
              rintro _ ⟨x10, rfl⟩
              refine rb_ne (b := x10) (tgt := 58) C (dx dX7_judge 29 rfl) (by decide) (fun c11 => ?_) (fun c11 => ?_)
              ·
                have c11 : x10 = true := c11
                refine rn_iinc (a := p) (k := 1) (ls' := [(0, vr 7 k), (1, vi (nI μ)), (2, vi (nI σ)), (3, vi (nI ν)), (4, vi (tfV g (nI σ) (nI ν))), (5, vi (nI (p + 1)))]) C (dx dX7_judge 32 rfl) rfl rfl (by decide) [1, 2, 3, 4, 5, 0] rfl ?_
                refine r_goto (tgt := 34) C (dx dX7_judge 33 rfl) (by decide) ?_
                exact ihp 
              ·
                have c11 : x10 = false := c11
                refine r_iload C (dx dX7_judge 30 rfl) rfl ?_
                exact F.1 _ _ _ _ .int rfl rfl (dx dX7_judge 31 rfl) kh2 ⟨⟨_, rfl⟩, ⟨_, mh2⟩, ph2⟩)
    ·
      have c3 : ¬ tfV g s n = 0 := c3
      refine r_iload C (dx dX7_judge 15 rfl) rfl ?_
      exact F.1 _ _ _ _ .int rfl rfl (dx dX7_judge 16 rfl) kh2 ⟨⟨_, rfl⟩, ⟨_, mh2⟩, ph2⟩
  ·
    have c1 : (inR m (vM v)) = false := c1
    refine r_aload_n C (dx dX7_judge 4 rfl) rfl ?_
    refine r_bipush (v := -2) C (dx dX7_judge 5 rfl) rfl ?_
    refine r_cv (as := [vi (-2)]) (st := []) C X I_X7_refuse l_X7_83 (c_X7_refuse hm (x := -2) (j := 2) (by decide) (by decide)) (by decide) (Nat.le_of_ble_eq_true rfl) List.prefix_rfl List.prefix_rfl rfl rfl (Nat.le_of_ble_eq_true rfl) rfl (dx dX7_judge 6 rfl) ?_
    rintro _ h12 ⟨rfl, ⟨wh12, m9h12, s9h12⟩, qh12⟩ kkh12
    obtain ⟨vh12, mh12, zh12⟩ : ∃ v9, MilAt h12 k v9 ∧ Sz v v9 := ⟨_, m9h12, s9h12⟩
    have ph12 : Kp k h h12 := qh12
    have kh12 : xK h12 = xK h := kkh12
    obtain ⟨ah12, bh12, ch12⟩ := zh12
    exact F.1 _ _ _ _ .int rfl rfl (dx dX7_judge 7 rfl) kh12 ⟨⟨_, rfl⟩, ⟨_, mh12⟩, ph12⟩
set_option maxHeartbeats 4000000 in
theorem c_X7_told {l : Launch} {h : Hp} {k : Nat} {v : Vg} {g : Sg} (hm : MilAt h k v) (hs : MshAt h k g) (s n : Int32) : Ms l yX7_told cX7_told 7 (some .int) 8 [vr 7 k, vi s, vi n] h (xK h) (fun r h' => PI r ∧ (∃ v', MilAt h' k v') ∧ Kp k h h') := by
  refine Ms.of (by decide) (Nat.le_of_ble_eq_true rfl) (fun G C X F => ?_)
  have C : Cx G cX7_told 7 RX7 := C
  show Rr G 0 [(0, vr 7 k), (1, vi s), (2, vi n)] [] h
  have bP := hm.bP
  have bM := hm.bM
  have bN := hm.bN
  refine r_aload_n C (dx dX7_told 0 rfl) rfl ?_
  refine r_iload_n C (dx dX7_told 1 rfl) rfl ?_
  refine r_iload_n C (dx dX7_told 2 rfl) rfl ?_
  refine r_cv (as := [vi s, vi n]) (st := []) C X I_X7_noTold l_X7_329 (c_X7_noTold hm hs _ _) (by decide) (Nat.le_of_ble_eq_true rfl) List.prefix_rfl List.prefix_rfl rfl rfl (Nat.le_of_ble_eq_true rfl) rfl (dx dX7_told 3 rfl) ?_
  rintro _ h1 ⟨rfl, ⟨wh1, m9h1, s9h1⟩, qh1⟩ kkh1
  obtain ⟨vh1, mh1, zh1⟩ : ∃ v9, MilAt h1 k v9 ∧ Sz v v9 := ⟨_, m9h1, s9h1⟩
  have ph1 : Kp k h h1 := qh1
  have kh1 : xK h1 = xK h := kkh1
  obtain ⟨ah1, bh1, ch1⟩ := zh1
  refine r_istore_n (ls' := [(0, vr 7 k), (1, vi s), (2, vi n), (3, vi (tfV g s n))]) C (dx dX7_told 4 rfl) (by decide) [1, 2, 3, 0] rfl ?_
  refine r_iload_n C (dx dX7_told 5 rfl) rfl ?_
  refine r_if_eq (tgt := 13) C (dx dX7_told 6 rfl) (by decide) (fun c2 => ?_) (fun c2 => ?_)
  ·
    have c2 : tfV g s n = 0 := c2
    obtain ⟨σ, hσ, ν, hν, rfl, rfl⟩ := tf_ok2 c2
    refine r_iconst (v := nI 0) C (dx dX7_told 9 rfl) rfl ?_
    refine r_istore (ls' := [(0, vr 7 k), (1, vi (nI σ)), (2, vi (nI ν)), (3, vi (tfV g (nI σ) (nI ν))), (4, vi (nI 0))]) C (dx dX7_told 10 rfl) (by decide) [1, 2, 3, 4, 0] rfl ?_
    refine r_iconst (v := nI 0) C (dx dX7_told 11 rfl) rfl ?_
    refine r_istore (ls' := [(0, vr 7 k), (1, vi (nI σ)), (2, vi (nI ν)), (3, vi (tfV g (nI σ) (nI ν))), (4, vi (nI 0)), (5, vi (nI 0))]) C (dx dX7_told 12 rfl) (by decide) [1, 2, 3, 4, 5, 0] rfl ?_
    refine loopU (Φ := fun p => ∀ (x4 : Int32), Rr G 19 [(0, vr 7 k), (1, vi (nI σ)), (2, vi (nI ν)), (3, vi (tfV g (nI σ) (nI ν))), (4, vi x4), (5, vi (nI p))] [] h1) (N := ν) ?_ ?_ 0 (by omega) (nI 0)
    ·
      intro  x4
      refine r_iload C (dx dX7_told 13 rfl) rfl ?_
      refine r_iload_n C (dx dX7_told 14 rfl) rfl ?_
      refine rn_ge (a := ν) (b := ν) (tgt := 81) C (by omega) (by omega) (dx dX7_told 15 rfl) (by decide) (fun c3 => ?_) (fun c3 => ?_)
      · first
        | (omega; done)
        | (
            have c3 : ν ≤ ν := c3
            refine r_iload C (dx dX7_told 43 rfl) rfl ?_
            exact F.1 _ _ _ _ .int rfl rfl (dx dX7_told 44 rfl) kh1 ⟨⟨_, rfl⟩, ⟨_, mh1⟩, ph1⟩)
      · first
        | (omega; done)
        | (
            have c3 : ν < ν := c3
            refine r_iconst (v := nI 0) C (dx dX7_told 16 rfl) rfl ?_
            refine r_istore (ls' := [(0, vr 7 k), (1, vi (nI σ)), (2, vi (nI ν)), (3, vi (tfV g (nI σ) (nI ν))), (4, vi x4), (5, vi (nI ν)), (6, vi (nI 0))]) C (dx dX7_told 17 rfl) (by decide) [1, 2, 3, 4, 5, 6, 0] rfl ?_
            refine loopU (Φ := fun q => ∀ (x4 : Int32), Rr G 28 [(0, vr 7 k), (1, vi (nI σ)), (2, vi (nI ν)), (3, vi (tfV g (nI σ) (nI ν))), (4, vi x4), (5, vi (nI ν)), (6, vi (nI q))] [] h1) (N := vM v) ?_ ?_ 0 (by omega) x4
            ·
              intro  x4
              refine r_iload C (dx dX7_told 18 rfl) rfl ?_
              refine r_aload_n C (dx dX7_told 19 rfl) rfl ?_
              refine g_X7_71 (x := nI (vM vh1)) C (dx dX7_told 20 rfl) mh1.eM ?_
              refine rn_ge (a := vM v) (b := vM vh1) (tgt := 75) C (by omega) (by omega) (dx dX7_told 21 rfl) (by decide) (fun c4 => ?_) (fun c4 => ?_)
              · first
                | (omega; done)
              · first
                | (omega; done)
            ·
              intro q hq ihq x4
              refine r_iload C (dx dX7_told 18 rfl) rfl ?_
              refine r_aload_n C (dx dX7_told 19 rfl) rfl ?_
              refine g_X7_71 (x := nI (vM vh1)) C (dx dX7_told 20 rfl) mh1.eM ?_
              refine rn_ge (a := q) (b := vM vh1) (tgt := 75) C (by omega) (by omega) (dx dX7_told 21 rfl) (by decide) (fun c8 => ?_) (fun c8 => ?_)
              · first
                | (omega; done)
              · first
                | (omega; done)
                | (
                    have c8 : q < vM vh1 := c8
                    refine r_iload C (dx dX7_told 22 rfl) rfl ?_
                    refine r_aload_n C (dx dX7_told 23 rfl) rfl ?_
                    refine r_iload C (dx dX7_told 24 rfl) rfl ?_
                    refine r_aload_n C (dx dX7_told 25 rfl) rfl ?_
                    refine r_iload_n C (dx dX7_told 26 rfl) rfl ?_
                    refine r_iload C (dx dX7_told 27 rfl) rfl ?_
                    refine r_cvW (as := [vi (nI σ), vi (nI ν)]) (st := [vi (nI q), vr 7 k, vi x4]) C X I_X7_comeOn l_X7_332 (c_X7_comeOn mh1 (σ := σ) (i := ν) (by omega) (by omega)) (by decide) (Nat.le_of_ble_eq_true rfl) (pfx_eq kh1) rfl rfl (Nat.le_of_ble_eq_true rfl) rfl (dx dX7_told 28 rfl) ?_
                    rintro _ ⟨x9, rfl⟩
                    refine r_cvW (as := [vi (nI q), vi x9]) (st := [vi x4]) C X I_X7_worksOf l_X7_250 (c_X7_worksOf mh1 (m := q) (by omega) _) (by decide) (Nat.le_of_ble_eq_true rfl) (pfx_eq kh1) rfl rfl (Nat.le_of_ble_eq_true rfl) rfl (dx dX7_told 29 rfl) ?_
                    rintro _ ⟨x10, rfl⟩
                    refine rb_eq (b := x10) (tgt := 65) C (dx dX7_told 30 rfl) (by decide) (fun c11 => ?_) (fun c11 => ?_)
                    ·
                      have c11 : x10 = false := c11
                      refine r_iconst (v := nI 0) C (dx dX7_told 36 rfl) rfl ?_
                      refine r_iadd C (dx dX7_told 37 rfl) ?_
                      refine r_istore (ls' := [(0, vr 7 k), (1, vi (nI σ)), (2, vi (nI ν)), (3, vi (tfV g (nI σ) (nI ν))), (4, vi (x4 + (nI 0))), (5, vi (nI ν)), (6, vi (nI q))]) C (dx dX7_told 38 rfl) (by decide) [1, 2, 3, 4, 0, 5, 6] rfl ?_
                      refine rn_iinc (a := q) (k := 1) (ls' := [(0, vr 7 k), (1, vi (nI σ)), (2, vi (nI ν)), (3, vi (tfV g (nI σ) (nI ν))), (4, vi (x4 + (nI 0))), (5, vi (nI ν)), (6, vi (nI (q + 1)))]) C (dx dX7_told 39 rfl) rfl rfl (by decide) [1, 2, 3, 4, 5, 6, 0] rfl ?_
                      refine r_goto (tgt := 28) C (dx dX7_told 40 rfl) (by decide) ?_
                      exact ihq (x4 + (nI 0))
                    ·
                      have c11 : x10 = true := c11
                      refine r_aload_n C (dx dX7_told 31 rfl) rfl ?_
                      refine g_X7_49 C (dx dX7_told 32 rfl) ?_
                      refine r_iload C (dx dX7_told 33 rfl) rfl ?_
                      refine r_iald (j := q) (x := vF vh1 3 q) C rfl rfl (by decide) rfl (by omega) (dx dX7_told 34 rfl) (mh1.e3 (by omega)) ?_
                      refine r_goto (tgt := 66) C (dx dX7_told 35 rfl) (by decide) ?_
                      refine r_iadd C (dx dX7_told 37 rfl) ?_
                      refine r_istore (ls' := [(0, vr 7 k), (1, vi (nI σ)), (2, vi (nI ν)), (3, vi (tfV g (nI σ) (nI ν))), (4, vi (x4 + (vF vh1 3 q))), (5, vi (nI ν)), (6, vi (nI q))]) C (dx dX7_told 38 rfl) (by decide) [1, 2, 3, 4, 0, 5, 6] rfl ?_
                      refine rn_iinc (a := q) (k := 1) (ls' := [(0, vr 7 k), (1, vi (nI σ)), (2, vi (nI ν)), (3, vi (tfV g (nI σ) (nI ν))), (4, vi (x4 + (vF vh1 3 q))), (5, vi (nI ν)), (6, vi (nI (q + 1)))]) C (dx dX7_told 39 rfl) rfl rfl (by decide) [1, 2, 3, 4, 5, 6, 0] rfl ?_
                      refine r_goto (tgt := 28) C (dx dX7_told 40 rfl) (by decide) ?_
                      exact ihq (x4 + (vF vh1 3 q))))
    ·
      intro p hp ihp x4
      refine r_iload C (dx dX7_told 13 rfl) rfl ?_
      refine r_iload_n C (dx dX7_told 14 rfl) rfl ?_
      refine rn_ge (a := p) (b := ν) (tgt := 81) C (by omega) (by omega) (dx dX7_told 15 rfl) (by decide) (fun c12 => ?_) (fun c12 => ?_)
      · first
        | (omega; done)
        | (
            have c12 : ν ≤ p := c12
            refine r_iload C (dx dX7_told 43 rfl) rfl ?_
            exact F.1 _ _ _ _ .int rfl rfl (dx dX7_told 44 rfl) kh1 ⟨⟨_, rfl⟩, ⟨_, mh1⟩, ph1⟩)
      · first
        | (omega; done)
        | (
            have c12 : p < ν := c12
            refine r_iconst (v := nI 0) C (dx dX7_told 16 rfl) rfl ?_
            refine r_istore (ls' := [(0, vr 7 k), (1, vi (nI σ)), (2, vi (nI ν)), (3, vi (tfV g (nI σ) (nI ν))), (4, vi x4), (5, vi (nI p)), (6, vi (nI 0))]) C (dx dX7_told 17 rfl) (by decide) [1, 2, 3, 4, 5, 6, 0] rfl ?_
            refine loopU (Φ := fun q => ∀ (x4 : Int32), Rr G 28 [(0, vr 7 k), (1, vi (nI σ)), (2, vi (nI ν)), (3, vi (tfV g (nI σ) (nI ν))), (4, vi x4), (5, vi (nI p)), (6, vi (nI q))] [] h1) (N := vM v) ?_ ?_ 0 (by omega) x4
            ·
              intro  x4
              refine r_iload C (dx dX7_told 18 rfl) rfl ?_
              refine r_aload_n C (dx dX7_told 19 rfl) rfl ?_
              refine g_X7_71 (x := nI (vM vh1)) C (dx dX7_told 20 rfl) mh1.eM ?_
              refine rn_ge (a := vM v) (b := vM vh1) (tgt := 75) C (by omega) (by omega) (dx dX7_told 21 rfl) (by decide) (fun c13 => ?_) (fun c13 => ?_)
              · first
                | (omega; done)
                | (
                    have c13 : vM vh1 ≤ vM v := c13
                    refine rn_iinc (a := p) (k := 1) (ls' := [(0, vr 7 k), (1, vi (nI σ)), (2, vi (nI ν)), (3, vi (tfV g (nI σ) (nI ν))), (4, vi x4), (5, vi (nI (p + 1))), (6, vi (nI (vM v)))]) C (dx dX7_told 41 rfl) rfl rfl (by decide) [1, 2, 3, 4, 5, 0, 6] rfl ?_
                    refine r_goto (tgt := 19) C (dx dX7_told 42 rfl) (by decide) ?_
                    refine r_weak C [0, 1, 2, 3, 4, 5] rfl ?_
                    exact ihp x4)
              · first
                | (omega; done)
            ·
              intro q hq ihq x4
              refine r_iload C (dx dX7_told 18 rfl) rfl ?_
              refine r_aload_n C (dx dX7_told 19 rfl) rfl ?_
              refine g_X7_71 (x := nI (vM vh1)) C (dx dX7_told 20 rfl) mh1.eM ?_
              refine rn_ge (a := q) (b := vM vh1) (tgt := 75) C (by omega) (by omega) (dx dX7_told 21 rfl) (by decide) (fun c17 => ?_) (fun c17 => ?_)
              · first
                | (omega; done)
                | (
                    have c17 : vM vh1 ≤ q := c17
                    refine rn_iinc (a := p) (k := 1) (ls' := [(0, vr 7 k), (1, vi (nI σ)), (2, vi (nI ν)), (3, vi (tfV g (nI σ) (nI ν))), (4, vi x4), (5, vi (nI (p + 1))), (6, vi (nI q))]) C (dx dX7_told 41 rfl) rfl rfl (by decide) [1, 2, 3, 4, 5, 0, 6] rfl ?_
                    refine r_goto (tgt := 19) C (dx dX7_told 42 rfl) (by decide) ?_
                    refine r_weak C [0, 1, 2, 3, 4, 5] rfl ?_
                    exact ihp x4)
              · first
                | (omega; done)
                | (
                    have c17 : q < vM vh1 := c17
                    refine r_iload C (dx dX7_told 22 rfl) rfl ?_
                    refine r_aload_n C (dx dX7_told 23 rfl) rfl ?_
                    refine r_iload C (dx dX7_told 24 rfl) rfl ?_
                    refine r_aload_n C (dx dX7_told 25 rfl) rfl ?_
                    refine r_iload_n C (dx dX7_told 26 rfl) rfl ?_
                    refine r_iload C (dx dX7_told 27 rfl) rfl ?_
                    refine r_cvW (as := [vi (nI σ), vi (nI p)]) (st := [vi (nI q), vr 7 k, vi x4]) C X I_X7_comeOn l_X7_332 (c_X7_comeOn mh1 (σ := σ) (i := p) (by omega) (by omega)) (by decide) (Nat.le_of_ble_eq_true rfl) (pfx_eq kh1) rfl rfl (Nat.le_of_ble_eq_true rfl) rfl (dx dX7_told 28 rfl) ?_
                    rintro _ ⟨x18, rfl⟩
                    refine r_cvW (as := [vi (nI q), vi x18]) (st := [vi x4]) C X I_X7_worksOf l_X7_250 (c_X7_worksOf mh1 (m := q) (by omega) _) (by decide) (Nat.le_of_ble_eq_true rfl) (pfx_eq kh1) rfl rfl (Nat.le_of_ble_eq_true rfl) rfl (dx dX7_told 29 rfl) ?_
                    rintro _ ⟨x19, rfl⟩
                    refine rb_eq (b := x19) (tgt := 65) C (dx dX7_told 30 rfl) (by decide) (fun c20 => ?_) (fun c20 => ?_)
                    ·
                      have c20 : x19 = false := c20
                      refine r_iconst (v := nI 0) C (dx dX7_told 36 rfl) rfl ?_
                      refine r_iadd C (dx dX7_told 37 rfl) ?_
                      refine r_istore (ls' := [(0, vr 7 k), (1, vi (nI σ)), (2, vi (nI ν)), (3, vi (tfV g (nI σ) (nI ν))), (4, vi (x4 + (nI 0))), (5, vi (nI p)), (6, vi (nI q))]) C (dx dX7_told 38 rfl) (by decide) [1, 2, 3, 4, 0, 5, 6] rfl ?_
                      refine rn_iinc (a := q) (k := 1) (ls' := [(0, vr 7 k), (1, vi (nI σ)), (2, vi (nI ν)), (3, vi (tfV g (nI σ) (nI ν))), (4, vi (x4 + (nI 0))), (5, vi (nI p)), (6, vi (nI (q + 1)))]) C (dx dX7_told 39 rfl) rfl rfl (by decide) [1, 2, 3, 4, 5, 6, 0] rfl ?_
                      refine r_goto (tgt := 28) C (dx dX7_told 40 rfl) (by decide) ?_
                      exact ihq (x4 + (nI 0))
                    ·
                      have c20 : x19 = true := c20
                      refine r_aload_n C (dx dX7_told 31 rfl) rfl ?_
                      refine g_X7_49 C (dx dX7_told 32 rfl) ?_
                      refine r_iload C (dx dX7_told 33 rfl) rfl ?_
                      refine r_iald (j := q) (x := vF vh1 3 q) C rfl rfl (by decide) rfl (by omega) (dx dX7_told 34 rfl) (mh1.e3 (by omega)) ?_
                      refine r_goto (tgt := 66) C (dx dX7_told 35 rfl) (by decide) ?_
                      refine r_iadd C (dx dX7_told 37 rfl) ?_
                      refine r_istore (ls' := [(0, vr 7 k), (1, vi (nI σ)), (2, vi (nI ν)), (3, vi (tfV g (nI σ) (nI ν))), (4, vi (x4 + (vF vh1 3 q))), (5, vi (nI p)), (6, vi (nI q))]) C (dx dX7_told 38 rfl) (by decide) [1, 2, 3, 4, 0, 5, 6] rfl ?_
                      refine rn_iinc (a := q) (k := 1) (ls' := [(0, vr 7 k), (1, vi (nI σ)), (2, vi (nI ν)), (3, vi (tfV g (nI σ) (nI ν))), (4, vi (x4 + (vF vh1 3 q))), (5, vi (nI p)), (6, vi (nI (q + 1)))]) C (dx dX7_told 39 rfl) rfl rfl (by decide) [1, 2, 3, 4, 5, 6, 0] rfl ?_
                      refine r_goto (tgt := 28) C (dx dX7_told 40 rfl) (by decide) ?_
                      exact ihq (x4 + (vF vh1 3 q))))
  ·
    have c2 : ¬ tfV g s n = 0 := c2
    refine r_iload_n C (dx dX7_told 7 rfl) rfl ?_
    exact F.1 _ _ _ _ .int rfl rfl (dx dX7_told 8 rfl) kh1 ⟨⟨_, rfl⟩, ⟨_, mh1⟩, ph1⟩
