/-! PART 60: the class, exactly: tape, texts, lay, and two more -/
def fdC (B : Nat → Int32) (z : Nat) (x : Int32) (ν : Nat) : Nat → Nat → Int32
  | 0 => B
  | t + 1 => sf (fdC B z x ν t) (z + t) (vp_nar .byte ((x >>> (nI (8 * (ν - 1 - t)) &&& 31)).toInt8.toInt32))
theorem fdC_s {B : Nat → Int32} {z ν j : Nat} {x : Int32} (h : j + 1 ≤ ν) : fdC B z x ν (ν - j) = sf (fdC B z x ν (ν - (j + 1))) (z + (ν - (j + 1))) (vp_nar .byte ((x >>> (nI (8 * j) &&& 31)).toInt8.toInt32)) := by
  rw [show ν - j = (ν - (j + 1)) + 1 by omega]
  simp only [fdC]
  rw [show ν - 1 - (ν - (j + 1)) = j by omega]
def feedC (B : Nat → Int32) (z : Nat) (x n : Int32) : Nat → Int32 := if feedZ z n = z then B else fdC B z x n.toNatClampNeg n.toNatClampNeg
theorem ri_ex (B : Nat → Int32) (z : Nat) : ∀ (f n : Nat) (q : Tkn) (v : Vg), (riS B z f n q v).1 = -1 ∨ ∃ m, m < n + f ∧ (riS B z f n q v).1 = nI m
  | 0, _, _, _ => Or.inl rfl
  | f + 1, n, q, v => by
    simp only [riS]
    split
    · exact Or.inl rfl
    · split
      · exact Or.inr ⟨n, by omega, rfl⟩
      · split
        · exact (ri_ex B z f (n + 1) _ _).imp id (fun ⟨m, h, e⟩ => ⟨m, by omega, e⟩)
        · exact Or.inl rfl
theorem vl_pos {B : Nat → Int32} {z : Nat} {v : Vg} (h : 0 ≤ (riS B z 250 1 (stp B z 0) v).1) : vlA B z v = (riS B z 250 1 (stp B z 0) v).1 ∧ vlV B z v = (riS B z 250 1 (stp B z 0) v).2.2 := by
  have n : ¬ (vlW B z v).1 = -1 := fun e => by
    have h2 : (0 : Int32) ≤ (vlW B z v).1 := h
    rw [e] at h2; exact absurd h2 (by decide)
  unfold vlA vlV
  rw [if_neg n, if_neg n]; exact ⟨rfl, rfl⟩
theorem vl_neg {B : Nat → Int32} {z : Nat} {v : Vg} (h : ¬ 0 ≤ (riS B z 250 1 (stp B z 0) v).1) : vlA B z v = -20 - nI (riS B z 250 1 (stp B z 0) v).2.1.2.1 ∧ vlV B z v = v := by
  have n : (vlW B z v).1 = -1 := by
    rcases ri_ex B z 250 1 (stp B z 0) v with e | ⟨m, hm, e⟩
    · exact e
    · exact absurd (by rw [e]; exact Int32.not_lt.mp (nI_pos (by omega))) h
  unfold vlA vlV
  rw [if_pos n, if_pos n]; exact ⟨rfl, rfl⟩
theorem lay_n {v : Vg} {g : Sg} {s : Int32} (h : ¬ (inR s 8 = true ∧ hfV g s = 0)) : layV v g s = v := by
  unfold layV nhA
  by_cases c : inR s 8 = true
  · rw [if_pos c, if_neg (fun e => h ⟨c, e⟩)]
  · rw [if_neg c, if_neg (by decide)]
set_option maxHeartbeats 4000000 in
theorem x_copy {l : Launch} {h : Hp} {v u w : Vg} {g : Sg} {B : Nat → Int32} {z : Nat} {κ : Int32} (o : Ow h v u w g B z κ) (hg : GOk g) (p q i j n : Int32) : Ms l yX6_copy cX6_copy 6 (some .int) 20 [vr 6 0, vi p, vi q, vi i, vi j, vi n] h (xK h) (fun r h' => r = some (vi (copA g p q i j n)) ∧ OwX h h' v w (copG g p q i j n) B z κ) := by
  refine Ms.of (by decide) (Nat.le_of_ble_eq_true rfl) (fun G C X F => ?_)
  have C : Cx G cX6_copy 6 RX6 := C
  show Rr G 0 [(0, vr 6 0), (1, vi p), (2, vi q), (3, vi i), (4, vi j), (5, vi n)] [] h
  have bP := o.pv.bP
  have bM := o.pv.bM
  have bN := o.pv.bN
  have bz := o.pt.2.2
  refine r_aload_n C (dx dX6_copy 0 rfl) rfl ?_
  refine g_X6_57 C (dx dX6_copy 1 rfl) ?_
  refine r_iload_n C (dx dX6_copy 2 rfl) rfl ?_
  refine r_cvP (as := [vi p]) (st := []) (v := vi (b2i (inR p 8))) C X I_X2_isShelf l_X6_72 (c_X2_isShelf _) (by decide) (Nat.le_of_ble_eq_true rfl) List.prefix_rfl rfl rfl (Nat.le_of_ble_eq_true rfl) rfl (dx dX6_copy 3 rfl) ?_
  refine rb_eq (b := inR p 8) (tgt := 22) C (dx dX6_copy 4 rfl) (by decide) (fun c1 => ?_) (fun c1 => ?_)
  ·
    have c1 : (inR p 8) = false := c1
    refine r_aload_n C (dx dX6_copy 10 rfl) rfl ?_
    refine r_bipush (v := -2) C (dx dX6_copy 11 rfl) rfl ?_
    refine r_cv (as := [vi (-2)]) (st := []) C X I_X6_refuse l_X6_76 (c_X6_refuse (-2)) (by decide) (Nat.le_of_ble_eq_true rfl) List.prefix_rfl List.prefix_rfl rfl rfl (Nat.le_of_ble_eq_true rfl) rfl (dx dX6_copy 12 rfl) ?_
    intro rh2 h2 hph2 kkh2
    obtain ⟨rfl, gh2⟩ := hph2
    have oh2 : Ow h2 v u w g B z κ := o.ref gh2
    have fh2 : Fr 0 63 h h2 := gh2.mono (by omega) (by omega)
    have kh2 : xK h2 = xK h := kkh2
    have eA : copA g p q i j n = -2 := by simp [copA, copG, copF, cpOk, c1]
    have eG : copG g p q i j n = g := by simp [copA, copG, copF, cpOk, c1]
    exact F.1 _ _ _ _ _ rfl rfl (dx dX6_copy 13 rfl) kh2 (show some (vi (-2)) = some (vi (copA g p q i j n)) ∧ OwX h h2 v w (copG g p q i j n) B z κ from by rw [eA, eG]; exact ⟨rfl, ⟨_, oh2⟩, fh2⟩)
  ·
    have c1 : (inR p 8) = true := c1
    obtain ⟨π, hπ, rfl⟩ := inR_ex (n := 8) (by omega) c1
    refine r_aload_n C (dx dX6_copy 5 rfl) rfl ?_
    refine g_X6_57 C (dx dX6_copy 6 rfl) ?_
    refine r_iload_n C (dx dX6_copy 7 rfl) rfl ?_
    refine r_cvP (as := [vi q]) (st := []) (v := vi (b2i (inR q 8))) C X I_X2_isShelf l_X6_72 (c_X2_isShelf _) (by decide) (Nat.le_of_ble_eq_true rfl) List.prefix_rfl rfl rfl (Nat.le_of_ble_eq_true rfl) rfl (dx dX6_copy 8 rfl) ?_
    refine rb_ne (b := inR q 8) (tgt := 29) C (dx dX6_copy 9 rfl) (by decide) (fun c3 => ?_) (fun c3 => ?_)
    ·
      have c3 : (inR q 8) = true := c3
      obtain ⟨θ, hθ, rfl⟩ := inR_ex (n := 8) (by omega) c3
      refine r_aload_n C (dx dX6_copy 14 rfl) rfl ?_
      refine g_X6_57 C (dx dX6_copy 15 rfl) ?_
      refine r_iload_n C (dx dX6_copy 16 rfl) rfl ?_
      refine r_cvP (as := [vi (nI π)]) (st := []) (v := vi (b2i (holdB g (nI π)))) C X I_X2_isOfHolding l_X6_94 (c_X2_isOfHolding o.pg _) (by decide) (Nat.le_of_ble_eq_true rfl) List.prefix_rfl rfl rfl (Nat.le_of_ble_eq_true rfl) rfl (dx dX6_copy 17 rfl) ?_
      refine rb_ne (b := holdB g (nI π)) (tgt := 51) C (dx dX6_copy 18 rfl) (by decide) (fun c4 => ?_) (fun c4 => ?_)
      ·
        have c4 : (holdB g (nI π)) = true := c4
        refine r_aload_n C (dx dX6_copy 24 rfl) rfl ?_
        refine r_bipush (v := -3) C (dx dX6_copy 25 rfl) rfl ?_
        refine r_cv (as := [vi (-3)]) (st := []) C X I_X6_refuse l_X6_76 (c_X6_refuse (-3)) (by decide) (Nat.le_of_ble_eq_true rfl) List.prefix_rfl List.prefix_rfl rfl rfl (Nat.le_of_ble_eq_true rfl) rfl (dx dX6_copy 26 rfl) ?_
        intro rh5 h5 hph5 kkh5
        obtain ⟨rfl, gh5⟩ := hph5
        have oh5 : Ow h5 v u w g B z κ := o.ref gh5
        have fh5 : Fr 0 63 h h5 := gh5.mono (by omega) (by omega)
        have kh5 : xK h5 = xK h := kkh5
        have eA : copA g (nI π) (nI θ) i j n = -3 := by simp [copA, copG, copF, cpOk, clN (show π < 2 ^ 31 by omega), clN (show θ < 2 ^ 31 by omega), inR_nI (show π < 2 ^ 31 by omega), inR_nI (show θ < 2 ^ 31 by omega), show π < 8 by omega, show θ < 8 by omega, c1, c3, c4]
        have eG : copG g (nI π) (nI θ) i j n = g := by simp [copA, copG, copF, cpOk, clN (show π < 2 ^ 31 by omega), clN (show θ < 2 ^ 31 by omega), inR_nI (show π < 2 ^ 31 by omega), inR_nI (show θ < 2 ^ 31 by omega), show π < 8 by omega, show θ < 8 by omega, c1, c3, c4]
        exact F.1 _ _ _ _ _ rfl rfl (dx dX6_copy 27 rfl) kh5 (show some (vi (-3)) = some (vi (copA g (nI π) (nI θ) i j n)) ∧ OwX h h5 v w (copG g (nI π) (nI θ) i j n) B z κ from by rw [eA, eG]; exact ⟨rfl, ⟨_, oh5⟩, fh5⟩)
      ·
        have c4 : (holdB g (nI π)) = false := c4
        refine r_aload_n C (dx dX6_copy 19 rfl) rfl ?_
        refine g_X6_57 C (dx dX6_copy 20 rfl) ?_
        refine r_iload_n C (dx dX6_copy 21 rfl) rfl ?_
        refine r_cvP (as := [vi (nI θ)]) (st := []) (v := vi (b2i (holdB g (nI θ)))) C X I_X2_isOfHolding l_X6_94 (c_X2_isOfHolding o.pg _) (by decide) (Nat.le_of_ble_eq_true rfl) List.prefix_rfl rfl rfl (Nat.le_of_ble_eq_true rfl) rfl (dx dX6_copy 22 rfl) ?_
        refine rb_eq (b := holdB g (nI θ)) (tgt := 58) C (dx dX6_copy 23 rfl) (by decide) (fun c6 => ?_) (fun c6 => ?_)
        ·
          have c6 : (holdB g (nI θ)) = false := c6
          refine r_aload_n C (dx dX6_copy 28 rfl) rfl ?_
          refine g_X6_57 C (dx dX6_copy 29 rfl) ?_
          refine r_iload_n C (dx dX6_copy 30 rfl) rfl ?_
          refine r_cvP (as := [vi (nI π)]) (st := []) (v := vi (b2i (bareB g (nI π)))) C X I_X2_isBare l_X6_97 (c_X2_isBare o.pg _) (by decide) (Nat.le_of_ble_eq_true rfl) List.prefix_rfl rfl rfl (Nat.le_of_ble_eq_true rfl) rfl (dx dX6_copy 31 rfl) ?_
          refine rb_ne (b := bareB g (nI π)) (tgt := 80) C (dx dX6_copy 32 rfl) (by decide) (fun c7 => ?_) (fun c7 => ?_)
          ·
            have c7 : (bareB g (nI π)) = true := c7
            refine r_aload_n C (dx dX6_copy 38 rfl) rfl ?_
            refine r_bipush (v := -4) C (dx dX6_copy 39 rfl) rfl ?_
            refine r_cv (as := [vi (-4)]) (st := []) C X I_X6_refuse l_X6_76 (c_X6_refuse (-4)) (by decide) (Nat.le_of_ble_eq_true rfl) List.prefix_rfl List.prefix_rfl rfl rfl (Nat.le_of_ble_eq_true rfl) rfl (dx dX6_copy 40 rfl) ?_
            intro rh8 h8 hph8 kkh8
            obtain ⟨rfl, gh8⟩ := hph8
            have oh8 : Ow h8 v u w g B z κ := o.ref gh8
            have fh8 : Fr 0 63 h h8 := gh8.mono (by omega) (by omega)
            have kh8 : xK h8 = xK h := kkh8
            have eA : copA g (nI π) (nI θ) i j n = -4 := by simp [copA, copG, copF, cpOk, clN (show π < 2 ^ 31 by omega), clN (show θ < 2 ^ 31 by omega), inR_nI (show π < 2 ^ 31 by omega), inR_nI (show θ < 2 ^ 31 by omega), show π < 8 by omega, show θ < 8 by omega, c1, c3, c4, c6, c7]
            have eG : copG g (nI π) (nI θ) i j n = g := by simp [copA, copG, copF, cpOk, clN (show π < 2 ^ 31 by omega), clN (show θ < 2 ^ 31 by omega), inR_nI (show π < 2 ^ 31 by omega), inR_nI (show θ < 2 ^ 31 by omega), show π < 8 by omega, show θ < 8 by omega, c1, c3, c4, c6, c7]
            exact F.1 _ _ _ _ _ rfl rfl (dx dX6_copy 41 rfl) kh8 (show some (vi (-4)) = some (vi (copA g (nI π) (nI θ) i j n)) ∧ OwX h h8 v w (copG g (nI π) (nI θ) i j n) B z κ from by rw [eA, eG]; exact ⟨rfl, ⟨_, oh8⟩, fh8⟩)
          ·
            have c7 : (bareB g (nI π)) = false := c7
            refine r_aload_n C (dx dX6_copy 33 rfl) rfl ?_
            refine g_X6_57 C (dx dX6_copy 34 rfl) ?_
            refine r_iload_n C (dx dX6_copy 35 rfl) rfl ?_
            refine r_cvP (as := [vi (nI θ)]) (st := []) (v := vi (b2i (bareB g (nI θ)))) C X I_X2_isBare l_X6_97 (c_X2_isBare o.pg _) (by decide) (Nat.le_of_ble_eq_true rfl) List.prefix_rfl rfl rfl (Nat.le_of_ble_eq_true rfl) rfl (dx dX6_copy 36 rfl) ?_
            refine rb_eq (b := bareB g (nI θ)) (tgt := 87) C (dx dX6_copy 37 rfl) (by decide) (fun c9 => ?_) (fun c9 => ?_)
            ·
              have c9 : (bareB g (nI θ)) = false := c9
              refine r_aload_n C (dx dX6_copy 42 rfl) rfl ?_
              refine g_X6_57 C (dx dX6_copy 43 rfl) ?_
              refine r_iload_n C (dx dX6_copy 44 rfl) rfl ?_
              refine r_cvP (as := [vi (nI π)]) (st := []) (v := vi (tOn g (nI π))) C X I_X2_thingOn l_X6_100 (c_X2_thingOn o.pg _) (by decide) (Nat.le_of_ble_eq_true rfl) List.prefix_rfl rfl rfl (Nat.le_of_ble_eq_true rfl) rfl (dx dX6_copy 45 rfl) ?_
              refine r_aload_n C (dx dX6_copy 46 rfl) rfl ?_
              refine g_X6_57 C (dx dX6_copy 47 rfl) ?_
              refine r_iload_n C (dx dX6_copy 48 rfl) rfl ?_
              refine r_cvP (as := [vi (nI θ)]) (st := [vi (tOn g (nI π))]) (v := vi (tOn g (nI θ))) C X I_X2_thingOn l_X6_100 (c_X2_thingOn o.pg _) (by decide) (Nat.le_of_ble_eq_true rfl) List.prefix_rfl rfl rfl (Nat.le_of_ble_eq_true rfl) rfl (dx dX6_copy 49 rfl) ?_
              refine r_icmp_eq (tgt := 113) C (dx dX6_copy 50 rfl) (by decide) (fun c10 => ?_) (fun c10 => ?_)
              ·
                have c10 : tOn g (nI π) = tOn g (nI θ) := c10
                refine r_iload C (dx dX6_copy 55 rfl) rfl ?_
                refine r_if_lt (tgt := 158) C (dx dX6_copy 56 rfl) (by decide) (fun c11 => ?_) (fun c11 => ?_)
                ·
                  have c11 : n < 0 := c11
                  refine r_aload_n C (dx dX6_copy 77 rfl) rfl ?_
                  refine r_bipush (v := -2) C (dx dX6_copy 78 rfl) rfl ?_
                  refine r_cv (as := [vi (-2)]) (st := []) C X I_X6_refuse l_X6_76 (c_X6_refuse (-2)) (by decide) (Nat.le_of_ble_eq_true rfl) List.prefix_rfl List.prefix_rfl rfl rfl (Nat.le_of_ble_eq_true rfl) rfl (dx dX6_copy 79 rfl) ?_
                  intro rh12 h12 hph12 kkh12
                  obtain ⟨rfl, gh12⟩ := hph12
                  have oh12 : Ow h12 v u w g B z κ := o.ref gh12
                  have fh12 : Fr 0 63 h h12 := gh12.mono (by omega) (by omega)
                  have kh12 : xK h12 = xK h := kkh12
                  have eA : copA g (nI π) (nI θ) i j n = -2 := by simp [copA, copG, copF, cpOk, clN (show π < 2 ^ 31 by omega), clN (show θ < 2 ^ 31 by omega), inR_nI (show π < 2 ^ 31 by omega), inR_nI (show θ < 2 ^ 31 by omega), show π < 8 by omega, show θ < 8 by omega, c1, c3, c4, c6, c7, c9, c10, (fun n9 => inR_neg (n := n9) c11 : ∀ n9, inR n n9 = false), c11]
                  have eG : copG g (nI π) (nI θ) i j n = g := by simp [copA, copG, copF, cpOk, clN (show π < 2 ^ 31 by omega), clN (show θ < 2 ^ 31 by omega), inR_nI (show π < 2 ^ 31 by omega), inR_nI (show θ < 2 ^ 31 by omega), show π < 8 by omega, show θ < 8 by omega, c1, c3, c4, c6, c7, c9, c10, (fun n9 => inR_neg (n := n9) c11 : ∀ n9, inR n n9 = false), c11]
                  exact F.1 _ _ _ _ _ rfl rfl (dx dX6_copy 80 rfl) kh12 (show some (vi (-2)) = some (vi (copA g (nI π) (nI θ) i j n)) ∧ OwX h h12 v w (copG g (nI π) (nI θ) i j n) B z κ from by rw [eA, eG]; exact ⟨rfl, ⟨_, oh12⟩, fh12⟩)
                ·
                  have c11 : ¬ n < 0 := c11
                  obtain ⟨ν, hν, rfl⟩ := nI_of c11
                  refine r_iload_n C (dx dX6_copy 57 rfl) rfl ?_
                  refine r_if_lt (tgt := 158) C (dx dX6_copy 58 rfl) (by decide) (fun c13 => ?_) (fun c13 => ?_)
                  ·
                    have c13 : i < 0 := c13
                    refine r_aload_n C (dx dX6_copy 77 rfl) rfl ?_
                    refine r_bipush (v := -2) C (dx dX6_copy 78 rfl) rfl ?_
                    refine r_cv (as := [vi (-2)]) (st := []) C X I_X6_refuse l_X6_76 (c_X6_refuse (-2)) (by decide) (Nat.le_of_ble_eq_true rfl) List.prefix_rfl List.prefix_rfl rfl rfl (Nat.le_of_ble_eq_true rfl) rfl (dx dX6_copy 79 rfl) ?_
                    intro rh14 h14 hph14 kkh14
                    obtain ⟨rfl, gh14⟩ := hph14
                    have oh14 : Ow h14 v u w g B z κ := o.ref gh14
                    have fh14 : Fr 0 63 h h14 := gh14.mono (by omega) (by omega)
                    have kh14 : xK h14 = xK h := kkh14
                    have eA : copA g (nI π) (nI θ) i j (nI ν) = -2 := by simp [copA, copG, copF, cpOk, clN (show π < 2 ^ 31 by omega), clN (show θ < 2 ^ 31 by omega), clN (show ν < 2 ^ 31 by omega), inR_nI (show π < 2 ^ 31 by omega), inR_nI (show θ < 2 ^ 31 by omega), inR_nI (show ν < 2 ^ 31 by omega), show π < 8 by omega, show θ < 8 by omega, c1, c3, c4, c6, c7, c9, c10, c11, (fun n9 => inR_neg (n := n9) c13 : ∀ n9, inR i n9 = false), c13]
                    have eG : copG g (nI π) (nI θ) i j (nI ν) = g := by simp [copA, copG, copF, cpOk, clN (show π < 2 ^ 31 by omega), clN (show θ < 2 ^ 31 by omega), clN (show ν < 2 ^ 31 by omega), inR_nI (show π < 2 ^ 31 by omega), inR_nI (show θ < 2 ^ 31 by omega), inR_nI (show ν < 2 ^ 31 by omega), show π < 8 by omega, show θ < 8 by omega, c1, c3, c4, c6, c7, c9, c10, c11, (fun n9 => inR_neg (n := n9) c13 : ∀ n9, inR i n9 = false), c13]
                    exact F.1 _ _ _ _ _ rfl rfl (dx dX6_copy 80 rfl) kh14 (show some (vi (-2)) = some (vi (copA g (nI π) (nI θ) i j (nI ν))) ∧ OwX h h14 v w (copG g (nI π) (nI θ) i j (nI ν)) B z κ from by rw [eA, eG]; exact ⟨rfl, ⟨_, oh14⟩, fh14⟩)
                  ·
                    have c13 : ¬ i < 0 := c13
                    obtain ⟨ι, hι, rfl⟩ := nI_of c13
                    refine r_iload C (dx dX6_copy 59 rfl) rfl ?_
                    refine r_if_lt (tgt := 158) C (dx dX6_copy 60 rfl) (by decide) (fun c15 => ?_) (fun c15 => ?_)
                    ·
                      have c15 : j < 0 := c15
                      refine r_aload_n C (dx dX6_copy 77 rfl) rfl ?_
                      refine r_bipush (v := -2) C (dx dX6_copy 78 rfl) rfl ?_
                      refine r_cv (as := [vi (-2)]) (st := []) C X I_X6_refuse l_X6_76 (c_X6_refuse (-2)) (by decide) (Nat.le_of_ble_eq_true rfl) List.prefix_rfl List.prefix_rfl rfl rfl (Nat.le_of_ble_eq_true rfl) rfl (dx dX6_copy 79 rfl) ?_
                      intro rh16 h16 hph16 kkh16
                      obtain ⟨rfl, gh16⟩ := hph16
                      have oh16 : Ow h16 v u w g B z κ := o.ref gh16
                      have fh16 : Fr 0 63 h h16 := gh16.mono (by omega) (by omega)
                      have kh16 : xK h16 = xK h := kkh16
                      have eA : copA g (nI π) (nI θ) (nI ι) j (nI ν) = -2 := by simp [copA, copG, copF, cpOk, clN (show π < 2 ^ 31 by omega), clN (show θ < 2 ^ 31 by omega), clN (show ν < 2 ^ 31 by omega), clN (show ι < 2 ^ 31 by omega), inR_nI (show π < 2 ^ 31 by omega), inR_nI (show θ < 2 ^ 31 by omega), inR_nI (show ν < 2 ^ 31 by omega), inR_nI (show ι < 2 ^ 31 by omega), show π < 8 by omega, show θ < 8 by omega, c1, c3, c4, c6, c7, c9, c10, c11, c13, (fun n9 => inR_neg (n := n9) c15 : ∀ n9, inR j n9 = false), c15]
                      have eG : copG g (nI π) (nI θ) (nI ι) j (nI ν) = g := by simp [copA, copG, copF, cpOk, clN (show π < 2 ^ 31 by omega), clN (show θ < 2 ^ 31 by omega), clN (show ν < 2 ^ 31 by omega), clN (show ι < 2 ^ 31 by omega), inR_nI (show π < 2 ^ 31 by omega), inR_nI (show θ < 2 ^ 31 by omega), inR_nI (show ν < 2 ^ 31 by omega), inR_nI (show ι < 2 ^ 31 by omega), show π < 8 by omega, show θ < 8 by omega, c1, c3, c4, c6, c7, c9, c10, c11, c13, (fun n9 => inR_neg (n := n9) c15 : ∀ n9, inR j n9 = false), c15]
                      exact F.1 _ _ _ _ _ rfl rfl (dx dX6_copy 80 rfl) kh16 (show some (vi (-2)) = some (vi (copA g (nI π) (nI θ) (nI ι) j (nI ν))) ∧ OwX h h16 v w (copG g (nI π) (nI θ) (nI ι) j (nI ν)) B z κ from by rw [eA, eG]; exact ⟨rfl, ⟨_, oh16⟩, fh16⟩)
                    ·
                      have c15 : ¬ j < 0 := c15
                      obtain ⟨ξ, hξ, rfl⟩ := nI_of c15
                      refine r_iload_n C (dx dX6_copy 61 rfl) rfl ?_
                      refine r_aload_n C (dx dX6_copy 62 rfl) rfl ?_
                      refine g_X6_57 C (dx dX6_copy 63 rfl) ?_
                      refine r_iload_n C (dx dX6_copy 64 rfl) rfl ?_
                      refine r_cvP (as := [vi (nI π)]) (st := [vi (nI ι)]) (v := vi (szV g (nI π))) C X I_X2_sizeOf l_X6_87 (c_X2_sizeOf o.pg _) (by decide) (Nat.le_of_ble_eq_true rfl) List.prefix_rfl rfl rfl (Nat.le_of_ble_eq_true rfl) rfl (dx dX6_copy 65 rfl) ?_
                      refine r_iload C (dx dX6_copy 66 rfl) rfl ?_
                      refine r_isub C (dx dX6_copy 67 rfl) ?_
                      refine r_icmp_gt (tgt := 158) C (dx dX6_copy 68 rfl) (by decide) (fun c17 => ?_) (fun c17 => ?_)
                      ·
                        have c17 : (szV g (nI π)) - (nI ν) < nI ι := c17
                        refine r_aload_n C (dx dX6_copy 77 rfl) rfl ?_
                        refine r_bipush (v := -2) C (dx dX6_copy 78 rfl) rfl ?_
                        refine r_cv (as := [vi (-2)]) (st := []) C X I_X6_refuse l_X6_76 (c_X6_refuse (-2)) (by decide) (Nat.le_of_ble_eq_true rfl) List.prefix_rfl List.prefix_rfl rfl rfl (Nat.le_of_ble_eq_true rfl) rfl (dx dX6_copy 79 rfl) ?_
                        intro rh18 h18 hph18 kkh18
                        obtain ⟨rfl, gh18⟩ := hph18
                        have oh18 : Ow h18 v u w g B z κ := o.ref gh18
                        have fh18 : Fr 0 63 h h18 := gh18.mono (by omega) (by omega)
                        have kh18 : xK h18 = xK h := kkh18
                        have eA : copA g (nI π) (nI θ) (nI ι) (nI ξ) (nI ν) = -2 := by simp [copA, copG, copF, cpOk, clN (show π < 2 ^ 31 by omega), clN (show θ < 2 ^ 31 by omega), clN (show ν < 2 ^ 31 by omega), clN (show ι < 2 ^ 31 by omega), clN (show ξ < 2 ^ 31 by omega), inR_nI (show π < 2 ^ 31 by omega), inR_nI (show θ < 2 ^ 31 by omega), inR_nI (show ν < 2 ^ 31 by omega), inR_nI (show ι < 2 ^ 31 by omega), inR_nI (show ξ < 2 ^ 31 by omega), show π < 8 by omega, show θ < 8 by omega, c1, c3, c4, c6, c7, c9, c10, c11, c13, c15, c17, (Int32.not_le.mpr c17)]
                        have eG : copG g (nI π) (nI θ) (nI ι) (nI ξ) (nI ν) = g := by simp [copA, copG, copF, cpOk, clN (show π < 2 ^ 31 by omega), clN (show θ < 2 ^ 31 by omega), clN (show ν < 2 ^ 31 by omega), clN (show ι < 2 ^ 31 by omega), clN (show ξ < 2 ^ 31 by omega), inR_nI (show π < 2 ^ 31 by omega), inR_nI (show θ < 2 ^ 31 by omega), inR_nI (show ν < 2 ^ 31 by omega), inR_nI (show ι < 2 ^ 31 by omega), inR_nI (show ξ < 2 ^ 31 by omega), show π < 8 by omega, show θ < 8 by omega, c1, c3, c4, c6, c7, c9, c10, c11, c13, c15, c17, (Int32.not_le.mpr c17)]
                        exact F.1 _ _ _ _ _ rfl rfl (dx dX6_copy 80 rfl) kh18 (show some (vi (-2)) = some (vi (copA g (nI π) (nI θ) (nI ι) (nI ξ) (nI ν))) ∧ OwX h h18 v w (copG g (nI π) (nI θ) (nI ι) (nI ξ) (nI ν)) B z κ from by rw [eA, eG]; exact ⟨rfl, ⟨_, oh18⟩, fh18⟩)
                      ·
                        have c17 : ¬ (szV g (nI π)) - (nI ν) < nI ι := c17
                        refine r_iload C (dx dX6_copy 69 rfl) rfl ?_
                        refine r_aload_n C (dx dX6_copy 70 rfl) rfl ?_
                        refine g_X6_57 C (dx dX6_copy 71 rfl) ?_
                        refine r_iload_n C (dx dX6_copy 72 rfl) rfl ?_
                        refine r_cvP (as := [vi (nI θ)]) (st := [vi (nI ξ)]) (v := vi (szV g (nI θ))) C X I_X2_sizeOf l_X6_87 (c_X2_sizeOf o.pg _) (by decide) (Nat.le_of_ble_eq_true rfl) List.prefix_rfl rfl rfl (Nat.le_of_ble_eq_true rfl) rfl (dx dX6_copy 73 rfl) ?_
                        refine r_iload C (dx dX6_copy 74 rfl) rfl ?_
                        refine r_isub C (dx dX6_copy 75 rfl) ?_
                        refine r_icmp_le (tgt := 165) C (dx dX6_copy 76 rfl) (by decide) (fun c19 => ?_) (fun c19 => ?_)
                        ·
                          have c19 : nI ξ ≤ (szV g (nI θ)) - (nI ν) := c19
                          refine r_aload_n C (dx dX6_copy 81 rfl) rfl ?_
                          refine g_X6_57 C (dx dX6_copy 82 rfl) ?_
                          refine r_iload_n C (dx dX6_copy 83 rfl) rfl ?_
                          refine r_iload_n C (dx dX6_copy 84 rfl) rfl ?_
                          refine r_iload_n C (dx dX6_copy 85 rfl) rfl ?_
                          refine r_iload C (dx dX6_copy 86 rfl) rfl ?_
                          refine r_iload C (dx dX6_copy 87 rfl) rfl ?_
                          obtain ⟨zp, lp, ep⟩ := sz_nat hg (nI π)
                          obtain ⟨zq, lq, eq⟩ := sz_nat hg (nI θ)
                          refine r_cv (as := [vi (nI π), vi (nI θ), vi (nI ι), vi (nI ξ), vi (nI ν)]) (st := []) C X I_X2_copyElements l_X6_103 (c_X2_copyElements o.pg hπ hθ (not_row c7 c4) (not_row c9 c6) ep eq lp lq (cp_le ep lp (by omega) (by omega) (Int32.not_lt.mp c17)) (cp_le eq lq (by omega) (by omega) c19)) (by decide) (Nat.le_of_ble_eq_true rfl) List.prefix_rfl List.prefix_rfl rfl rfl (Nat.le_of_ble_eq_true rfl) rfl (dx dX6_copy 88 rfl) ?_
                          intro rh20 h20 hph20 kkh20
                          obtain ⟨rfl, wh20, gh20⟩ := hph20
                          have oh20 : Ow h20 v u w (pCp g π θ ι ξ ν) B z κ := o.she wh20 gh20
                          have fh20 : Fr 0 63 h h20 := gh20.mono (by omega) (by omega)
                          have kh20 : xK h20 = xK h := kkh20
                          refine r_iload C (dx dX6_copy 89 rfl) rfl ?_
                          have eA : copA g (nI π) (nI θ) (nI ι) (nI ξ) (nI ν) = nI ν := by simp [copA, copG, copF, cpOk, clN (show π < 2 ^ 31 by omega), clN (show θ < 2 ^ 31 by omega), clN (show ν < 2 ^ 31 by omega), clN (show ι < 2 ^ 31 by omega), clN (show ξ < 2 ^ 31 by omega), inR_nI (show π < 2 ^ 31 by omega), inR_nI (show θ < 2 ^ 31 by omega), inR_nI (show ν < 2 ^ 31 by omega), inR_nI (show ι < 2 ^ 31 by omega), inR_nI (show ξ < 2 ^ 31 by omega), show π < 8 by omega, show θ < 8 by omega, c1, c3, c4, c6, c7, c9, c10, c11, c13, c15, c17, c19, (Int32.not_lt.mp c17)]
                          have eG : copG g (nI π) (nI θ) (nI ι) (nI ξ) (nI ν) = pCp g π θ ι ξ ν := by simp [copA, copG, copF, cpOk, clN (show π < 2 ^ 31 by omega), clN (show θ < 2 ^ 31 by omega), clN (show ν < 2 ^ 31 by omega), clN (show ι < 2 ^ 31 by omega), clN (show ξ < 2 ^ 31 by omega), inR_nI (show π < 2 ^ 31 by omega), inR_nI (show θ < 2 ^ 31 by omega), inR_nI (show ν < 2 ^ 31 by omega), inR_nI (show ι < 2 ^ 31 by omega), inR_nI (show ξ < 2 ^ 31 by omega), show π < 8 by omega, show θ < 8 by omega, c1, c3, c4, c6, c7, c9, c10, c11, c13, c15, c17, c19, (Int32.not_lt.mp c17)]
                          exact F.1 _ _ _ _ _ rfl rfl (dx dX6_copy 90 rfl) kh20 (show some (vi (nI ν)) = some (vi (copA g (nI π) (nI θ) (nI ι) (nI ξ) (nI ν))) ∧ OwX h h20 v w (copG g (nI π) (nI θ) (nI ι) (nI ξ) (nI ν)) B z κ from by rw [eA, eG]; exact ⟨rfl, ⟨_, oh20⟩, fh20⟩)
                        ·
                          have c19 : ¬ nI ξ ≤ (szV g (nI θ)) - (nI ν) := c19
                          refine r_aload_n C (dx dX6_copy 77 rfl) rfl ?_
                          refine r_bipush (v := -2) C (dx dX6_copy 78 rfl) rfl ?_
                          refine r_cv (as := [vi (-2)]) (st := []) C X I_X6_refuse l_X6_76 (c_X6_refuse (-2)) (by decide) (Nat.le_of_ble_eq_true rfl) List.prefix_rfl List.prefix_rfl rfl rfl (Nat.le_of_ble_eq_true rfl) rfl (dx dX6_copy 79 rfl) ?_
                          intro rh21 h21 hph21 kkh21
                          obtain ⟨rfl, gh21⟩ := hph21
                          have oh21 : Ow h21 v u w g B z κ := o.ref gh21
                          have fh21 : Fr 0 63 h h21 := gh21.mono (by omega) (by omega)
                          have kh21 : xK h21 = xK h := kkh21
                          have eA : copA g (nI π) (nI θ) (nI ι) (nI ξ) (nI ν) = -2 := by simp [copA, copG, copF, cpOk, clN (show π < 2 ^ 31 by omega), clN (show θ < 2 ^ 31 by omega), clN (show ν < 2 ^ 31 by omega), clN (show ι < 2 ^ 31 by omega), clN (show ξ < 2 ^ 31 by omega), inR_nI (show π < 2 ^ 31 by omega), inR_nI (show θ < 2 ^ 31 by omega), inR_nI (show ν < 2 ^ 31 by omega), inR_nI (show ι < 2 ^ 31 by omega), inR_nI (show ξ < 2 ^ 31 by omega), show π < 8 by omega, show θ < 8 by omega, c1, c3, c4, c6, c7, c9, c10, c11, c13, c15, c17, c19, (Int32.not_lt.mp c17), (Int32.not_le.mp c19)]
                          have eG : copG g (nI π) (nI θ) (nI ι) (nI ξ) (nI ν) = g := by simp [copA, copG, copF, cpOk, clN (show π < 2 ^ 31 by omega), clN (show θ < 2 ^ 31 by omega), clN (show ν < 2 ^ 31 by omega), clN (show ι < 2 ^ 31 by omega), clN (show ξ < 2 ^ 31 by omega), inR_nI (show π < 2 ^ 31 by omega), inR_nI (show θ < 2 ^ 31 by omega), inR_nI (show ν < 2 ^ 31 by omega), inR_nI (show ι < 2 ^ 31 by omega), inR_nI (show ξ < 2 ^ 31 by omega), show π < 8 by omega, show θ < 8 by omega, c1, c3, c4, c6, c7, c9, c10, c11, c13, c15, c17, c19, (Int32.not_lt.mp c17), (Int32.not_le.mp c19)]
                          exact F.1 _ _ _ _ _ rfl rfl (dx dX6_copy 80 rfl) kh21 (show some (vi (-2)) = some (vi (copA g (nI π) (nI θ) (nI ι) (nI ξ) (nI ν))) ∧ OwX h h21 v w (copG g (nI π) (nI θ) (nI ι) (nI ξ) (nI ν)) B z κ from by rw [eA, eG]; exact ⟨rfl, ⟨_, oh21⟩, fh21⟩)
              ·
                have c10 : ¬ tOn g (nI π) = tOn g (nI θ) := c10
                refine r_aload_n C (dx dX6_copy 51 rfl) rfl ?_
                refine r_bipush (v := -3) C (dx dX6_copy 52 rfl) rfl ?_
                refine r_cv (as := [vi (-3)]) (st := []) C X I_X6_refuse l_X6_76 (c_X6_refuse (-3)) (by decide) (Nat.le_of_ble_eq_true rfl) List.prefix_rfl List.prefix_rfl rfl rfl (Nat.le_of_ble_eq_true rfl) rfl (dx dX6_copy 53 rfl) ?_
                intro rh22 h22 hph22 kkh22
                obtain ⟨rfl, gh22⟩ := hph22
                have oh22 : Ow h22 v u w g B z κ := o.ref gh22
                have fh22 : Fr 0 63 h h22 := gh22.mono (by omega) (by omega)
                have kh22 : xK h22 = xK h := kkh22
                have eA : copA g (nI π) (nI θ) i j n = -3 := by simp [copA, copG, copF, cpOk, clN (show π < 2 ^ 31 by omega), clN (show θ < 2 ^ 31 by omega), inR_nI (show π < 2 ^ 31 by omega), inR_nI (show θ < 2 ^ 31 by omega), show π < 8 by omega, show θ < 8 by omega, c1, c3, c4, c6, c7, c9, c10]
                have eG : copG g (nI π) (nI θ) i j n = g := by simp [copA, copG, copF, cpOk, clN (show π < 2 ^ 31 by omega), clN (show θ < 2 ^ 31 by omega), inR_nI (show π < 2 ^ 31 by omega), inR_nI (show θ < 2 ^ 31 by omega), show π < 8 by omega, show θ < 8 by omega, c1, c3, c4, c6, c7, c9, c10]
                exact F.1 _ _ _ _ _ rfl rfl (dx dX6_copy 54 rfl) kh22 (show some (vi (-3)) = some (vi (copA g (nI π) (nI θ) i j n)) ∧ OwX h h22 v w (copG g (nI π) (nI θ) i j n) B z κ from by rw [eA, eG]; exact ⟨rfl, ⟨_, oh22⟩, fh22⟩)
            ·
              have c9 : (bareB g (nI θ)) = true := c9
              refine r_aload_n C (dx dX6_copy 38 rfl) rfl ?_
              refine r_bipush (v := -4) C (dx dX6_copy 39 rfl) rfl ?_
              refine r_cv (as := [vi (-4)]) (st := []) C X I_X6_refuse l_X6_76 (c_X6_refuse (-4)) (by decide) (Nat.le_of_ble_eq_true rfl) List.prefix_rfl List.prefix_rfl rfl rfl (Nat.le_of_ble_eq_true rfl) rfl (dx dX6_copy 40 rfl) ?_
              intro rh23 h23 hph23 kkh23
              obtain ⟨rfl, gh23⟩ := hph23
              have oh23 : Ow h23 v u w g B z κ := o.ref gh23
              have fh23 : Fr 0 63 h h23 := gh23.mono (by omega) (by omega)
              have kh23 : xK h23 = xK h := kkh23
              have eA : copA g (nI π) (nI θ) i j n = -4 := by simp [copA, copG, copF, cpOk, clN (show π < 2 ^ 31 by omega), clN (show θ < 2 ^ 31 by omega), inR_nI (show π < 2 ^ 31 by omega), inR_nI (show θ < 2 ^ 31 by omega), show π < 8 by omega, show θ < 8 by omega, c1, c3, c4, c6, c7, c9]
              have eG : copG g (nI π) (nI θ) i j n = g := by simp [copA, copG, copF, cpOk, clN (show π < 2 ^ 31 by omega), clN (show θ < 2 ^ 31 by omega), inR_nI (show π < 2 ^ 31 by omega), inR_nI (show θ < 2 ^ 31 by omega), show π < 8 by omega, show θ < 8 by omega, c1, c3, c4, c6, c7, c9]
              exact F.1 _ _ _ _ _ rfl rfl (dx dX6_copy 41 rfl) kh23 (show some (vi (-4)) = some (vi (copA g (nI π) (nI θ) i j n)) ∧ OwX h h23 v w (copG g (nI π) (nI θ) i j n) B z κ from by rw [eA, eG]; exact ⟨rfl, ⟨_, oh23⟩, fh23⟩)
        ·
          have c6 : (holdB g (nI θ)) = true := c6
          refine r_aload_n C (dx dX6_copy 24 rfl) rfl ?_
          refine r_bipush (v := -3) C (dx dX6_copy 25 rfl) rfl ?_
          refine r_cv (as := [vi (-3)]) (st := []) C X I_X6_refuse l_X6_76 (c_X6_refuse (-3)) (by decide) (Nat.le_of_ble_eq_true rfl) List.prefix_rfl List.prefix_rfl rfl rfl (Nat.le_of_ble_eq_true rfl) rfl (dx dX6_copy 26 rfl) ?_
          intro rh24 h24 hph24 kkh24
          obtain ⟨rfl, gh24⟩ := hph24
          have oh24 : Ow h24 v u w g B z κ := o.ref gh24
          have fh24 : Fr 0 63 h h24 := gh24.mono (by omega) (by omega)
          have kh24 : xK h24 = xK h := kkh24
          have eA : copA g (nI π) (nI θ) i j n = -3 := by simp [copA, copG, copF, cpOk, clN (show π < 2 ^ 31 by omega), clN (show θ < 2 ^ 31 by omega), inR_nI (show π < 2 ^ 31 by omega), inR_nI (show θ < 2 ^ 31 by omega), show π < 8 by omega, show θ < 8 by omega, c1, c3, c4, c6]
          have eG : copG g (nI π) (nI θ) i j n = g := by simp [copA, copG, copF, cpOk, clN (show π < 2 ^ 31 by omega), clN (show θ < 2 ^ 31 by omega), inR_nI (show π < 2 ^ 31 by omega), inR_nI (show θ < 2 ^ 31 by omega), show π < 8 by omega, show θ < 8 by omega, c1, c3, c4, c6]
          exact F.1 _ _ _ _ _ rfl rfl (dx dX6_copy 27 rfl) kh24 (show some (vi (-3)) = some (vi (copA g (nI π) (nI θ) i j n)) ∧ OwX h h24 v w (copG g (nI π) (nI θ) i j n) B z κ from by rw [eA, eG]; exact ⟨rfl, ⟨_, oh24⟩, fh24⟩)
    ·
      have c3 : (inR q 8) = false := c3
      refine r_aload_n C (dx dX6_copy 10 rfl) rfl ?_
      refine r_bipush (v := -2) C (dx dX6_copy 11 rfl) rfl ?_
      refine r_cv (as := [vi (-2)]) (st := []) C X I_X6_refuse l_X6_76 (c_X6_refuse (-2)) (by decide) (Nat.le_of_ble_eq_true rfl) List.prefix_rfl List.prefix_rfl rfl rfl (Nat.le_of_ble_eq_true rfl) rfl (dx dX6_copy 12 rfl) ?_
      intro rh25 h25 hph25 kkh25
      obtain ⟨rfl, gh25⟩ := hph25
      have oh25 : Ow h25 v u w g B z κ := o.ref gh25
      have fh25 : Fr 0 63 h h25 := gh25.mono (by omega) (by omega)
      have kh25 : xK h25 = xK h := kkh25
      have eA : copA g (nI π) q i j n = -2 := by simp [copA, copG, copF, cpOk, clN (show π < 2 ^ 31 by omega), inR_nI (show π < 2 ^ 31 by omega), show π < 8 by omega, c1, c3]
      have eG : copG g (nI π) q i j n = g := by simp [copA, copG, copF, cpOk, clN (show π < 2 ^ 31 by omega), inR_nI (show π < 2 ^ 31 by omega), show π < 8 by omega, c1, c3]
      exact F.1 _ _ _ _ _ rfl rfl (dx dX6_copy 13 rfl) kh25 (show some (vi (-2)) = some (vi (copA g (nI π) q i j n)) ∧ OwX h h25 v w (copG g (nI π) q i j n) B z κ from by rw [eA, eG]; exact ⟨rfl, ⟨_, oh25⟩, fh25⟩)
set_option maxHeartbeats 4000000 in
theorem x_feed {l : Launch} {h : Hp} {v u w : Vg} {g : Sg} {B : Nat → Int32} {z : Nat} {κ : Int32} (o : Ow h v u w g B z κ) (hg : GOk g) (x n : Int32) : Ms l yX6_feed cX6_feed 4 (some .int) 20 [vr 6 0, vi x, vi n] h (xK h) (fun r h' => r = some (vi (feedA z n)) ∧ OwX h h' v w g (feedC B z x n) (feedZ z n) κ) := by
  refine Ms.of (by decide) (Nat.le_of_ble_eq_true rfl) (fun G C X F => ?_)
  have C : Cx G cX6_feed 4 RX6 := C
  show Rr G 0 [(0, vr 6 0), (1, vi x), (2, vi n)] [] h
  have bP := o.pv.bP
  have bM := o.pv.bM
  have bN := o.pv.bN
  have bz := o.pt.2.2
  refine r_iload_n C (dx dX6_feed 0 rfl) rfl ?_
  refine r_iconst (v := nI 1) C (dx dX6_feed 1 rfl) rfl ?_
  refine r_icmp_lt (tgt := 10) C (dx dX6_feed 2 rfl) (by decide) (fun c1 => ?_) (fun c1 => ?_)
  ·
    have c1 : n < nI 1 := c1
    refine r_aload_n C (dx dX6_feed 6 rfl) rfl ?_
    refine r_bipush (v := -2) C (dx dX6_feed 7 rfl) rfl ?_
    refine r_cv (as := [vi (-2)]) (st := []) C X I_X6_refuse l_X6_76 (c_X6_refuse (-2)) (by decide) (Nat.le_of_ble_eq_true rfl) List.prefix_rfl List.prefix_rfl rfl rfl (Nat.le_of_ble_eq_true rfl) rfl (dx dX6_feed 8 rfl) ?_
    intro rh2 h2 hph2 kkh2
    obtain ⟨rfl, gh2⟩ := hph2
    have oh2 : Ow h2 v u w g B z κ := o.ref gh2
    have fh2 : Fr 0 63 h h2 := gh2.mono (by omega) (by omega)
    have kh2 : xK h2 = xK h := kkh2
    have eA : feedA z n = -2 := by first | (simp [feedA, feedZ, c1]; done) | ((first | unfold feedA | unfold feedZ); rw [clN (by omega), if_neg (fun q => by have q2 := (nI_ltI (by omega) (by omega)).mp q; omega), if_neg (fun q => by have q2 := (nI_ltI (by omega) (by omega)).mp q; omega)]; first | (rw [if_pos (by omega)]; first | rfl | omega | (congr 1; omega)) | (rw [if_neg (by omega)]))
    have eZ : feedZ z n = z := by first | (simp [feedA, feedZ, c1]; done) | ((first | unfold feedA | unfold feedZ); rw [clN (by omega), if_neg (fun q => by have q2 := (nI_ltI (by omega) (by omega)).mp q; omega), if_neg (fun q => by have q2 := (nI_ltI (by omega) (by omega)).mp q; omega)]; first | (rw [if_pos (by omega)]; first | rfl | omega | (congr 1; omega)) | (rw [if_neg (by omega)]))
    have eB : feedC B z x n = B := by unfold feedC; rw [eZ, if_pos rfl]
    exact F.1 _ _ _ _ _ rfl rfl (dx dX6_feed 9 rfl) kh2 (show some (vi (-2)) = some (vi (feedA z n)) ∧ OwX h h2 v w g (feedC B z x n) (feedZ z n) κ from by rw [eA, eB, eZ]; exact ⟨rfl, ⟨_, oh2⟩, fh2⟩)
  ·
    have c1 : ¬ n < nI 1 := c1
    refine r_iload_n C (dx dX6_feed 3 rfl) rfl ?_
    refine r_iconst (v := nI 4) C (dx dX6_feed 4 rfl) rfl ?_
    refine r_icmp_le (tgt := 17) C (dx dX6_feed 5 rfl) (by decide) (fun c3 => ?_) (fun c3 => ?_)
    ·
      have c3 : n ≤ nI 4 := c3
      obtain ⟨ν, hν, hν2, rfl⟩ := btw (a := 1) (b := 4) (by omega) (by omega) c1 (Int32.not_lt.mpr c3)
      refine r_aload_n C (dx dX6_feed 10 rfl) rfl ?_
      refine g_X6_50 C (dx dX6_feed 11 rfl) ?_
      refine r_cvP (as := []) (st := []) (v := vi (nI z)) C X I_X3_length l_X6_182 (c_X3_length o.pt) (by decide) (Nat.le_of_ble_eq_true rfl) List.prefix_rfl rfl rfl (Nat.le_of_ble_eq_true rfl) rfl (dx dX6_feed 12 rfl) ?_
      refine r_iload_n C (dx dX6_feed 13 rfl) rfl ?_
      refine rn_iadd (a := z) (b := ν) C (dx dX6_feed 14 rfl) ?_
      refine r_sipush (v := nI 250) C (dx dX6_feed 15 rfl) rfl ?_
      refine rn_le (a := z + ν) (b := 250) (tgt := 39) C (by omega) (by omega) (dx dX6_feed 16 rfl) (by decide) (fun c4 => ?_) (fun c4 => ?_)
      · first
        | (omega; done)
        | (
            have c4 : z + ν ≤ 250 := c4
            refine r_iload_n C (dx dX6_feed 21 rfl) rfl ?_
            refine r_iconst (v := nI 1) C (dx dX6_feed 22 rfl) rfl ?_
            refine r_isub C (dx dX6_feed 23 rfl) ?_
            refine r_istore_n (ls' := [(0, vr 6 0), (1, vi x), (2, vi (nI ν)), (3, vi ((nI ν) - (nI 1)))]) C (dx dX6_feed 24 rfl) (by decide) [1, 2, 3, 0] rfl ?_
            refine loopDn (Φ := fun j => j ≤ ν → ∀ (h9 : Hp), Ow h9 v u w g (fdC B z x ν (ν - j)) (z + (ν - j)) κ → Fr 0 63 h h9 → xK h9 = xK h → Rr G 43 [(0, vr 6 0), (1, vi x), (2, vi (nI ν)), (3, vi (nI j - nI 1))] [] h9) ?_ ?_ ν (Nat.le_refl _) _ (by rw [show z + (ν - ν) = z by omega, Nat.sub_self]; exact o) Fr.rf rfl
            ·
              intro hj h9 o9 f9 k9
              rw [show nI 0 - nI 1 = -1 from by decide]
              refine r_iload_n C (dx dX6_feed 25 rfl) rfl ?_
              refine r_if_lt (tgt := 66) C (dx dX6_feed 26 rfl) (by decide) (fun c5 => ?_) (fun c5 => ?_)
              ·
                have c5 : (-1 : Int32) < 0 := c5
                refine r_aload_n C (dx dX6_feed 37 rfl) rfl ?_
                refine g_X6_50 C (dx dX6_feed 38 rfl) ?_
                refine r_cvP (as := []) (st := []) (v := vi (nI (z + (ν - 0)))) C X I_X3_length l_X6_182 (c_X3_length o9.pt) (by decide) (Nat.le_of_ble_eq_true rfl) (pfx_eq k9) rfl rfl (Nat.le_of_ble_eq_true rfl) rfl (dx dX6_feed 39 rfl) ?_
                have eA : feedA z (nI ν) = nI (z + (ν - 0)) := by first | (simp [feedA, feedZ, c5]; done) | ((first | unfold feedA | unfold feedZ); rw [clN (by omega), if_neg (fun q => by have q2 := (nI_ltI (by omega) (by omega)).mp q; omega), if_neg (fun q => by have q2 := (nI_ltI (by omega) (by omega)).mp q; omega)]; first | (rw [if_pos (by omega)]; first | rfl | omega | (congr 1; omega)) | (rw [if_neg (by omega)]))
                have eZ : feedZ z (nI ν) = (z + (ν - 0)) := by first | (simp [feedA, feedZ, c5]; done) | ((first | unfold feedA | unfold feedZ); rw [clN (by omega), if_neg (fun q => by have q2 := (nI_ltI (by omega) (by omega)).mp q; omega), if_neg (fun q => by have q2 := (nI_ltI (by omega) (by omega)).mp q; omega)]; first | (rw [if_pos (by omega)]; first | rfl | omega | (congr 1; omega)) | (rw [if_neg (by omega)]))
                have eB : feedC B z x (nI ν) = fdC B z x ν (ν - 0) := by unfold feedC; rw [eZ, if_neg (by omega), clN (by omega)]; rfl
                exact F.1 _ _ _ _ _ rfl rfl (dx dX6_feed 40 rfl) k9 (show some (vi (nI (z + (ν - 0)))) = some (vi (feedA z (nI ν))) ∧ OwX h h9 v w g (feedC B z x (nI ν)) (feedZ z (nI ν)) κ from by rw [eA, eB, eZ]; exact ⟨rfl, ⟨_, o9⟩, f9⟩)
              · exact absurd (show (-1 : Int32) < 0 by decide) c5
            ·
              intro j ihj hj h9 o9 f9 k9
              rw [show nI (j + 1) - nI 1 = nI j from pk_sub (a := j + 1) (b := 1) (by omega)]
              refine r_iload_n C (dx dX6_feed 25 rfl) rfl ?_
              refine r_if_lt (tgt := 66) C (dx dX6_feed 26 rfl) (by decide) (fun c6 => ?_) (fun c6 => ?_)
              · exact absurd c6 (nI_pos (by omega))
              ·
                have c6 : ¬ nI j < 0 := c6
                refine r_aload_n C (dx dX6_feed 27 rfl) rfl ?_
                refine g_X6_50 C (dx dX6_feed 28 rfl) ?_
                refine r_iload_n C (dx dX6_feed 29 rfl) rfl ?_
                refine r_bipush (v := nI 8) C (dx dX6_feed 30 rfl) rfl ?_
                refine r_iload_n C (dx dX6_feed 31 rfl) rfl ?_
                refine rn_imul (a := 8) (b := j) C (dx dX6_feed 32 rfl) ?_
                refine r_ishr C (dx dX6_feed 33 rfl) ?_
                obtain ⟨t9, s9, e9, hk9⟩ := tk_ex o9.pt
                refine r_cv (as := [vi (x >>> ((nI (8 * j)) &&& 31))]) (st := []) C X I_X3_append l_X6_185 (c_X3_append hk9 (by omega) _) (by decide) (Nat.le_of_ble_eq_true rfl) List.prefix_rfl (pfx_eq k9) rfl rfl (Nat.le_of_ble_eq_true rfl) rfl (dx dX6_feed 34 rfl) ?_
                intro rh7 h7 hph7 kkh7
                obtain ⟨rfl, wh7, gh7⟩ := hph7
                have oh7 : Ow h7 v u w g (sf (fdC B z x ν (ν - (j + 1))) (z + (ν - (j + 1))) (vp_nar .byte ((x >>> ((nI (8 * j)) &&& 31)).toInt8.toInt32))) ((z + (ν - (j + 1))) + 1) κ := o9.tap wh7.1 (gh7.mono (by omega) (by omega))
                have fh7 : Fr 0 63 h h7 := f9.tr (gh7.mono (by omega) (by omega))
                have kh7 : xK h7 = xK h := (kkh7).trans k9
                refine r_iinc (ls' := [(0, vr 6 0), (1, vi x), (2, vi (nI ν)), (3, vi (nI j + (-1)))]) C (dx dX6_feed 35 rfl) rfl rfl (by decide) [1, 2, 3, 0] rfl ?_
                refine r_goto (tgt := 43) C (dx dX6_feed 36 rfl) (by decide) ?_
                rw [add_m1]
                exact ihj (by omega) _ (by rw [show z + (ν - j) = (z + (ν - (j + 1))) + 1 by omega, fdC_s (by omega)]; exact oh7) fh7 kh7)
      · first
        | (omega; done)
        | (
            have c4 : 250 < z + ν := c4
            refine r_aload_n C (dx dX6_feed 17 rfl) rfl ?_
            refine r_bipush (v := -6) C (dx dX6_feed 18 rfl) rfl ?_
            refine r_cv (as := [vi (-6)]) (st := []) C X I_X6_refuse l_X6_76 (c_X6_refuse (-6)) (by decide) (Nat.le_of_ble_eq_true rfl) List.prefix_rfl List.prefix_rfl rfl rfl (Nat.le_of_ble_eq_true rfl) rfl (dx dX6_feed 19 rfl) ?_
            intro rh8 h8 hph8 kkh8
            obtain ⟨rfl, gh8⟩ := hph8
            have oh8 : Ow h8 v u w g B z κ := o.ref gh8
            have fh8 : Fr 0 63 h h8 := gh8.mono (by omega) (by omega)
            have kh8 : xK h8 = xK h := kkh8
            have eA : feedA z (nI ν) = -6 := by first | (simp [feedA, feedZ]; done) | ((first | unfold feedA | unfold feedZ); rw [clN (by omega), if_neg (fun q => by have q2 := (nI_ltI (by omega) (by omega)).mp q; omega), if_neg (fun q => by have q2 := (nI_ltI (by omega) (by omega)).mp q; omega)]; first | (rw [if_pos (by omega)]; first | rfl | omega | (congr 1; omega)) | (rw [if_neg (by omega)]))
            have eZ : feedZ z (nI ν) = z := by first | (simp [feedA, feedZ]; done) | ((first | unfold feedA | unfold feedZ); rw [clN (by omega), if_neg (fun q => by have q2 := (nI_ltI (by omega) (by omega)).mp q; omega), if_neg (fun q => by have q2 := (nI_ltI (by omega) (by omega)).mp q; omega)]; first | (rw [if_pos (by omega)]; first | rfl | omega | (congr 1; omega)) | (rw [if_neg (by omega)]))
            have eB : feedC B z x (nI ν) = B := by unfold feedC; rw [eZ, if_pos rfl]
            exact F.1 _ _ _ _ _ rfl rfl (dx dX6_feed 20 rfl) kh8 (show some (vi (-6)) = some (vi (feedA z (nI ν))) ∧ OwX h h8 v w g (feedC B z x (nI ν)) (feedZ z (nI ν)) κ from by rw [eA, eB, eZ]; exact ⟨rfl, ⟨_, oh8⟩, fh8⟩))
    ·
      have c3 : ¬ n ≤ nI 4 := c3
      refine r_aload_n C (dx dX6_feed 6 rfl) rfl ?_
      refine r_bipush (v := -2) C (dx dX6_feed 7 rfl) rfl ?_
      refine r_cv (as := [vi (-2)]) (st := []) C X I_X6_refuse l_X6_76 (c_X6_refuse (-2)) (by decide) (Nat.le_of_ble_eq_true rfl) List.prefix_rfl List.prefix_rfl rfl rfl (Nat.le_of_ble_eq_true rfl) rfl (dx dX6_feed 8 rfl) ?_
      intro rh9 h9 hph9 kkh9
      obtain ⟨rfl, gh9⟩ := hph9
      have oh9 : Ow h9 v u w g B z κ := o.ref gh9
      have fh9 : Fr 0 63 h h9 := gh9.mono (by omega) (by omega)
      have kh9 : xK h9 = xK h := kkh9
      have eA : feedA z n = -2 := by first | (simp [feedA, feedZ, c1, c3, (Int32.not_le.mp c3)]; done) | ((first | unfold feedA | unfold feedZ); rw [clN (by omega), if_neg (fun q => by have q2 := (nI_ltI (by omega) (by omega)).mp q; omega), if_neg (fun q => by have q2 := (nI_ltI (by omega) (by omega)).mp q; omega)]; first | (rw [if_pos (by omega)]; first | rfl | omega | (congr 1; omega)) | (rw [if_neg (by omega)]))
      have eZ : feedZ z n = z := by first | (simp [feedA, feedZ, c1, c3, (Int32.not_le.mp c3)]; done) | ((first | unfold feedA | unfold feedZ); rw [clN (by omega), if_neg (fun q => by have q2 := (nI_ltI (by omega) (by omega)).mp q; omega), if_neg (fun q => by have q2 := (nI_ltI (by omega) (by omega)).mp q; omega)]; first | (rw [if_pos (by omega)]; first | rfl | omega | (congr 1; omega)) | (rw [if_neg (by omega)]))
      have eB : feedC B z x n = B := by unfold feedC; rw [eZ, if_pos rfl]
      exact F.1 _ _ _ _ _ rfl rfl (dx dX6_feed 9 rfl) kh9 (show some (vi (-2)) = some (vi (feedA z n)) ∧ OwX h h9 v w g (feedC B z x n) (feedZ z n) κ from by rw [eA, eB, eZ]; exact ⟨rfl, ⟨_, oh9⟩, fh9⟩)
set_option maxHeartbeats 4000000 in
theorem x_village {l : Launch} {h : Hp} {v u w : Vg} {g : Sg} {B : Nat → Int32} {z : Nat} {κ : Int32} (o : Ow h v u w g B z κ) (hg : GOk g)  : Ms l yX6_village cX6_village 3 (some .int) 20 [vr 6 0] h (xK h) (fun r h' => r = some (vi (vlA B z v)) ∧ OwX h h' (vlV B z v) w g B 0 κ) := by
  refine Ms.of (by decide) (Nat.le_of_ble_eq_true rfl) (fun G C X F => ?_)
  have C : Cx G cX6_village 3 RX6 := C
  show Rr G 0 [(0, vr 6 0)] [] h
  have bP := o.pv.bP
  have bM := o.pv.bM
  have bN := o.pv.bN
  have bz := o.pt.2.2
  refine r_aload_n C (dx dX6_village 0 rfl) rfl ?_
  refine g_X6_16 C (dx dX6_village 1 rfl) ?_
  refine r_aload_n C (dx dX6_village 2 rfl) rfl ?_
  refine g_X6_10 C (dx dX6_village 3 rfl) ?_
  refine r_cv (as := [vr 5 1]) (st := []) C X I_X5_takeOver l_X6_191 (c_X5_takeOver o.pu o.pv (by omega)) (by decide) (Nat.le_of_ble_eq_true rfl) List.prefix_rfl List.prefix_rfl rfl rfl (Nat.le_of_ble_eq_true rfl) rfl (dx dX6_village 4 rfl) ?_
  intro rh1 h1 hph1 kkh1
  obtain ⟨rfl, wh1, gh1⟩ := hph1
  have oh1 : Ow h1 v v w g B z κ := o.tri wh1 gh1
  have fh1 : Fr 0 63 h h1 := gh1.mono (by omega) (by omega)
  have kh1 : xK h1 = xK h := kkh1
  refine r_aload_n C (dx dX6_village 5 rfl) rfl ?_
  refine g_X6_50 C (dx dX6_village 6 rfl) ?_
  refine r_aload_n C (dx dX6_village 7 rfl) rfl ?_
  refine g_X6_16 C (dx dX6_village 8 rfl) ?_
  obtain ⟨t9, s9, e9, hk9⟩ := tk_ex oh1.pt
  refine r_cv (as := [vr 5 10]) (st := []) C X I_X3_readInto l_X6_195 (c_X3_readInto hk9 oh1.pu (by omega)) (by decide) (Nat.le_of_ble_eq_true rfl) List.prefix_rfl (pfx_eq kh1) rfl rfl (Nat.le_of_ble_eq_true rfl) rfl (dx dX6_village 9 rfl) ?_
  intro rh2 h2 hph2 kkh2
  obtain ⟨rfl, th2, wh2, gh2⟩ := hph2
  have oh2 : Ow h2 v (riS B z 250 1 (stp B z 0) v).2.2 w g B z κ := oh1.rea wh2 th2.1 gh2
  have fh2 : Fr 0 63 h h2 := fh1.tr (gh2.to (fun b q => RT.lo q))
  have kh2 : xK h2 = xK h := (kkh2).trans kh1
  refine r_istore_n (ls' := [(0, vr 6 0), (1, vi ((riS B z 250 1 (stp B z 0) v).1))]) C (dx dX6_village 10 rfl) (by decide) [1, 0] rfl ?_
  refine r_aload_n C (dx dX6_village 11 rfl) rfl ?_
  refine g_X6_50 C (dx dX6_village 12 rfl) ?_
  refine r_cvP (as := []) (st := []) (v := vi (nI (riS B z 250 1 (stp B z 0) v).2.1.2.1)) C X I_X3_faultPlace l_X6_199 (c_X3_faultPlace th2) (by decide) (Nat.le_of_ble_eq_true rfl) (pfx_eq kh2) rfl rfl (Nat.le_of_ble_eq_true rfl) rfl (dx dX6_village 13 rfl) ?_
  refine r_istore_n (ls' := [(0, vr 6 0), (1, vi ((riS B z 250 1 (stp B z 0) v).1)), (2, vi (nI (riS B z 250 1 (stp B z 0) v).2.1.2.1))]) C (dx dX6_village 14 rfl) (by decide) [1, 2, 0] rfl ?_
  refine r_aload_n C (dx dX6_village 15 rfl) rfl ?_
  refine g_X6_50 C (dx dX6_village 16 rfl) ?_
  refine r_cv (as := []) (st := []) C X I_X3_clear l_X6_188 (c_X3_clear oh2.pt) (by decide) (Nat.le_of_ble_eq_true rfl) List.prefix_rfl (pfx_eq kh2) rfl rfl (Nat.le_of_ble_eq_true rfl) rfl (dx dX6_village 17 rfl) ?_
  intro rh3 h3 hph3 kkh3
  obtain ⟨rfl, wh3, gh3⟩ := hph3
  have oh3 : Ow h3 v (riS B z 250 1 (stp B z 0) v).2.2 w g B 0 κ := oh2.tap wh3 (gh3.mono (by omega) (by omega))
  have fh3 : Fr 0 63 h h3 := fh2.tr (gh3.mono (by omega) (by omega))
  have kh3 : xK h3 = xK h := (kkh3).trans kh2
  refine r_iload_n C (dx dX6_village 18 rfl) rfl ?_
  refine r_if_ge (tgt := 54) C (dx dX6_village 19 rfl) (by decide) (fun c4 => ?_) (fun c4 => ?_)
  ·
    have c4 : 0 ≤ (riS B z 250 1 (stp B z 0) v).1 := c4
    refine r_aload_n C (dx dX6_village 28 rfl) rfl ?_
    refine g_X6_10 C (dx dX6_village 29 rfl) ?_
    refine r_aload_n C (dx dX6_village 30 rfl) rfl ?_
    refine g_X6_16 C (dx dX6_village 31 rfl) ?_
    refine r_cv (as := [vr 5 10]) (st := []) C X I_X5_takeOver l_X6_191 (c_X5_takeOver oh3.pv oh3.pu (by omega)) (by decide) (Nat.le_of_ble_eq_true rfl) List.prefix_rfl (pfx_eq kh3) rfl rfl (Nat.le_of_ble_eq_true rfl) rfl (dx dX6_village 32 rfl) ?_
    intro rh5 h5 hph5 kkh5
    obtain ⟨rfl, wh5, gh5⟩ := hph5
    have oh5 : Ow h5 (riS B z 250 1 (stp B z 0) v).2.2 (riS B z 250 1 (stp B z 0) v).2.2 w g B 0 κ := oh3.now wh5 gh5
    have fh5 : Fr 0 63 h h5 := fh3.tr (gh5.mono (by omega) (by omega))
    have kh5 : xK h5 = xK h := (kkh5).trans kh3
    refine r_iload_n C (dx dX6_village 33 rfl) rfl ?_
    exact F.1 _ _ _ _ _ rfl rfl (dx dX6_village 34 rfl) kh5 ⟨by rw [(vl_pos c4).1], by rw [(vl_pos c4).2]; exact ⟨⟨_, oh5⟩, fh5⟩⟩
  ·
    have c4 : ¬ 0 ≤ (riS B z 250 1 (stp B z 0) v).1 := c4
    refine r_aload_n C (dx dX6_village 20 rfl) rfl ?_
    refine r_bipush (v := -2) C (dx dX6_village 21 rfl) rfl ?_
    refine r_cv (as := [vi (-2)]) (st := []) C X I_X6_refuse l_X6_76 (c_X6_refuse (-2)) (by decide) (Nat.le_of_ble_eq_true rfl) List.prefix_rfl (pfx_eq kh3) rfl rfl (Nat.le_of_ble_eq_true rfl) rfl (dx dX6_village 22 rfl) ?_
    intro rh6 h6 hph6 kkh6
    obtain ⟨rfl, gh6⟩ := hph6
    have oh6 : Ow h6 v (riS B z 250 1 (stp B z 0) v).2.2 w g B 0 κ := oh3.ref gh6
    have fh6 : Fr 0 63 h h6 := fh3.tr (gh6.mono (by omega) (by omega))
    have kh6 : xK h6 = xK h := (kkh6).trans kh3
    refine r_popI C (dx dX6_village 23 rfl) ?_
    refine r_bipush (v := -20) C (dx dX6_village 24 rfl) rfl ?_
    refine r_iload_n C (dx dX6_village 25 rfl) rfl ?_
    refine r_isub C (dx dX6_village 26 rfl) ?_
    exact F.1 _ _ _ _ _ rfl rfl (dx dX6_village 27 rfl) kh6 ⟨by rw [(vl_neg c4).1], by rw [(vl_neg c4).2]; exact ⟨⟨_, oh6⟩, fh6⟩⟩
