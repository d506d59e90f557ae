/-! PART 57a: the class: what it answers, by functions of the village -/
def prtB (v : Vg) (p x : Int32) : Bool := inR p (vP v) && (!decide (x < 0) && !decide (nI 1 < x))
def prtA (v : Vg) (p x : Int32) : Int32 := if prtB v p x = true then (if x = 0 then vF v 0 p.toNatClampNeg else vF v 1 p.toNatClampNeg) else -2
set_option maxHeartbeats 4000000 in
theorem x2_partOf {l : Launch} {h : Hp} {v u w : Vg} {g : Sg} {B : Nat → Int32} {z : Nat} {κ : Int32} (o : Ow h v u w g B z κ) (hg : GOk g) (p x : Int32) : Ms l yX6_partOf cX6_partOf 3 (some .int) 20 [vr 6 0, vi p, vi x] h (xK h) (fun r h' => r = some (vi (prtA v p x)) ∧ OwX h h' v w g B z κ) := by
  refine Ms.of (by decide) (Nat.le_of_ble_eq_true rfl) (fun G C X F => ?_)
  have C : Cx G cX6_partOf 3 RX6 := C
  show Rr G 0 [(0, vr 6 0), (1, vi p), (2, vi x)] [] h
  have bP := o.pv.bP
  have bM := o.pv.bM
  have bN := o.pv.bN
  have bz := o.pt.2.2
  refine r_aload_n C (dx dX6_partOf 0 rfl) rfl ?_
  refine g_X6_10 C (dx dX6_partOf 1 rfl) ?_
  refine r_iload_n C (dx dX6_partOf 2 rfl) rfl ?_
  refine r_cvP (as := [vi p]) (st := []) (v := vi (b2i (inR p (vP v)))) C X I_X5_isPart l_X6_170 (c_X5_isPart o.pv _) (by decide) (Nat.le_of_ble_eq_true rfl) List.prefix_rfl rfl rfl (Nat.le_of_ble_eq_true rfl) rfl (dx dX6_partOf 3 rfl) ?_
  refine rb_eq (b := inR p (vP v)) (tgt := 20) C (dx dX6_partOf 4 rfl) (by decide) (fun c1 => ?_) (fun c1 => ?_)
  ·
    have c1 : (inR p (vP v)) = false := c1
    refine r_aload_n C (dx dX6_partOf 10 rfl) rfl ?_
    refine r_bipush (v := -2) C (dx dX6_partOf 11 rfl) rfl ?_
    refine r_cv (as := [vi (-2)]) (st := []) C X I_X6_refuse l_X6_76 (c_X6_refuse (-2)) (by decide) (Nat.le_of_ble_eq_true rfl) List.prefix_rfl List.prefix_rfl rfl rfl (Nat.le_of_ble_eq_true rfl) rfl (dx dX6_partOf 12 rfl) ?_
    intro rh2 h2 hph2 kkh2
    obtain ⟨rfl, gh2⟩ := hph2
    have oh2 : Ow h2 v u w g B z κ := o.ref gh2
    have fh2 : Fr 0 63 h h2 := gh2.mono (by omega) (by omega)
    have kh2 : xK h2 = xK h := kkh2
    have eA : prtA v p x = -2 := by simp [prtA, prtB, show ¬ nI 1 < 0 by decide, c1]
    exact F.1 _ _ _ _ _ rfl rfl (dx dX6_partOf 13 rfl) kh2 (show some (vi (-2)) = some (vi (prtA v p x)) ∧ OwX h h2 v w g B z κ from by rw [eA]; exact ⟨rfl, ⟨_, oh2⟩, fh2⟩)
  ·
    have c1 : (inR p (vP v)) = true := c1
    obtain ⟨π, hπ, rfl⟩ := inR_ex (n := (vP v)) (by omega) c1
    refine r_iload_n C (dx dX6_partOf 5 rfl) rfl ?_
    refine r_if_lt (tgt := 20) C (dx dX6_partOf 6 rfl) (by decide) (fun c3 => ?_) (fun c3 => ?_)
    ·
      have c3 : x < 0 := c3
      refine r_aload_n C (dx dX6_partOf 10 rfl) rfl ?_
      refine r_bipush (v := -2) C (dx dX6_partOf 11 rfl) rfl ?_
      refine r_cv (as := [vi (-2)]) (st := []) C X I_X6_refuse l_X6_76 (c_X6_refuse (-2)) (by decide) (Nat.le_of_ble_eq_true rfl) List.prefix_rfl List.prefix_rfl rfl rfl (Nat.le_of_ble_eq_true rfl) rfl (dx dX6_partOf 12 rfl) ?_
      intro rh4 h4 hph4 kkh4
      obtain ⟨rfl, gh4⟩ := hph4
      have oh4 : Ow h4 v u w g B z κ := o.ref gh4
      have fh4 : Fr 0 63 h h4 := gh4.mono (by omega) (by omega)
      have kh4 : xK h4 = xK h := kkh4
      have eA : prtA v (nI π) x = -2 := by simp [prtA, prtB, show ¬ nI 1 < 0 by decide, clN (show π < 2 ^ 31 by omega), c1, (fun n9 => inR_neg (n := n9) c3 : ∀ n9, inR x n9 = false), c3]
      exact F.1 _ _ _ _ _ rfl rfl (dx dX6_partOf 13 rfl) kh4 (show some (vi (-2)) = some (vi (prtA v (nI π) x)) ∧ OwX h h4 v w g B z κ from by rw [eA]; exact ⟨rfl, ⟨_, oh4⟩, fh4⟩)
    ·
      have c3 : ¬ x < 0 := c3
      refine r_iload_n C (dx dX6_partOf 7 rfl) rfl ?_
      refine r_iconst (v := nI 1) C (dx dX6_partOf 8 rfl) rfl ?_
      refine r_icmp_le (tgt := 27) C (dx dX6_partOf 9 rfl) (by decide) (fun c5 => ?_) (fun c5 => ?_)
      ·
        have c5 : x ≤ nI 1 := c5
        refine r_iload_n C (dx dX6_partOf 14 rfl) rfl ?_
        refine r_if_ne (tgt := 43) C (dx dX6_partOf 15 rfl) (by decide) (fun c6 => ?_) (fun c6 => ?_)
        ·
          have c6 : ¬ x = 0 := c6
          refine r_aload_n C (dx dX6_partOf 22 rfl) rfl ?_
          refine g_X6_10 C (dx dX6_partOf 23 rfl) ?_
          refine g_X6_173 C (dx dX6_partOf 24 rfl) ?_
          refine r_iload_n C (dx dX6_partOf 25 rfl) rfl ?_
          refine r_iald (j := π) (x := vF v 1 π) C rfl rfl (by decide) rfl (by omega) (dx dX6_partOf 26 rfl) (o.pv.e1 (by omega)) ?_
          have eA : prtA v (nI π) x = vF v 1 π := by simp [prtA, prtB, show ¬ nI 1 < 0 by decide, clN (show π < 2 ^ 31 by omega), c1, c3, c5, (Int32.not_lt.mpr c5), c6]
          exact F.1 _ _ _ _ _ rfl rfl (dx dX6_partOf 27 rfl) rfl (show some (vi (vF v 1 π)) = some (vi (prtA v (nI π) x)) ∧ OwX h h v w g B z κ from by rw [eA]; exact ⟨rfl, ⟨_, o⟩, Fr.rf⟩)
        ·
          have c6 : x = 0 := c6
          refine r_aload_n C (dx dX6_partOf 16 rfl) rfl ?_
          refine g_X6_10 C (dx dX6_partOf 17 rfl) ?_
          refine g_X6_176 C (dx dX6_partOf 18 rfl) ?_
          refine r_iload_n C (dx dX6_partOf 19 rfl) rfl ?_
          refine r_iald (j := π) (x := vF v 0 π) C rfl rfl (by decide) rfl (by omega) (dx dX6_partOf 20 rfl) (o.pv.e0 (by omega)) ?_
          refine r_goto (tgt := 52) C (dx dX6_partOf 21 rfl) (by decide) ?_
          have eA : prtA v (nI π) x = vF v 0 π := by simp [prtA, prtB, show ¬ nI 1 < 0 by decide, clN (show π < 2 ^ 31 by omega), c1, c3, c5, (Int32.not_lt.mpr c5), c6]
          exact F.1 _ _ _ _ _ rfl rfl (dx dX6_partOf 27 rfl) rfl (show some (vi (vF v 0 π)) = some (vi (prtA v (nI π) x)) ∧ OwX h h v w g B z κ from by rw [eA]; exact ⟨rfl, ⟨_, o⟩, Fr.rf⟩)
      ·
        have c5 : ¬ x ≤ nI 1 := c5
        refine r_aload_n C (dx dX6_partOf 10 rfl) rfl ?_
        refine r_bipush (v := -2) C (dx dX6_partOf 11 rfl) rfl ?_
        refine r_cv (as := [vi (-2)]) (st := []) C X I_X6_refuse l_X6_76 (c_X6_refuse (-2)) (by decide) (Nat.le_of_ble_eq_true rfl) List.prefix_rfl List.prefix_rfl rfl rfl (Nat.le_of_ble_eq_true rfl) rfl (dx dX6_partOf 12 rfl) ?_
        intro rh7 h7 hph7 kkh7
        obtain ⟨rfl, gh7⟩ := hph7
        have oh7 : Ow h7 v u w g B z κ := o.ref gh7
        have fh7 : Fr 0 63 h h7 := gh7.mono (by omega) (by omega)
        have kh7 : xK h7 = xK h := kkh7
        have eA : prtA v (nI π) x = -2 := by simp [prtA, prtB, show ¬ nI 1 < 0 by decide, clN (show π < 2 ^ 31 by omega), c1, c3, c5, (inR_gt (n := 1) (by omega) (Int32.not_le.mp c5) : inR x 2 = false), (Int32.not_le.mp c5)]
        exact F.1 _ _ _ _ _ rfl rfl (dx dX6_partOf 13 rfl) kh7 (show some (vi (-2)) = some (vi (prtA v (nI π) x)) ∧ OwX h h7 v w g B z κ from by rw [eA]; exact ⟨rfl, ⟨_, oh7⟩, fh7⟩)
