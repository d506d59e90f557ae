/-! PART 57p: the best holders, the best day -/
def bsT (v : Vg) : Int64 × (Nat → Int32) := tcS v (vP v) 0 (noF v) (-1, fun _ => -1)
def bstA (v : Vg) (p : Int32) : Int32 := if inR p (vP v) = true then (if bigB v = true then -5 else (bsT v).2 p.toNatClampNeg) else -2
def bsdA (v : Vg) : Int64 := if bigB v = true then (-5 : Int32).toInt64 else (bsT v).1
theorem bs_c {v : Vg} (ok : VOk v) (h4 : vN v ≤ 4) (g9 : Nat → Int32) : (bsT v).1 = (tcS v (vP v) 0 (noF v) (-1, g9)).1 ∧ ∀ i, i < vP v → (bsT v).2 i = (tcS v (vP v) 0 (noF v) (-1, g9)).2 i := by
  have a := best_eq ok h4 (fun _ => -1) (fun _ => -1)
  have b := best_eq ok h4 (fun _ => -1) g9
  exact ⟨a.1.symm.trans b.1, fun i hi => (a.2 i hi).symm.trans (b.2 i hi)⟩
theorem bs_r {v : Vg} (ok : VOk v) (h4 : vN v ≤ 4) (g9 : Nat → Int32) : (trS v (vP v) 0 (noF v) (-1, g9)).1 = (bsT v).1 ∧ ∀ i, i < vP v → (trS v (vP v) 0 (noF v) (-1, g9)).2 i = (bsT v).2 i := best_eq ok h4 g9 (fun _ => -1)
theorem s1_holder {l : Launch} {h : Hp} {k i j : Nat} {v : Vg} {f : Nat → Int32} {a : Int64 × (Nat → Int32)} (sc : ScP h k v f j a) (h6 : vP v ≤ 6) (hi : i < vP v) : Mp l yX1_holderOf cX1_holderOf 2 (some .int) 1 [vr 1 k, vi (nI i)] h (vi (a.2 i)) := by
  rw [← sc.2.2.2.2.2 i hi]; exact c_X1_holderOf (by omega)
theorem s1_day {l : Launch} {h : Hp} {k j : Nat} {v : Vg} {f : Nat → Int32} {a : Int64 × (Nat → Int32)} (sc : ScP h k v f j a) : Mp l yX1_greatestDay cX1_greatestDay 1 (some .long) 1 [vr 1 k] h (vl a.1) := by
  rw [← sc.2.2.2.2.1]; exact c_X1_greatestDay
theorem big_y {v : Vg} (h4 : vN v ≤ 4) (h6 : vP v ≤ 6) : bigB v = false := by
  unfold bigB
  rw [decide_eq_false (by omega), decide_eq_false (by omega)]; rfl
theorem big_n {v : Vg} (h : ¬ (vN v ≤ 4 ∧ vP v ≤ 6)) : bigB v = true := by
  unfold bigB
  rcases Nat.lt_or_ge 4 (vN v) with z | z
  · rw [decide_eq_true z]; rfl
  · rw [decide_eq_true (show 6 < vP v from Nat.lt_of_not_le (fun y => h ⟨z, y⟩)), Bool.or_true]
set_option maxHeartbeats 4000000 in
theorem x2_best {l : Launch} {h : Hp} {v u w : Vg} {g : Sg} {B : Nat → Int32} {z : Nat} {κ : Int32} (o : Ow h v u w g B z κ) (hg : GOk g) (ok : VOk v) (p : Int32) : Ms l yX6_best cX6_best 2 (some .int) 20 [vr 6 0, vi p] h (xK h) (fun r h' => r = some (vi (bstA v p)) ∧ OwX h h' v w g B z κ) := by
  refine Ms.of (by decide) (Nat.le_of_ble_eq_true rfl) (fun G C X F => ?_)
  have C : Cx G cX6_best 2 RX6 := C
  show Rr G 0 [(0, vr 6 0), (1, vi p)] [] h
  have bP := o.pv.bP
  have bM := o.pv.bM
  have bN := o.pv.bN
  have bz := o.pt.2.2
  refine r_aload_n C (dx dX6_best 0 rfl) rfl ?_
  refine g_X6_10 C (dx dX6_best 1 rfl) ?_
  refine r_iload_n C (dx dX6_best 2 rfl) rfl ?_
  refine r_cvP (as := [vi p]) (st := []) (v := vi (b2i (inR p (vP v)))) C X I_X5_isPart l_X6_170 (c_X5_isPart o.pv _) (by decide) (Nat.le_of_ble_eq_true rfl) List.prefix_rfl rfl rfl (Nat.le_of_ble_eq_true rfl) rfl (dx dX6_best 3 rfl) ?_
  refine rb_ne (b := inR p (vP v)) (tgt := 18) C (dx dX6_best 4 rfl) (by decide) (fun c1 => ?_) (fun c1 => ?_)
  ·
    have c1 : (inR p (vP v)) = true := c1
    obtain ⟨π, hπ, rfl⟩ := inR_ex (n := (vP v)) (by omega) c1
    refine r_aload_n C (dx dX6_best 9 rfl) rfl ?_
    refine r_cvP (as := []) (st := []) (v := vi (b2i (bigB v))) C X I_X6_isTooBigForBest l_X6_264 (c_X6_isTooBigForBest o hg) (by decide) (Nat.le_of_ble_eq_true rfl) List.prefix_rfl rfl rfl (Nat.le_of_ble_eq_true rfl) rfl (dx dX6_best 10 rfl) ?_
    refine rb_eq (b := bigB v) (tgt := 32) C (dx dX6_best 11 rfl) (by decide) (fun c2 => ?_) (fun c2 => ?_)
    ·
      have c2 : (bigB v) = false := c2
      have hbig := big_no c2
      refine r_aload_n C (dx dX6_best 16 rfl) rfl ?_
      refine g_X6_43 C (dx dX6_best 17 rfl) ?_
      refine r_aload_n C (dx dX6_best 18 rfl) rfl ?_
      refine g_X6_10 C (dx dX6_best 19 rfl) ?_
      refine r_cv (as := [vr 5 1]) (st := []) C X I_X1_run l_X6_268 (s1_run o.pv o.ps (by omega) hbig.2 hbig.1) (by decide) (Nat.le_of_ble_eq_true rfl) List.prefix_rfl List.prefix_rfl rfl rfl (Nat.le_of_ble_eq_true rfl) rfl (dx dX6_best 20 rfl) ?_
      intro rh3 h3 hph3 kkh3
      obtain ⟨rfl, wh3, ⟨g9, sc9⟩, gh3⟩ := hph3
      have oh3 : Ow h3 v u w g B z κ := o.sea wh3 gh3
      have fh3 : Fr 0 63 h h3 := gh3.mono (by omega) (by omega)
      have kh3 : xK h3 = xK h := kkh3
      refine r_aload_n C (dx dX6_best 21 rfl) rfl ?_
      refine g_X6_43 C (dx dX6_best 22 rfl) ?_
      refine r_iload_n C (dx dX6_best 23 rfl) rfl ?_
      refine r_cvP (as := [vi (nI π)]) (st := []) (v := vi ((tcS v (vP v) 0 (noF v) (-1, g9)).2 π)) C X I_X1_holderOf l_X6_271 (s1_holder sc9 hbig.2 (i := π) (by omega)) (by decide) (Nat.le_of_ble_eq_true rfl) (pfx_eq kh3) rfl rfl (Nat.le_of_ble_eq_true rfl) rfl (dx dX6_best 24 rfl) ?_
      have eA : bstA v (nI π) = (tcS v (vP v) 0 (noF v) (-1, g9)).2 π := by (unfold bstA; rw [inN (show π < 2 ^ 31 by omega) hπ, if_pos rfl, if_neg (by rw [c2]; decide), clN (show π < 2 ^ 31 by omega)]; exact (bs_c ok hbig.1 g9).2 π hπ)
      exact F.1 _ _ _ _ _ rfl rfl (dx dX6_best 25 rfl) kh3 (show some (vi ((tcS v (vP v) 0 (noF v) (-1, g9)).2 π)) = some (vi (bstA v (nI π))) ∧ OwX h h3 v w g B z κ from by rw [eA]; exact ⟨rfl, ⟨_, oh3⟩, fh3⟩)
    ·
      have c2 : (bigB v) = true := c2
      refine r_aload_n C (dx dX6_best 12 rfl) rfl ?_
      refine r_bipush (v := -5) C (dx dX6_best 13 rfl) rfl ?_
      refine r_cv (as := [vi (-5)]) (st := []) C X I_X6_refuse l_X6_76 (c_X6_refuse (-5)) (by decide) (Nat.le_of_ble_eq_true rfl) List.prefix_rfl List.prefix_rfl rfl rfl (Nat.le_of_ble_eq_true rfl) rfl (dx dX6_best 14 rfl) ?_
      intro rh4 h4 hph4 kkh4
      obtain ⟨rfl, gh4⟩ := hph4
      have oh4 : Ow h4 v u w g B z κ := o.ref gh4
      have fh4 : Fr 0 63 h h4 := gh4.mono (by omega) (by omega)
      have kh4 : xK h4 = xK h := kkh4
      have eA : bstA v (nI π) = -5 := by (unfold bstA; rw [inN (show π < 2 ^ 31 by omega) hπ, if_pos rfl, if_pos c2])
      exact F.1 _ _ _ _ _ rfl rfl (dx dX6_best 15 rfl) kh4 (show some (vi (-5)) = some (vi (bstA v (nI π))) ∧ OwX h h4 v w g B z κ from by rw [eA]; exact ⟨rfl, ⟨_, oh4⟩, fh4⟩)
  ·
    have c1 : (inR p (vP v)) = false := c1
    refine r_aload_n C (dx dX6_best 5 rfl) rfl ?_
    refine r_bipush (v := -2) C (dx dX6_best 6 rfl) rfl ?_
    refine r_cv (as := [vi (-2)]) (st := []) C X I_X6_refuse l_X6_76 (c_X6_refuse (-2)) (by decide) (Nat.le_of_ble_eq_true rfl) List.prefix_rfl List.prefix_rfl rfl rfl (Nat.le_of_ble_eq_true rfl) rfl (dx dX6_best 7 rfl) ?_
    intro rh5 h5 hph5 kkh5
    obtain ⟨rfl, gh5⟩ := hph5
    have oh5 : Ow h5 v u w g B z κ := o.ref gh5
    have fh5 : Fr 0 63 h h5 := gh5.mono (by omega) (by omega)
    have kh5 : xK h5 = xK h := kkh5
    have eA : bstA v p = -2 := by (unfold bstA; rw [if_neg (by rw [c1]; decide)])
    exact F.1 _ _ _ _ _ rfl rfl (dx dX6_best 8 rfl) kh5 (show some (vi (-2)) = some (vi (bstA v p)) ∧ OwX h h5 v w g B z κ from by rw [eA]; exact ⟨rfl, ⟨_, oh5⟩, fh5⟩)
set_option maxHeartbeats 4000000 in
theorem x2_bestDay {l : Launch} {h : Hp} {v u w : Vg} {g : Sg} {B : Nat → Int32} {z : Nat} {κ : Int32} (o : Ow h v u w g B z κ) (hg : GOk g) (ok : VOk v) : Ms l yX6_bestDay cX6_bestDay 1 (some .long) 20 [vr 6 0] h (xK h) (fun r h' => r = some (vl (bsdA v)) ∧ OwX h h' v w g B z κ) := by
  refine Ms.of (by decide) (Nat.le_of_ble_eq_true rfl) (fun G C X F => ?_)
  have C : Cx G cX6_bestDay 1 RX6 := C
  show Rr G 0 [(0, vr 6 0)] [] h
  have bP := o.pv.bP
  have bM := o.pv.bM
  have bN := o.pv.bN
  have bz := o.pt.2.2
  refine r_aload_n C (dx dX6_bestDay 0 rfl) rfl ?_
  refine r_cvP (as := []) (st := []) (v := vi (b2i (bigB v))) C X I_X6_isTooBigForBest l_X6_264 (c_X6_isTooBigForBest o hg) (by decide) (Nat.le_of_ble_eq_true rfl) List.prefix_rfl rfl rfl (Nat.le_of_ble_eq_true rfl) rfl (dx dX6_bestDay 1 rfl) ?_
  refine rb_eq (b := bigB v) (tgt := 15) C (dx dX6_bestDay 2 rfl) (by decide) (fun c1 => ?_) (fun c1 => ?_)
  ·
    have c1 : (bigB v) = false := c1
    have hbig := big_no c1
    refine r_aload_n C (dx dX6_bestDay 8 rfl) rfl ?_
    refine g_X6_43 C (dx dX6_bestDay 9 rfl) ?_
    refine r_aload_n C (dx dX6_bestDay 10 rfl) rfl ?_
    refine g_X6_10 C (dx dX6_bestDay 11 rfl) ?_
    refine r_cv (as := [vr 5 1]) (st := []) C X I_X1_run l_X6_268 (s1_run o.pv o.ps (by omega) hbig.2 hbig.1) (by decide) (Nat.le_of_ble_eq_true rfl) List.prefix_rfl List.prefix_rfl rfl rfl (Nat.le_of_ble_eq_true rfl) rfl (dx dX6_bestDay 12 rfl) ?_
    intro rh2 h2 hph2 kkh2
    obtain ⟨rfl, wh2, ⟨g9, sc9⟩, gh2⟩ := hph2
    have oh2 : Ow h2 v u w g B z κ := o.sea wh2 gh2
    have fh2 : Fr 0 63 h h2 := gh2.mono (by omega) (by omega)
    have kh2 : xK h2 = xK h := kkh2
    refine r_aload_n C (dx dX6_bestDay 13 rfl) rfl ?_
    refine g_X6_43 C (dx dX6_bestDay 14 rfl) ?_
    refine r_cvP (as := []) (st := []) (v := vl ((tcS v (vP v) 0 (noF v) (-1, g9)).1)) C X I_X1_greatestDay l_X6_274 (s1_day sc9) (by decide) (Nat.le_of_ble_eq_true rfl) (pfx_eq kh2) rfl rfl (Nat.le_of_ble_eq_true rfl) rfl (dx dX6_bestDay 15 rfl) ?_
    have eA : bsdA v = (tcS v (vP v) 0 (noF v) (-1, g9)).1 := by (unfold bsdA; rw [if_neg (by rw [c1]; decide)]; exact (bs_c ok hbig.1 g9).1)
    exact F.2.1 _ _ _ _ rfl (dx dX6_bestDay 16 rfl) kh2 (show some (vl ((tcS v (vP v) 0 (noF v) (-1, g9)).1)) = some (vl (bsdA v)) ∧ OwX h h2 v w g B z κ from by rw [eA]; exact ⟨rfl, ⟨_, oh2⟩, fh2⟩)
  ·
    have c1 : (bigB v) = true := c1
    refine r_aload_n C (dx dX6_bestDay 3 rfl) rfl ?_
    refine r_bipush (v := -5) C (dx dX6_bestDay 4 rfl) rfl ?_
    refine r_cv (as := [vi (-5)]) (st := []) C X I_X6_refuse l_X6_76 (c_X6_refuse (-5)) (by decide) (Nat.le_of_ble_eq_true rfl) List.prefix_rfl List.prefix_rfl rfl rfl (Nat.le_of_ble_eq_true rfl) rfl (dx dX6_bestDay 5 rfl) ?_
    intro rh3 h3 hph3 kkh3
    obtain ⟨rfl, gh3⟩ := hph3
    have oh3 : Ow h3 v u w g B z κ := o.ref gh3
    have fh3 : Fr 0 63 h h3 := gh3.mono (by omega) (by omega)
    have kh3 : xK h3 = xK h := kkh3
    refine r_i2l C (dx dX6_bestDay 6 rfl) ?_
    have eA : bsdA v = (-5 : Int32).toInt64 := by (unfold bsdA; rw [if_pos c1])
    exact F.2.1 _ _ _ _ rfl (dx dX6_bestDay 7 rfl) kh3 (show some (vl ((-5 : Int32).toInt64)) = some (vl (bsdA v)) ∧ OwX h h3 v w g B z κ from by rw [eA]; exact ⟨rfl, ⟨_, oh3⟩, fh3⟩)
theorem z7_best {l : Launch} {h : Hp} {P : List Nat} {k z : Nat} {v : Vg} {g : Sg} {κ τ : Bool} {ω : Vg} {Bt : Nat → Int32} (M : Md h P k v g z κ τ) (x0 : XT h k κ ω Bt) (ok : VOk v) (x : Int32) : MxF l yX7_best cX7_best 2 (some .int) 17 [vr 7 k, vi x] h P k v g z κ ω Bt (fun r => r = some (vi (bstA v x))) := by
  by_cases q : inR x (vP v) = true ∧ vN v ≤ 4 ∧ vP v ≤ 6
  · obtain ⟨q1, q2, q3⟩ := q
    obtain ⟨j, hj, rfl⟩ := inR_ex (by omega) q1
    have e : bstA v (nI j) = (bsT v).2 j := by
      unfold bstA
      rw [q1, if_pos rfl, if_neg (by rw [big_y q2 q3]; decide), clN (by omega)]
    rw [e]
    exact MxF.md M ((w_best_y M x0 hj q2 q3).mono (fun r h' ⟨⟨g9, z1⟩, z2⟩ _ => ⟨z1.trans (by rw [(bs_r ok q2 g9).2 j hj]), z2⟩))
  · have e : bstA v x = if inR x (vP v) = true then -5 else -2 := by
      unfold bstA
      by_cases c : inR x (vP v) = true
      · rw [if_pos c, if_pos c, if_pos (big_n (fun z => q ⟨c, z⟩))]
      · rw [if_neg c, if_neg c]
    rw [e]
    exact MxF.kp M x0 (w_best_n M.1 M.2.1 x (fun c => by
      rcases Nat.lt_or_ge 4 (vN v) with z | z
      · exact Or.inl z
      · exact Or.inr (Nat.lt_of_not_le (fun y => q ⟨c, z, y⟩))))
theorem z7_bestDay {l : Launch} {h : Hp} {P : List Nat} {k z : Nat} {v : Vg} {g : Sg} {κ τ : Bool} {ω : Vg} {Bt : Nat → Int32} (M : Md h P k v g z κ τ) (x0 : XT h k κ ω Bt) (ok : VOk v)  : MxF l yX7_bestDay cX7_bestDay 1 (some .long) 17 [vr 7 k] h P k v g z κ ω Bt (fun r => r = some (vl (bsdA v))) := by
  by_cases q : vN v ≤ 4 ∧ vP v ≤ 6
  · have e : bsdA v = (bsT v).1 := by
      unfold bsdA
      rw [if_neg (by rw [big_y q.1 q.2]; decide)]
    rw [e]
    exact MxF.md M ((w_bestDay_y M x0 q.1 q.2).mono (fun r h' ⟨⟨g9, z1⟩, z2⟩ _ => ⟨z1.trans (by rw [(bs_r ok q.1 g9).1]), z2⟩))
  · have e : bsdA v = (-5 : Int32).toInt64 := by
      unfold bsdA
      rw [if_pos (big_n q)]
    rw [e]
    exact MxF.kp M x0 (w_bestDay_n M.1 M.2.1 (by omega))

