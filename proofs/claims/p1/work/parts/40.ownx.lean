/-! PART 45: the class: its calls, with the village that comes of them -/
def OwX (h h' : Hp) (v w : Vg) (g : Sg) (B : Nat → Int32) (z : Nat) (κ : Int32) : Prop := (∃ u, Ow h' v u w g B z κ) ∧ Fr 0 63 h h'
def partV (v : Vg) : Vg := if vP v < 12 then addPartV v else v
def partA (v : Vg) : Int32 := if vP v < 12 then nI (vP v) else -6
def machB (v : Vg) (x y : Int32) : Bool := (!decide (x = 0) && inR x (2 ^ vP v)) && (!decide (y < nI 1) && !decide (nI 99 < y))
def machV (v : Vg) (x y : Int32) : Vg := if machB v x y = true then (if vM v < 6 then addMacV v x y else v) else v
def machA (v : Vg) (x y : Int32) : Int32 := if machB v x y = true then (if vM v < 6 then nI (vM v) else -6) else -2
def oneB (x y : Int32) : Bool := (!decide (x < 0) && !decide (nI 9 < x)) && (!decide (y < 0) && !decide (nI 10 < y))
def oneV (v : Vg) (x y : Int32) : Vg := if oneB x y = true then (if vN v < 8 then addOneV v x y else v) else v
def oneAn (v : Vg) (x y : Int32) : Int32 := if oneB x y = true then (if vN v < 8 then nI (vN v) else -6) else -2
def awayB (v : Vg) (o x : Int32) : Bool := inR o (vN v) && (!decide (x < 0) && !decide (nI 10 < x))
def awayV (v : Vg) (o x : Int32) : Vg := if awayB v o x = true then vset v 5 o.toNatClampNeg x else v
def awayA (v : Vg) (o x : Int32) : Int32 := if awayB v o x = true then vF v 5 o.toNatClampNeg else -2
def crossV (v : Vg) (o : Int32) (b : Bool) : Vg := if inR o (vN v) = true then (if vF v 6 o.toNatClampNeg = b2i b then v else vset v 6 o.toNatClampNeg (b2i b)) else v
def crossA (v : Vg) (o : Int32) (b : Bool) : Int32 := if inR o (vN v) = true then (if vF v 6 o.toNatClampNeg = b2i b then nI 0 else nI 1) else -2
theorem vpn_b (b : Bool) : vp_nar .boolean (b2i b) = b2i b := by cases b <;> rfl
def giveF (v : Vg) (p o : Int32) (c : Nat) : Int32 := if (inR p (vP v) && (decide (o = -1) || inR o (vN v))) = true then (if (!decide (o = -1) && (!decide (o = vF v c p.toNatClampNeg) && !hasRm v o)) = true then -5 else 0) else -2
def giveV (v : Vg) (p o : Int32) (b : Bool) : Vg := if giveF v p o (cond b 1 0) = 0 then vset v (cond b 1 0) p.toNatClampNeg o else v
def giveA (v : Vg) (p o : Int32) (b : Bool) : Int32 := if giveF v p o (cond b 1 0) = 0 then vF v (cond b 1 0) p.toNatClampNeg else giveF v p o (cond b 1 0)
def daysV (v : Vg) : Nat → Vg
  | 0 => v
  | n + 1 => dayV (daysV v n)
def daysS (v : Vg) : Nat → Int32
  | 0 => nI 0
  | n + 1 => daysS v n + worthS (daysV v n) (dayP (daysV v n))
def dysB (n : Int32) : Bool := !decide (n < nI 1) && !decide (nI 60 < n)
def daysX (v : Vg) (n : Int32) : Vg := if dysB n = true then daysV v n.toNatClampNeg else v
def daysA (v : Vg) (n : Int32) : Int32 := if dysB n = true then daysS v n.toNatClampNeg else -2
def swapV (v : Vg) (p q : Int32) : Vg := if (inR p (vP v) && inR q (vP v)) = true then (if vF v 0 p.toNatClampNeg = vF v 0 q.toNatClampNeg then v else vset (vset v 0 p.toNatClampNeg (vF v 0 q.toNatClampNeg)) 0 q.toNatClampNeg (vF v 0 p.toNatClampNeg)) else v
def swapA (v : Vg) (p q : Int32) : Int32 := if (inR p (vP v) && inR q (vP v)) = true then (if vF v 0 p.toNatClampNeg = vF v 0 q.toNatClampNeg then nI 0 else nI 1) else -2
set_option maxHeartbeats 4000000 in
theorem x_row {l : Launch} {h : Hp} {v u w : Vg} {g : Sg} {B : Nat → Int32} {z : Nat} {κ : Int32} (o : Ow h v u w g B z κ) (hg : GOk g) (s t n : Int32) : Ms l yX6_row cX6_row 4 (some .int) 20 [vr 6 0, vi s, vi t, vi n] h (xK h) (fun r h' => r = some (vi (rowA s t n)) ∧ OwX h h' v w (rowG g s t n) B z κ) := by
  refine Ms.of (by decide) (Nat.le_of_ble_eq_true rfl) (fun G C X F => ?_)
  have C : Cx G cX6_row 4 RX6 := C
  show Rr G 0 [(0, vr 6 0), (1, vi s), (2, vi t), (3, vi n)] [] h
  have bP := o.pv.bP
  have bM := o.pv.bM
  have bN := o.pv.bN
  have bz := o.pt.2.2
  refine r_aload_n C (dx dX6_row 0 rfl) rfl ?_
  refine g_X6_57 C (dx dX6_row 1 rfl) ?_
  refine r_iload_n C (dx dX6_row 2 rfl) rfl ?_
  refine r_cvP (as := [vi s]) (st := []) (v := vi (b2i (inR s 8))) C X I_X2_isShelf l_X6_72 (c_X2_isShelf _) (by decide) (Nat.le_of_ble_eq_true rfl) List.prefix_rfl rfl rfl (Nat.le_of_ble_eq_true rfl) rfl (dx dX6_row 3 rfl) ?_
  refine rb_eq (b := inR s 8) (tgt := 30) C (dx dX6_row 4 rfl) (by decide) (fun c1 => ?_) (fun c1 => ?_)
  ·
    have c1 : (inR s 8) = false := c1
    refine r_aload_n C (dx dX6_row 15 rfl) rfl ?_
    refine r_bipush (v := -2) C (dx dX6_row 16 rfl) rfl ?_
    refine r_cv (as := [vi (-2)]) (st := []) C X I_X6_refuse l_X6_76 (c_X6_refuse (-2)) (by decide) (Nat.le_of_ble_eq_true rfl) List.prefix_rfl List.prefix_rfl rfl rfl (Nat.le_of_ble_eq_true rfl) rfl (dx dX6_row 17 rfl) ?_
    intro rh2 h2 hph2 kkh2
    obtain ⟨rfl, gh2⟩ := hph2
    have oh2 : Ow h2 v u w g B z κ := o.ref gh2
    have fh2 : Fr 0 63 h h2 := gh2.mono (by omega) (by omega)
    have kh2 : xK h2 = xK h := kkh2
    have eA : rowA s t n = -2 := by simp [rowA, rowG, rowB9, c1]
    have eG : rowG g s t n = g := by simp [rowA, rowG, rowB9, c1]
    exact F.1 _ _ _ _ _ rfl rfl (dx dX6_row 18 rfl) kh2 (show some (vi (-2)) = some (vi (rowA s t n)) ∧ OwX h h2 v w (rowG g s t n) B z κ from by rw [eA, eG]; exact ⟨rfl, ⟨_, oh2⟩, fh2⟩)
  ·
    have c1 : (inR s 8) = true := c1
    obtain ⟨σ, hσ, rfl⟩ := inR_ex (n := 8) (by omega) c1
    refine r_iload_n C (dx dX6_row 5 rfl) rfl ?_
    refine r_if_lt (tgt := 30) C (dx dX6_row 6 rfl) (by decide) (fun c3 => ?_) (fun c3 => ?_)
    ·
      have c3 : t < 0 := c3
      refine r_aload_n C (dx dX6_row 15 rfl) rfl ?_
      refine r_bipush (v := -2) C (dx dX6_row 16 rfl) rfl ?_
      refine r_cv (as := [vi (-2)]) (st := []) C X I_X6_refuse l_X6_76 (c_X6_refuse (-2)) (by decide) (Nat.le_of_ble_eq_true rfl) List.prefix_rfl List.prefix_rfl rfl rfl (Nat.le_of_ble_eq_true rfl) rfl (dx dX6_row 17 rfl) ?_
      intro rh4 h4 hph4 kkh4
      obtain ⟨rfl, gh4⟩ := hph4
      have oh4 : Ow h4 v u w g B z κ := o.ref gh4
      have fh4 : Fr 0 63 h h4 := gh4.mono (by omega) (by omega)
      have kh4 : xK h4 = xK h := kkh4
      have eA : rowA (nI σ) t n = -2 := by simp [rowA, rowG, rowB9, clN (show σ < 2 ^ 31 by omega), inR_nI (show σ < 2 ^ 31 by omega), show σ < 8 by omega, c1, (fun n9 => inR_neg (n := n9) c3 : ∀ n9, inR t n9 = false), c3]
      have eG : rowG g (nI σ) t n = g := by simp [rowA, rowG, rowB9, clN (show σ < 2 ^ 31 by omega), inR_nI (show σ < 2 ^ 31 by omega), show σ < 8 by omega, c1, (fun n9 => inR_neg (n := n9) c3 : ∀ n9, inR t n9 = false), c3]
      exact F.1 _ _ _ _ _ rfl rfl (dx dX6_row 18 rfl) kh4 (show some (vi (-2)) = some (vi (rowA (nI σ) t n)) ∧ OwX h h4 v w (rowG g (nI σ) t n) B z κ from by rw [eA, eG]; exact ⟨rfl, ⟨_, oh4⟩, fh4⟩)
    ·
      have c3 : ¬ t < 0 := c3
      refine r_iload_n C (dx dX6_row 7 rfl) rfl ?_
      refine r_iconst (v := nI 4) C (dx dX6_row 8 rfl) rfl ?_
      refine r_icmp_gt (tgt := 30) C (dx dX6_row 9 rfl) (by decide) (fun c5 => ?_) (fun c5 => ?_)
      ·
        have c5 : nI 4 < t := c5
        refine r_aload_n C (dx dX6_row 15 rfl) rfl ?_
        refine r_bipush (v := -2) C (dx dX6_row 16 rfl) rfl ?_
        refine r_cv (as := [vi (-2)]) (st := []) C X I_X6_refuse l_X6_76 (c_X6_refuse (-2)) (by decide) (Nat.le_of_ble_eq_true rfl) List.prefix_rfl List.prefix_rfl rfl rfl (Nat.le_of_ble_eq_true rfl) rfl (dx dX6_row 17 rfl) ?_
        intro rh6 h6 hph6 kkh6
        obtain ⟨rfl, gh6⟩ := hph6
        have oh6 : Ow h6 v u w g B z κ := o.ref gh6
        have fh6 : Fr 0 63 h h6 := gh6.mono (by omega) (by omega)
        have kh6 : xK h6 = xK h := kkh6
        have eA : rowA (nI σ) t n = -2 := by simp [rowA, rowG, rowB9, clN (show σ < 2 ^ 31 by omega), inR_nI (show σ < 2 ^ 31 by omega), show σ < 8 by omega, c1, c3, (inR_gt (n := 4) (by omega) c5 : inR t 5 = false), c5]
        have eG : rowG g (nI σ) t n = g := by simp [rowA, rowG, rowB9, clN (show σ < 2 ^ 31 by omega), inR_nI (show σ < 2 ^ 31 by omega), show σ < 8 by omega, c1, c3, (inR_gt (n := 4) (by omega) c5 : inR t 5 = false), c5]
        exact F.1 _ _ _ _ _ rfl rfl (dx dX6_row 18 rfl) kh6 (show some (vi (-2)) = some (vi (rowA (nI σ) t n)) ∧ OwX h h6 v w (rowG g (nI σ) t n) B z κ from by rw [eA, eG]; exact ⟨rfl, ⟨_, oh6⟩, fh6⟩)
      ·
        have c5 : ¬ nI 4 < t := c5
        obtain ⟨τ, hτ, rfl⟩ := btw0 (b := 4) (by omega) c3 c5
        refine r_iload_n C (dx dX6_row 10 rfl) rfl ?_
        refine r_if_lt (tgt := 30) C (dx dX6_row 11 rfl) (by decide) (fun c7 => ?_) (fun c7 => ?_)
        ·
          have c7 : n < 0 := c7
          refine r_aload_n C (dx dX6_row 15 rfl) rfl ?_
          refine r_bipush (v := -2) C (dx dX6_row 16 rfl) rfl ?_
          refine r_cv (as := [vi (-2)]) (st := []) C X I_X6_refuse l_X6_76 (c_X6_refuse (-2)) (by decide) (Nat.le_of_ble_eq_true rfl) List.prefix_rfl List.prefix_rfl rfl rfl (Nat.le_of_ble_eq_true rfl) rfl (dx dX6_row 17 rfl) ?_
          intro rh8 h8 hph8 kkh8
          obtain ⟨rfl, gh8⟩ := hph8
          have oh8 : Ow h8 v u w g B z κ := o.ref gh8
          have fh8 : Fr 0 63 h h8 := gh8.mono (by omega) (by omega)
          have kh8 : xK h8 = xK h := kkh8
          have eA : rowA (nI σ) (nI τ) n = -2 := by simp [rowA, rowG, rowB9, clN (show σ < 2 ^ 31 by omega), clN (show τ < 2 ^ 31 by omega), inR_nI (show σ < 2 ^ 31 by omega), inR_nI (show τ < 2 ^ 31 by omega), show σ < 8 by omega, show τ < 5 by omega, c1, c3, c5, (fun n9 => inR_neg (n := n9) c7 : ∀ n9, inR n n9 = false), c7]
          have eG : rowG g (nI σ) (nI τ) n = g := by simp [rowA, rowG, rowB9, clN (show σ < 2 ^ 31 by omega), clN (show τ < 2 ^ 31 by omega), inR_nI (show σ < 2 ^ 31 by omega), inR_nI (show τ < 2 ^ 31 by omega), show σ < 8 by omega, show τ < 5 by omega, c1, c3, c5, (fun n9 => inR_neg (n := n9) c7 : ∀ n9, inR n n9 = false), c7]
          exact F.1 _ _ _ _ _ rfl rfl (dx dX6_row 18 rfl) kh8 (show some (vi (-2)) = some (vi (rowA (nI σ) (nI τ) n)) ∧ OwX h h8 v w (rowG g (nI σ) (nI τ) n) B z κ from by rw [eA, eG]; exact ⟨rfl, ⟨_, oh8⟩, fh8⟩)
        ·
          have c7 : ¬ n < 0 := c7
          refine r_iload_n C (dx dX6_row 12 rfl) rfl ?_
          refine r_bipush (v := nI 40) C (dx dX6_row 13 rfl) rfl ?_
          refine r_icmp_le (tgt := 37) C (dx dX6_row 14 rfl) (by decide) (fun c9 => ?_) (fun c9 => ?_)
          ·
            have c9 : n ≤ nI 40 := c9
            obtain ⟨ν, hν, rfl⟩ := btw0 (b := 40) (by omega) c7 (Int32.not_lt.mpr c9)
            refine r_aload_n C (dx dX6_row 19 rfl) rfl ?_
            refine g_X6_57 C (dx dX6_row 20 rfl) ?_
            refine r_iload_n C (dx dX6_row 21 rfl) rfl ?_
            refine r_iload_n C (dx dX6_row 22 rfl) rfl ?_
            refine r_iload_n C (dx dX6_row 23 rfl) rfl ?_
            refine r_cv (as := [vi (nI σ), vi (nI τ), vi (nI ν)]) (st := []) C X I_X2_putRow l_X6_80 (c_X2_putRow o.pg (by omega) (by omega) _) (by decide) (Nat.le_of_ble_eq_true rfl) List.prefix_rfl List.prefix_rfl rfl rfl (Nat.le_of_ble_eq_true rfl) rfl (dx dX6_row 24 rfl) ?_
            intro rh10 h10 hph10 kkh10
            obtain ⟨rfl, wh10, gh10⟩ := hph10
            have oh10 : Ow h10 v u w (pRow g σ (nI τ) ν) B z κ := o.she wh10 gh10
            have fh10 : Fr 0 63 h h10 := gh10.mono (by omega) (by omega)
            have kh10 : xK h10 = xK h := kkh10
            refine r_iconst (v := nI 1) C (dx dX6_row 25 rfl) rfl ?_
            have eA : rowA (nI σ) (nI τ) (nI ν) = nI 1 := by simp [rowA, rowG, rowB9, clN (show σ < 2 ^ 31 by omega), clN (show τ < 2 ^ 31 by omega), clN (show ν < 2 ^ 31 by omega), inR_nI (show σ < 2 ^ 31 by omega), inR_nI (show τ < 2 ^ 31 by omega), inR_nI (show ν < 2 ^ 31 by omega), show σ < 8 by omega, show τ < 5 by omega, show ν < 41 by omega, c1, c3, c5, c7, c9, (Int32.not_lt.mpr c9)]
            have eG : rowG g (nI σ) (nI τ) (nI ν) = pRow g σ (nI τ) ν := by simp [rowA, rowG, rowB9, clN (show σ < 2 ^ 31 by omega), clN (show τ < 2 ^ 31 by omega), clN (show ν < 2 ^ 31 by omega), inR_nI (show σ < 2 ^ 31 by omega), inR_nI (show τ < 2 ^ 31 by omega), inR_nI (show ν < 2 ^ 31 by omega), show σ < 8 by omega, show τ < 5 by omega, show ν < 41 by omega, c1, c3, c5, c7, c9, (Int32.not_lt.mpr c9)]
            exact F.1 _ _ _ _ _ rfl rfl (dx dX6_row 26 rfl) kh10 (show some (vi (nI 1)) = some (vi (rowA (nI σ) (nI τ) (nI ν))) ∧ OwX h h10 v w (rowG g (nI σ) (nI τ) (nI ν)) B z κ from by rw [eA, eG]; exact ⟨rfl, ⟨_, oh10⟩, fh10⟩)
          ·
            have c9 : ¬ n ≤ nI 40 := c9
            refine r_aload_n C (dx dX6_row 15 rfl) rfl ?_
            refine r_bipush (v := -2) C (dx dX6_row 16 rfl) rfl ?_
            refine r_cv (as := [vi (-2)]) (st := []) C X I_X6_refuse l_X6_76 (c_X6_refuse (-2)) (by decide) (Nat.le_of_ble_eq_true rfl) List.prefix_rfl List.prefix_rfl rfl rfl (Nat.le_of_ble_eq_true rfl) rfl (dx dX6_row 17 rfl) ?_
            intro rh11 h11 hph11 kkh11
            obtain ⟨rfl, gh11⟩ := hph11
            have oh11 : Ow h11 v u w g B z κ := o.ref gh11
            have fh11 : Fr 0 63 h h11 := gh11.mono (by omega) (by omega)
            have kh11 : xK h11 = xK h := kkh11
            have eA : rowA (nI σ) (nI τ) n = -2 := by simp [rowA, rowG, rowB9, clN (show σ < 2 ^ 31 by omega), clN (show τ < 2 ^ 31 by omega), inR_nI (show σ < 2 ^ 31 by omega), inR_nI (show τ < 2 ^ 31 by omega), show σ < 8 by omega, show τ < 5 by omega, c1, c3, c5, c7, c9, (inR_gt (n := 40) (by omega) (Int32.not_le.mp c9) : inR n 41 = false), (Int32.not_le.mp c9)]
            have eG : rowG g (nI σ) (nI τ) n = g := by simp [rowA, rowG, rowB9, clN (show σ < 2 ^ 31 by omega), clN (show τ < 2 ^ 31 by omega), inR_nI (show σ < 2 ^ 31 by omega), inR_nI (show τ < 2 ^ 31 by omega), show σ < 8 by omega, show τ < 5 by omega, c1, c3, c5, c7, c9, (inR_gt (n := 40) (by omega) (Int32.not_le.mp c9) : inR n 41 = false), (Int32.not_le.mp c9)]
            exact F.1 _ _ _ _ _ rfl rfl (dx dX6_row 18 rfl) kh11 (show some (vi (-2)) = some (vi (rowA (nI σ) (nI τ) n)) ∧ OwX h h11 v w (rowG g (nI σ) (nI τ) n) B z κ from by rw [eA, eG]; exact ⟨rfl, ⟨_, oh11⟩, fh11⟩)
set_option maxHeartbeats 4000000 in
theorem x_set {l : Launch} {h : Hp} {v u w : Vg} {g : Sg} {B : Nat → Int32} {z : Nat} {κ : Int32} (o : Ow h v u w g B z κ) (hg : GOk g) (s i : Int32) (x : Int64) : Ms l yX6_set cX6_set 6 (some .int) 20 [vr 6 0, vi s, vi i, vl x] h (xK h) (fun r h' => r = some (vi (setA g s i)) ∧ OwX h h' v w (setG g s i x) B z κ) := by
  refine Ms.of (by decide) (Nat.le_of_ble_eq_true rfl) (fun G C X F => ?_)
  have C : Cx G cX6_set 6 RX6 := C
  show Rr G 0 [(0, vr 6 0), (1, vi s), (2, vi i), (3, vl x)] [] h
  have bP := o.pv.bP
  have bM := o.pv.bM
  have bN := o.pv.bN
  have bz := o.pt.2.2
  refine r_aload_n C (dx dX6_set 0 rfl) rfl ?_
  refine g_X6_57 C (dx dX6_set 1 rfl) ?_
  refine r_iload_n C (dx dX6_set 2 rfl) rfl ?_
  refine r_cvP (as := [vi s]) (st := []) (v := vi (b2i (inR s 8))) C X I_X2_isShelf l_X6_72 (c_X2_isShelf _) (by decide) (Nat.le_of_ble_eq_true rfl) List.prefix_rfl rfl rfl (Nat.le_of_ble_eq_true rfl) rfl (dx dX6_set 3 rfl) ?_
  refine rb_ne (b := inR s 8) (tgt := 18) C (dx dX6_set 4 rfl) (by decide) (fun c1 => ?_) (fun c1 => ?_)
  ·
    have c1 : (inR s 8) = true := c1
    obtain ⟨σ, hσ, rfl⟩ := inR_ex (n := 8) (by omega) c1
    refine r_aload_n C (dx dX6_set 9 rfl) rfl ?_
    refine g_X6_57 C (dx dX6_set 10 rfl) ?_
    refine r_iload_n C (dx dX6_set 11 rfl) rfl ?_
    refine r_cvP (as := [vi (nI σ)]) (st := []) (v := vi (rfV g (nI σ))) C X I_X2_rowFault l_X6_84 (c_X2_rowFault o.pg _) (by decide) (Nat.le_of_ble_eq_true rfl) List.prefix_rfl rfl rfl (Nat.le_of_ble_eq_true rfl) rfl (dx dX6_set 12 rfl) ?_
    refine r_istore (ls' := [(0, vr 6 0), (1, vi (nI σ)), (2, vi i), (3, vl x), (5, vi (rfV g (nI σ)))]) C (dx dX6_set 13 rfl) (by decide) [1, 2, 3, 4, 0] rfl ?_
    refine r_iload C (dx dX6_set 14 rfl) rfl ?_
    refine r_if_eq (tgt := 40) C (dx dX6_set 15 rfl) (by decide) (fun c2 => ?_) (fun c2 => ?_)
    ·
      have c2 : rfV g (nI σ) = 0 := c2
      refine r_iload_n C (dx dX6_set 20 rfl) rfl ?_
      refine r_if_lt (tgt := 56) C (dx dX6_set 21 rfl) (by decide) (fun c3 => ?_) (fun c3 => ?_)
      ·
        have c3 : i < 0 := c3
        refine r_aload_n C (dx dX6_set 28 rfl) rfl ?_
        refine r_bipush (v := -2) C (dx dX6_set 29 rfl) rfl ?_
        refine r_cv (as := [vi (-2)]) (st := []) C X I_X6_refuse l_X6_76 (c_X6_refuse (-2)) (by decide) (Nat.le_of_ble_eq_true rfl) List.prefix_rfl List.prefix_rfl rfl rfl (Nat.le_of_ble_eq_true rfl) rfl (dx dX6_set 30 rfl) ?_
        intro rh4 h4 hph4 kkh4
        obtain ⟨rfl, gh4⟩ := hph4
        have oh4 : Ow h4 v u w g B z κ := o.ref gh4
        have fh4 : Fr 0 63 h h4 := gh4.mono (by omega) (by omega)
        have kh4 : xK h4 = xK h := kkh4
        have eA : setA g (nI σ) i = -2 := by simp [setA, setG, setB, clN (show σ < 2 ^ 31 by omega), inR_nI (show σ < 2 ^ 31 by omega), show σ < 8 by omega, c1, c2, (fun n9 => inR_neg (n := n9) c3 : ∀ n9, inR i n9 = false), c3]
        have eG : setG g (nI σ) i x = g := by simp [setA, setG, setB, clN (show σ < 2 ^ 31 by omega), inR_nI (show σ < 2 ^ 31 by omega), show σ < 8 by omega, c1, c2, (fun n9 => inR_neg (n := n9) c3 : ∀ n9, inR i n9 = false), c3]
        exact F.1 _ _ _ _ _ rfl rfl (dx dX6_set 31 rfl) kh4 (show some (vi (-2)) = some (vi (setA g (nI σ) i)) ∧ OwX h h4 v w (setG g (nI σ) i x) B z κ from by rw [eA, eG]; exact ⟨rfl, ⟨_, oh4⟩, fh4⟩)
      ·
        have c3 : ¬ i < 0 := c3
        refine r_iload_n C (dx dX6_set 22 rfl) rfl ?_
        refine r_aload_n C (dx dX6_set 23 rfl) rfl ?_
        refine g_X6_57 C (dx dX6_set 24 rfl) ?_
        refine r_iload_n C (dx dX6_set 25 rfl) rfl ?_
        refine r_cvP (as := [vi (nI σ)]) (st := [vi i]) (v := vi (szV g (nI σ))) C X I_X2_sizeOf l_X6_87 (c_X2_sizeOf o.pg _) (by decide) (Nat.le_of_ble_eq_true rfl) List.prefix_rfl rfl rfl (Nat.le_of_ble_eq_true rfl) rfl (dx dX6_set 26 rfl) ?_
        refine r_icmp_lt (tgt := 63) C (dx dX6_set 27 rfl) (by decide) (fun c5 => ?_) (fun c5 => ?_)
        ·
          have c5 : i < szV g (nI σ) := c5
          refine r_aload_n C (dx dX6_set 32 rfl) rfl ?_
          refine g_X6_57 C (dx dX6_set 33 rfl) ?_
          refine r_iload_n C (dx dX6_set 34 rfl) rfl ?_
          refine r_iload_n C (dx dX6_set 35 rfl) rfl ?_
          refine r_lload_n C (dx dX6_set 36 rfl) rfl ?_
          refine r_cv (as := [vi (nI σ), vi i, vl x]) (st := []) C X I_X2_putElement l_X6_90 (c_X2_putElement o.pg hg.1 (by omega) _ _) (by decide) (Nat.le_of_ble_eq_true rfl) List.prefix_rfl List.prefix_rfl rfl rfl (Nat.le_of_ble_eq_true rfl) rfl (dx dX6_set 37 rfl) ?_
          intro rh6 h6 hph6 kkh6
          obtain ⟨rfl, wh6, gh6⟩ := hph6
          have oh6 : Ow h6 v u w (pEl g σ i x) B z κ := o.she wh6 gh6
          have fh6 : Fr 0 63 h h6 := gh6.mono (by omega) (by omega)
          have kh6 : xK h6 = xK h := kkh6
          refine r_iconst (v := nI 1) C (dx dX6_set 38 rfl) rfl ?_
          have eA : setA g (nI σ) i = nI 1 := by simp [setA, setG, setB, clN (show σ < 2 ^ 31 by omega), inR_nI (show σ < 2 ^ 31 by omega), show σ < 8 by omega, c1, c2, c3, c5]
          have eG : setG g (nI σ) i x = pEl g σ i x := by simp [setA, setG, setB, clN (show σ < 2 ^ 31 by omega), inR_nI (show σ < 2 ^ 31 by omega), show σ < 8 by omega, c1, c2, c3, c5]
          exact F.1 _ _ _ _ _ rfl rfl (dx dX6_set 39 rfl) kh6 (show some (vi (nI 1)) = some (vi (setA g (nI σ) i)) ∧ OwX h h6 v w (setG g (nI σ) i x) B z κ from by rw [eA, eG]; exact ⟨rfl, ⟨_, oh6⟩, fh6⟩)
        ·
          have c5 : ¬ i < szV g (nI σ) := c5
          refine r_aload_n C (dx dX6_set 28 rfl) rfl ?_
          refine r_bipush (v := -2) C (dx dX6_set 29 rfl) rfl ?_
          refine r_cv (as := [vi (-2)]) (st := []) C X I_X6_refuse l_X6_76 (c_X6_refuse (-2)) (by decide) (Nat.le_of_ble_eq_true rfl) List.prefix_rfl List.prefix_rfl rfl rfl (Nat.le_of_ble_eq_true rfl) rfl (dx dX6_set 30 rfl) ?_
          intro rh7 h7 hph7 kkh7
          obtain ⟨rfl, gh7⟩ := hph7
          have oh7 : Ow h7 v u w g B z κ := o.ref gh7
          have fh7 : Fr 0 63 h h7 := gh7.mono (by omega) (by omega)
          have kh7 : xK h7 = xK h := kkh7
          have eA : setA g (nI σ) i = -2 := by simp [setA, setG, setB, clN (show σ < 2 ^ 31 by omega), inR_nI (show σ < 2 ^ 31 by omega), show σ < 8 by omega, c1, c2, c3, c5]
          have eG : setG g (nI σ) i x = g := by simp [setA, setG, setB, clN (show σ < 2 ^ 31 by omega), inR_nI (show σ < 2 ^ 31 by omega), show σ < 8 by omega, c1, c2, c3, c5]
          exact F.1 _ _ _ _ _ rfl rfl (dx dX6_set 31 rfl) kh7 (show some (vi (-2)) = some (vi (setA g (nI σ) i)) ∧ OwX h h7 v w (setG g (nI σ) i x) B z κ from by rw [eA, eG]; exact ⟨rfl, ⟨_, oh7⟩, fh7⟩)
    ·
      have c2 : ¬ rfV g (nI σ) = 0 := c2
      refine r_aload_n C (dx dX6_set 16 rfl) rfl ?_
      refine r_iload C (dx dX6_set 17 rfl) rfl ?_
      refine r_cv (as := [vi (rfV g (nI σ))]) (st := []) C X I_X6_refuse l_X6_76 (c_X6_refuse (rfV g (nI σ))) (by decide) (Nat.le_of_ble_eq_true rfl) List.prefix_rfl List.prefix_rfl rfl rfl (Nat.le_of_ble_eq_true rfl) rfl (dx dX6_set 18 rfl) ?_
      intro rh8 h8 hph8 kkh8
      obtain ⟨rfl, gh8⟩ := hph8
      have oh8 : Ow h8 v u w g B z κ := o.ref gh8
      have fh8 : Fr 0 63 h h8 := gh8.mono (by omega) (by omega)
      have kh8 : xK h8 = xK h := kkh8
      have eA : setA g (nI σ) i = rfV g (nI σ) := by simp [setA, setG, setB, clN (show σ < 2 ^ 31 by omega), inR_nI (show σ < 2 ^ 31 by omega), show σ < 8 by omega, c1, c2]
      have eG : setG g (nI σ) i x = g := by simp [setA, setG, setB, clN (show σ < 2 ^ 31 by omega), inR_nI (show σ < 2 ^ 31 by omega), show σ < 8 by omega, c1, c2]
      exact F.1 _ _ _ _ _ rfl rfl (dx dX6_set 19 rfl) kh8 (show some (vi (rfV g (nI σ))) = some (vi (setA g (nI σ) i)) ∧ OwX h h8 v w (setG g (nI σ) i x) B z κ from by rw [eA, eG]; exact ⟨rfl, ⟨_, oh8⟩, fh8⟩)
  ·
    have c1 : (inR s 8) = false := c1
    refine r_aload_n C (dx dX6_set 5 rfl) rfl ?_
    refine r_bipush (v := -2) C (dx dX6_set 6 rfl) rfl ?_
    refine r_cv (as := [vi (-2)]) (st := []) C X I_X6_refuse l_X6_76 (c_X6_refuse (-2)) (by decide) (Nat.le_of_ble_eq_true rfl) List.prefix_rfl List.prefix_rfl rfl rfl (Nat.le_of_ble_eq_true rfl) rfl (dx dX6_set 7 rfl) ?_
    intro rh9 h9 hph9 kkh9
    obtain ⟨rfl, gh9⟩ := hph9
    have oh9 : Ow h9 v u w g B z κ := o.ref gh9
    have fh9 : Fr 0 63 h h9 := gh9.mono (by omega) (by omega)
    have kh9 : xK h9 = xK h := kkh9
    have eA : setA g s i = -2 := by simp [setA, setG, setB, c1]
    have eG : setG g s i x = g := by simp [setA, setG, setB, c1]
    exact F.1 _ _ _ _ _ rfl rfl (dx dX6_set 8 rfl) kh9 (show some (vi (-2)) = some (vi (setA g s i)) ∧ OwX h h9 v w (setG g s i x) B z κ from by rw [eA, eG]; exact ⟨rfl, ⟨_, oh9⟩, fh9⟩)
set_option maxHeartbeats 4000000 in
theorem x_element {l : Launch} {h : Hp} {v u w : Vg} {g : Sg} {B : Nat → Int32} {z : Nat} {κ : Int32} (o : Ow h v u w g B z κ) (hg : GOk g) (s i : Int32) : Ms l yX6_element cX6_element 3 (some .long) 20 [vr 6 0, vi s, vi i] h (xK h) (fun r h' => r = some (vl (elV g s i)) ∧ OwX h h' v w g B z κ) := by
  refine Ms.of (by decide) (Nat.le_of_ble_eq_true rfl) (fun G C X F => ?_)
  have C : Cx G cX6_element 3 RX6 := C
  show Rr G 0 [(0, vr 6 0), (1, vi s), (2, vi i)] [] h
  have bP := o.pv.bP
  have bM := o.pv.bM
  have bN := o.pv.bN
  have bz := o.pt.2.2
  refine r_aload_n C (dx dX6_element 0 rfl) rfl ?_
  refine g_X6_57 C (dx dX6_element 1 rfl) ?_
  refine r_iload_n C (dx dX6_element 2 rfl) rfl ?_
  refine r_iload_n C (dx dX6_element 3 rfl) rfl ?_
  refine r_cvP (as := [vi s, vi i]) (st := []) (v := vl (elV g s i)) C X I_X2_elementAt l_X6_107 (c_X2_elementAt o.pg hg.1 _ _) (by decide) (Nat.le_of_ble_eq_true rfl) List.prefix_rfl rfl rfl (Nat.le_of_ble_eq_true rfl) rfl (dx dX6_element 4 rfl) ?_
  exact F.2.1 _ _ _ _ rfl (dx dX6_element 5 rfl) rfl (show some (vl (elV g s i)) = some (vl (elV g s i)) ∧ OwX h h v w g B z κ from by exact ⟨rfl, ⟨_, o⟩, Fr.rf⟩)
set_option maxHeartbeats 4000000 in
theorem x_holds {l : Launch} {h : Hp} {v u w : Vg} {g : Sg} {B : Nat → Int32} {z : Nat} {κ : Int32} (o : Ow h v u w g B z κ) (hg : GOk g) (s : Int32) : Ms l yX6_holds cX6_holds 2 (some .int) 20 [vr 6 0, vi s] h (xK h) (fun r h' => r = some (vi (tOn g s)) ∧ OwX h h' v w g B z κ) := by
  refine Ms.of (by decide) (Nat.le_of_ble_eq_true rfl) (fun G C X F => ?_)
  have C : Cx G cX6_holds 2 RX6 := C
  show Rr G 0 [(0, vr 6 0), (1, vi s)] [] h
  have bP := o.pv.bP
  have bM := o.pv.bM
  have bN := o.pv.bN
  have bz := o.pt.2.2
  refine r_aload_n C (dx dX6_holds 0 rfl) rfl ?_
  refine g_X6_57 C (dx dX6_holds 1 rfl) ?_
  refine r_iload_n C (dx dX6_holds 2 rfl) rfl ?_
  refine r_cvP (as := [vi s]) (st := []) (v := vi (tOn g s)) C X I_X2_thingOn l_X6_100 (c_X2_thingOn o.pg _) (by decide) (Nat.le_of_ble_eq_true rfl) List.prefix_rfl rfl rfl (Nat.le_of_ble_eq_true rfl) rfl (dx dX6_holds 3 rfl) ?_
  exact F.1 _ _ _ _ _ rfl rfl (dx dX6_holds 4 rfl) rfl (show some (vi (tOn g s)) = some (vi (tOn g s)) ∧ OwX h h v w g B z κ from by exact ⟨rfl, ⟨_, o⟩, Fr.rf⟩)
set_option maxHeartbeats 4000000 in
theorem x_holding {l : Launch} {h : Hp} {v u w : Vg} {g : Sg} {B : Nat → Int32} {z : Nat} {κ : Int32} (o : Ow h v u w g B z κ) (hg : GOk g) (s k a : Int32) : Ms l yX6_holding cX6_holding 4 (some .int) 20 [vr 6 0, vi s, vi k, vi a] h (xK h) (fun r h' => r = some (vi (hldA s k a)) ∧ OwX h h' v w (hldG g s k a) B z κ) := by
  refine Ms.of (by decide) (Nat.le_of_ble_eq_true rfl) (fun G C X F => ?_)
  have C : Cx G cX6_holding 4 RX6 := C
  show Rr G 0 [(0, vr 6 0), (1, vi s), (2, vi k), (3, vi a)] [] h
  have bP := o.pv.bP
  have bM := o.pv.bM
  have bN := o.pv.bN
  have bz := o.pt.2.2
  refine r_aload_n C (dx dX6_holding 0 rfl) rfl ?_
  refine g_X6_57 C (dx dX6_holding 1 rfl) ?_
  refine r_iload_n C (dx dX6_holding 2 rfl) rfl ?_
  refine r_cvP (as := [vi s]) (st := []) (v := vi (b2i (inR s 8))) C X I_X2_isShelf l_X6_72 (c_X2_isShelf _) (by decide) (Nat.le_of_ble_eq_true rfl) List.prefix_rfl rfl rfl (Nat.le_of_ble_eq_true rfl) rfl (dx dX6_holding 3 rfl) ?_
  refine rb_eq (b := inR s 8) (tgt := 31) C (dx dX6_holding 4 rfl) (by decide) (fun c1 => ?_) (fun c1 => ?_)
  ·
    have c1 : (inR s 8) = false := c1
    refine r_aload_n C (dx dX6_holding 16 rfl) rfl ?_
    refine r_bipush (v := -2) C (dx dX6_holding 17 rfl) rfl ?_
    refine r_cv (as := [vi (-2)]) (st := []) C X I_X6_refuse l_X6_76 (c_X6_refuse (-2)) (by decide) (Nat.le_of_ble_eq_true rfl) List.prefix_rfl List.prefix_rfl rfl rfl (Nat.le_of_ble_eq_true rfl) rfl (dx dX6_holding 18 rfl) ?_
    intro rh2 h2 hph2 kkh2
    obtain ⟨rfl, gh2⟩ := hph2
    have oh2 : Ow h2 v u w g B z κ := o.ref gh2
    have fh2 : Fr 0 63 h h2 := gh2.mono (by omega) (by omega)
    have kh2 : xK h2 = xK h := kkh2
    have eA : hldA s k a = -2 := by simp [hldA, hldG, hldB, c1]
    have eG : hldG g s k a = g := by simp [hldA, hldG, hldB, c1]
    exact F.1 _ _ _ _ _ rfl rfl (dx dX6_holding 19 rfl) kh2 (show some (vi (-2)) = some (vi (hldA s k a)) ∧ OwX h h2 v w (hldG g s k a) B z κ from by rw [eA, eG]; exact ⟨rfl, ⟨_, oh2⟩, fh2⟩)
  ·
    have c1 : (inR s 8) = true := c1
    obtain ⟨σ, hσ, rfl⟩ := inR_ex (n := 8) (by omega) c1
    refine r_iload_n C (dx dX6_holding 5 rfl) rfl ?_
    refine r_iconst (v := nI 1) C (dx dX6_holding 6 rfl) rfl ?_
    refine r_icmp_lt (tgt := 31) C (dx dX6_holding 7 rfl) (by decide) (fun c3 => ?_) (fun c3 => ?_)
    ·
      have c3 : k < nI 1 := c3
      refine r_aload_n C (dx dX6_holding 16 rfl) rfl ?_
      refine r_bipush (v := -2) C (dx dX6_holding 17 rfl) rfl ?_
      refine r_cv (as := [vi (-2)]) (st := []) C X I_X6_refuse l_X6_76 (c_X6_refuse (-2)) (by decide) (Nat.le_of_ble_eq_true rfl) List.prefix_rfl List.prefix_rfl rfl rfl (Nat.le_of_ble_eq_true rfl) rfl (dx dX6_holding 18 rfl) ?_
      intro rh4 h4 hph4 kkh4
      obtain ⟨rfl, gh4⟩ := hph4
      have oh4 : Ow h4 v u w g B z κ := o.ref gh4
      have fh4 : Fr 0 63 h h4 := gh4.mono (by omega) (by omega)
      have kh4 : xK h4 = xK h := kkh4
      have eA : hldA (nI σ) k a = -2 := by simp [hldA, hldG, hldB, clN (show σ < 2 ^ 31 by omega), inR_nI (show σ < 2 ^ 31 by omega), show σ < 8 by omega, c1, c3]
      have eG : hldG g (nI σ) k a = g := by simp [hldA, hldG, hldB, clN (show σ < 2 ^ 31 by omega), inR_nI (show σ < 2 ^ 31 by omega), show σ < 8 by omega, c1, c3]
      exact F.1 _ _ _ _ _ rfl rfl (dx dX6_holding 19 rfl) kh4 (show some (vi (-2)) = some (vi (hldA (nI σ) k a)) ∧ OwX h h4 v w (hldG g (nI σ) k a) B z κ from by rw [eA, eG]; exact ⟨rfl, ⟨_, oh4⟩, fh4⟩)
    ·
      have c3 : ¬ k < nI 1 := c3
      refine r_iload_n C (dx dX6_holding 8 rfl) rfl ?_
      refine r_iconst (v := nI 5) C (dx dX6_holding 9 rfl) rfl ?_
      refine r_icmp_gt (tgt := 31) C (dx dX6_holding 10 rfl) (by decide) (fun c5 => ?_) (fun c5 => ?_)
      ·
        have c5 : nI 5 < k := c5
        refine r_aload_n C (dx dX6_holding 16 rfl) rfl ?_
        refine r_bipush (v := -2) C (dx dX6_holding 17 rfl) rfl ?_
        refine r_cv (as := [vi (-2)]) (st := []) C X I_X6_refuse l_X6_76 (c_X6_refuse (-2)) (by decide) (Nat.le_of_ble_eq_true rfl) List.prefix_rfl List.prefix_rfl rfl rfl (Nat.le_of_ble_eq_true rfl) rfl (dx dX6_holding 18 rfl) ?_
        intro rh6 h6 hph6 kkh6
        obtain ⟨rfl, gh6⟩ := hph6
        have oh6 : Ow h6 v u w g B z κ := o.ref gh6
        have fh6 : Fr 0 63 h h6 := gh6.mono (by omega) (by omega)
        have kh6 : xK h6 = xK h := kkh6
        have eA : hldA (nI σ) k a = -2 := by simp [hldA, hldG, hldB, clN (show σ < 2 ^ 31 by omega), inR_nI (show σ < 2 ^ 31 by omega), show σ < 8 by omega, c1, c3, (inR_gt (n := 5) (by omega) c5 : inR k 6 = false), c5]
        have eG : hldG g (nI σ) k a = g := by simp [hldA, hldG, hldB, clN (show σ < 2 ^ 31 by omega), inR_nI (show σ < 2 ^ 31 by omega), show σ < 8 by omega, c1, c3, (inR_gt (n := 5) (by omega) c5 : inR k 6 = false), c5]
        exact F.1 _ _ _ _ _ rfl rfl (dx dX6_holding 19 rfl) kh6 (show some (vi (-2)) = some (vi (hldA (nI σ) k a)) ∧ OwX h h6 v w (hldG g (nI σ) k a) B z κ from by rw [eA, eG]; exact ⟨rfl, ⟨_, oh6⟩, fh6⟩)
      ·
        have c5 : ¬ nI 5 < k := c5
        obtain ⟨η, hη, hη2, rfl⟩ := btw (a := 1) (b := 5) (by omega) (by omega) c3 c5
        refine r_iload_n C (dx dX6_holding 11 rfl) rfl ?_
        refine r_if_lt (tgt := 31) C (dx dX6_holding 12 rfl) (by decide) (fun c7 => ?_) (fun c7 => ?_)
        ·
          have c7 : a < 0 := c7
          refine r_aload_n C (dx dX6_holding 16 rfl) rfl ?_
          refine r_bipush (v := -2) C (dx dX6_holding 17 rfl) rfl ?_
          refine r_cv (as := [vi (-2)]) (st := []) C X I_X6_refuse l_X6_76 (c_X6_refuse (-2)) (by decide) (Nat.le_of_ble_eq_true rfl) List.prefix_rfl List.prefix_rfl rfl rfl (Nat.le_of_ble_eq_true rfl) rfl (dx dX6_holding 18 rfl) ?_
          intro rh8 h8 hph8 kkh8
          obtain ⟨rfl, gh8⟩ := hph8
          have oh8 : Ow h8 v u w g B z κ := o.ref gh8
          have fh8 : Fr 0 63 h h8 := gh8.mono (by omega) (by omega)
          have kh8 : xK h8 = xK h := kkh8
          have eA : hldA (nI σ) (nI η) a = -2 := by simp [hldA, hldG, hldB, clN (show σ < 2 ^ 31 by omega), clN (show η < 2 ^ 31 by omega), inR_nI (show σ < 2 ^ 31 by omega), inR_nI (show η < 2 ^ 31 by omega), show σ < 8 by omega, c1, c3, c5, (fun n9 => inR_neg (n := n9) c7 : ∀ n9, inR a n9 = false), c7]
          have eG : hldG g (nI σ) (nI η) a = g := by simp [hldA, hldG, hldB, clN (show σ < 2 ^ 31 by omega), clN (show η < 2 ^ 31 by omega), inR_nI (show σ < 2 ^ 31 by omega), inR_nI (show η < 2 ^ 31 by omega), show σ < 8 by omega, c1, c3, c5, (fun n9 => inR_neg (n := n9) c7 : ∀ n9, inR a n9 = false), c7]
          exact F.1 _ _ _ _ _ rfl rfl (dx dX6_holding 19 rfl) kh8 (show some (vi (-2)) = some (vi (hldA (nI σ) (nI η) a)) ∧ OwX h h8 v w (hldG g (nI σ) (nI η) a) B z κ from by rw [eA, eG]; exact ⟨rfl, ⟨_, oh8⟩, fh8⟩)
        ·
          have c7 : ¬ a < 0 := c7
          refine r_iload_n C (dx dX6_holding 13 rfl) rfl ?_
          refine r_bipush (v := nI 99) C (dx dX6_holding 14 rfl) rfl ?_
          refine r_icmp_le (tgt := 38) C (dx dX6_holding 15 rfl) (by decide) (fun c9 => ?_) (fun c9 => ?_)
          ·
            have c9 : a ≤ nI 99 := c9
            obtain ⟨α, hα, rfl⟩ := btw0 (b := 99) (by omega) c7 (Int32.not_lt.mpr c9)
            refine r_aload_n C (dx dX6_holding 20 rfl) rfl ?_
            refine g_X6_57 C (dx dX6_holding 21 rfl) ?_
            refine r_iload_n C (dx dX6_holding 22 rfl) rfl ?_
            refine r_iload_n C (dx dX6_holding 23 rfl) rfl ?_
            refine r_iload_n C (dx dX6_holding 24 rfl) rfl ?_
            refine r_cv (as := [vi (nI σ), vi (nI η), vi (nI α)]) (st := []) C X I_X2_putHolding l_X6_111 (c_X2_putHolding o.pg (by omega)) (by decide) (Nat.le_of_ble_eq_true rfl) List.prefix_rfl List.prefix_rfl rfl rfl (Nat.le_of_ble_eq_true rfl) rfl (dx dX6_holding 25 rfl) ?_
            intro rh10 h10 hph10 kkh10
            obtain ⟨rfl, wh10, gh10⟩ := hph10
            have oh10 : Ow h10 v u w (pHold g σ η α) B z κ := o.she wh10 gh10
            have fh10 : Fr 0 63 h h10 := gh10.mono (by omega) (by omega)
            have kh10 : xK h10 = xK h := kkh10
            refine r_iconst (v := nI 1) C (dx dX6_holding 26 rfl) rfl ?_
            have eA : hldA (nI σ) (nI η) (nI α) = nI 1 := by simp [hldA, hldG, hldB, clN (show σ < 2 ^ 31 by omega), clN (show η < 2 ^ 31 by omega), clN (show α < 2 ^ 31 by omega), inR_nI (show σ < 2 ^ 31 by omega), inR_nI (show η < 2 ^ 31 by omega), inR_nI (show α < 2 ^ 31 by omega), show σ < 8 by omega, show α < 100 by omega, c1, c3, c5, c7, c9, (Int32.not_lt.mpr c9)]
            have eG : hldG g (nI σ) (nI η) (nI α) = pHold g σ η α := by simp [hldA, hldG, hldB, clN (show σ < 2 ^ 31 by omega), clN (show η < 2 ^ 31 by omega), clN (show α < 2 ^ 31 by omega), inR_nI (show σ < 2 ^ 31 by omega), inR_nI (show η < 2 ^ 31 by omega), inR_nI (show α < 2 ^ 31 by omega), show σ < 8 by omega, show α < 100 by omega, c1, c3, c5, c7, c9, (Int32.not_lt.mpr c9)]
            exact F.1 _ _ _ _ _ rfl rfl (dx dX6_holding 27 rfl) kh10 (show some (vi (nI 1)) = some (vi (hldA (nI σ) (nI η) (nI α))) ∧ OwX h h10 v w (hldG g (nI σ) (nI η) (nI α)) B z κ from by rw [eA, eG]; exact ⟨rfl, ⟨_, oh10⟩, fh10⟩)
          ·
            have c9 : ¬ a ≤ nI 99 := c9
            refine r_aload_n C (dx dX6_holding 16 rfl) rfl ?_
            refine r_bipush (v := -2) C (dx dX6_holding 17 rfl) rfl ?_
            refine r_cv (as := [vi (-2)]) (st := []) C X I_X6_refuse l_X6_76 (c_X6_refuse (-2)) (by decide) (Nat.le_of_ble_eq_true rfl) List.prefix_rfl List.prefix_rfl rfl rfl (Nat.le_of_ble_eq_true rfl) rfl (dx dX6_holding 18 rfl) ?_
            intro rh11 h11 hph11 kkh11
            obtain ⟨rfl, gh11⟩ := hph11
            have oh11 : Ow h11 v u w g B z κ := o.ref gh11
            have fh11 : Fr 0 63 h h11 := gh11.mono (by omega) (by omega)
            have kh11 : xK h11 = xK h := kkh11
            have eA : hldA (nI σ) (nI η) a = -2 := by simp [hldA, hldG, hldB, clN (show σ < 2 ^ 31 by omega), clN (show η < 2 ^ 31 by omega), inR_nI (show σ < 2 ^ 31 by omega), inR_nI (show η < 2 ^ 31 by omega), show σ < 8 by omega, c1, c3, c5, c7, c9, (inR_gt (n := 99) (by omega) (Int32.not_le.mp c9) : inR a 100 = false), (Int32.not_le.mp c9)]
            have eG : hldG g (nI σ) (nI η) a = g := by simp [hldA, hldG, hldB, clN (show σ < 2 ^ 31 by omega), clN (show η < 2 ^ 31 by omega), inR_nI (show σ < 2 ^ 31 by omega), inR_nI (show η < 2 ^ 31 by omega), show σ < 8 by omega, c1, c3, c5, c7, c9, (inR_gt (n := 99) (by omega) (Int32.not_le.mp c9) : inR a 100 = false), (Int32.not_le.mp c9)]
            exact F.1 _ _ _ _ _ rfl rfl (dx dX6_holding 19 rfl) kh11 (show some (vi (-2)) = some (vi (hldA (nI σ) (nI η) a)) ∧ OwX h h11 v w (hldG g (nI σ) (nI η) a) B z κ from by rw [eA, eG]; exact ⟨rfl, ⟨_, oh11⟩, fh11⟩)
set_option maxHeartbeats 4000000 in
theorem x_wipe {l : Launch} {h : Hp} {v u w : Vg} {g : Sg} {B : Nat → Int32} {z : Nat} {κ : Int32} (o : Ow h v u w g B z κ) (hg : GOk g)  : Ms l yX6_wipe cX6_wipe 2 (some .int) 20 [vr 6 0] h (xK h) (fun r h' => r = some (vi (nI z)) ∧ OwX h h' v w g B 0 κ) := by
  refine Ms.of (by decide) (Nat.le_of_ble_eq_true rfl) (fun G C X F => ?_)
  have C : Cx G cX6_wipe 2 RX6 := C
  show Rr G 0 [(0, vr 6 0)] [] h
  have bP := o.pv.bP
  have bM := o.pv.bM
  have bN := o.pv.bN
  have bz := o.pt.2.2
  refine r_aload_n C (dx dX6_wipe 0 rfl) rfl ?_
  refine g_X6_50 C (dx dX6_wipe 1 rfl) ?_
  refine r_cvP (as := []) (st := []) (v := vi (nI z)) C X I_X3_length l_X6_182 (c_X3_length o.pt) (by decide) (Nat.le_of_ble_eq_true rfl) List.prefix_rfl rfl rfl (Nat.le_of_ble_eq_true rfl) rfl (dx dX6_wipe 2 rfl) ?_
  refine r_istore_n (ls' := [(0, vr 6 0), (1, vi (nI z))]) C (dx dX6_wipe 3 rfl) (by decide) [1, 0] rfl ?_
  refine r_aload_n C (dx dX6_wipe 4 rfl) rfl ?_
  refine g_X6_50 C (dx dX6_wipe 5 rfl) ?_
  refine r_cv (as := []) (st := []) C X I_X3_clear l_X6_188 (c_X3_clear o.pt) (by decide) (Nat.le_of_ble_eq_true rfl) List.prefix_rfl List.prefix_rfl rfl rfl (Nat.le_of_ble_eq_true rfl) rfl (dx dX6_wipe 6 rfl) ?_
  intro rh1 h1 hph1 kkh1
  obtain ⟨rfl, wh1, gh1⟩ := hph1
  have oh1 : Ow h1 v u w g B 0 κ := o.tap wh1 (gh1.mono (by omega) (by omega))
  have fh1 : Fr 0 63 h h1 := gh1.mono (by omega) (by omega)
  have kh1 : xK h1 = xK h := kkh1
  refine r_iload_n C (dx dX6_wipe 7 rfl) rfl ?_
  exact F.1 _ _ _ _ _ rfl rfl (dx dX6_wipe 8 rfl) kh1 (show some (vi (nI z)) = some (vi (nI z)) ∧ OwX h h1 v w g B 0 κ from by exact ⟨rfl, ⟨_, oh1⟩, fh1⟩)
set_option maxHeartbeats 4000000 in
theorem x_part {l : Launch} {h : Hp} {v u w : Vg} {g : Sg} {B : Nat → Int32} {z : Nat} {κ : Int32} (o : Ow h v u w g B z κ) (hg : GOk g)  : Ms l yX6_part cX6_part 1 (some .int) 20 [vr 6 0] h (xK h) (fun r h' => r = some (vi (partA v)) ∧ OwX h h' (partV v) w g B z κ) := by
  refine Ms.of (by decide) (Nat.le_of_ble_eq_true rfl) (fun G C X F => ?_)
  have C : Cx G cX6_part 1 RX6 := C
  show Rr G 0 [(0, vr 6 0)] [] h
  have bP := o.pv.bP
  have bM := o.pv.bM
  have bN := o.pv.bN
  have bz := o.pt.2.2
  refine r_aload_n C (dx dX6_part 0 rfl) rfl ?_
  refine g_X6_10 C (dx dX6_part 1 rfl) ?_
  refine g_X6_138 (x := nI (vP v)) C (dx dX6_part 2 rfl) o.pv.eP ?_
  refine r_bipush (v := nI 12) C (dx dX6_part 3 rfl) rfl ?_
  refine rn_lt (a := vP v) (b := 12) (tgt := 19) C (by omega) (by omega) (dx dX6_part 4 rfl) (by decide) (fun c1 => ?_) (fun c1 => ?_)
  · first
    | (omega; done)
    | (
        have c1 : vP v < 12 := c1
        refine r_aload_n C (dx dX6_part 9 rfl) rfl ?_
        refine g_X6_10 C (dx dX6_part 10 rfl) ?_
        refine r_cv (as := []) (st := []) C X I_X5_addPart l_X6_141 (c_X5_addPart o.pv (by omega)) (by decide) (Nat.le_of_ble_eq_true rfl) List.prefix_rfl List.prefix_rfl rfl rfl (Nat.le_of_ble_eq_true rfl) rfl (dx dX6_part 11 rfl) ?_
        intro rh2 h2 hph2 kkh2
        obtain ⟨rfl, wh2, gh2⟩ := hph2
        have oh2 : Ow h2 (addPartV v) u w g B z κ := o.now wh2 gh2
        have fh2 : Fr 0 63 h h2 := gh2.mono (by omega) (by omega)
        have kh2 : xK h2 = xK h := kkh2
        have eA : partA v = nI (vP v) := by simp [partA, partV, c1]
        have eV : partV v = (addPartV v) := by simp [partA, partV, c1]
        exact F.1 _ _ _ _ _ rfl rfl (dx dX6_part 12 rfl) kh2 (show some (vi (nI (vP v))) = some (vi (partA v)) ∧ OwX h h2 (partV v) w g B z κ from by rw [eA, eV]; exact ⟨rfl, ⟨_, oh2⟩, fh2⟩))
  · first
    | (omega; done)
    | (
        have c1 : 12 ≤ vP v := c1
        refine r_aload_n C (dx dX6_part 5 rfl) rfl ?_
        refine r_bipush (v := -6) C (dx dX6_part 6 rfl) rfl ?_
        refine r_cv (as := [vi (-6)]) (st := []) C X I_X6_refuse l_X6_76 (c_X6_refuse (-6)) (by decide) (Nat.le_of_ble_eq_true rfl) List.prefix_rfl List.prefix_rfl rfl rfl (Nat.le_of_ble_eq_true rfl) rfl (dx dX6_part 7 rfl) ?_
        intro rh3 h3 hph3 kkh3
        obtain ⟨rfl, gh3⟩ := hph3
        have oh3 : Ow h3 v u w g B z κ := o.ref gh3
        have fh3 : Fr 0 63 h h3 := gh3.mono (by omega) (by omega)
        have kh3 : xK h3 = xK h := kkh3
        have eA : partA v = -6 := by simp [partA, partV, c1, Nat.not_lt.mpr c1]
        have eV : partV v = v := by simp [partA, partV, c1, Nat.not_lt.mpr c1]
        exact F.1 _ _ _ _ _ rfl rfl (dx dX6_part 8 rfl) kh3 (show some (vi (-6)) = some (vi (partA v)) ∧ OwX h h3 (partV v) w g B z κ from by rw [eA, eV]; exact ⟨rfl, ⟨_, oh3⟩, fh3⟩))
set_option maxHeartbeats 4000000 in
theorem x_machine {l : Launch} {h : Hp} {v u w : Vg} {g : Sg} {B : Nat → Int32} {z : Nat} {κ : Int32} (o : Ow h v u w g B z κ) (hg : GOk g) (m n : Int32) : Ms l yX6_machine cX6_machine 3 (some .int) 20 [vr 6 0, vi m, vi n] h (xK h) (fun r h' => r = some (vi (machA v m n)) ∧ OwX h h' (machV v m n) w g B z κ) := by
  refine Ms.of (by decide) (Nat.le_of_ble_eq_true rfl) (fun G C X F => ?_)
  have C : Cx G cX6_machine 3 RX6 := C
  show Rr G 0 [(0, vr 6 0), (1, vi m), (2, vi n)] [] h
  have bP := o.pv.bP
  have bM := o.pv.bM
  have bN := o.pv.bN
  have bz := o.pt.2.2
  refine r_iload_n C (dx dX6_machine 0 rfl) rfl ?_
  refine r_if_eq (tgt := 26) C (dx dX6_machine 1 rfl) (by decide) (fun c1 => ?_) (fun c1 => ?_)
  ·
    have c1 : m = 0 := c1
    refine r_aload_n C (dx dX6_machine 13 rfl) rfl ?_
    refine r_bipush (v := -2) C (dx dX6_machine 14 rfl) rfl ?_
    refine r_cv (as := [vi (-2)]) (st := []) C X I_X6_refuse l_X6_76 (c_X6_refuse (-2)) (by decide) (Nat.le_of_ble_eq_true rfl) List.prefix_rfl List.prefix_rfl rfl rfl (Nat.le_of_ble_eq_true rfl) rfl (dx dX6_machine 15 rfl) ?_
    intro rh2 h2 hph2 kkh2
    obtain ⟨rfl, gh2⟩ := hph2
    have oh2 : Ow h2 v u w g B z κ := o.ref gh2
    have fh2 : Fr 0 63 h h2 := gh2.mono (by omega) (by omega)
    have kh2 : xK h2 = xK h := kkh2
    have eA : machA v m n = -2 := by simp [machA, machV, machB, c1]
    have eV : machV v m n = v := by simp [machA, machV, machB, c1]
    exact F.1 _ _ _ _ _ rfl rfl (dx dX6_machine 16 rfl) kh2 (show some (vi (-2)) = some (vi (machA v m n)) ∧ OwX h h2 (machV v m n) w g B z κ from by rw [eA, eV]; exact ⟨rfl, ⟨_, oh2⟩, fh2⟩)
  ·
    have c1 : ¬ m = 0 := c1
    refine r_aload_n C (dx dX6_machine 2 rfl) rfl ?_
    refine g_X6_10 C (dx dX6_machine 3 rfl) ?_
    refine r_iload_n C (dx dX6_machine 4 rfl) rfl ?_
    refine r_cvP (as := [vi m]) (st := []) (v := vi (b2i (inR m (2 ^ vP v)))) C X I_X5_isSetOfParts l_X6_144 (c_X5_isSetOfParts o.pv _) (by decide) (Nat.le_of_ble_eq_true rfl) List.prefix_rfl rfl rfl (Nat.le_of_ble_eq_true rfl) rfl (dx dX6_machine 5 rfl) ?_
    refine rb_eq (b := inR m (2 ^ vP v)) (tgt := 26) C (dx dX6_machine 6 rfl) (by decide) (fun c3 => ?_) (fun c3 => ?_)
    ·
      have c3 : (inR m (2 ^ vP v)) = false := c3
      refine r_aload_n C (dx dX6_machine 13 rfl) rfl ?_
      refine r_bipush (v := -2) C (dx dX6_machine 14 rfl) rfl ?_
      refine r_cv (as := [vi (-2)]) (st := []) C X I_X6_refuse l_X6_76 (c_X6_refuse (-2)) (by decide) (Nat.le_of_ble_eq_true rfl) List.prefix_rfl List.prefix_rfl rfl rfl (Nat.le_of_ble_eq_true rfl) rfl (dx dX6_machine 15 rfl) ?_
      intro rh4 h4 hph4 kkh4
      obtain ⟨rfl, gh4⟩ := hph4
      have oh4 : Ow h4 v u w g B z κ := o.ref gh4
      have fh4 : Fr 0 63 h h4 := gh4.mono (by omega) (by omega)
      have kh4 : xK h4 = xK h := kkh4
      have eA : machA v m n = -2 := by simp [machA, machV, machB, c1, c3]
      have eV : machV v m n = v := by simp [machA, machV, machB, c1, c3]
      exact F.1 _ _ _ _ _ rfl rfl (dx dX6_machine 16 rfl) kh4 (show some (vi (-2)) = some (vi (machA v m n)) ∧ OwX h h4 (machV v m n) w g B z κ from by rw [eA, eV]; exact ⟨rfl, ⟨_, oh4⟩, fh4⟩)
    ·
      have c3 : (inR m (2 ^ vP v)) = true := c3
      refine r_iload_n C (dx dX6_machine 7 rfl) rfl ?_
      refine r_iconst (v := nI 1) C (dx dX6_machine 8 rfl) rfl ?_
      refine r_icmp_lt (tgt := 26) C (dx dX6_machine 9 rfl) (by decide) (fun c5 => ?_) (fun c5 => ?_)
      ·
        have c5 : n < nI 1 := c5
        refine r_aload_n C (dx dX6_machine 13 rfl) rfl ?_
        refine r_bipush (v := -2) C (dx dX6_machine 14 rfl) rfl ?_
        refine r_cv (as := [vi (-2)]) (st := []) C X I_X6_refuse l_X6_76 (c_X6_refuse (-2)) (by decide) (Nat.le_of_ble_eq_true rfl) List.prefix_rfl List.prefix_rfl rfl rfl (Nat.le_of_ble_eq_true rfl) rfl (dx dX6_machine 15 rfl) ?_
        intro rh6 h6 hph6 kkh6
        obtain ⟨rfl, gh6⟩ := hph6
        have oh6 : Ow h6 v u w g B z κ := o.ref gh6
        have fh6 : Fr 0 63 h h6 := gh6.mono (by omega) (by omega)
        have kh6 : xK h6 = xK h := kkh6
        have eA : machA v m n = -2 := by simp [machA, machV, machB, c1, c3, c5]
        have eV : machV v m n = v := by simp [machA, machV, machB, c1, c3, c5]
        exact F.1 _ _ _ _ _ rfl rfl (dx dX6_machine 16 rfl) kh6 (show some (vi (-2)) = some (vi (machA v m n)) ∧ OwX h h6 (machV v m n) w g B z κ from by rw [eA, eV]; exact ⟨rfl, ⟨_, oh6⟩, fh6⟩)
      ·
        have c5 : ¬ n < nI 1 := c5
        refine r_iload_n C (dx dX6_machine 10 rfl) rfl ?_
        refine r_bipush (v := nI 99) C (dx dX6_machine 11 rfl) rfl ?_
        refine r_icmp_le (tgt := 33) C (dx dX6_machine 12 rfl) (by decide) (fun c7 => ?_) (fun c7 => ?_)
        ·
          have c7 : n ≤ nI 99 := c7
          refine r_aload_n C (dx dX6_machine 17 rfl) rfl ?_
          refine g_X6_10 C (dx dX6_machine 18 rfl) ?_
          refine g_X6_147 (x := nI (vM v)) C (dx dX6_machine 19 rfl) o.pv.eM ?_
          refine r_bipush (v := nI 6) C (dx dX6_machine 20 rfl) rfl ?_
          refine rn_lt (a := vM v) (b := 6) (tgt := 52) C (by omega) (by omega) (dx dX6_machine 21 rfl) (by decide) (fun c8 => ?_) (fun c8 => ?_)
          · first
            | (omega; done)
            | (
                have c8 : vM v < 6 := c8
                refine r_aload_n C (dx dX6_machine 26 rfl) rfl ?_
                refine g_X6_10 C (dx dX6_machine 27 rfl) ?_
                refine r_iload_n C (dx dX6_machine 28 rfl) rfl ?_
                refine r_iload_n C (dx dX6_machine 29 rfl) rfl ?_
                refine r_cv (as := [vi m, vi n]) (st := []) C X I_X5_addMachine l_X6_150 (c_X5_addMachine o.pv m n (by omega)) (by decide) (Nat.le_of_ble_eq_true rfl) List.prefix_rfl List.prefix_rfl rfl rfl (Nat.le_of_ble_eq_true rfl) rfl (dx dX6_machine 30 rfl) ?_
                intro rh9 h9 hph9 kkh9
                obtain ⟨rfl, wh9, gh9⟩ := hph9
                have oh9 : Ow h9 (addMacV v m n) u w g B z κ := o.now wh9 gh9
                have fh9 : Fr 0 63 h h9 := gh9.mono (by omega) (by omega)
                have kh9 : xK h9 = xK h := kkh9
                have eA : machA v m n = nI (vM v) := by simp [machA, machV, machB, c1, c3, c5, c7, (Int32.not_lt.mpr c7), c8]
                have eV : machV v m n = (addMacV v m n) := by simp [machA, machV, machB, c1, c3, c5, c7, (Int32.not_lt.mpr c7), c8]
                exact F.1 _ _ _ _ _ rfl rfl (dx dX6_machine 31 rfl) kh9 (show some (vi (nI (vM v))) = some (vi (machA v m n)) ∧ OwX h h9 (machV v m n) w g B z κ from by rw [eA, eV]; exact ⟨rfl, ⟨_, oh9⟩, fh9⟩))
          · first
            | (omega; done)
            | (
                have c8 : 6 ≤ vM v := c8
                refine r_aload_n C (dx dX6_machine 22 rfl) rfl ?_
                refine r_bipush (v := -6) C (dx dX6_machine 23 rfl) rfl ?_
                refine r_cv (as := [vi (-6)]) (st := []) C X I_X6_refuse l_X6_76 (c_X6_refuse (-6)) (by decide) (Nat.le_of_ble_eq_true rfl) List.prefix_rfl List.prefix_rfl rfl rfl (Nat.le_of_ble_eq_true rfl) rfl (dx dX6_machine 24 rfl) ?_
                intro rh10 h10 hph10 kkh10
                obtain ⟨rfl, gh10⟩ := hph10
                have oh10 : Ow h10 v u w g B z κ := o.ref gh10
                have fh10 : Fr 0 63 h h10 := gh10.mono (by omega) (by omega)
                have kh10 : xK h10 = xK h := kkh10
                have eA : machA v m n = -6 := by simp [machA, machV, machB, c1, c3, c5, c7, (Int32.not_lt.mpr c7), c8, Nat.not_lt.mpr c8]
                have eV : machV v m n = v := by simp [machA, machV, machB, c1, c3, c5, c7, (Int32.not_lt.mpr c7), c8, Nat.not_lt.mpr c8]
                exact F.1 _ _ _ _ _ rfl rfl (dx dX6_machine 25 rfl) kh10 (show some (vi (-6)) = some (vi (machA v m n)) ∧ OwX h h10 (machV v m n) w g B z κ from by rw [eA, eV]; exact ⟨rfl, ⟨_, oh10⟩, fh10⟩))
        ·
          have c7 : ¬ n ≤ nI 99 := c7
          refine r_aload_n C (dx dX6_machine 13 rfl) rfl ?_
          refine r_bipush (v := -2) C (dx dX6_machine 14 rfl) rfl ?_
          refine r_cv (as := [vi (-2)]) (st := []) C X I_X6_refuse l_X6_76 (c_X6_refuse (-2)) (by decide) (Nat.le_of_ble_eq_true rfl) List.prefix_rfl List.prefix_rfl rfl rfl (Nat.le_of_ble_eq_true rfl) rfl (dx dX6_machine 15 rfl) ?_
          intro rh11 h11 hph11 kkh11
          obtain ⟨rfl, gh11⟩ := hph11
          have oh11 : Ow h11 v u w g B z κ := o.ref gh11
          have fh11 : Fr 0 63 h h11 := gh11.mono (by omega) (by omega)
          have kh11 : xK h11 = xK h := kkh11
          have eA : machA v m n = -2 := by simp [machA, machV, machB, c1, c3, c5, c7, (inR_gt (n := 99) (by omega) (Int32.not_le.mp c7) : inR n 100 = false), (Int32.not_le.mp c7)]
          have eV : machV v m n = v := by simp [machA, machV, machB, c1, c3, c5, c7, (inR_gt (n := 99) (by omega) (Int32.not_le.mp c7) : inR n 100 = false), (Int32.not_le.mp c7)]
          exact F.1 _ _ _ _ _ rfl rfl (dx dX6_machine 16 rfl) kh11 (show some (vi (-2)) = some (vi (machA v m n)) ∧ OwX h h11 (machV v m n) w g B z κ from by rw [eA, eV]; exact ⟨rfl, ⟨_, oh11⟩, fh11⟩)
set_option maxHeartbeats 4000000 in
theorem x_one {l : Launch} {h : Hp} {v u w : Vg} {g : Sg} {B : Nat → Int32} {z : Nat} {κ : Int32} (o : Ow h v u w g B z κ) (hg : GOk g) (m n : Int32) : Ms l yX6_one cX6_one 3 (some .int) 20 [vr 6 0, vi m, vi n] h (xK h) (fun r h' => r = some (vi (oneAn v m n)) ∧ OwX h h' (oneV v m n) w g B z κ) := by
  refine Ms.of (by decide) (Nat.le_of_ble_eq_true rfl) (fun G C X F => ?_)
  have C : Cx G cX6_one 3 RX6 := C
  show Rr G 0 [(0, vr 6 0), (1, vi m), (2, vi n)] [] h
  have bP := o.pv.bP
  have bM := o.pv.bM
  have bN := o.pv.bN
  have bz := o.pt.2.2
  refine r_iload_n C (dx dX6_one 0 rfl) rfl ?_
  refine r_if_lt (tgt := 20) C (dx dX6_one 1 rfl) (by decide) (fun c1 => ?_) (fun c1 => ?_)
  ·
    have c1 : m < 0 := c1
    refine r_aload_n C (dx dX6_one 10 rfl) rfl ?_
    refine r_bipush (v := -2) C (dx dX6_one 11 rfl) rfl ?_
    refine r_cv (as := [vi (-2)]) (st := []) C X I_X6_refuse l_X6_76 (c_X6_refuse (-2)) (by decide) (Nat.le_of_ble_eq_true rfl) List.prefix_rfl List.prefix_rfl rfl rfl (Nat.le_of_ble_eq_true rfl) rfl (dx dX6_one 12 rfl) ?_
    intro rh2 h2 hph2 kkh2
    obtain ⟨rfl, gh2⟩ := hph2
    have oh2 : Ow h2 v u w g B z κ := o.ref gh2
    have fh2 : Fr 0 63 h h2 := gh2.mono (by omega) (by omega)
    have kh2 : xK h2 = xK h := kkh2
    have eA : oneAn v m n = -2 := by simp [oneAn, oneV, oneB, (fun n9 => inR_neg (n := n9) c1 : ∀ n9, inR m n9 = false), c1]
    have eV : oneV v m n = v := by simp [oneAn, oneV, oneB, (fun n9 => inR_neg (n := n9) c1 : ∀ n9, inR m n9 = false), c1]
    exact F.1 _ _ _ _ _ rfl rfl (dx dX6_one 13 rfl) kh2 (show some (vi (-2)) = some (vi (oneAn v m n)) ∧ OwX h h2 (oneV v m n) w g B z κ from by rw [eA, eV]; exact ⟨rfl, ⟨_, oh2⟩, fh2⟩)
  ·
    have c1 : ¬ m < 0 := c1
    refine r_iload_n C (dx dX6_one 2 rfl) rfl ?_
    refine r_bipush (v := nI 9) C (dx dX6_one 3 rfl) rfl ?_
    refine r_icmp_gt (tgt := 20) C (dx dX6_one 4 rfl) (by decide) (fun c3 => ?_) (fun c3 => ?_)
    ·
      have c3 : nI 9 < m := c3
      refine r_aload_n C (dx dX6_one 10 rfl) rfl ?_
      refine r_bipush (v := -2) C (dx dX6_one 11 rfl) rfl ?_
      refine r_cv (as := [vi (-2)]) (st := []) C X I_X6_refuse l_X6_76 (c_X6_refuse (-2)) (by decide) (Nat.le_of_ble_eq_true rfl) List.prefix_rfl List.prefix_rfl rfl rfl (Nat.le_of_ble_eq_true rfl) rfl (dx dX6_one 12 rfl) ?_
      intro rh4 h4 hph4 kkh4
      obtain ⟨rfl, gh4⟩ := hph4
      have oh4 : Ow h4 v u w g B z κ := o.ref gh4
      have fh4 : Fr 0 63 h h4 := gh4.mono (by omega) (by omega)
      have kh4 : xK h4 = xK h := kkh4
      have eA : oneAn v m n = -2 := by simp [oneAn, oneV, oneB, c1, (inR_gt (n := 9) (by omega) c3 : inR m 10 = false), c3]
      have eV : oneV v m n = v := by simp [oneAn, oneV, oneB, c1, (inR_gt (n := 9) (by omega) c3 : inR m 10 = false), c3]
      exact F.1 _ _ _ _ _ rfl rfl (dx dX6_one 13 rfl) kh4 (show some (vi (-2)) = some (vi (oneAn v m n)) ∧ OwX h h4 (oneV v m n) w g B z κ from by rw [eA, eV]; exact ⟨rfl, ⟨_, oh4⟩, fh4⟩)
    ·
      have c3 : ¬ nI 9 < m := c3
      refine r_iload_n C (dx dX6_one 5 rfl) rfl ?_
      refine r_if_lt (tgt := 20) C (dx dX6_one 6 rfl) (by decide) (fun c5 => ?_) (fun c5 => ?_)
      ·
        have c5 : n < 0 := c5
        refine r_aload_n C (dx dX6_one 10 rfl) rfl ?_
        refine r_bipush (v := -2) C (dx dX6_one 11 rfl) rfl ?_
        refine r_cv (as := [vi (-2)]) (st := []) C X I_X6_refuse l_X6_76 (c_X6_refuse (-2)) (by decide) (Nat.le_of_ble_eq_true rfl) List.prefix_rfl List.prefix_rfl rfl rfl (Nat.le_of_ble_eq_true rfl) rfl (dx dX6_one 12 rfl) ?_
        intro rh6 h6 hph6 kkh6
        obtain ⟨rfl, gh6⟩ := hph6
        have oh6 : Ow h6 v u w g B z κ := o.ref gh6
        have fh6 : Fr 0 63 h h6 := gh6.mono (by omega) (by omega)
        have kh6 : xK h6 = xK h := kkh6
        have eA : oneAn v m n = -2 := by simp [oneAn, oneV, oneB, c1, c3, (fun n9 => inR_neg (n := n9) c5 : ∀ n9, inR n n9 = false), c5]
        have eV : oneV v m n = v := by simp [oneAn, oneV, oneB, c1, c3, (fun n9 => inR_neg (n := n9) c5 : ∀ n9, inR n n9 = false), c5]
        exact F.1 _ _ _ _ _ rfl rfl (dx dX6_one 13 rfl) kh6 (show some (vi (-2)) = some (vi (oneAn v m n)) ∧ OwX h h6 (oneV v m n) w g B z κ from by rw [eA, eV]; exact ⟨rfl, ⟨_, oh6⟩, fh6⟩)
      ·
        have c5 : ¬ n < 0 := c5
        refine r_iload_n C (dx dX6_one 7 rfl) rfl ?_
        refine r_bipush (v := nI 10) C (dx dX6_one 8 rfl) rfl ?_
        refine r_icmp_le (tgt := 27) C (dx dX6_one 9 rfl) (by decide) (fun c7 => ?_) (fun c7 => ?_)
        ·
          have c7 : n ≤ nI 10 := c7
          refine r_aload_n C (dx dX6_one 14 rfl) rfl ?_
          refine g_X6_10 C (dx dX6_one 15 rfl) ?_
          refine g_X6_154 (x := nI (vN v)) C (dx dX6_one 16 rfl) o.pv.eN ?_
          refine r_bipush (v := nI 8) C (dx dX6_one 17 rfl) rfl ?_
          refine rn_lt (a := vN v) (b := 8) (tgt := 46) C (by omega) (by omega) (dx dX6_one 18 rfl) (by decide) (fun c8 => ?_) (fun c8 => ?_)
          · first
            | (omega; done)
            | (
                have c8 : vN v < 8 := c8
                refine r_aload_n C (dx dX6_one 23 rfl) rfl ?_
                refine g_X6_10 C (dx dX6_one 24 rfl) ?_
                refine r_iload_n C (dx dX6_one 25 rfl) rfl ?_
                refine r_iload_n C (dx dX6_one 26 rfl) rfl ?_
                refine r_cv (as := [vi m, vi n]) (st := []) C X I_X5_addOne l_X6_157 (c_X5_addOne o.pv m n (by omega)) (by decide) (Nat.le_of_ble_eq_true rfl) List.prefix_rfl List.prefix_rfl rfl rfl (Nat.le_of_ble_eq_true rfl) rfl (dx dX6_one 27 rfl) ?_
                intro rh9 h9 hph9 kkh9
                obtain ⟨rfl, wh9, gh9⟩ := hph9
                have oh9 : Ow h9 (addOneV v m n) u w g B z κ := o.now wh9 gh9
                have fh9 : Fr 0 63 h h9 := gh9.mono (by omega) (by omega)
                have kh9 : xK h9 = xK h := kkh9
                have eA : oneAn v m n = nI (vN v) := by simp [oneAn, oneV, oneB, c1, c3, c5, c7, (Int32.not_lt.mpr c7), c8]
                have eV : oneV v m n = (addOneV v m n) := by simp [oneAn, oneV, oneB, c1, c3, c5, c7, (Int32.not_lt.mpr c7), c8]
                exact F.1 _ _ _ _ _ rfl rfl (dx dX6_one 28 rfl) kh9 (show some (vi (nI (vN v))) = some (vi (oneAn v m n)) ∧ OwX h h9 (oneV v m n) w g B z κ from by rw [eA, eV]; exact ⟨rfl, ⟨_, oh9⟩, fh9⟩))
          · first
            | (omega; done)
            | (
                have c8 : 8 ≤ vN v := c8
                refine r_aload_n C (dx dX6_one 19 rfl) rfl ?_
                refine r_bipush (v := -6) C (dx dX6_one 20 rfl) rfl ?_
                refine r_cv (as := [vi (-6)]) (st := []) C X I_X6_refuse l_X6_76 (c_X6_refuse (-6)) (by decide) (Nat.le_of_ble_eq_true rfl) List.prefix_rfl List.prefix_rfl rfl rfl (Nat.le_of_ble_eq_true rfl) rfl (dx dX6_one 21 rfl) ?_
                intro rh10 h10 hph10 kkh10
                obtain ⟨rfl, gh10⟩ := hph10
                have oh10 : Ow h10 v u w g B z κ := o.ref gh10
                have fh10 : Fr 0 63 h h10 := gh10.mono (by omega) (by omega)
                have kh10 : xK h10 = xK h := kkh10
                have eA : oneAn v m n = -6 := by simp [oneAn, oneV, oneB, c1, c3, c5, c7, (Int32.not_lt.mpr c7), c8, Nat.not_lt.mpr c8]
                have eV : oneV v m n = v := by simp [oneAn, oneV, oneB, c1, c3, c5, c7, (Int32.not_lt.mpr c7), c8, Nat.not_lt.mpr c8]
                exact F.1 _ _ _ _ _ rfl rfl (dx dX6_one 22 rfl) kh10 (show some (vi (-6)) = some (vi (oneAn v m n)) ∧ OwX h h10 (oneV v m n) w g B z κ from by rw [eA, eV]; exact ⟨rfl, ⟨_, oh10⟩, fh10⟩))
        ·
          have c7 : ¬ n ≤ nI 10 := c7
          refine r_aload_n C (dx dX6_one 10 rfl) rfl ?_
          refine r_bipush (v := -2) C (dx dX6_one 11 rfl) rfl ?_
          refine r_cv (as := [vi (-2)]) (st := []) C X I_X6_refuse l_X6_76 (c_X6_refuse (-2)) (by decide) (Nat.le_of_ble_eq_true rfl) List.prefix_rfl List.prefix_rfl rfl rfl (Nat.le_of_ble_eq_true rfl) rfl (dx dX6_one 12 rfl) ?_
          intro rh11 h11 hph11 kkh11
          obtain ⟨rfl, gh11⟩ := hph11
          have oh11 : Ow h11 v u w g B z κ := o.ref gh11
          have fh11 : Fr 0 63 h h11 := gh11.mono (by omega) (by omega)
          have kh11 : xK h11 = xK h := kkh11
          have eA : oneAn v m n = -2 := by simp [oneAn, oneV, oneB, c1, c3, c5, c7, (inR_gt (n := 10) (by omega) (Int32.not_le.mp c7) : inR n 11 = false), (Int32.not_le.mp c7)]
          have eV : oneV v m n = v := by simp [oneAn, oneV, oneB, c1, c3, c5, c7, (inR_gt (n := 10) (by omega) (Int32.not_le.mp c7) : inR n 11 = false), (Int32.not_le.mp c7)]
          exact F.1 _ _ _ _ _ rfl rfl (dx dX6_one 13 rfl) kh11 (show some (vi (-2)) = some (vi (oneAn v m n)) ∧ OwX h h11 (oneV v m n) w g B z κ from by rw [eA, eV]; exact ⟨rfl, ⟨_, oh11⟩, fh11⟩)
set_option maxHeartbeats 4000000 in
theorem x_away {l : Launch} {h : Hp} {v u w : Vg} {g : Sg} {B : Nat → Int32} {z : Nat} {κ : Int32} (o : Ow h v u w g B z κ) (hg : GOk g) (o1 x : Int32) : Ms l yX6_away cX6_away 4 (some .int) 20 [vr 6 0, vi o1, vi x] h (xK h) (fun r h' => r = some (vi (awayA v o1 x)) ∧ OwX h h' (awayV v o1 x) w g B z κ) := by
  refine Ms.of (by decide) (Nat.le_of_ble_eq_true rfl) (fun G C X F => ?_)
  have C : Cx G cX6_away 4 RX6 := C
  show Rr G 0 [(0, vr 6 0), (1, vi o1), (2, vi x)] [] h
  have bP := o.pv.bP
  have bM := o.pv.bM
  have bN := o.pv.bN
  have bz := o.pt.2.2
  refine r_aload_n C (dx dX6_away 0 rfl) rfl ?_
  refine g_X6_10 C (dx dX6_away 1 rfl) ?_
  refine r_iload_n C (dx dX6_away 2 rfl) rfl ?_
  refine r_cvP (as := [vi o1]) (st := []) (v := vi (b2i (inR o1 (vN v)))) C X I_X5_isOne l_X6_160 (c_X5_isOne o.pv _) (by decide) (Nat.le_of_ble_eq_true rfl) List.prefix_rfl rfl rfl (Nat.le_of_ble_eq_true rfl) rfl (dx dX6_away 3 rfl) ?_
  refine rb_eq (b := inR o1 (vN v)) (tgt := 21) C (dx dX6_away 4 rfl) (by decide) (fun c1 => ?_) (fun c1 => ?_)
  ·
    have c1 : (inR o1 (vN v)) = false := c1
    refine r_aload_n C (dx dX6_away 10 rfl) rfl ?_
    refine r_bipush (v := -2) C (dx dX6_away 11 rfl) rfl ?_
    refine r_cv (as := [vi (-2)]) (st := []) C X I_X6_refuse l_X6_76 (c_X6_refuse (-2)) (by decide) (Nat.le_of_ble_eq_true rfl) List.prefix_rfl List.prefix_rfl rfl rfl (Nat.le_of_ble_eq_true rfl) rfl (dx dX6_away 12 rfl) ?_
    intro rh2 h2 hph2 kkh2
    obtain ⟨rfl, gh2⟩ := hph2
    have oh2 : Ow h2 v u w g B z κ := o.ref gh2
    have fh2 : Fr 0 63 h h2 := gh2.mono (by omega) (by omega)
    have kh2 : xK h2 = xK h := kkh2
    have eA : awayA v o1 x = -2 := by simp [awayA, awayV, awayB, c1]
    have eV : awayV v o1 x = v := by simp [awayA, awayV, awayB, c1]
    exact F.1 _ _ _ _ _ rfl rfl (dx dX6_away 13 rfl) kh2 (show some (vi (-2)) = some (vi (awayA v o1 x)) ∧ OwX h h2 (awayV v o1 x) w g B z κ from by rw [eA, eV]; exact ⟨rfl, ⟨_, oh2⟩, fh2⟩)
  ·
    have c1 : (inR o1 (vN v)) = true := c1
    obtain ⟨o19, ho19, rfl⟩ := inR_ex (n := (vN v)) (by omega) c1
    refine r_iload_n C (dx dX6_away 5 rfl) rfl ?_
    refine r_if_lt (tgt := 21) C (dx dX6_away 6 rfl) (by decide) (fun c3 => ?_) (fun c3 => ?_)
    ·
      have c3 : x < 0 := c3
      refine r_aload_n C (dx dX6_away 10 rfl) rfl ?_
      refine r_bipush (v := -2) C (dx dX6_away 11 rfl) rfl ?_
      refine r_cv (as := [vi (-2)]) (st := []) C X I_X6_refuse l_X6_76 (c_X6_refuse (-2)) (by decide) (Nat.le_of_ble_eq_true rfl) List.prefix_rfl List.prefix_rfl rfl rfl (Nat.le_of_ble_eq_true rfl) rfl (dx dX6_away 12 rfl) ?_
      intro rh4 h4 hph4 kkh4
      obtain ⟨rfl, gh4⟩ := hph4
      have oh4 : Ow h4 v u w g B z κ := o.ref gh4
      have fh4 : Fr 0 63 h h4 := gh4.mono (by omega) (by omega)
      have kh4 : xK h4 = xK h := kkh4
      have eA : awayA v (nI o19) x = -2 := by simp [awayA, awayV, awayB, clN (show o19 < 2 ^ 31 by omega), c1, (fun n9 => inR_neg (n := n9) c3 : ∀ n9, inR x n9 = false), c3]
      have eV : awayV v (nI o19) x = v := by simp [awayA, awayV, awayB, clN (show o19 < 2 ^ 31 by omega), c1, (fun n9 => inR_neg (n := n9) c3 : ∀ n9, inR x n9 = false), c3]
      exact F.1 _ _ _ _ _ rfl rfl (dx dX6_away 13 rfl) kh4 (show some (vi (-2)) = some (vi (awayA v (nI o19) x)) ∧ OwX h h4 (awayV v (nI o19) x) w g B z κ from by rw [eA, eV]; exact ⟨rfl, ⟨_, oh4⟩, fh4⟩)
    ·
      have c3 : ¬ x < 0 := c3
      refine r_iload_n C (dx dX6_away 7 rfl) rfl ?_
      refine r_bipush (v := nI 10) C (dx dX6_away 8 rfl) rfl ?_
      refine r_icmp_le (tgt := 28) C (dx dX6_away 9 rfl) (by decide) (fun c5 => ?_) (fun c5 => ?_)
      ·
        have c5 : x ≤ nI 10 := c5
        refine r_aload_n C (dx dX6_away 14 rfl) rfl ?_
        refine g_X6_10 C (dx dX6_away 15 rfl) ?_
        refine g_X6_163 C (dx dX6_away 16 rfl) ?_
        refine r_iload_n C (dx dX6_away 17 rfl) rfl ?_
        refine r_iald (j := o19) (x := vF v 5 o19) C rfl rfl (by decide) rfl (by omega) (dx dX6_away 18 rfl) (o.pv.e5 (by omega)) ?_
        refine r_istore_n (ls' := [(0, vr 6 0), (1, vi (nI o19)), (2, vi x), (3, vi (vF v 5 o19))]) C (dx dX6_away 19 rfl) (by decide) [1, 2, 3, 0] rfl ?_
        refine r_aload_n C (dx dX6_away 20 rfl) rfl ?_
        refine g_X6_10 C (dx dX6_away 21 rfl) ?_
        refine g_X6_163 C (dx dX6_away 22 rfl) ?_
        refine r_iload_n C (dx dX6_away 23 rfl) rfl ?_
        refine r_iload_n C (dx dX6_away 24 rfl) rfl ?_
        refine r_iast (j := o19) C rfl rfl (by decide) rfl (by omega) (dx dX6_away 25 rfl) ?_
        have oh6 : Ow (sI h 7 o19 x) (vset v 5 o19 x) u w g B z κ := o.now (o.pv.s5) (Fr.sI (by omega) (by omega))
        have fh6 : Fr 0 63 h (sI h 7 o19 x) := Fr.sI (by omega) (by omega)
        have kh6 : xK (sI h 7 o19 x) = xK h := rfl
        generalize sI h 7 o19 x = h6 at oh6 fh6 kh6 ⊢
        refine r_iload_n C (dx dX6_away 26 rfl) rfl ?_
        have eA : awayA v (nI o19) x = vF v 5 o19 := by simp [awayA, awayV, awayB, clN (show o19 < 2 ^ 31 by omega), c1, c3, c5, (Int32.not_lt.mpr c5)]
        have eV : awayV v (nI o19) x = (vset v 5 o19 x) := by simp [awayA, awayV, awayB, clN (show o19 < 2 ^ 31 by omega), c1, c3, c5, (Int32.not_lt.mpr c5)]
        exact F.1 _ _ _ _ _ rfl rfl (dx dX6_away 27 rfl) kh6 (show some (vi (vF v 5 o19)) = some (vi (awayA v (nI o19) x)) ∧ OwX h h6 (awayV v (nI o19) x) w g B z κ from by rw [eA, eV]; exact ⟨rfl, ⟨_, oh6⟩, fh6⟩)
      ·
        have c5 : ¬ x ≤ nI 10 := c5
        refine r_aload_n C (dx dX6_away 10 rfl) rfl ?_
        refine r_bipush (v := -2) C (dx dX6_away 11 rfl) rfl ?_
        refine r_cv (as := [vi (-2)]) (st := []) C X I_X6_refuse l_X6_76 (c_X6_refuse (-2)) (by decide) (Nat.le_of_ble_eq_true rfl) List.prefix_rfl List.prefix_rfl rfl rfl (Nat.le_of_ble_eq_true rfl) rfl (dx dX6_away 12 rfl) ?_
        intro rh7 h7 hph7 kkh7
        obtain ⟨rfl, gh7⟩ := hph7
        have oh7 : Ow h7 v u w g B z κ := o.ref gh7
        have fh7 : Fr 0 63 h h7 := gh7.mono (by omega) (by omega)
        have kh7 : xK h7 = xK h := kkh7
        have eA : awayA v (nI o19) x = -2 := by simp [awayA, awayV, awayB, clN (show o19 < 2 ^ 31 by omega), c1, c3, c5, (inR_gt (n := 10) (by omega) (Int32.not_le.mp c5) : inR x 11 = false), (Int32.not_le.mp c5)]
        have eV : awayV v (nI o19) x = v := by simp [awayA, awayV, awayB, clN (show o19 < 2 ^ 31 by omega), c1, c3, c5, (inR_gt (n := 10) (by omega) (Int32.not_le.mp c5) : inR x 11 = false), (Int32.not_le.mp c5)]
        exact F.1 _ _ _ _ _ rfl rfl (dx dX6_away 13 rfl) kh7 (show some (vi (-2)) = some (vi (awayA v (nI o19) x)) ∧ OwX h h7 (awayV v (nI o19) x) w g B z κ from by rw [eA, eV]; exact ⟨rfl, ⟨_, oh7⟩, fh7⟩)
set_option maxHeartbeats 4000000 in
theorem x_cross {l : Launch} {h : Hp} {v u w : Vg} {g : Sg} {B : Nat → Int32} {z : Nat} {κ : Int32} (o : Ow h v u w g B z κ) (hg : GOk g) (o1 : Int32) (b : Bool) : Ms l yX6_cross cX6_cross 3 (some .int) 20 [vr 6 0, vi o1, vi (b2i b)] h (xK h) (fun r h' => r = some (vi (crossA v o1 b)) ∧ OwX h h' (crossV v o1 b) w g B z κ) := by
  refine Ms.of (by decide) (Nat.le_of_ble_eq_true rfl) (fun G C X F => ?_)
  have C : Cx G cX6_cross 3 RX6 := C
  show Rr G 0 [(0, vr 6 0), (1, vi o1), (2, vi (b2i b))] [] h
  have bP := o.pv.bP
  have bM := o.pv.bM
  have bN := o.pv.bN
  have bz := o.pt.2.2
  refine r_aload_n C (dx dX6_cross 0 rfl) rfl ?_
  refine g_X6_10 C (dx dX6_cross 1 rfl) ?_
  refine r_iload_n C (dx dX6_cross 2 rfl) rfl ?_
  refine r_cvP (as := [vi o1]) (st := []) (v := vi (b2i (inR o1 (vN v)))) C X I_X5_isOne l_X6_160 (c_X5_isOne o.pv _) (by decide) (Nat.le_of_ble_eq_true rfl) List.prefix_rfl rfl rfl (Nat.le_of_ble_eq_true rfl) rfl (dx dX6_cross 3 rfl) ?_
  refine rb_ne (b := inR o1 (vN v)) (tgt := 18) C (dx dX6_cross 4 rfl) (by decide) (fun c1 => ?_) (fun c1 => ?_)
  ·
    have c1 : (inR o1 (vN v)) = true := c1
    obtain ⟨o19, ho19, rfl⟩ := inR_ex (n := (vN v)) (by omega) c1
    refine r_aload_n C (dx dX6_cross 9 rfl) rfl ?_
    refine g_X6_10 C (dx dX6_cross 10 rfl) ?_
    refine g_X6_166 C (dx dX6_cross 11 rfl) ?_
    refine r_iload_n C (dx dX6_cross 12 rfl) rfl ?_
    refine r_zald (j := o19) (x := vF v 6 o19) C rfl rfl (by decide) rfl (by omega) (dx dX6_cross 13 rfl) (o.pv.e6 (by omega)) ?_
    refine r_iload_n C (dx dX6_cross 14 rfl) rfl ?_
    refine r_icmp_ne (tgt := 33) C (dx dX6_cross 15 rfl) (by decide) (fun c2 => ?_) (fun c2 => ?_)
    ·
      have c2 : ¬ vF v 6 o19 = b2i b := c2
      refine r_aload_n C (dx dX6_cross 18 rfl) rfl ?_
      refine g_X6_10 C (dx dX6_cross 19 rfl) ?_
      refine g_X6_166 C (dx dX6_cross 20 rfl) ?_
      refine r_iload_n C (dx dX6_cross 21 rfl) rfl ?_
      refine r_iload_n C (dx dX6_cross 22 rfl) rfl ?_
      refine r_zast (j := o19) C rfl rfl (by decide) rfl (by omega) (dx dX6_cross 23 rfl) ?_
      have oh3 : Ow (sI h 8 o19 (vp_nar .boolean (b2i b))) (vset v 6 o19 (vp_nar .boolean (b2i b))) u w g B z κ := o.now (o.pv.s6 (fit_nb b)) (Fr.sI (by omega) (by omega))
      have fh3 : Fr 0 63 h (sI h 8 o19 (vp_nar .boolean (b2i b))) := Fr.sI (by omega) (by omega)
      have kh3 : xK (sI h 8 o19 (vp_nar .boolean (b2i b))) = xK h := rfl
      generalize sI h 8 o19 (vp_nar .boolean (b2i b)) = h3 at oh3 fh3 kh3 ⊢
      refine r_iconst (v := nI 1) C (dx dX6_cross 24 rfl) rfl ?_
      have eA : crossA v (nI o19) b = nI 1 := by simp [crossA, crossV, vpn_b, clN (show o19 < 2 ^ 31 by omega), c1, c2]
      have eV : crossV v (nI o19) b = (vset v 6 o19 (vp_nar .boolean (b2i b))) := by simp [crossA, crossV, vpn_b, clN (show o19 < 2 ^ 31 by omega), c1, c2]
      exact F.1 _ _ _ _ _ rfl rfl (dx dX6_cross 25 rfl) kh3 (show some (vi (nI 1)) = some (vi (crossA v (nI o19) b)) ∧ OwX h h3 (crossV v (nI o19) b) w g B z κ from by rw [eA, eV]; exact ⟨rfl, ⟨_, oh3⟩, fh3⟩)
    ·
      have c2 : vF v 6 o19 = b2i b := c2
      refine r_iconst (v := nI 0) C (dx dX6_cross 16 rfl) rfl ?_
      have eA : crossA v (nI o19) b = nI 0 := by simp [crossA, crossV, vpn_b, clN (show o19 < 2 ^ 31 by omega), c1, c2]
      have eV : crossV v (nI o19) b = v := by simp [crossA, crossV, vpn_b, clN (show o19 < 2 ^ 31 by omega), c1, c2]
      exact F.1 _ _ _ _ _ rfl rfl (dx dX6_cross 17 rfl) rfl (show some (vi (nI 0)) = some (vi (crossA v (nI o19) b)) ∧ OwX h h (crossV v (nI o19) b) w g B z κ from by rw [eA, eV]; exact ⟨rfl, ⟨_, o⟩, Fr.rf⟩)
  ·
    have c1 : (inR o1 (vN v)) = false := c1
    refine r_aload_n C (dx dX6_cross 5 rfl) rfl ?_
    refine r_bipush (v := -2) C (dx dX6_cross 6 rfl) rfl ?_
    refine r_cv (as := [vi (-2)]) (st := []) C X I_X6_refuse l_X6_76 (c_X6_refuse (-2)) (by decide) (Nat.le_of_ble_eq_true rfl) List.prefix_rfl List.prefix_rfl rfl rfl (Nat.le_of_ble_eq_true rfl) rfl (dx dX6_cross 7 rfl) ?_
    intro rh4 h4 hph4 kkh4
    obtain ⟨rfl, gh4⟩ := hph4
    have oh4 : Ow h4 v u w g B z κ := o.ref gh4
    have fh4 : Fr 0 63 h h4 := gh4.mono (by omega) (by omega)
    have kh4 : xK h4 = xK h := kkh4
    have eA : crossA v o1 b = -2 := by simp [crossA, crossV, vpn_b, c1]
    have eV : crossV v o1 b = v := by simp [crossA, crossV, vpn_b, c1]
    exact F.1 _ _ _ _ _ rfl rfl (dx dX6_cross 8 rfl) kh4 (show some (vi (-2)) = some (vi (crossA v o1 b)) ∧ OwX h h4 (crossV v o1 b) w g B z κ from by rw [eA, eV]; exact ⟨rfl, ⟨_, oh4⟩, fh4⟩)
set_option maxHeartbeats 4000000 in
theorem x_give {l : Launch} {h : Hp} {v u w : Vg} {g : Sg} {B : Nat → Int32} {z : Nat} {κ : Int32} (o : Ow h v u w g B z κ) (hg : GOk g) (p o1 : Int32) (b : Bool) : Ms l yX6_give cX6_give 5 (some .int) 20 [vr 6 0, vi p, vi o1, vi (b2i b)] h (xK h) (fun r h' => r = some (vi (giveA v p o1 b)) ∧ OwX h h' (giveV v p o1 b) w g B z κ) := by
  refine Ms.of (by decide) (Nat.le_of_ble_eq_true rfl) (fun G C X F => ?_)
  have C : Cx G cX6_give 5 RX6 := C
  show Rr G 0 [(0, vr 6 0), (1, vi p), (2, vi o1), (3, vi (b2i b))] [] h
  have bP := o.pv.bP
  have bM := o.pv.bM
  have bN := o.pv.bN
  have bz := o.pt.2.2
  refine r_aload_n C (dx dX6_give 0 rfl) rfl ?_
  refine g_X6_10 C (dx dX6_give 1 rfl) ?_
  refine r_iload_n C (dx dX6_give 2 rfl) rfl ?_
  refine r_cvP (as := [vi p]) (st := []) (v := vi (b2i (inR p (vP v)))) C X I_X5_isPart l_X6_170 (c_X5_isPart o.pv _) (by decide) (Nat.le_of_ble_eq_true rfl) List.prefix_rfl rfl rfl (Nat.le_of_ble_eq_true rfl) rfl (dx dX6_give 3 rfl) ?_
  refine rb_eq (b := inR p (vP v)) (tgt := 27) C (dx dX6_give 4 rfl) (by decide) (fun c1 => ?_) (fun c1 => ?_)
  ·
    have c1 : (inR p (vP v)) = false := c1
    refine r_aload_n C (dx dX6_give 13 rfl) rfl ?_
    refine r_bipush (v := -2) C (dx dX6_give 14 rfl) rfl ?_
    refine r_cv (as := [vi (-2)]) (st := []) C X I_X6_refuse l_X6_76 (c_X6_refuse (-2)) (by decide) (Nat.le_of_ble_eq_true rfl) List.prefix_rfl List.prefix_rfl rfl rfl (Nat.le_of_ble_eq_true rfl) rfl (dx dX6_give 15 rfl) ?_
    intro rh2 h2 hph2 kkh2
    obtain ⟨rfl, gh2⟩ := hph2
    have oh2 : Ow h2 v u w g B z κ := o.ref gh2
    have fh2 : Fr 0 63 h h2 := gh2.mono (by omega) (by omega)
    have kh2 : xK h2 = xK h := kkh2
    have eA : giveA v p o1 b = -2 := by simp [giveA, giveV, giveF, c1]
    have eV : giveV v p o1 b = v := by simp [giveA, giveV, giveF, c1]
    exact F.1 _ _ _ _ _ rfl rfl (dx dX6_give 16 rfl) kh2 (show some (vi (-2)) = some (vi (giveA v p o1 b)) ∧ OwX h h2 (giveV v p o1 b) w g B z κ from by rw [eA, eV]; exact ⟨rfl, ⟨_, oh2⟩, fh2⟩)
  ·
    have c1 : (inR p (vP v)) = true := c1
    obtain ⟨π, hπ, rfl⟩ := inR_ex (n := (vP v)) (by omega) c1
    refine r_iload_n C (dx dX6_give 5 rfl) rfl ?_
    refine r_iconst (v := -1) C (dx dX6_give 6 rfl) rfl ?_
    refine r_icmp_eq (tgt := 34) C (dx dX6_give 7 rfl) (by decide) (fun c3 => ?_) (fun c3 => ?_)
    ·
      have c3 : o1 = -1 := c3
      refine r_iload_n C (dx dX6_give 17 rfl) rfl ?_
      refine rb_eq (b := b) (tgt := 50) C (dx dX6_give 18 rfl) (by decide) (fun c4 => ?_) (fun c4 => ?_)
      ·
        have c4 : b = false := c4
        refine r_aload_n C (dx dX6_give 25 rfl) rfl ?_
        refine g_X6_10 C (dx dX6_give 26 rfl) ?_
        refine g_X6_176 C (dx dX6_give 27 rfl) ?_
        refine r_iload_n C (dx dX6_give 28 rfl) rfl ?_
        refine r_iald (j := π) (x := vF v 0 π) C rfl rfl (by decide) rfl (by omega) (dx dX6_give 29 rfl) (o.pv.e0 (by omega)) ?_
        refine r_istore (ls' := [(0, vr 6 0), (1, vi (nI π)), (2, vi o1), (3, vi (b2i b)), (4, vi (vF v 0 π))]) C (dx dX6_give 30 rfl) (by decide) [1, 2, 3, 4, 0] rfl ?_
        refine r_iload_n C (dx dX6_give 31 rfl) rfl ?_
        refine r_iconst (v := -1) C (dx dX6_give 32 rfl) rfl ?_
        refine r_icmp_eq (tgt := 90) C (dx dX6_give 33 rfl) (by decide) (fun c5 => ?_) (fun c5 => ?_)
        ·
          have c5 : o1 = -1 := c5
          refine r_iload_n C (dx dX6_give 46 rfl) rfl ?_
          refine rb_eq (b := b) (tgt := 107) C (dx dX6_give 47 rfl) (by decide) (fun c6 => ?_) (fun c6 => ?_)
          ·
            have c6 : b = false := c6
            refine r_aload_n C (dx dX6_give 55 rfl) rfl ?_
            refine g_X6_10 C (dx dX6_give 56 rfl) ?_
            refine g_X6_176 C (dx dX6_give 57 rfl) ?_
            refine r_iload_n C (dx dX6_give 58 rfl) rfl ?_
            refine r_iload_n C (dx dX6_give 59 rfl) rfl ?_
            refine r_iast (j := π) C rfl rfl (by decide) rfl (by omega) (dx dX6_give 60 rfl) ?_
            have oh7 : Ow (sI h 2 π o1) (vset v 0 π o1) u w g B z κ := o.now (o.pv.s0) (Fr.sI (by omega) (by omega))
            have fh7 : Fr 0 63 h (sI h 2 π o1) := Fr.sI (by omega) (by omega)
            have kh7 : xK (sI h 2 π o1) = xK h := rfl
            generalize sI h 2 π o1 = h7 at oh7 fh7 kh7 ⊢
            refine r_iload C (dx dX6_give 61 rfl) rfl ?_
            have eA : giveA v (nI π) o1 b = vF v 0 π := by simp [giveA, giveV, giveF, clN (show π < 2 ^ 31 by omega), c1, c3, c4, c5, c6]
            have eV : giveV v (nI π) o1 b = (vset v 0 π o1) := by simp [giveA, giveV, giveF, clN (show π < 2 ^ 31 by omega), c1, c3, c4, c5, c6]
            exact F.1 _ _ _ _ _ rfl rfl (dx dX6_give 62 rfl) kh7 (show some (vi (vF v 0 π)) = some (vi (giveA v (nI π) o1 b)) ∧ OwX h h7 (giveV v (nI π) o1 b) w g B z κ from by rw [eA, eV]; exact ⟨rfl, ⟨_, oh7⟩, fh7⟩)
          ·
            have c6 : b = true := c6
            exact absurd (c4.symm.trans c6) (by decide)
        ·
          have c5 : ¬ o1 = -1 := c5
          exact absurd c3 c5
      ·
        have c4 : b = true := c4
        refine r_aload_n C (dx dX6_give 19 rfl) rfl ?_
        refine g_X6_10 C (dx dX6_give 20 rfl) ?_
        refine g_X6_173 C (dx dX6_give 21 rfl) ?_
        refine r_iload_n C (dx dX6_give 22 rfl) rfl ?_
        refine r_iald (j := π) (x := vF v 1 π) C rfl rfl (by decide) rfl (by omega) (dx dX6_give 23 rfl) (o.pv.e1 (by omega)) ?_
        refine r_goto (tgt := 59) C (dx dX6_give 24 rfl) (by decide) ?_
        refine r_istore (ls' := [(0, vr 6 0), (1, vi (nI π)), (2, vi o1), (3, vi (b2i b)), (4, vi (vF v 1 π))]) C (dx dX6_give 30 rfl) (by decide) [1, 2, 3, 4, 0] rfl ?_
        refine r_iload_n C (dx dX6_give 31 rfl) rfl ?_
        refine r_iconst (v := -1) C (dx dX6_give 32 rfl) rfl ?_
        refine r_icmp_eq (tgt := 90) C (dx dX6_give 33 rfl) (by decide) (fun c8 => ?_) (fun c8 => ?_)
        ·
          have c8 : o1 = -1 := c8
          refine r_iload_n C (dx dX6_give 46 rfl) rfl ?_
          refine rb_eq (b := b) (tgt := 107) C (dx dX6_give 47 rfl) (by decide) (fun c9 => ?_) (fun c9 => ?_)
          ·
            have c9 : b = false := c9
            exact absurd (c4.symm.trans c9) (by decide)
          ·
            have c9 : b = true := c9
            refine r_aload_n C (dx dX6_give 48 rfl) rfl ?_
            refine g_X6_10 C (dx dX6_give 49 rfl) ?_
            refine g_X6_173 C (dx dX6_give 50 rfl) ?_
            refine r_iload_n C (dx dX6_give 51 rfl) rfl ?_
            refine r_iload_n C (dx dX6_give 52 rfl) rfl ?_
            refine r_iast (j := π) C rfl rfl (by decide) rfl (by omega) (dx dX6_give 53 rfl) ?_
            have oh10 : Ow (sI h 3 π o1) (vset v 1 π o1) u w g B z κ := o.now (o.pv.s1) (Fr.sI (by omega) (by omega))
            have fh10 : Fr 0 63 h (sI h 3 π o1) := Fr.sI (by omega) (by omega)
            have kh10 : xK (sI h 3 π o1) = xK h := rfl
            generalize sI h 3 π o1 = h10 at oh10 fh10 kh10 ⊢
            refine r_goto (tgt := 117) C (dx dX6_give 54 rfl) (by decide) ?_
            refine r_iload C (dx dX6_give 61 rfl) rfl ?_
            have eA : giveA v (nI π) o1 b = vF v 1 π := by simp [giveA, giveV, giveF, clN (show π < 2 ^ 31 by omega), c1, c3, c4, c8, c9]
            have eV : giveV v (nI π) o1 b = (vset v 1 π o1) := by simp [giveA, giveV, giveF, clN (show π < 2 ^ 31 by omega), c1, c3, c4, c8, c9]
            exact F.1 _ _ _ _ _ rfl rfl (dx dX6_give 62 rfl) kh10 (show some (vi (vF v 1 π)) = some (vi (giveA v (nI π) o1 b)) ∧ OwX h h10 (giveV v (nI π) o1 b) w g B z κ from by rw [eA, eV]; exact ⟨rfl, ⟨_, oh10⟩, fh10⟩)
        ·
          have c8 : ¬ o1 = -1 := c8
          exact absurd c3 c8
    ·
      have c3 : ¬ o1 = -1 := c3
      refine r_aload_n C (dx dX6_give 8 rfl) rfl ?_
      refine g_X6_10 C (dx dX6_give 9 rfl) ?_
      refine r_iload_n C (dx dX6_give 10 rfl) rfl ?_
      refine r_cvP (as := [vi o1]) (st := []) (v := vi (b2i (inR o1 (vN v)))) C X I_X5_isOne l_X6_160 (c_X5_isOne o.pv _) (by decide) (Nat.le_of_ble_eq_true rfl) List.prefix_rfl rfl rfl (Nat.le_of_ble_eq_true rfl) rfl (dx dX6_give 11 rfl) ?_
      refine rb_ne (b := inR o1 (vN v)) (tgt := 34) C (dx dX6_give 12 rfl) (by decide) (fun c11 => ?_) (fun c11 => ?_)
      ·
        have c11 : (inR o1 (vN v)) = true := c11
        refine r_iload_n C (dx dX6_give 17 rfl) rfl ?_
        refine rb_eq (b := b) (tgt := 50) C (dx dX6_give 18 rfl) (by decide) (fun c12 => ?_) (fun c12 => ?_)
        ·
          have c12 : b = false := c12
          refine r_aload_n C (dx dX6_give 25 rfl) rfl ?_
          refine g_X6_10 C (dx dX6_give 26 rfl) ?_
          refine g_X6_176 C (dx dX6_give 27 rfl) ?_
          refine r_iload_n C (dx dX6_give 28 rfl) rfl ?_
          refine r_iald (j := π) (x := vF v 0 π) C rfl rfl (by decide) rfl (by omega) (dx dX6_give 29 rfl) (o.pv.e0 (by omega)) ?_
          refine r_istore (ls' := [(0, vr 6 0), (1, vi (nI π)), (2, vi o1), (3, vi (b2i b)), (4, vi (vF v 0 π))]) C (dx dX6_give 30 rfl) (by decide) [1, 2, 3, 4, 0] rfl ?_
          refine r_iload_n C (dx dX6_give 31 rfl) rfl ?_
          refine r_iconst (v := -1) C (dx dX6_give 32 rfl) rfl ?_
          refine r_icmp_eq (tgt := 90) C (dx dX6_give 33 rfl) (by decide) (fun c13 => ?_) (fun c13 => ?_)
          ·
            have c13 : o1 = -1 := c13
            exact absurd c13 c3
          ·
            have c13 : ¬ o1 = -1 := c13
            refine r_iload_n C (dx dX6_give 34 rfl) rfl ?_
            refine r_iload C (dx dX6_give 35 rfl) rfl ?_
            refine r_icmp_eq (tgt := 90) C (dx dX6_give 36 rfl) (by decide) (fun c14 => ?_) (fun c14 => ?_)
            ·
              have c14 : o1 = vF v 0 π := c14
              refine r_iload_n C (dx dX6_give 46 rfl) rfl ?_
              refine rb_eq (b := b) (tgt := 107) C (dx dX6_give 47 rfl) (by decide) (fun c15 => ?_) (fun c15 => ?_)
              ·
                have c15 : b = false := c15
                refine r_aload_n C (dx dX6_give 55 rfl) rfl ?_
                refine g_X6_10 C (dx dX6_give 56 rfl) ?_
                refine g_X6_176 C (dx dX6_give 57 rfl) ?_
                refine r_iload_n C (dx dX6_give 58 rfl) rfl ?_
                refine r_iload_n C (dx dX6_give 59 rfl) rfl ?_
                refine r_iast (j := π) C rfl rfl (by decide) rfl (by omega) (dx dX6_give 60 rfl) ?_
                have oh16 : Ow (sI h 2 π o1) (vset v 0 π o1) u w g B z κ := o.now (o.pv.s0) (Fr.sI (by omega) (by omega))
                have fh16 : Fr 0 63 h (sI h 2 π o1) := Fr.sI (by omega) (by omega)
                have kh16 : xK (sI h 2 π o1) = xK h := rfl
                generalize sI h 2 π o1 = h16 at oh16 fh16 kh16 ⊢
                refine r_iload C (dx dX6_give 61 rfl) rfl ?_
                have eA : giveA v (nI π) o1 b = vF v 0 π := by simp [giveA, giveV, giveF, clN (show π < 2 ^ 31 by omega), c1, c3, c11, c12, c13, eq_true c14, c15]
                have eV : giveV v (nI π) o1 b = (vset v 0 π o1) := by simp [giveA, giveV, giveF, clN (show π < 2 ^ 31 by omega), c1, c3, c11, c12, c13, eq_true c14, c15]
                exact F.1 _ _ _ _ _ rfl rfl (dx dX6_give 62 rfl) kh16 (show some (vi (vF v 0 π)) = some (vi (giveA v (nI π) o1 b)) ∧ OwX h h16 (giveV v (nI π) o1 b) w g B z κ from by rw [eA, eV]; exact ⟨rfl, ⟨_, oh16⟩, fh16⟩)
              ·
                have c15 : b = true := c15
                exact absurd (c12.symm.trans c15) (by decide)
            ·
              have c14 : ¬ o1 = vF v 0 π := c14
              refine r_aload_n C (dx dX6_give 37 rfl) rfl ?_
              refine g_X6_10 C (dx dX6_give 38 rfl) ?_
              refine r_iload_n C (dx dX6_give 39 rfl) rfl ?_
              refine r_cvP (as := [vi o1]) (st := []) (v := vi (b2i (hasRm v o1))) C X I_X5_hasRoom l_X6_179 (c_X5_hasRoom o.pv _) (by decide) (Nat.le_of_ble_eq_true rfl) List.prefix_rfl rfl rfl (Nat.le_of_ble_eq_true rfl) rfl (dx dX6_give 40 rfl) ?_
              refine rb_ne (b := hasRm v o1) (tgt := 90) C (dx dX6_give 41 rfl) (by decide) (fun c17 => ?_) (fun c17 => ?_)
              ·
                have c17 : (hasRm v o1) = true := c17
                refine r_iload_n C (dx dX6_give 46 rfl) rfl ?_
                refine rb_eq (b := b) (tgt := 107) C (dx dX6_give 47 rfl) (by decide) (fun c18 => ?_) (fun c18 => ?_)
                ·
                  have c18 : b = false := c18
                  refine r_aload_n C (dx dX6_give 55 rfl) rfl ?_
                  refine g_X6_10 C (dx dX6_give 56 rfl) ?_
                  refine g_X6_176 C (dx dX6_give 57 rfl) ?_
                  refine r_iload_n C (dx dX6_give 58 rfl) rfl ?_
                  refine r_iload_n C (dx dX6_give 59 rfl) rfl ?_
                  refine r_iast (j := π) C rfl rfl (by decide) rfl (by omega) (dx dX6_give 60 rfl) ?_
                  have oh19 : Ow (sI h 2 π o1) (vset v 0 π o1) u w g B z κ := o.now (o.pv.s0) (Fr.sI (by omega) (by omega))
                  have fh19 : Fr 0 63 h (sI h 2 π o1) := Fr.sI (by omega) (by omega)
                  have kh19 : xK (sI h 2 π o1) = xK h := rfl
                  generalize sI h 2 π o1 = h19 at oh19 fh19 kh19 ⊢
                  refine r_iload C (dx dX6_give 61 rfl) rfl ?_
                  have eA : giveA v (nI π) o1 b = vF v 0 π := by simp [giveA, giveV, giveF, clN (show π < 2 ^ 31 by omega), c1, c3, c11, c12, c13, c14, c17, c18]
                  have eV : giveV v (nI π) o1 b = (vset v 0 π o1) := by simp [giveA, giveV, giveF, clN (show π < 2 ^ 31 by omega), c1, c3, c11, c12, c13, c14, c17, c18]
                  exact F.1 _ _ _ _ _ rfl rfl (dx dX6_give 62 rfl) kh19 (show some (vi (vF v 0 π)) = some (vi (giveA v (nI π) o1 b)) ∧ OwX h h19 (giveV v (nI π) o1 b) w g B z κ from by rw [eA, eV]; exact ⟨rfl, ⟨_, oh19⟩, fh19⟩)
                ·
                  have c18 : b = true := c18
                  exact absurd (c12.symm.trans c18) (by decide)
              ·
                have c17 : (hasRm v o1) = false := c17
                refine r_aload_n C (dx dX6_give 42 rfl) rfl ?_
                refine r_bipush (v := -5) C (dx dX6_give 43 rfl) rfl ?_
                refine r_cv (as := [vi (-5)]) (st := []) C X I_X6_refuse l_X6_76 (c_X6_refuse (-5)) (by decide) (Nat.le_of_ble_eq_true rfl) List.prefix_rfl List.prefix_rfl rfl rfl (Nat.le_of_ble_eq_true rfl) rfl (dx dX6_give 44 rfl) ?_
                intro rh20 h20 hph20 kkh20
                obtain ⟨rfl, gh20⟩ := hph20
                have oh20 : Ow h20 v u w g B z κ := o.ref gh20
                have fh20 : Fr 0 63 h h20 := gh20.mono (by omega) (by omega)
                have kh20 : xK h20 = xK h := kkh20
                have eA : giveA v (nI π) o1 b = -5 := by simp [giveA, giveV, giveF, clN (show π < 2 ^ 31 by omega), c1, c3, c11, c12, c13, c14, c17]
                have eV : giveV v (nI π) o1 b = v := by simp [giveA, giveV, giveF, clN (show π < 2 ^ 31 by omega), c1, c3, c11, c12, c13, c14, c17]
                exact F.1 _ _ _ _ _ rfl rfl (dx dX6_give 45 rfl) kh20 (show some (vi (-5)) = some (vi (giveA v (nI π) o1 b)) ∧ OwX h h20 (giveV v (nI π) o1 b) w g B z κ from by rw [eA, eV]; exact ⟨rfl, ⟨_, oh20⟩, fh20⟩)
        ·
          have c12 : b = true := c12
          refine r_aload_n C (dx dX6_give 19 rfl) rfl ?_
          refine g_X6_10 C (dx dX6_give 20 rfl) ?_
          refine g_X6_173 C (dx dX6_give 21 rfl) ?_
          refine r_iload_n C (dx dX6_give 22 rfl) rfl ?_
          refine r_iald (j := π) (x := vF v 1 π) C rfl rfl (by decide) rfl (by omega) (dx dX6_give 23 rfl) (o.pv.e1 (by omega)) ?_
          refine r_goto (tgt := 59) C (dx dX6_give 24 rfl) (by decide) ?_
          refine r_istore (ls' := [(0, vr 6 0), (1, vi (nI π)), (2, vi o1), (3, vi (b2i b)), (4, vi (vF v 1 π))]) C (dx dX6_give 30 rfl) (by decide) [1, 2, 3, 4, 0] rfl ?_
          refine r_iload_n C (dx dX6_give 31 rfl) rfl ?_
          refine r_iconst (v := -1) C (dx dX6_give 32 rfl) rfl ?_
          refine r_icmp_eq (tgt := 90) C (dx dX6_give 33 rfl) (by decide) (fun c21 => ?_) (fun c21 => ?_)
          ·
            have c21 : o1 = -1 := c21
            exact absurd c21 c3
          ·
            have c21 : ¬ o1 = -1 := c21
            refine r_iload_n C (dx dX6_give 34 rfl) rfl ?_
            refine r_iload C (dx dX6_give 35 rfl) rfl ?_
            refine r_icmp_eq (tgt := 90) C (dx dX6_give 36 rfl) (by decide) (fun c22 => ?_) (fun c22 => ?_)
            ·
              have c22 : o1 = vF v 1 π := c22
              refine r_iload_n C (dx dX6_give 46 rfl) rfl ?_
              refine rb_eq (b := b) (tgt := 107) C (dx dX6_give 47 rfl) (by decide) (fun c23 => ?_) (fun c23 => ?_)
              ·
                have c23 : b = false := c23
                exact absurd (c12.symm.trans c23) (by decide)
              ·
                have c23 : b = true := c23
                refine r_aload_n C (dx dX6_give 48 rfl) rfl ?_
                refine g_X6_10 C (dx dX6_give 49 rfl) ?_
                refine g_X6_173 C (dx dX6_give 50 rfl) ?_
                refine r_iload_n C (dx dX6_give 51 rfl) rfl ?_
                refine r_iload_n C (dx dX6_give 52 rfl) rfl ?_
                refine r_iast (j := π) C rfl rfl (by decide) rfl (by omega) (dx dX6_give 53 rfl) ?_
                have oh24 : Ow (sI h 3 π o1) (vset v 1 π o1) u w g B z κ := o.now (o.pv.s1) (Fr.sI (by omega) (by omega))
                have fh24 : Fr 0 63 h (sI h 3 π o1) := Fr.sI (by omega) (by omega)
                have kh24 : xK (sI h 3 π o1) = xK h := rfl
                generalize sI h 3 π o1 = h24 at oh24 fh24 kh24 ⊢
                refine r_goto (tgt := 117) C (dx dX6_give 54 rfl) (by decide) ?_
                refine r_iload C (dx dX6_give 61 rfl) rfl ?_
                have eA : giveA v (nI π) o1 b = vF v 1 π := by simp [giveA, giveV, giveF, clN (show π < 2 ^ 31 by omega), c1, c3, c11, c12, c21, eq_true c22, c23]
                have eV : giveV v (nI π) o1 b = (vset v 1 π o1) := by simp [giveA, giveV, giveF, clN (show π < 2 ^ 31 by omega), c1, c3, c11, c12, c21, eq_true c22, c23]
                exact F.1 _ _ _ _ _ rfl rfl (dx dX6_give 62 rfl) kh24 (show some (vi (vF v 1 π)) = some (vi (giveA v (nI π) o1 b)) ∧ OwX h h24 (giveV v (nI π) o1 b) w g B z κ from by rw [eA, eV]; exact ⟨rfl, ⟨_, oh24⟩, fh24⟩)
            ·
              have c22 : ¬ o1 = vF v 1 π := c22
              refine r_aload_n C (dx dX6_give 37 rfl) rfl ?_
              refine g_X6_10 C (dx dX6_give 38 rfl) ?_
              refine r_iload_n C (dx dX6_give 39 rfl) rfl ?_
              refine r_cvP (as := [vi o1]) (st := []) (v := vi (b2i (hasRm v o1))) C X I_X5_hasRoom l_X6_179 (c_X5_hasRoom o.pv _) (by decide) (Nat.le_of_ble_eq_true rfl) List.prefix_rfl rfl rfl (Nat.le_of_ble_eq_true rfl) rfl (dx dX6_give 40 rfl) ?_
              refine rb_ne (b := hasRm v o1) (tgt := 90) C (dx dX6_give 41 rfl) (by decide) (fun c25 => ?_) (fun c25 => ?_)
              ·
                have c25 : (hasRm v o1) = true := c25
                refine r_iload_n C (dx dX6_give 46 rfl) rfl ?_
                refine rb_eq (b := b) (tgt := 107) C (dx dX6_give 47 rfl) (by decide) (fun c26 => ?_) (fun c26 => ?_)
                ·
                  have c26 : b = false := c26
                  exact absurd (c12.symm.trans c26) (by decide)
                ·
                  have c26 : b = true := c26
                  refine r_aload_n C (dx dX6_give 48 rfl) rfl ?_
                  refine g_X6_10 C (dx dX6_give 49 rfl) ?_
                  refine g_X6_173 C (dx dX6_give 50 rfl) ?_
                  refine r_iload_n C (dx dX6_give 51 rfl) rfl ?_
                  refine r_iload_n C (dx dX6_give 52 rfl) rfl ?_
                  refine r_iast (j := π) C rfl rfl (by decide) rfl (by omega) (dx dX6_give 53 rfl) ?_
                  have oh27 : Ow (sI h 3 π o1) (vset v 1 π o1) u w g B z κ := o.now (o.pv.s1) (Fr.sI (by omega) (by omega))
                  have fh27 : Fr 0 63 h (sI h 3 π o1) := Fr.sI (by omega) (by omega)
                  have kh27 : xK (sI h 3 π o1) = xK h := rfl
                  generalize sI h 3 π o1 = h27 at oh27 fh27 kh27 ⊢
                  refine r_goto (tgt := 117) C (dx dX6_give 54 rfl) (by decide) ?_
                  refine r_iload C (dx dX6_give 61 rfl) rfl ?_
                  have eA : giveA v (nI π) o1 b = vF v 1 π := by simp [giveA, giveV, giveF, clN (show π < 2 ^ 31 by omega), c1, c3, c11, c12, c21, c22, c25, c26]
                  have eV : giveV v (nI π) o1 b = (vset v 1 π o1) := by simp [giveA, giveV, giveF, clN (show π < 2 ^ 31 by omega), c1, c3, c11, c12, c21, c22, c25, c26]
                  exact F.1 _ _ _ _ _ rfl rfl (dx dX6_give 62 rfl) kh27 (show some (vi (vF v 1 π)) = some (vi (giveA v (nI π) o1 b)) ∧ OwX h h27 (giveV v (nI π) o1 b) w g B z κ from by rw [eA, eV]; exact ⟨rfl, ⟨_, oh27⟩, fh27⟩)
              ·
                have c25 : (hasRm v o1) = false := c25
                refine r_aload_n C (dx dX6_give 42 rfl) rfl ?_
                refine r_bipush (v := -5) C (dx dX6_give 43 rfl) rfl ?_
                refine r_cv (as := [vi (-5)]) (st := []) C X I_X6_refuse l_X6_76 (c_X6_refuse (-5)) (by decide) (Nat.le_of_ble_eq_true rfl) List.prefix_rfl List.prefix_rfl rfl rfl (Nat.le_of_ble_eq_true rfl) rfl (dx dX6_give 44 rfl) ?_
                intro rh28 h28 hph28 kkh28
                obtain ⟨rfl, gh28⟩ := hph28
                have oh28 : Ow h28 v u w g B z κ := o.ref gh28
                have fh28 : Fr 0 63 h h28 := gh28.mono (by omega) (by omega)
                have kh28 : xK h28 = xK h := kkh28
                have eA : giveA v (nI π) o1 b = -5 := by simp [giveA, giveV, giveF, clN (show π < 2 ^ 31 by omega), c1, c3, c11, c12, c21, c22, c25]
                have eV : giveV v (nI π) o1 b = v := by simp [giveA, giveV, giveF, clN (show π < 2 ^ 31 by omega), c1, c3, c11, c12, c21, c22, c25]
                exact F.1 _ _ _ _ _ rfl rfl (dx dX6_give 45 rfl) kh28 (show some (vi (-5)) = some (vi (giveA v (nI π) o1 b)) ∧ OwX h h28 (giveV v (nI π) o1 b) w g B z κ from by rw [eA, eV]; exact ⟨rfl, ⟨_, oh28⟩, fh28⟩)
      ·
        have c11 : (inR o1 (vN v)) = false := c11
        refine r_aload_n C (dx dX6_give 13 rfl) rfl ?_
        refine r_bipush (v := -2) C (dx dX6_give 14 rfl) rfl ?_
        refine r_cv (as := [vi (-2)]) (st := []) C X I_X6_refuse l_X6_76 (c_X6_refuse (-2)) (by decide) (Nat.le_of_ble_eq_true rfl) List.prefix_rfl List.prefix_rfl rfl rfl (Nat.le_of_ble_eq_true rfl) rfl (dx dX6_give 15 rfl) ?_
        intro rh29 h29 hph29 kkh29
        obtain ⟨rfl, gh29⟩ := hph29
        have oh29 : Ow h29 v u w g B z κ := o.ref gh29
        have fh29 : Fr 0 63 h h29 := gh29.mono (by omega) (by omega)
        have kh29 : xK h29 = xK h := kkh29
        have eA : giveA v (nI π) o1 b = -2 := by simp [giveA, giveV, giveF, clN (show π < 2 ^ 31 by omega), c1, c3, c11]
        have eV : giveV v (nI π) o1 b = v := by simp [giveA, giveV, giveF, clN (show π < 2 ^ 31 by omega), c1, c3, c11]
        exact F.1 _ _ _ _ _ rfl rfl (dx dX6_give 16 rfl) kh29 (show some (vi (-2)) = some (vi (giveA v (nI π) o1 b)) ∧ OwX h h29 (giveV v (nI π) o1 b) w g B z κ from by rw [eA, eV]; exact ⟨rfl, ⟨_, oh29⟩, fh29⟩)
set_option maxHeartbeats 4000000 in
theorem x_swap {l : Launch} {h : Hp} {v u w : Vg} {g : Sg} {B : Nat → Int32} {z : Nat} {κ : Int32} (o : Ow h v u w g B z κ) (hg : GOk g) (p q : Int32) : Ms l yX6_swap cX6_swap 4 (some .int) 20 [vr 6 0, vi p, vi q] h (xK h) (fun r h' => r = some (vi (swapA v p q)) ∧ OwX h h' (swapV v p q) w g B z κ) := by
  refine Ms.of (by decide) (Nat.le_of_ble_eq_true rfl) (fun G C X F => ?_)
  have C : Cx G cX6_swap 4 RX6 := C
  show Rr G 0 [(0, vr 6 0), (1, vi p), (2, vi q)] [] h
  have bP := o.pv.bP
  have bM := o.pv.bM
  have bN := o.pv.bN
  have bz := o.pt.2.2
  refine r_aload_n C (dx dX6_swap 0 rfl) rfl ?_
  refine g_X6_10 C (dx dX6_swap 1 rfl) ?_
  refine r_iload_n C (dx dX6_swap 2 rfl) rfl ?_
  refine r_cvP (as := [vi p]) (st := []) (v := vi (b2i (inR p (vP v)))) C X I_X5_isPart l_X6_170 (c_X5_isPart o.pv _) (by decide) (Nat.le_of_ble_eq_true rfl) List.prefix_rfl rfl rfl (Nat.le_of_ble_eq_true rfl) rfl (dx dX6_swap 3 rfl) ?_
  refine rb_eq (b := inR p (vP v)) (tgt := 22) C (dx dX6_swap 4 rfl) (by decide) (fun c1 => ?_) (fun c1 => ?_)
  ·
    have c1 : (inR p (vP v)) = false := c1
    refine r_aload_n C (dx dX6_swap 10 rfl) rfl ?_
    refine r_bipush (v := -2) C (dx dX6_swap 11 rfl) rfl ?_
    refine r_cv (as := [vi (-2)]) (st := []) C X I_X6_refuse l_X6_76 (c_X6_refuse (-2)) (by decide) (Nat.le_of_ble_eq_true rfl) List.prefix_rfl List.prefix_rfl rfl rfl (Nat.le_of_ble_eq_true rfl) rfl (dx dX6_swap 12 rfl) ?_
    intro rh2 h2 hph2 kkh2
    obtain ⟨rfl, gh2⟩ := hph2
    have oh2 : Ow h2 v u w g B z κ := o.ref gh2
    have fh2 : Fr 0 63 h h2 := gh2.mono (by omega) (by omega)
    have kh2 : xK h2 = xK h := kkh2
    have eA : swapA v p q = -2 := by simp [swapA, swapV, c1]
    have eV : swapV v p q = v := by simp [swapA, swapV, c1]
    exact F.1 _ _ _ _ _ rfl rfl (dx dX6_swap 13 rfl) kh2 (show some (vi (-2)) = some (vi (swapA v p q)) ∧ OwX h h2 (swapV v p q) w g B z κ from by rw [eA, eV]; exact ⟨rfl, ⟨_, oh2⟩, fh2⟩)
  ·
    have c1 : (inR p (vP v)) = true := c1
    obtain ⟨π, hπ, rfl⟩ := inR_ex (n := (vP v)) (by omega) c1
    refine r_aload_n C (dx dX6_swap 5 rfl) rfl ?_
    refine g_X6_10 C (dx dX6_swap 6 rfl) ?_
    refine r_iload_n C (dx dX6_swap 7 rfl) rfl ?_
    refine r_cvP (as := [vi q]) (st := []) (v := vi (b2i (inR q (vP v)))) C X I_X5_isPart l_X6_170 (c_X5_isPart o.pv _) (by decide) (Nat.le_of_ble_eq_true rfl) List.prefix_rfl rfl rfl (Nat.le_of_ble_eq_true rfl) rfl (dx dX6_swap 8 rfl) ?_
    refine rb_ne (b := inR q (vP v)) (tgt := 29) C (dx dX6_swap 9 rfl) (by decide) (fun c3 => ?_) (fun c3 => ?_)
    ·
      have c3 : (inR q (vP v)) = true := c3
      obtain ⟨θ, hθ, rfl⟩ := inR_ex (n := (vP v)) (by omega) c3
      refine r_aload_n C (dx dX6_swap 14 rfl) rfl ?_
      refine g_X6_10 C (dx dX6_swap 15 rfl) ?_
      refine g_X6_176 C (dx dX6_swap 16 rfl) ?_
      refine r_iload_n C (dx dX6_swap 17 rfl) rfl ?_
      refine r_iald (j := π) (x := vF v 0 π) C rfl rfl (by decide) rfl (by omega) (dx dX6_swap 18 rfl) (o.pv.e0 (by omega)) ?_
      refine r_istore_n (ls' := [(0, vr 6 0), (1, vi (nI π)), (2, vi (nI θ)), (3, vi (vF v 0 π))]) C (dx dX6_swap 19 rfl) (by decide) [1, 2, 3, 0] rfl ?_
      refine r_iload_n C (dx dX6_swap 20 rfl) rfl ?_
      refine r_aload_n C (dx dX6_swap 21 rfl) rfl ?_
      refine g_X6_10 C (dx dX6_swap 22 rfl) ?_
      refine g_X6_176 C (dx dX6_swap 23 rfl) ?_
      refine r_iload_n C (dx dX6_swap 24 rfl) rfl ?_
      refine r_iald (j := θ) (x := vF v 0 θ) C rfl rfl (by decide) rfl (by omega) (dx dX6_swap 25 rfl) (o.pv.e0 (by omega)) ?_
      refine r_icmp_ne (tgt := 54) C (dx dX6_swap 26 rfl) (by decide) (fun c4 => ?_) (fun c4 => ?_)
      ·
        have c4 : ¬ vF v 0 π = vF v 0 θ := c4
        refine r_aload_n C (dx dX6_swap 29 rfl) rfl ?_
        refine g_X6_10 C (dx dX6_swap 30 rfl) ?_
        refine g_X6_176 C (dx dX6_swap 31 rfl) ?_
        refine r_iload_n C (dx dX6_swap 32 rfl) rfl ?_
        refine r_aload_n C (dx dX6_swap 33 rfl) rfl ?_
        refine g_X6_10 C (dx dX6_swap 34 rfl) ?_
        refine g_X6_176 C (dx dX6_swap 35 rfl) ?_
        refine r_iload_n C (dx dX6_swap 36 rfl) rfl ?_
        refine r_iald (j := θ) (x := vF v 0 θ) C rfl rfl (by decide) rfl (by omega) (dx dX6_swap 37 rfl) (o.pv.e0 (by omega)) ?_
        refine r_iast (j := π) C rfl rfl (by decide) rfl (by omega) (dx dX6_swap 38 rfl) ?_
        have oh5 : Ow (sI h 2 π (vF v 0 θ)) (vset v 0 π (vF v 0 θ)) u w g B z κ := o.now (o.pv.s0) (Fr.sI (by omega) (by omega))
        have fh5 : Fr 0 63 h (sI h 2 π (vF v 0 θ)) := Fr.sI (by omega) (by omega)
        have kh5 : xK (sI h 2 π (vF v 0 θ)) = xK h := rfl
        generalize sI h 2 π (vF v 0 θ) = h5 at oh5 fh5 kh5 ⊢
        refine r_aload_n C (dx dX6_swap 39 rfl) rfl ?_
        refine g_X6_10 C (dx dX6_swap 40 rfl) ?_
        refine g_X6_176 C (dx dX6_swap 41 rfl) ?_
        refine r_iload_n C (dx dX6_swap 42 rfl) rfl ?_
        refine r_iload_n C (dx dX6_swap 43 rfl) rfl ?_
        refine r_iast (j := θ) C rfl rfl (by decide) rfl (by omega) (dx dX6_swap 44 rfl) ?_
        have oh6 : Ow (sI h5 2 θ (vF v 0 π)) (vset (vset v 0 π (vF v 0 θ)) 0 θ (vF v 0 π)) u w g B z κ := oh5.now (oh5.pv.s0) (Fr.sI (by omega) (by omega))
        have fh6 : Fr 0 63 h (sI h5 2 θ (vF v 0 π)) := fh5.tr (Fr.sI (by omega) (by omega))
        have kh6 : xK (sI h5 2 θ (vF v 0 π)) = xK h := kh5
        generalize sI h5 2 θ (vF v 0 π) = h6 at oh6 fh6 kh6 ⊢
        refine r_iconst (v := nI 1) C (dx dX6_swap 45 rfl) rfl ?_
        have eA : swapA v (nI π) (nI θ) = nI 1 := by simp [swapA, swapV, clN (show π < 2 ^ 31 by omega), clN (show θ < 2 ^ 31 by omega), c1, c3, c4]
        have eV : swapV v (nI π) (nI θ) = (vset (vset v 0 π (vF v 0 θ)) 0 θ (vF v 0 π)) := by simp [swapA, swapV, clN (show π < 2 ^ 31 by omega), clN (show θ < 2 ^ 31 by omega), c1, c3, c4]
        exact F.1 _ _ _ _ _ rfl rfl (dx dX6_swap 46 rfl) kh6 (show some (vi (nI 1)) = some (vi (swapA v (nI π) (nI θ))) ∧ OwX h h6 (swapV v (nI π) (nI θ)) w g B z κ from by rw [eA, eV]; exact ⟨rfl, ⟨_, oh6⟩, fh6⟩)
      ·
        have c4 : vF v 0 π = vF v 0 θ := c4
        refine r_iconst (v := nI 0) C (dx dX6_swap 27 rfl) rfl ?_
        have eA : swapA v (nI π) (nI θ) = nI 0 := by simp [swapA, swapV, clN (show π < 2 ^ 31 by omega), clN (show θ < 2 ^ 31 by omega), c1, c3, c4]
        have eV : swapV v (nI π) (nI θ) = v := by simp [swapA, swapV, clN (show π < 2 ^ 31 by omega), clN (show θ < 2 ^ 31 by omega), c1, c3, c4]
        exact F.1 _ _ _ _ _ rfl rfl (dx dX6_swap 28 rfl) rfl (show some (vi (nI 0)) = some (vi (swapA v (nI π) (nI θ))) ∧ OwX h h (swapV v (nI π) (nI θ)) w g B z κ from by rw [eA, eV]; exact ⟨rfl, ⟨_, o⟩, Fr.rf⟩)
    ·
      have c3 : (inR q (vP v)) = false := c3
      refine r_aload_n C (dx dX6_swap 10 rfl) rfl ?_
      refine r_bipush (v := -2) C (dx dX6_swap 11 rfl) rfl ?_
      refine r_cv (as := [vi (-2)]) (st := []) C X I_X6_refuse l_X6_76 (c_X6_refuse (-2)) (by decide) (Nat.le_of_ble_eq_true rfl) List.prefix_rfl List.prefix_rfl rfl rfl (Nat.le_of_ble_eq_true rfl) rfl (dx dX6_swap 12 rfl) ?_
      intro rh7 h7 hph7 kkh7
      obtain ⟨rfl, gh7⟩ := hph7
      have oh7 : Ow h7 v u w g B z κ := o.ref gh7
      have fh7 : Fr 0 63 h h7 := gh7.mono (by omega) (by omega)
      have kh7 : xK h7 = xK h := kkh7
      have eA : swapA v (nI π) q = -2 := by simp [swapA, swapV, clN (show π < 2 ^ 31 by omega), c1, c3]
      have eV : swapV v (nI π) q = v := by simp [swapA, swapV, clN (show π < 2 ^ 31 by omega), c1, c3]
      exact F.1 _ _ _ _ _ rfl rfl (dx dX6_swap 13 rfl) kh7 (show some (vi (-2)) = some (vi (swapA v (nI π) q)) ∧ OwX h h7 (swapV v (nI π) q) w g B z κ from by rw [eA, eV]; exact ⟨rfl, ⟨_, oh7⟩, fh7⟩)
set_option maxHeartbeats 4000000 in
theorem x_seed {l : Launch} {h : Hp} {v u w : Vg} {g : Sg} {B : Nat → Int32} {z : Nat} {κ : Int32} (o : Ow h v u w g B z κ) (hg : GOk g) (x : Int32) : Ms l yX6_seed cX6_seed 3 (some .int) 20 [vr 6 0, vi x] h (xK h) (fun r h' => r = some (vi (vS v)) ∧ OwX h h' (vsS v x) w g B z κ) := by
  refine Ms.of (by decide) (Nat.le_of_ble_eq_true rfl) (fun G C X F => ?_)
  have C : Cx G cX6_seed 3 RX6 := C
  show Rr G 0 [(0, vr 6 0), (1, vi x)] [] h
  have bP := o.pv.bP
  have bM := o.pv.bM
  have bN := o.pv.bN
  have bz := o.pt.2.2
  refine r_aload_n C (dx dX6_seed 0 rfl) rfl ?_
  refine g_X6_10 C (dx dX6_seed 1 rfl) ?_
  refine g_X6_334 (x := vS v) C (dx dX6_seed 2 rfl) o.pv.eS ?_
  refine r_istore_n (ls' := [(0, vr 6 0), (1, vi x), (2, vi (vS v))]) C (dx dX6_seed 3 rfl) (by decide) [1, 2, 0] rfl ?_
  refine r_aload_n C (dx dX6_seed 4 rfl) rfl ?_
  refine g_X6_10 C (dx dX6_seed 5 rfl) ?_
  refine r_iload_n C (dx dX6_seed 6 rfl) rfl ?_
  refine p_X6_334 C (dx dX6_seed 7 rfl) rfl rfl ?_
  have oh1 : Ow (sI h 1 11 x) (vsS v x) u w g B z κ := o.now (o.pv.sS) (Fr.sI (by omega) (by omega))
  have fh1 : Fr 0 63 h (sI h 1 11 x) := Fr.sI (by omega) (by omega)
  have kh1 : xK (sI h 1 11 x) = xK h := rfl
  generalize sI h 1 11 x = h1 at oh1 fh1 kh1 ⊢
  refine r_iload_n C (dx dX6_seed 8 rfl) rfl ?_
  exact F.1 _ _ _ _ _ rfl rfl (dx dX6_seed 9 rfl) kh1 (show some (vi (vS v)) = some (vi (vS v)) ∧ OwX h h1 (vsS v x) w g B z κ from by exact ⟨rfl, ⟨_, oh1⟩, fh1⟩)
set_option maxHeartbeats 4000000 in
theorem x_image {l : Launch} {h : Hp} {v u w : Vg} {g : Sg} {B : Nat → Int32} {z : Nat} {κ : Int32} (o : Ow h v u w g B z κ) (hg : GOk g)  : Ms l yX6_image cX6_image 1 (some .int) 20 [vr 6 0] h (xK h) (fun r h' => r = some (vi (nI 1)) ∧ OwX h h' v v g B z (nI 1)) := by
  refine Ms.of (by decide) (Nat.le_of_ble_eq_true rfl) (fun G C X F => ?_)
  have C : Cx G cX6_image 1 RX6 := C
  show Rr G 0 [(0, vr 6 0)] [] h
  have bP := o.pv.bP
  have bM := o.pv.bM
  have bN := o.pv.bN
  have bz := o.pt.2.2
  refine r_aload_n C (dx dX6_image 0 rfl) rfl ?_
  refine g_X6_19 C (dx dX6_image 1 rfl) ?_
  refine r_aload_n C (dx dX6_image 2 rfl) rfl ?_
  refine g_X6_10 C (dx dX6_image 3 rfl) ?_
  refine r_cv (as := [vr 5 1]) (st := []) C X I_X5_takeOver l_X6_191 (c_X5_takeOver o.pw o.pv (by omega)) (by decide) (Nat.le_of_ble_eq_true rfl) List.prefix_rfl List.prefix_rfl rfl rfl (Nat.le_of_ble_eq_true rfl) rfl (dx dX6_image 4 rfl) ?_
  intro rh1 h1 hph1 kkh1
  obtain ⟨rfl, wh1, gh1⟩ := hph1
  have oh1 : Ow h1 v u v g B z κ := o.kep wh1 gh1
  have fh1 : Fr 0 63 h h1 := gh1.mono (by omega) (by omega)
  have kh1 : xK h1 = xK h := kkh1
  refine r_aload_n C (dx dX6_image 5 rfl) rfl ?_
  refine r_iconst (v := nI 1) C (dx dX6_image 6 rfl) rfl ?_
  refine p_X6_22 C (dx dX6_image 7 rfl) rfl rfl ?_
  have oh2 : Ow (sI h1 0 3 (nI 1)) v u v g B z (nI 1) := oh1.self (by rw [sI_at]; rfl) (Fr.sI (by omega) (by omega))
  have fh2 : Fr 0 63 h (sI h1 0 3 (nI 1)) := fh1.tr (Fr.sI (by omega) (by omega))
  have kh2 : xK (sI h1 0 3 (nI 1)) = xK h := kh1
  generalize sI h1 0 3 (nI 1) = h2 at oh2 fh2 kh2 ⊢
  refine r_iconst (v := nI 1) C (dx dX6_image 8 rfl) rfl ?_
  exact F.1 _ _ _ _ _ rfl rfl (dx dX6_image 9 rfl) kh2 (show some (vi (nI 1)) = some (vi (nI 1)) ∧ OwX h h2 v v g B z (nI 1) from by exact ⟨rfl, ⟨_, oh2⟩, fh2⟩)
set_option maxHeartbeats 4000000 in
theorem x_days {l : Launch} {h : Hp} {v u w : Vg} {g : Sg} {B : Nat → Int32} {z : Nat} {κ : Int32} (o : Ow h v u w g B z κ) (hg : GOk g) (n : Int32) : Ms l yX6_days cX6_days 4 (some .int) 20 [vr 6 0, vi n] h (xK h) (fun r h' => r = some (vi (daysA v n)) ∧ OwX h h' (daysX v n) w g B z κ) := by
  refine Ms.of (by decide) (Nat.le_of_ble_eq_true rfl) (fun G C X F => ?_)
  have C : Cx G cX6_days 4 RX6 := C
  show Rr G 0 [(0, vr 6 0), (1, vi n)] [] h
  have bP := o.pv.bP
  have bM := o.pv.bM
  have bN := o.pv.bN
  have bz := o.pt.2.2
  refine r_iload_n C (dx dX6_days 0 rfl) rfl ?_
  refine r_iconst (v := nI 1) C (dx dX6_days 1 rfl) rfl ?_
  refine r_icmp_lt (tgt := 11) C (dx dX6_days 2 rfl) (by decide) (fun c1 => ?_) (fun c1 => ?_)
  ·
    have c1 : n < nI 1 := c1
    refine r_aload_n C (dx dX6_days 6 rfl) rfl ?_
    refine r_bipush (v := -2) C (dx dX6_days 7 rfl) rfl ?_
    refine r_cv (as := [vi (-2)]) (st := []) C X I_X6_refuse l_X6_76 (c_X6_refuse (-2)) (by decide) (Nat.le_of_ble_eq_true rfl) List.prefix_rfl List.prefix_rfl rfl rfl (Nat.le_of_ble_eq_true rfl) rfl (dx dX6_days 8 rfl) ?_
    intro rh2 h2 hph2 kkh2
    obtain ⟨rfl, gh2⟩ := hph2
    have oh2 : Ow h2 v u w g B z κ := o.ref gh2
    have fh2 : Fr 0 63 h h2 := gh2.mono (by omega) (by omega)
    have kh2 : xK h2 = xK h := kkh2
    have eA : daysA v n = -2 := by simp [daysA, daysX, dysB, c1]
    have eV : daysX v n = v := by simp [daysA, daysX, dysB, c1]
    exact F.1 _ _ _ _ _ rfl rfl (dx dX6_days 9 rfl) kh2 (show some (vi (-2)) = some (vi (daysA v n)) ∧ OwX h h2 (daysX v n) w g B z κ from by rw [eA, eV]; exact ⟨rfl, ⟨_, oh2⟩, fh2⟩)
  ·
    have c1 : ¬ n < nI 1 := c1
    refine r_iload_n C (dx dX6_days 3 rfl) rfl ?_
    refine r_bipush (v := nI 60) C (dx dX6_days 4 rfl) rfl ?_
    refine r_icmp_le (tgt := 18) C (dx dX6_days 5 rfl) (by decide) (fun c3 => ?_) (fun c3 => ?_)
    ·
      have c3 : n ≤ nI 60 := c3
      obtain ⟨ν, hν, hν2, rfl⟩ := btw (a := 1) (b := 60) (by omega) (by omega) c1 (Int32.not_lt.mpr c3)
      refine r_iconst (v := nI 0) C (dx dX6_days 10 rfl) rfl ?_
      refine r_istore_n (ls' := [(0, vr 6 0), (1, vi (nI ν)), (2, vi (nI 0))]) C (dx dX6_days 11 rfl) (by decide) [1, 2, 0] rfl ?_
      refine r_iconst (v := nI 0) C (dx dX6_days 12 rfl) rfl ?_
      refine r_istore_n (ls' := [(0, vr 6 0), (1, vi (nI ν)), (2, vi (nI 0)), (3, vi (nI 0))]) C (dx dX6_days 13 rfl) (by decide) [1, 2, 3, 0] rfl ?_
      refine loopU (Φ := fun p => ∀ g9, Ow g9 (daysV v p) u w g B z κ → Fr 0 63 h g9 → xK g9 = xK h → Rr G 22 [(0, vr 6 0), (1, vi (nI ν)), (2, vi (daysS v p)), (3, vi (nI p))] [] g9) (N := ν) ?_ ?_ 0 (Nat.zero_le _) h o Fr.rf rfl
      ·
        intro g9 o9 f9 k9
        refine r_iload_n C (dx dX6_days 14 rfl) rfl ?_
        refine r_iload_n C (dx dX6_days 15 rfl) rfl ?_
        refine rn_ge (a := ν) (b := ν) (tgt := 43) C (by omega) (by omega) (dx dX6_days 16 rfl) (by decide) (fun c4 => ?_) (fun c4 => ?_)
        · first
          | (omega; done)
          | (
              have c4 : ν ≤ ν := c4
              refine r_aload_n C (dx dX6_days 25 rfl) rfl ?_
              refine r_dupR C (dx dX6_days 26 rfl) ?_
              refine g_X6_65 (x := xI g9 0 10) C (dx dX6_days 27 rfl) rfl ?_
              refine r_iload_n C (dx dX6_days 28 rfl) rfl ?_
              refine r_iadd C (dx dX6_days 29 rfl) ?_
              refine p_X6_65 C (dx dX6_days 30 rfl) rfl rfl ?_
              have oh5 : Ow (sI g9 0 10 ((xI g9 0 10) + (nI ν))) (daysV v ν) u w g B z κ := o9.self (by rw [sI_at]; exact o9.pk) (Fr.sI (by omega) (by omega))
              have fh5 : Fr 0 63 h (sI g9 0 10 ((xI g9 0 10) + (nI ν))) := f9.tr (Fr.sI (by omega) (by omega))
              have kh5 : xK (sI g9 0 10 ((xI g9 0 10) + (nI ν))) = xK h := k9
              generalize sI g9 0 10 ((xI g9 0 10) + (nI ν)) = h5 at oh5 fh5 kh5 ⊢
              refine r_aload_n C (dx dX6_days 31 rfl) rfl ?_
              refine r_dupR C (dx dX6_days 32 rfl) ?_
              refine g_X6_69 (x := xI h5 0 11) C (dx dX6_days 33 rfl) rfl ?_
              refine r_iload_n C (dx dX6_days 34 rfl) rfl ?_
              refine r_iadd C (dx dX6_days 35 rfl) ?_
              refine p_X6_69 C (dx dX6_days 36 rfl) rfl rfl ?_
              have oh6 : Ow (sI h5 0 11 ((xI h5 0 11) + (daysS v ν))) (daysV v ν) u w g B z κ := oh5.self (by rw [sI_at]; exact oh5.pk) (Fr.sI (by omega) (by omega))
              have fh6 : Fr 0 63 h (sI h5 0 11 ((xI h5 0 11) + (daysS v ν))) := fh5.tr (Fr.sI (by omega) (by omega))
              have kh6 : xK (sI h5 0 11 ((xI h5 0 11) + (daysS v ν))) = xK h := kh5
              generalize sI h5 0 11 ((xI h5 0 11) + (daysS v ν)) = h6 at oh6 fh6 kh6 ⊢
              refine r_iload_n C (dx dX6_days 37 rfl) rfl ?_
              have eA : daysA v (nI ν) = daysS v ν := by simp [daysA, daysX, dysB, clN (show ν < 2 ^ 31 by omega), c1, c3, (Int32.not_lt.mpr c3), c4]
              have eV : daysX v (nI ν) = (daysV v ν) := by simp [daysA, daysX, dysB, clN (show ν < 2 ^ 31 by omega), c1, c3, (Int32.not_lt.mpr c3), c4]
              exact F.1 _ _ _ _ _ rfl rfl (dx dX6_days 38 rfl) kh6 (show some (vi (daysS v ν)) = some (vi (daysA v (nI ν))) ∧ OwX h h6 (daysX v (nI ν)) w g B z κ from by rw [eA, eV]; exact ⟨rfl, ⟨_, oh6⟩, fh6⟩))
        · first
          | (omega; done)
      ·
        intro p hp ih g9 o9 f9 k9
        refine r_iload_n C (dx dX6_days 14 rfl) rfl ?_
        refine r_iload_n C (dx dX6_days 15 rfl) rfl ?_
        refine rn_ge (a := p) (b := ν) (tgt := 43) C (by omega) (by omega) (dx dX6_days 16 rfl) (by decide) (fun c8 => ?_) (fun c8 => ?_)
        · first
          | (omega; done)
          | (
              have c8 : ν ≤ p := c8
              refine r_aload_n C (dx dX6_days 25 rfl) rfl ?_
              refine r_dupR C (dx dX6_days 26 rfl) ?_
              refine g_X6_65 (x := xI g9 0 10) C (dx dX6_days 27 rfl) rfl ?_
              refine r_iload_n C (dx dX6_days 28 rfl) rfl ?_
              refine r_iadd C (dx dX6_days 29 rfl) ?_
              refine p_X6_65 C (dx dX6_days 30 rfl) rfl rfl ?_
              have oh9 : Ow (sI g9 0 10 ((xI g9 0 10) + (nI ν))) (daysV v p) u w g B z κ := o9.self (by rw [sI_at]; exact o9.pk) (Fr.sI (by omega) (by omega))
              have fh9 : Fr 0 63 h (sI g9 0 10 ((xI g9 0 10) + (nI ν))) := f9.tr (Fr.sI (by omega) (by omega))
              have kh9 : xK (sI g9 0 10 ((xI g9 0 10) + (nI ν))) = xK h := k9
              generalize sI g9 0 10 ((xI g9 0 10) + (nI ν)) = h9 at oh9 fh9 kh9 ⊢
              refine r_aload_n C (dx dX6_days 31 rfl) rfl ?_
              refine r_dupR C (dx dX6_days 32 rfl) ?_
              refine g_X6_69 (x := xI h9 0 11) C (dx dX6_days 33 rfl) rfl ?_
              refine r_iload_n C (dx dX6_days 34 rfl) rfl ?_
              refine r_iadd C (dx dX6_days 35 rfl) ?_
              refine p_X6_69 C (dx dX6_days 36 rfl) rfl rfl ?_
              have oh10 : Ow (sI h9 0 11 ((xI h9 0 11) + (daysS v p))) (daysV v p) u w g B z κ := oh9.self (by rw [sI_at]; exact oh9.pk) (Fr.sI (by omega) (by omega))
              have fh10 : Fr 0 63 h (sI h9 0 11 ((xI h9 0 11) + (daysS v p))) := fh9.tr (Fr.sI (by omega) (by omega))
              have kh10 : xK (sI h9 0 11 ((xI h9 0 11) + (daysS v p))) = xK h := kh9
              generalize sI h9 0 11 ((xI h9 0 11) + (daysS v p)) = h10 at oh10 fh10 kh10 ⊢
              refine r_iload_n C (dx dX6_days 37 rfl) rfl ?_
              have eA : daysA v (nI ν) = daysS v p := by simp [daysA, daysX, dysB, clN (show ν < 2 ^ 31 by omega), c1, c3, (Int32.not_lt.mpr c3), c8]
              have eV : daysX v (nI ν) = (daysV v p) := by simp [daysA, daysX, dysB, clN (show ν < 2 ^ 31 by omega), c1, c3, (Int32.not_lt.mpr c3), c8]
              exact F.1 _ _ _ _ _ rfl rfl (dx dX6_days 38 rfl) kh10 (show some (vi (daysS v p)) = some (vi (daysA v (nI ν))) ∧ OwX h h10 (daysX v (nI ν)) w g B z κ from by rw [eA, eV]; exact ⟨rfl, ⟨_, oh10⟩, fh10⟩))
        · first
          | (omega; done)
          | (
              have c8 : p < ν := c8
              refine r_iload_n C (dx dX6_days 17 rfl) rfl ?_
              refine r_aload_n C (dx dX6_days 18 rfl) rfl ?_
              refine g_X6_10 C (dx dX6_days 19 rfl) ?_
              refine r_cv (as := []) (st := [vi (daysS v p)]) C X I_X5_passDay l_X6_331 (c_X5_passDay o9.pv) (by decide) (Nat.le_of_ble_eq_true rfl) List.prefix_rfl (pfx_eq k9) rfl rfl (Nat.le_of_ble_eq_true rfl) rfl (dx dX6_days 20 rfl) ?_
              intro rh11 h11 hph11 kkh11
              obtain ⟨rfl, wh11, gh11⟩ := hph11
              have oh11 : Ow h11 (dayV (daysV v p)) u w g B z κ := o9.now wh11 gh11
              have fh11 : Fr 0 63 h h11 := f9.tr (gh11.mono (by omega) (by omega))
              have kh11 : xK h11 = xK h := (kkh11).trans k9
              refine r_iadd C (dx dX6_days 21 rfl) ?_
              refine r_istore_n (ls' := [(0, vr 6 0), (1, vi (nI ν)), (2, vi ((daysS v p) + (worthS (daysV v p) (dayP (daysV v p))))), (3, vi (nI p))]) C (dx dX6_days 22 rfl) (by decide) [1, 2, 0, 3] rfl ?_
              refine rn_iinc (a := p) (k := 1) (ls' := [(0, vr 6 0), (1, vi (nI ν)), (2, vi ((daysS v p) + (worthS (daysV v p) (dayP (daysV v p))))), (3, vi (nI (p + 1)))]) C (dx dX6_days 23 rfl) rfl rfl (by decide) [1, 2, 3, 0] rfl ?_
              refine r_goto (tgt := 22) C (dx dX6_days 24 rfl) (by decide) ?_
              exact ih h11 oh11 fh11 kh11)
    ·
      have c3 : ¬ n ≤ nI 60 := c3
      refine r_aload_n C (dx dX6_days 6 rfl) rfl ?_
      refine r_bipush (v := -2) C (dx dX6_days 7 rfl) rfl ?_
      refine r_cv (as := [vi (-2)]) (st := []) C X I_X6_refuse l_X6_76 (c_X6_refuse (-2)) (by decide) (Nat.le_of_ble_eq_true rfl) List.prefix_rfl List.prefix_rfl rfl rfl (Nat.le_of_ble_eq_true rfl) rfl (dx dX6_days 8 rfl) ?_
      intro rh12 h12 hph12 kkh12
      obtain ⟨rfl, gh12⟩ := hph12
      have oh12 : Ow h12 v u w g B z κ := o.ref gh12
      have fh12 : Fr 0 63 h h12 := gh12.mono (by omega) (by omega)
      have kh12 : xK h12 = xK h := kkh12
      have eA : daysA v n = -2 := by simp [daysA, daysX, dysB, c1, c3, (inR_gt (n := 60) (by omega) (Int32.not_le.mp c3) : inR n 61 = false), (Int32.not_le.mp c3)]
      have eV : daysX v n = v := by simp [daysA, daysX, dysB, c1, c3, (inR_gt (n := 60) (by omega) (Int32.not_le.mp c3) : inR n 61 = false), (Int32.not_le.mp c3)]
      exact F.1 _ _ _ _ _ rfl rfl (dx dX6_days 9 rfl) kh12 (show some (vi (-2)) = some (vi (daysA v n)) ∧ OwX h h12 (daysX v n) w g B z κ from by rw [eA, eV]; exact ⟨rfl, ⟨_, oh12⟩, fh12⟩)
set_option maxHeartbeats 4000000 in
theorem x_back {l : Launch} {h : Hp} {v u w : Vg} {g : Sg} {B : Nat → Int32} {z : Nat} {κ : Int32} (o : Ow h v u w g B z κ) (hg : GOk g)  : Ms l yX6_back cX6_back 1 (some .int) 20 [vr 6 0] h (xK h) (fun r h' => r = some (vi (backA κ)) ∧ OwX h h' (if κ = 0 then v else w) w g B z κ) := by
  refine Ms.of (by decide) (Nat.le_of_ble_eq_true rfl) (fun G C X F => ?_)
  have C : Cx G cX6_back 1 RX6 := C
  show Rr G 0 [(0, vr 6 0)] [] h
  have bP := o.pv.bP
  have bM := o.pv.bM
  have bN := o.pv.bN
  have bz := o.pt.2.2
  refine r_aload_n C (dx dX6_back 0 rfl) rfl ?_
  refine g_X6_22 (x := κ) C (dx dX6_back 1 rfl) o.pk ?_
  refine r_if_ne (tgt := 14) C (dx dX6_back 2 rfl) (by decide) (fun c1 => ?_) (fun c1 => ?_)
  ·
    have c1 : ¬ κ = 0 := c1
    refine r_aload_n C (dx dX6_back 7 rfl) rfl ?_
    refine g_X6_10 C (dx dX6_back 8 rfl) ?_
    refine r_aload_n C (dx dX6_back 9 rfl) rfl ?_
    refine g_X6_19 C (dx dX6_back 10 rfl) ?_
    refine r_cv (as := [vr 5 19]) (st := []) C X I_X5_takeOver l_X6_191 (c_X5_takeOver o.pv o.pw (by omega)) (by decide) (Nat.le_of_ble_eq_true rfl) List.prefix_rfl List.prefix_rfl rfl rfl (Nat.le_of_ble_eq_true rfl) rfl (dx dX6_back 11 rfl) ?_
    intro rh2 h2 hph2 kkh2
    obtain ⟨rfl, wh2, gh2⟩ := hph2
    have oh2 : Ow h2 w u w g B z κ := o.now wh2 gh2
    have fh2 : Fr 0 63 h h2 := gh2.mono (by omega) (by omega)
    have kh2 : xK h2 = xK h := kkh2
    refine r_iconst (v := nI 1) C (dx dX6_back 12 rfl) rfl ?_
    have eA : backA κ = nI 1 := by simp [backA, c1]
    have eV : (if κ = 0 then v else w) = w := by simp [backA, c1]
    exact F.1 _ _ _ _ _ rfl rfl (dx dX6_back 13 rfl) kh2 (show some (vi (nI 1)) = some (vi (backA κ)) ∧ OwX h h2 (if κ = 0 then v else w) w g B z κ from by rw [eA, eV]; exact ⟨rfl, ⟨_, oh2⟩, fh2⟩)
  ·
    have c1 : κ = 0 := c1
    refine r_aload_n C (dx dX6_back 3 rfl) rfl ?_
    refine r_bipush (v := -5) C (dx dX6_back 4 rfl) rfl ?_
    refine r_cv (as := [vi (-5)]) (st := []) C X I_X6_refuse l_X6_76 (c_X6_refuse (-5)) (by decide) (Nat.le_of_ble_eq_true rfl) List.prefix_rfl List.prefix_rfl rfl rfl (Nat.le_of_ble_eq_true rfl) rfl (dx dX6_back 5 rfl) ?_
    intro rh3 h3 hph3 kkh3
    obtain ⟨rfl, gh3⟩ := hph3
    have oh3 : Ow h3 v u w g B z κ := o.ref gh3
    have fh3 : Fr 0 63 h h3 := gh3.mono (by omega) (by omega)
    have kh3 : xK h3 = xK h := kkh3
    have eA : backA κ = -5 := by simp [backA, c1]
    have eV : (if κ = 0 then v else w) = v := by simp [backA, c1]
    exact F.1 _ _ _ _ _ rfl rfl (dx dX6_back 6 rfl) kh3 (show some (vi (-5)) = some (vi (backA κ)) ∧ OwX h h3 (if κ = 0 then v else w) w g B z κ from by rw [eA, eV]; exact ⟨rfl, ⟨_, oh3⟩, fh3⟩)
