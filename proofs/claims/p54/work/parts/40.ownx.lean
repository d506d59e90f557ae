/-! PART 45: the class: its calls, with the village that comes of them -/
def OwX (h h' : Hp) (v w : Vg) (g : Sg) (B : Nat → Int32) (z : Nat) (κ : Int32) : Prop := (∃ u, Ow h' v u w g B z κ) ∧ Fr 0 63 h h'
def partV (v : Vg) : Vg := if vP v < 12 then addPartV v else v
def partA (v : Vg) : Int32 := if vP v < 12 then nI (vP v) else -6
def machB (v : Vg) (x y : Int32) : Bool := (!decide (x = 0) && inR x (2 ^ vP v)) && (!decide (y < nI 1) && !decide (nI 99 < y))
def machV (v : Vg) (x y : Int32) : Vg := if machB v x y = true then (if vM v < 6 then addMacV v x y else v) else v
def machA (v : Vg) (x y : Int32) : Int32 := if machB v x y = true then (if vM v < 6 then nI (vM v) else -6) else -2
def oneB (x y : Int32) : Bool := (!decide (x < 0) && !decide (nI 9 < x)) && (!decide (y < 0) && !decide (nI 10 < y))
def oneV (v : Vg) (x y : Int32) : Vg := if oneB x y = true then (if vN v < 8 then addOneV v x y else v) else v
def oneAn (v : Vg) (x y : Int32) : Int32 := if oneB x y = true then (if vN v < 8 then nI (vN v) else -6) else -2
def awayB (v : Vg) (o x : Int32) : Bool := inR o (vN v) && (!decide (x < 0) && !decide (nI 10 < x))
def awayV (v : Vg) (o x : Int32) : Vg := if awayB v o x = true then vset v 5 o.toNatClampNeg x else v
def awayA (v : Vg) (o x : Int32) : Int32 := if awayB v o x = true then vF v 5 o.toNatClampNeg else -2
def crossV (v : Vg) (o : Int32) (b : Bool) : Vg := if inR o (vN v) = true then (if vF v 6 o.toNatClampNeg = b2i b then v else vset v 6 o.toNatClampNeg (b2i b)) else v
def crossA (v : Vg) (o : Int32) (b : Bool) : Int32 := if inR o (vN v) = true then (if vF v 6 o.toNatClampNeg = b2i b then nI 0 else nI 1) else -2
theorem vpn_b (b : Bool) : vp_nar .boolean (b2i b) = b2i b := by cases b <;> rfl
def giveF (v : Vg) (p o : Int32) (c : Nat) : Int32 := if (inR p (vP v) && (decide (o = -1) || inR o (vN v))) = true then (if (!decide (o = -1) && (!decide (o = vF v c p.toNatClampNeg) && !hasRm v o)) = true then -5 else 0) else -2
def giveV (v : Vg) (p o : Int32) (b : Bool) : Vg := if giveF v p o (cond b 1 0) = 0 then vset v (cond b 1 0) p.toNatClampNeg o else v
def giveA (v : Vg) (p o : Int32) (b : Bool) : Int32 := if giveF v p o (cond b 1 0) = 0 then vF v (cond b 1 0) p.toNatClampNeg else giveF v p o (cond b 1 0)
def daysV (v : Vg) : Nat → Vg
  | 0 => v
  | n + 1 => dayV (daysV v n)
def daysS (v : Vg) : Nat → Int32
  | 0 => nI 0
  | n + 1 => daysS v n + worthS (daysV v n) (dayP (daysV v n))
def dysB (n : Int32) : Bool := !decide (n < nI 1) && !decide (nI 60 < n)
def daysX (v : Vg) (n : Int32) : Vg := if dysB n = true then daysV v n.toNatClampNeg else v
def daysA (v : Vg) (n : Int32) : Int32 := if dysB n = true then daysS v n.toNatClampNeg else -2
def swapV (v : Vg) (p q : Int32) : Vg := if (inR p (vP v) && inR q (vP v)) = true then (if vF v 0 p.toNatClampNeg = vF v 0 q.toNatClampNeg then v else vset (vset v 0 p.toNatClampNeg (vF v 0 q.toNatClampNeg)) 0 q.toNatClampNeg (vF v 0 p.toNatClampNeg)) else v
def swapA (v : Vg) (p q : Int32) : Int32 := if (inR p (vP v) && inR q (vP v)) = true then (if vF v 0 p.toNatClampNeg = vF v 0 q.toNatClampNeg then nI 0 else nI 1) else -2
set_option maxHeartbeats 4000000 in
theorem x_row {l : Launch} {h : Hp} {v u w : Vg} {g : Sg} {B : Nat → Int32} {z : Nat} {κ : Int32} (o : Ow h v u w g B z κ) (hg : GOk g) (s t n : Int32) : Ms l yX6_row cX6_row 4 (some .int) 20 [vr 6 0, vi s, vi t, vi n] h (xK h) (fun r h' => r = some (vi (rowA s t n)) ∧ OwX h h' v w (rowG g s t n) B z κ) := by
  refine Ms.of (by decide) (Nat.le_of_ble_eq_true rfl) (fun G C X F => ?_)
  have C : Cx G cX6_row 4 RX6 := C
  show Rr G 0 [(0, vr 6 0), (1, vi s), (2, vi t), (3, vi n)] [] h
  have bP := o.pv.bP
  have bM := o.pv.bM
  have bN := o.pv.bN
  have bz := o.pt.2.2
  refine r_aload_n C (dx dX6_row 0 rfl) rfl ?_
  refine g_X6_57 C (dx dX6_row 1 rfl) ?_
  refine r_iload_n C (dx dX6_row 2 rfl) rfl ?_
  refine r_cvP (as := [vi s]) (st := []) (v := vi (b2i (inR s 8))) C X I_X2_isShelf l_X6_72 (c_X2_isShelf _) (by decide) (Nat.le_of_ble_eq_true rfl) List.prefix_rfl rfl rfl (Nat.le_of_ble_eq_true rfl) rfl (dx dX6_row 3 rfl) ?_
  refine rb_eq (b := inR s 8) (tgt := 30) C (dx dX6_row 4 rfl) (by decide) (fun c1 => ?_) (fun c1 => ?_)
  ·
    have c1 : (inR s 8) = false := c1
    refine r_aload_n C (dx dX6_row 15 rfl) rfl ?_
    refine r_bipush (v := -2) C (dx dX6_row 16 rfl) rfl ?_
    refine r_cv (as := [vi (-2)]) (st := []) C X I_X6_refuse l_X6_76 (c_X6_refuse (-2)) (by decide) (Nat.le_of_ble_eq_true rfl) List.prefix_rfl List.prefix_rfl rfl rfl (Nat.le_of_ble_eq_true rfl) rfl (dx dX6_row 17 rfl) ?_
    intro rh2 h2 hph2 kkh2
    obtain ⟨rfl, gh2⟩ := hph2
    have oh2 : Ow h2 v u w g B z κ := o.ref gh2
    have fh2 : Fr 0 63 h h2 := gh2.mono (by omega) (by omega)
    have kh2 : xK h2 = xK h := kkh2
    have eA : rowA s t n = -2 := by simp [rowA, rowG, rowB9, c1]
    have eG : rowG g s t n = g := by simp [rowA, rowG, rowB9, c1]
    exact F.1 _ _ _ _ _ rfl rfl (dx dX6_row 18 rfl) kh2 (show some (vi (-2)) = some (vi (rowA s t n)) ∧ OwX h h2 v w (rowG g s t n) B z κ from by rw [eA, eG]; exact ⟨rfl, ⟨_, oh2⟩, fh2⟩)
  ·
    have c1 : (inR s 8) = true := c1
    obtain ⟨σ, hσ, rfl⟩ := inR_ex (n := 8) (by omega) c1
    refine r_iload_n C (dx dX6_row 5 rfl) rfl ?_
    refine r_if_lt (tgt := 30) C (dx dX6_row 6 rfl) (by decide) (fun c3 => ?_) (fun c3 => ?_)
    ·
      have c3 : t < 0 := c3
      refine r_aload_n C (dx dX6_row 15 rfl) rfl ?_
      refine r_bipush (v := -2) C (dx dX6_row 16 rfl) rfl ?_
      refine r_cv (as := [vi (-2)]) (st := []) C X I_X6_refuse l_X6_76 (c_X6_refuse (-2)) (by decide) (Nat.le_of_ble_eq_true rfl) List.prefix_rfl List.prefix_rfl rfl rfl (Nat.le_of_ble_eq_true rfl) rfl (dx dX6_row 17 rfl) ?_
      intro rh4 h4 hph4 kkh4
      obtain ⟨rfl, gh4⟩ := hph4
      have oh4 : Ow h4 v u w g B z κ := o.ref gh4
      have fh4 : Fr 0 63 h h4 := gh4.mono (by omega) (by omega)
      have kh4 : xK h4 = xK h := kkh4
      have eA : rowA (nI σ) t n = -2 := by simp [rowA, rowG, rowB9, clN (show σ < 2 ^ 31 by omega), inR_nI (show σ < 2 ^ 31 by omega), show σ < 8 by omega, c1, (fun n9 => inR_neg (n := n9) c3 : ∀ n9, inR t n9 = false), c3]
      have eG : rowG g (nI σ) t n = g := by simp [rowA, rowG, rowB9, clN (show σ < 2 ^ 31 by omega), inR_nI (show σ < 2 ^ 31 by omega), show σ < 8 by omega, c1, (fun n9 => inR_neg (n := n9) c3 : ∀ n9, inR t n9 = false), c3]
      exact F.1 _ _ _ _ _ rfl rfl (dx dX6_row 18 rfl) kh4 (show some (vi (-2)) = some (vi (rowA (nI σ) t n)) ∧ OwX h h4 v w (rowG g (nI σ) t n) B z κ from by rw [eA, eG]; exact ⟨rfl, ⟨_, oh4⟩, fh4⟩)
    ·
      have c3 : ¬ t < 0 := c3
      refine r_iload_n C (dx dX6_row 7 rfl) rfl ?_
      refine r_iconst (v := nI 4) C (dx dX6_row 8 rfl) rfl ?_
      refine r_icmp_gt (tgt := 30) C (dx dX6_row 9 rfl) (by decide) (fun c5 => ?_) (fun c5 => ?_)
      ·
        have c5 : nI 4 < t := c5
        refine r_aload_n C (dx dX6_row 15 rfl) rfl ?_
        refine r_bipush (v := -2) C (dx dX6_row 16 rfl) rfl ?_
        refine r_cv (as := [vi (-2)]) (st := []) C X I_X6_refuse l_X6_76 (c_X6_refuse (-2)) (by decide) (Nat.le_of_ble_eq_true rfl) List.prefix_rfl List.prefix_rfl rfl rfl (Nat.le_of_ble_eq_true rfl) rfl (dx dX6_row 17 rfl) ?_
        intro rh6 h6 hph6 kkh6
        obtain ⟨rfl, gh6⟩ := hph6
        have oh6 : Ow h6 v u w g B z κ := o.ref gh6
        have fh6 : Fr 0 63 h h6 := gh6.mono (by omega) (by omega)
        have kh6 : xK h6 = xK h := kkh6
        have eA : rowA (nI σ) t n = -2 := by simp [rowA, rowG, rowB9, clN (show σ < 2 ^ 31 by omega), inR_nI (show σ < 2 ^ 31 by omega), show σ < 8 by omega, c1, c3, (inR_gt (n := 4) (by omega) c5 : inR t 5 = false), c5]
        have eG : rowG g (nI σ) t n = g := by simp [rowA, rowG, rowB9, clN (show σ < 2 ^ 31 by omega), inR_nI (show σ < 2 ^ 31 by omega), show σ < 8 by omega, c1, c3, (inR_gt (n := 4) (by omega) c5 : inR t 5 = false), c5]
        exact F.1 _ _ _ _ _ rfl rfl (dx dX6_row 18 rfl) kh6 (show some (vi (-2)) = some (vi (rowA (nI σ) t n)) ∧ OwX h h6 v w (rowG g (nI σ) t n) B z κ from by rw [eA, eG]; exact ⟨rfl, ⟨_, oh6⟩, fh6⟩)
      ·
        have c5 : ¬ nI 4 < t := c5
        obtain ⟨τ, hτ, rfl⟩ := btw0 (b := 4) (by omega) c3 c5
        refine r_iload_n C (dx dX6_row 10 rfl) rfl ?_
        refine r_if_lt (tgt := 30) C (dx dX6_row 11 rfl) (by decide) (fun c7 => ?_) (fun c7 => ?_)
        ·
          have c7 : n < 0 := c7
          refine r_aload_n C (dx dX6_row 15 rfl) rfl ?_
          refine r_bipush (v := -2) C (dx dX6_row 16 rfl) rfl ?_
          refine r_cv (as := [vi (-2)]) (st := []) C X I_X6_refuse l_X6_76 (c_X6_refuse (-2)) (by decide) (Nat.le_of_ble_eq_true rfl) List.prefix_rfl List.prefix_rfl rfl rfl (Nat.le_of_ble_eq_true rfl) rfl (dx dX6_row 17 rfl) ?_
          intro rh8 h8 hph8 kkh8
          obtain ⟨rfl, gh8⟩ := hph8
          have oh8 : Ow h8 v u w g B z κ := o.ref gh8
          have fh8 : Fr 0 63 h h8 := gh8.mono (by omega) (by omega)
          have kh8 : xK h8 = xK h := kkh8
          have eA : rowA (nI σ) (nI τ) n = -2 := by simp [rowA, rowG, rowB9, clN (show σ < 2 ^ 31 by omega), clN (show τ < 2 ^ 31 by omega), inR_nI (show σ < 2 ^ 31 by omega), inR_nI (show τ < 2 ^ 31 by omega), show σ < 8 by omega, show τ < 5 by omega, c1, c3, c5, (fun n9 => inR_neg (n := n9) c7 : ∀ n9, inR n n9 = false), c7]
          have eG : rowG g (nI σ) (nI τ) n = g := by simp [rowA, rowG, rowB9, clN (show σ < 2 ^ 31 by omega), clN (show τ < 2 ^ 31 by omega), inR_nI (show σ < 2 ^ 31 by omega), inR_nI (show τ < 2 ^ 31 by omega), show σ < 8 by omega, show τ < 5 by omega, c1, c3, c5, (fun n9 => inR_neg (n := n9) c7 : ∀ n9, inR n n9 = false), c7]
          exact F.1 _ _ _ _ _ rfl rfl (dx dX6_row 18 rfl) kh8 (show some (vi (-2)) = some (vi (rowA (nI σ) (nI τ) n)) ∧ OwX h h8 v w (rowG g (nI σ) (nI τ) n) B z κ from by rw [eA, eG]; exact ⟨rfl, ⟨_, oh8⟩, fh8⟩)
        ·
          have c7 : ¬ n < 0 := c7
          refine r_iload_n C (dx dX6_row 12 rfl) rfl ?_
          refine r_bipush (v := nI 40) C (dx dX6_row 13 rfl) rfl ?_
          refine r_icmp_le (tgt := 37) C (dx dX6_row 14 rfl) (by decide) (fun c9 => ?_) (fun c9 => ?_)
          ·
            have c9 : n ≤ nI 40 := c9
            obtain ⟨ν, hν, rfl⟩ := btw0 (b := 40) (by omega) c7 (Int32.not_lt.mpr c9)
            refine r_aload_n C (dx dX6_row 19 rfl) rfl ?_
            refine g_X6_57 C (dx dX6_row 20 rfl) ?_
            refine r_iload_n C (dx dX6_row 21 rfl) rfl ?_
            refine r_iload_n C (dx dX6_row 22 rfl) rfl ?_
            refine r_iload_n C (dx dX6_row 23 rfl) rfl ?_
            refine r_cv (as := [vi (nI σ), vi (nI τ), vi (nI ν)]) (st := []) C X I_X2_putRow l_X6_80 (c_X2_putRow o.pg (by omega) (by omega) _) (by decide) (Nat.le_of_ble_eq_true rfl) List.prefix_rfl List.prefix_rfl rfl rfl (Nat.le_of_ble_eq_true rfl) rfl (dx dX6_row 24 rfl) ?_
            intro rh10 h10 hph10 kkh10
            obtain ⟨rfl, wh10, gh10⟩ := hph10
            have oh10 : Ow h10 v u w (pRow g σ (nI τ) ν) B z κ := o.she wh10 gh10
            have fh10 : Fr 0 63 h h10 := gh10.mono (by omega) (by omega)
            have kh10 : xK h10 = xK h := kkh10
            refine r_iconst (v := nI 1) C (dx dX6_row 25 rfl) rfl ?_
            have eA : rowA (nI σ) (nI τ) (nI ν) = nI 1 := by simp [rowA, rowG, rowB9, clN (show σ < 2 ^ 31 by omega), clN (show τ < 2 ^ 31 by omega), clN (show ν < 2 ^ 31 by omega), inR_nI (show σ < 2 ^ 31 by omega), inR_nI (show τ < 2 ^ 31 by omega), inR_nI (show ν < 2 ^ 31 by omega), show σ < 8 by omega, show τ < 5 by omega, show ν < 41 by omega, c1, c3, c5, c7, c9, (Int32.not_lt.mpr c9)]
            have eG : rowG g (nI σ) (nI τ) (nI ν) = pRow g σ (nI τ) ν := by simp [rowA, rowG, rowB9, clN (show σ < 2 ^ 31 by omega), clN (show τ < 2 ^ 31 by omega), clN (show ν < 2 ^ 31 by omega), inR_nI (show σ < 2 ^ 31 by omega), inR_nI (show τ < 2 ^ 31 by omega), inR_nI (show ν < 2 ^ 31 by omega), show σ < 8 by omega, show τ < 5 by omega, show ν < 41 by omega, c1, c3, c5, c7, c9, (Int32.not_lt.mpr c9)]
            exact F.1 _ _ _ _ _ rfl rfl (dx dX6_row 26 rfl) kh10 (show some (vi (nI 1)) = some (vi (rowA (nI σ) (nI τ) (nI ν))) ∧ OwX h h10 v w (rowG g (nI σ) (nI τ) (nI ν)) B z κ from by rw [eA, eG]; exact ⟨rfl, ⟨_, oh10⟩, fh10⟩)
          ·
            have c9 : ¬ n ≤ nI 40 := c9
            refine r_aload_n C (dx dX6_row 15 rfl) rfl ?_
            refine r_bipush (v := -2) C (dx dX6_row 16 rfl) rfl ?_
            refine r_cv (as := [vi (-2)]) (st := []) C X I_X6_refuse l_X6_76 (c_X6_refuse (-2)) (by decide) (Nat.le_of_ble_eq_true rfl) List.prefix_rfl List.prefix_rfl rfl rfl (Nat.le_of_ble_eq_true rfl) rfl (dx dX6_row 17 rfl) ?_
            intro rh11 h11 hph11 kkh11
            obtain ⟨rfl, gh11⟩ := hph11
            have oh11 : Ow h11 v u w g B z κ := o.ref gh11
            have fh11 : Fr 0 63 h h11 := gh11.mono (by omega) (by omega)
            have kh11 : xK h11 = xK h := kkh11
            have eA : rowA (nI σ) (nI τ) n = -2 := by simp [rowA, rowG, rowB9, clN (show σ < 2 ^ 31 by omega), clN (show τ < 2 ^ 31 by omega), inR_nI (show σ < 2 ^ 31 by omega), inR_nI (show τ < 2 ^ 31 by omega), show σ < 8 by omega, show τ < 5 by omega, c1, c3, c5, c7, c9, (inR_gt (n := 40) (by omega) (Int32.not_le.mp c9) : inR n 41 = false), (Int32.not_le.mp c9)]
            have eG : rowG g (nI σ) (nI τ) n = g := by simp [rowA, rowG, rowB9, clN (show σ < 2 ^ 31 by omega), clN (show τ < 2 ^ 31 by omega), inR_nI (show σ < 2 ^ 31 by omega), inR_nI (show τ < 2 ^ 31 by omega), show σ < 8 by omega, show τ < 5 by omega, c1, c3, c5, c7, c9, (inR_gt (n := 40) (by omega) (Int32.not_le.mp c9) : inR n 41 = false), (Int32.not_le.mp c9)]
            exact F.1 _ _ _ _ _ rfl rfl (dx dX6_row 18 rfl) kh11 (show some (vi (-2)) = some (vi (rowA (nI σ) (nI τ) n)) ∧ OwX h h11 v w (rowG g (nI σ) (nI τ) n) B z κ from by rw [eA, eG]; exact ⟨rfl, ⟨_, oh11⟩, fh11⟩)
set_option maxHeartbeats 4000000 in
theorem x_set {l : Launch} {h : Hp} {v u w : Vg} {g : Sg} {B : Nat → Int32} {z : Nat} {κ : Int32} (o : Ow h v u w g B z κ) (hg : GOk g) (s i : Int32) (x : Int64) : Ms l yX6_set cX6_set 6 (some .int) 20 [vr 6 0, vi s, vi i, vl x] h (xK h) (fun r h' => r = some (vi (setA g s i)) ∧ OwX h h' v w (setG g s i x) B z κ) := by
  refine Ms.of (by decide) (Nat.le_of_ble_eq_true rfl) (fun G C X F => ?_)
  have C : Cx G cX6_set 6 RX6 := C
  show Rr G 0 [(0, vr 6 0), (1, vi s), (2, vi i), (3, vl x)] [] h
  have bP := o.pv.bP
  have bM := o.pv.bM
  have bN := o.pv.bN
  have bz := o.pt.2.2
  refine r_aload_n C (dx dX6_set 0 rfl) rfl ?_
  refine g_X6_57 C (dx dX6_set 1 rfl) ?_
  refine r_iload_n C (dx dX6_set 2 rfl) rfl ?_
  refine r_cvP (as := [vi s]) (st := []) (v := vi (b2i (inR s 8))) C X I_X2_isShelf l_X6_72 (c_X2_isShelf _) (by decide) (Nat.le_of_ble_eq_true rfl) List.prefix_rfl rfl rfl (Nat.le_of_ble_eq_true rfl) rfl (dx dX6_set 3 rfl) ?_
  refine rb_ne (b := inR s 8) (tgt := 18) C (dx dX6_set 4 rfl) (by decide) (fun c1 => ?_) (fun c1 => ?_)
  ·
    have c1 : (inR s 8) = true := c1
    obtain ⟨σ, hσ, rfl⟩ := inR_ex (n := 8) (by omega) c1
    refine r_aload_n C (dx dX6_set 9 rfl) rfl ?_
    refine g_X6_57 C (dx dX6_set 10 rfl) ?_
    refine r_iload_n C (dx dX6_set 11 rfl) rfl ?_
    refine r_cvP (as := [vi (nI σ)]) (st := []) (v := vi (rfV g (nI σ))) C X I_X2_rowFault l_X6_84 (c_X2_rowFault o.pg _) (by decide) (Nat.le_of_ble_eq_true rfl) List.prefix_rfl rfl rfl (Nat.le_of_ble_eq_true rfl) rfl (dx dX6_set 12 rfl) ?_
    refine r_istore (ls' := [(0, vr 6 0), (1, vi (nI σ)), (2, vi i), (3, vl x), (5, vi (rfV g (nI σ)))]) C (dx dX6_set 13 rfl) (by decide) [1, 2, 3, 4, 0] rfl ?_
    refine r_iload C (dx dX6_set 14 rfl) rfl ?_
    refine r_if_eq (tgt := 40) C (dx dX6_set 15 rfl) (by decide) (fun c2 => ?_) (fun c2 => ?_)
    ·
      have c2 : rfV g (nI σ) = 0 := c2
      refine r_iload_n C (dx dX6_set 20 rfl) rfl ?_
      refine r_if_lt (tgt := 56) C (dx dX6_set 21 rfl) (by decide) (fun c3 => ?_) (fun c3 => ?_)
      ·
        have c3 : i < 0 := c3
        refine r_aload_n C (dx dX6_set 28 rfl) rfl ?_
        refine r_bipush (v := -2) C (dx dX6_set 29 rfl) rfl ?_
        refine r_cv (as := [vi (-2)]) (st := []) C X I_X6_refuse l_X6_76 (c_X6_refuse (-2)) (by decide) (Nat.le_of_ble_eq_true rfl) List.prefix_rfl List.prefix_rfl rfl rfl (Nat.le_of_ble_eq_true rfl) rfl (dx dX6_set 30 rfl) ?_
        intro rh4 h4 hph4 kkh4
        obtain ⟨rfl, gh4⟩ := hph4
        have oh4 : Ow h4 v u w g B z κ := o.ref gh4
        have fh4 : Fr 0 63 h h4 := gh4.mono (by omega) (by omega)
        have kh4 : xK h4 = xK h := kkh4
        have eA : setA g (nI σ) i = -2 := by simp [setA, setG, setB, clN (show σ < 2 ^ 31 by omega), inR_nI (show σ < 2 ^ 31 by omega), show σ < 8 by omega, c1, c2, (fun n9 => inR_neg (n := n9) c3 : ∀ n9, inR i n9 = false), c3]
        have eG : setG g (nI σ) i x = g := by simp [setA, setG, setB, clN (show σ < 2 ^ 31 by omega), inR_nI (show σ < 2 ^ 31 by omega), show σ < 8 by omega, c1, c2, (fun n9 => inR_neg (n := n9) c3 : ∀ n9, inR i n9 = false), c3]
        exact F.1 _ _ _ _ _ rfl rfl (dx dX6_set 31 rfl) kh4 (show some (vi (-2)) = some (vi (setA g (nI σ) i)) ∧ OwX h h4 v w (setG g (nI σ) i x) B z κ from by rw [eA, eG]; exact ⟨rfl, ⟨_, oh4⟩, fh4⟩)
      ·
        have c3 : ¬ i < 0 := c3
        refine r_iload_n C (dx dX6_set 22 rfl) rfl ?_
        refine r_aload_n C (dx dX6_set 23 rfl) rfl ?_
        refine g_X6_57 C (dx dX6_set 24 rfl) ?_
        refine r_iload_n C (dx dX6_set 25 rfl) rfl ?_
        refine r_cvP (as := [vi (nI σ)]) (st := [vi i]) (v := vi (szV g (nI σ))) C X I_X2_sizeOf l_X6_87 (c_X2_sizeOf o.pg _) (by decide) (Nat.le_of_ble_eq_true rfl) List.prefix_rfl rfl rfl (Nat.le_of_ble_eq_true rfl) rfl (dx dX6_set 26 rfl) ?_
        refine r_icmp_lt (tgt := 63) C (dx dX6_set 27 rfl) (by decide) (fun c5 => ?_) (fun c5 => ?_)
        ·
          have c5 : i < szV g (nI σ) := c5
          refine r_aload_n C (dx dX6_set 32 rfl) rfl ?_
          refine g_X6_57 C (dx dX6_set 33 rfl) ?_
          refine r_iload_n C (dx dX6_set 34 rfl) rfl ?_
          refine r_iload_n C (dx dX6_set 35 rfl) rfl ?_
          refine r_lload_n C (dx dX6_set 36 rfl) rfl ?_
          refine r_cv (as := [vi (nI σ), vi i, vl x]) (st := []) C X I_X2_putElement l_X6_90 (c_X2_putElement o.pg hg.1 (by omega) _ _) (by decide) (Nat.le_of_ble_eq_true rfl) List.prefix_rfl List.prefix_rfl rfl rfl (Nat.le_of_ble_eq_true rfl) rfl (dx dX6_set 37 rfl) ?_
          intro rh6 h6 hph6 kkh6
          obtain ⟨rfl, wh6, gh6⟩ := hph6
          have oh6 : Ow h6 v u w (pEl g σ i x) B z κ := o.she wh6 gh6
          have fh6 : Fr 0 63 h h6 := gh6.mono (by omega) (by omega)
          have kh6 : xK h6 = xK h := kkh6
          refine r_iconst (v := nI 1) C (dx dX6_set 38 rfl) rfl ?_
          have eA : setA g (nI σ) i = nI 1 := by simp [setA, setG, setB, clN (show σ < 2 ^ 31 by omega), inR_nI (show σ < 2 ^ 31 by omega), show σ < 8 by omega, c1, c2, c3, c5]
          have eG : setG g (nI σ) i x = pEl g σ i x := by simp [setA, setG, setB, clN (show σ < 2 ^ 31 by omega), inR_nI (show σ < 2 ^ 31 by omega), show σ < 8 by omega, c1, c2, c3, c5]
          exact F.1 _ _ _ _ _ rfl rfl (dx dX6_set 39 rfl) kh6 (show some (vi (nI 1)) = some (vi (setA g (nI σ) i)) ∧ OwX h h6 v w (setG g (nI σ) i x) B z κ from by rw [eA, eG]; exact ⟨rfl, ⟨_, oh6⟩, fh6⟩)
        ·
          have c5 : ¬ i < szV g (nI σ) := c5
          refine r_aload_n C (dx dX6_set 28 rfl) rfl ?_
          refine r_bipush (v := -2) C (dx dX6_set 29 rfl) rfl ?_
          refine r_cv (as := [vi (-2)]) (st := []) C X I_X6_refuse l_X6_76 (c_X6_refuse (-2)) (by decide) (Nat.le_of_ble_eq_true rfl) List.prefix_rfl List.prefix_rfl rfl rfl (Nat.le_of_ble_eq_true rfl) rfl (dx dX6_set 30 rfl) ?_
          intro rh7 h7 hph7 kkh7
          obtain ⟨rfl, gh7⟩ := hph7
          have oh7 : Ow h7 v u w g B z κ := o.ref gh7
          have fh7 : Fr 0 63 h h7 := gh7.mono (by omega) (by omega)
          have kh7 : xK h7 = xK h := kkh7
          have eA : setA g (nI σ) i = -2 := by simp [setA, setG, setB, clN (show σ < 2 ^ 31 by omega), inR_nI (show σ < 2 ^ 31 by omega), show σ < 8 by omega, c1, c2, c3, c5]
          have eG : setG g (nI σ) i x = g := by simp [setA, setG, setB, clN (show σ < 2 ^ 31 by omega), inR_nI (show σ < 2 ^ 31 by omega), show σ < 8 by omega, c1, c2, c3, c5]
          exact F.1 _ _ _ _ _ rfl rfl (dx dX6_set 31 rfl) kh7 (show some (vi (-2)) = some (vi (setA g (nI σ) i)) ∧ OwX h h7 v w (setG g (nI σ) i x) B z κ from by rw [eA, eG]; exact ⟨rfl, ⟨_, oh7⟩, fh7⟩)
    ·
      have c2 : ¬ rfV g (nI σ) = 0 := c2
      refine r_aload_n C (dx dX6_set 16 rfl) rfl ?_
      refine r_iload C (dx dX6_set 17 rfl) rfl ?_
      refine r_cv (as := [vi (rfV g (nI σ))]) (st := []) C X I_X6_refuse l_X6_76 (c_X6_refuse (rfV g (nI σ))) (by decide) (Nat.le_of_ble_eq_true rfl) List.prefix_rfl List.prefix_rfl rfl rfl (Nat.le_of_ble_eq_true rfl) rfl (dx dX6_set 18 rfl) ?_
      intro rh8 h8 hph8 kkh8
      obtain ⟨rfl, gh8⟩ := hph8
      have oh8 : Ow h8 v u w g B z κ := o.ref gh8
      have fh8 : Fr 0 63 h h8 := gh8.mono (by omega) (by omega)
      have kh8 : xK h8 = xK h := kkh8
      have eA : setA g (nI σ) i = rfV g (nI σ) := by simp [setA, setG, setB, clN (show σ < 2 ^ 31 by omega), inR_nI (show σ < 2 ^ 31 by omega), show σ < 8 by omega, c1, c2]
      have eG : setG g (nI σ) i x = g := by simp [setA, setG, setB, clN (show σ < 2 ^ 31 by omega), inR_nI (show σ < 2 ^ 31 by omega), show σ < 8 by omega, c1, c2]
      exact F.1 _ _ _ _ _ rfl rfl (dx dX6_set 19 rfl) kh8 (show some (vi (rfV g (nI σ))) = some (vi (setA g (nI σ) i)) ∧ OwX h h8 v w (setG g (nI σ) i x) B z κ from by rw [eA, eG]; exact ⟨rfl, ⟨_, oh8⟩, fh8⟩)
  ·
    have c1 : (inR s 8) = false := c1
    refine r_aload_n C (dx dX6_set 5 rfl) rfl ?_
    refine r_bipush (v := -2) C (dx dX6_set 6 rfl) rfl ?_
    refine r_cv (as := [vi (-2)]) (st := []) C X I_X6_refuse l_X6_76 (c_X6_refuse (-2)) (by decide) (Nat.le_of_ble_eq_true rfl) List.prefix_rfl List.prefix_rfl rfl rfl (Nat.le_of_ble_eq_true rfl) rfl (dx dX6_set 7 rfl) ?_
    intro rh9 h9 hph9 kkh9
    obtain ⟨rfl, gh9⟩ := hph9
    have oh9 : Ow h9 v u w g B z κ := o.ref gh9
    have fh9 : Fr 0 63 h h9 := gh9.mono (by omega) (by omega)
    have kh9 : xK h9 = xK h := kkh9
    have eA : setA g s i = -2 := by simp [setA, setG, setB, c1]
    have eG : setG g s i x = g := by simp [setA, setG, setB, c1]
    exact F.1 _ _ _ _ _ rfl rfl (dx dX6_set 8 rfl) kh9 (show some (vi (-2)) = some (vi (setA g s i)) ∧ OwX h h9 v w (setG g s i x) B z κ from by rw [eA, eG]; exact ⟨rfl, ⟨_, oh9⟩, fh9⟩)
set_option maxHeartbeats 4000000 in
theorem x_element {l : Launch} {h : Hp} {v u w : Vg} {g : Sg} {B : Nat → Int32} {z : Nat} {κ : Int32} (o : Ow h v u w g B z κ) (hg : GOk g) (s i : Int32) : Ms l yX6_element cX6_element 3 (some .long) 20 [vr 6 0, vi s, vi i] h (xK h) (fun r h' => r = some (vl (elV g s i)) ∧ OwX h h' v w g B z κ) := by
  refine Ms.of (by decide) (Nat.le_of_ble_eq_true rfl) (fun G C X F => ?_)
  have C : Cx G cX6_element 3 RX6 := C
  show Rr G 0 [(0, vr 6 0), (1, vi s), (2, vi i)] [] h
  have bP := o.pv.bP
  have bM := o.pv.bM
  have bN := o.pv.bN
  have bz := o.pt.2.2
  refine r_aload_n C (dx dX6_element 0 rfl) rfl ?_
  refine g_X6_57 C (dx dX6_element 1 rfl) ?_
  refine r_iload_n C (dx dX6_element 2 rfl) rfl ?_
  refine r_iload_n C (dx dX6_element 3 rfl) rfl ?_
  refine r_cvP (as := [vi s, vi i]) (st := []) (v := vl (elV g s i)) C X I_X2_elementAt l_X6_107 (c_X2_elementAt o.pg hg.1 _ _) (by decide) (Nat.le_of_ble_eq_true rfl) List.prefix_rfl rfl rfl (Nat.le_of_ble_eq_true rfl) rfl (dx dX6_element 4 rfl) ?_
  exact F.2.1 _ _ _ _ rfl (dx dX6_element 5 rfl) rfl (show some (vl (elV g s i)) = some (vl (elV g s i)) ∧ OwX h h v w g B z κ from by exact ⟨rfl, ⟨_, o⟩, Fr.rf⟩)
set_option maxHeartbeats 4000000 in
theorem x_holds {l : Launch} {h : Hp} {v u w : Vg} {g : Sg} {B : Nat → Int32} {z : Nat} {κ : Int32} (o : Ow h v u w g B z κ) (hg : GOk g) (s : Int32) : Ms l yX6_holds cX6_holds 2 (some .int) 20 [vr 6 0, vi s] h (xK h) (fun r h' => r = some (vi (tOn g s)) ∧ OwX h h' v w g B z κ) := by
  refine Ms.of (by decide) (Nat.le_of_ble_eq_true rfl) (fun G C X F => ?_)
  have C : Cx G cX6_holds 2 RX6 := C
  show Rr G 0 [(0, vr 6 0), (1, vi s)] [] h
  have bP := o.pv.bP
  have bM := o.pv.bM
  have bN := o.pv.bN
  have bz := o.pt.2.2
  refine r_aload_n C (dx dX6_holds 0 rfl) rfl ?_
  refine g_X6_57 C (dx dX6_holds 1 rfl) ?_
  refine r_iload_n C (dx dX6_holds 2 rfl) rfl ?_
  refine r_cvP (as := [vi s]) (st := []) (v := vi (tOn g s)) C X I_X2_thingOn l_X6_100 (c_X2_thingOn o.pg _) (by decide) (Nat.le_of_ble_eq_true rfl) List.prefix_rfl rfl rfl (Nat.le_of_ble_eq_true rfl) rfl (dx dX6_holds 3 rfl) ?_
  exact F.1 _ _ _ _ _ rfl rfl (dx dX6_holds 4 rfl) rfl (show some (vi (tOn g s)) = some (vi (tOn g s)) ∧ OwX h h v w g B z κ from by exact ⟨rfl, ⟨_, o⟩, Fr.rf⟩)
set_option maxHeartbeats 4000000 in
theorem x_holding {l : Launch} {h : Hp} {v u w : Vg} {g : Sg} {B : Nat → Int32} {z : Nat} {κ : Int32} (o : Ow h v u w g B z κ) (hg : GOk g) (s k a : Int32) : Ms l yX6_holding cX6_holding 4 (some .int) 20 [vr 6 0, vi s, vi k, vi a] h (xK h) (fun r h' => r = some (vi (hldA s k a)) ∧ OwX h h' v w (hldG g s k a) B z κ) := by
  refine Ms.of (by decide) (Nat.le_of_ble_eq_true rfl) (fun G C X F => ?_)
  have C : Cx G cX6_holding 4 RX6 := C
  show Rr G 0 [(0, vr 6 0), (1, vi s), (2, vi k), (3, vi a)] [] h
  have bP := o.pv.bP
  have bM := o.pv.bM
  have bN := o.pv.bN
  have bz := o.pt.2.2
  refine r_aload_n C (dx dX6_holding 0 rfl) rfl ?_
  refine g_X6_57 C (dx dX6_holding 1 rfl) ?_
  refine r_iload_n C (dx dX6_holding 2 rfl) rfl ?_
  refine r_cvP (as := [vi s]) (st := []) (v := vi (b2i (inR s 8))) C X I_X2_isShelf l_X6_72 (c_X2_isShelf _) (by decide) (Nat.le_of_ble_eq_true rfl) List.prefix_rfl rfl rfl (Nat.le_of_ble_eq_true rfl) rfl (dx dX6_holding 3 rfl) ?_
  refine rb_eq (b := inR s 8) (tgt := 31) C (dx dX6_holding 4 rfl) (by decide) (fun c1 => ?_) (fun c1 => ?_)
  ·
    have c1 : (inR s 8) = false := c1
    refine r_aload_n C (dx dX6_holding 16 rfl) rfl ?_
    refine r_bipush (v := -2) C (dx dX6_holding 17 rfl) rfl ?_
    refine r_cv (as := [vi (-2)]) (st := []) C X I_X6_refuse l_X6_76 (c_X6_refuse (-2)) (by decide) (Nat.le_of_ble_eq_true rfl) List.prefix_rfl List.prefix_rfl rfl rfl (Nat.le_of_ble_eq_true rfl) rfl (dx dX6_holding 18 rfl) ?_
    intro rh2 h2 hph2 kkh2
    obtain ⟨rfl, gh2⟩ := hph2
    have oh2 : Ow h2 v u w g B z κ := o.ref gh2
    have fh2 : Fr 0 63 h h2 := gh2.mono (by omega) (by omega)
    have kh2 : xK h2 = xK h := kkh2
    have eA : hldA s k a = -2 := by simp [hldA, hldG, hldB, c1]
    have eG : hldG g s k a = g := by simp [hldA, hldG, hldB, c1]
    exact F.1 _ _ _ _ _ rfl rfl (dx dX6_holding 19 rfl) kh2 (show some (vi (-2)) = some (vi (hldA s k a)) ∧ OwX h h2 v w (hldG g s k a) B z κ from by rw [eA, eG]; exact ⟨rfl, ⟨_, oh2⟩, fh2⟩)
  ·
    have c1 : (inR s 8) = true := c1
    obtain ⟨σ, hσ, rfl⟩ := inR_ex (n := 8) (by omega) c1
    refine r_iload_n C (dx dX6_holding 5 rfl) rfl ?_
    refine r_iconst (v := nI 1) C (dx dX6_holding 6 rfl) rfl ?_
    refine r_icmp_lt (tgt := 31) C (dx dX6_holding 7 rfl) (by decide) (fun c3 => ?_) (fun c3 => ?_)
    ·
      have c3 : k < nI 1 := c3
      refine r_aload_n C (dx dX6_holding 16 rfl) rfl ?_
      refine r_bipush (v := -2) C (dx dX6_holding 17 rfl) rfl ?_
      refine r_cv (as := [vi (-2)]) (st := []) C X I_X6_refuse l_X6_76 (c_X6_refuse (-2)) (by decide) (Nat.le_of_ble_eq_true rfl) List.prefix_rfl List.prefix_rfl rfl rfl (Nat.le_of_ble_eq_true rfl) rfl (dx dX6_holding 18 rfl) ?_
      intro rh4 h4 hph4 kkh4
      obtain ⟨rfl, gh4⟩ := hph4
      have oh4 : Ow h4 v u w g B z κ := o.ref gh4
      have fh4 : Fr 0 63 h h4 := gh4.mono (by omega) (by omega)
      have kh4 : xK h4 = xK h := kkh4
      have eA : hldA (nI σ) k a = -2 := by simp [hldA, hldG, hldB, clN (show σ < 2 ^ 31 by omega), inR_nI (show σ < 2 ^ 31 by omega), show σ < 8 by omega, c1, c3]
      have eG : hldG g (nI σ) k a = g := by simp [hldA, hldG, hldB, clN (show σ < 2 ^ 31 by omega), inR_nI (show σ < 2 ^ 31 by omega), show σ < 8 by omega, c1, c3]
      exact F.1 _ _ _ _ _ rfl rfl (dx dX6_holding 19 rfl) kh4 (show some (vi (-2)) = some (vi (hldA (nI σ) k a)) ∧ OwX h h4 v w (hldG g (nI σ) k a) B z κ from by rw [eA, eG]; exact ⟨rfl, ⟨_, oh4⟩, fh4⟩)
    ·
      have c3 : ¬ k < nI 1 := c3
      refine r_iload_n C (dx dX6_holding 8 rfl) rfl ?_
      refine r_iconst (v := nI 5) C (dx dX6_holding 9 rfl) rfl ?_
      refine r_icmp_gt (tgt := 31) C (dx dX6_holding 10 rfl) (by decide) (fun c5 => ?_) (fun c5 => ?_)
      ·
        have c5 : nI 5 < k := c5
        refine r_aload_n C (dx dX6_holding 16 rfl) rfl ?_
        refine r_bipush (v := -2) C (dx dX6_holding 17 rfl) rfl ?_
        refine r_cv (as := [vi (-2)]) (st := []) C X I_X6_refuse l_X6_76 (c_X6_refuse (-2)) (by decide) (Nat.le_of_ble_eq_true rfl) List.prefix_rfl List.prefix_rfl rfl rfl (Nat.le_of_ble_eq_true rfl) rfl (dx dX6_holding 18 rfl) ?_
        intro rh6 h6 hph6 kkh6
        obtain ⟨rfl, gh6⟩ := hph6
        have oh6 : Ow h6 v u w g B z κ := o.ref gh6
        have fh6 : Fr 0 63 h h6 := gh6.mono (by omega) (by omega)
        have kh6 : xK h6 = xK h := kkh6
        have eA : hldA (nI σ) k a = -2 := by simp [hldA, hldG, hldB, clN (show σ < 2 ^ 31 by omega), inR_nI (show σ < 2 ^ 31 by omega), show σ < 8 by omega, c1, c3, (inR_gt (n := 5) (by omega) c5 : inR k 6 = false), c5]
        have eG : hldG g (nI σ) k a = g := by simp [hldA, hldG, hldB, clN (show σ < 2 ^ 31 by omega), inR_nI (show σ < 2 ^ 31 by omega), show σ < 8 by omega, c1, c3, (inR_gt (n := 5) (by omega) c5 : inR k 6 = false), c5]
        exact F.1 _ _ _ _ _ rfl rfl (dx dX6_holding 19 rfl) kh6 (show some (vi (-2)) = some (vi (hldA (nI σ) k a)) ∧ OwX h h6 v w (hldG g (nI σ) k a) B z κ from by rw [eA, eG]; exact ⟨rfl, ⟨_, oh6⟩, fh6⟩)
      ·
        have c5 : ¬ nI 5 < k := c5
        obtain ⟨η, hη, hη2, rfl⟩ := btw (a := 1) (b := 5) (by omega) (by omega) c3 c5
        refine r_iload_n C (dx dX6_holding 11 rfl) rfl ?_
        refine r_if_lt (tgt := 31) C (dx dX6_holding 12 rfl) (by decide) (fun c7 => ?_) (fun c7 => ?_)
        ·
          have c7 : a < 0 := c7
          refine r_aload_n C (dx dX6_holding 16 rfl) rfl ?_
          refine r_bipush (v := -2) C (dx dX6_holding 17 rfl) rfl ?_
          refine r_cv (as := [vi (-2)]) (st := []) C X I_X6_refuse l_X6_76 (c_X6_refuse (-2)) (by decide) (Nat.le_of_ble_eq_true rfl) List.prefix_rfl List.prefix_rfl rfl rfl (Nat.le_of_ble_eq_true rfl) rfl (dx dX6_holding 18 rfl) ?_
          intro rh8 h8 hph8 kkh8
          obtain ⟨rfl, gh8⟩ := hph8
          have oh8 : Ow h8 v u w g B z κ := o.ref gh8
          have fh8 : Fr 0 63 h h8 := gh8.mono (by omega) (by omega)
          have kh8 : xK h8 = xK h := kkh8
          have eA : hldA (nI σ) (nI η) a = -2 := by simp [hldA, hldG, hldB, clN (show σ < 2 ^ 31 by omega), clN (show η < 2 ^ 31 by omega), inR_nI (show σ < 2 ^ 31 by omega), inR_nI (show η < 2 ^ 31 by omega), show σ < 8 by omega, c1, c3, c5, (fun n9 => inR_neg (n := n9) c7 : ∀ n9, inR a n9 = false), c7]
          have eG : hldG g (nI σ) (nI η) a = g := by simp [hldA, hldG, hldB, clN (show σ < 2 ^ 31 by omega), clN (show η < 2 ^ 31 by omega), inR_nI (show σ < 2 ^ 31 by omega), inR_nI (show η < 2 ^ 31 by omega), show σ < 8 by omega, c1, c3, c5, (fun n9 => inR_neg (n := n9) c7 : ∀ n9, inR a n9 = false), c7]
          exact F.1 _ _ _ _ _ rfl rfl (dx dX6_holding 19 rfl) kh8 (show some (vi (-2)) = some (vi (hldA (nI σ) (nI η) a)) ∧ OwX h h8 v w (hldG g (nI σ) (nI η) a) B z κ from by rw [eA, eG]; exact ⟨rfl, ⟨_, oh8⟩, fh8⟩)
        ·
          have c7 : ¬ a < 0 := c7
          refine r_iload_n C (dx dX6_holding 13 rfl) rfl ?_
          refine r_bipush (v := nI 99) C (dx dX6_holding 14 rfl) rfl ?_
          refine r_icmp_le (tgt := 38) C (dx dX6_holding 15 rfl) (by decide) (fun c9 => ?_) (fun c9 => ?_)
          ·
            have c9 : a ≤ nI 99 := c9
            obtain ⟨α, hα, rfl⟩ := btw0 (b := 99) (by omega) c7 (Int32.not_lt.mpr c9)
            refine r_aload_n C (dx dX6_holding 20 rfl) rfl ?_
            refine g_X6_57 C (dx dX6_holding 21 rfl) ?_
            refine r_iload_n C (dx dX6_holding 22 rfl) rfl ?_
            refine r_iload_n C (dx dX6_holding 23 rfl) rfl ?_
            refine r_iload_n C (dx dX6_holding 24 rfl) rfl ?_
            refine r_cv (as := [vi (nI σ), vi (nI η), vi (nI α)]) (st := []) C X I_X2_putHolding l_X6_111 (c_X2_putHolding o.pg (by omega)) (by decide) (Nat.le_of_ble_eq_true rfl) List.prefix_rfl List.prefix_rfl rfl rfl (Nat.le_of_ble_eq_true rfl) rfl (dx dX6_holding 25 rfl) ?_
            intro rh10 h10 hph10 kkh10
            obtain ⟨rfl, wh10, gh10⟩ := hph10
            have oh10 : Ow h10 v u w (pHold g σ η α) B z κ := o.she wh10 gh10
            have fh10 : Fr 0 63 h h10 := gh10.mono (by omega) (by omega)
            have kh10 : xK h10 = xK h := kkh10
            refine r_iconst (v := nI 1) C (dx dX6_holding 26 rfl) rfl ?_
            have eA : hldA (nI σ) (nI η) (nI α) = nI 1 := by simp [hldA, hldG, hldB, clN (show σ < 2 ^ 31 by omega), clN (show η < 2 ^ 31 by omega), clN (show α < 2 ^ 31 by omega), inR_nI (show σ < 2 ^ 31 by omega), inR_nI (show η < 2 ^ 31 by omega), inR_nI (show α < 2 ^ 31 by omega), show σ < 8 by omega, show α < 100 by omega, c1, c3, c5, c7, c9, (Int32.not_lt.mpr c9)]
            have eG : hldG g (nI σ) (nI η) (nI α) = pHold g σ η α := by simp [hldA, hldG, hldB, clN (show σ < 2 ^ 31 by omega), clN (show η < 2 ^ 31 by omega), clN (show α < 2 ^ 31 by omega), inR_nI (show σ < 2 ^ 31 by omega), inR_nI (show η < 2 ^ 31 by omega), inR_nI (show α < 2 ^ 31 by omega), show σ < 8 by omega, show α < 100 by omega, c1, c3, c5, c7, c9, (Int32.not_lt.mpr c9)]
            exact F.1 _ _ _ _ _ rfl rfl (dx dX6_holding 27 rfl) kh10 (show some (vi (nI 1)) = some (vi (hldA (nI σ) (nI η) (nI α))) ∧ OwX h h10 v w (hldG g (nI σ) (nI η) (nI α)) B z κ from by rw [eA, eG]; exact ⟨rfl, ⟨_, oh10⟩, fh10⟩)
          ·
            have c9 : ¬ a ≤ nI 99 := c9
            refine r_aload_n C (dx dX6_holding 16 rfl) rfl ?_
            refine r_bipush (v := -2) C (dx dX6_holding 17 rfl) rfl ?_
            refine r_cv (as := [vi (-2)]) (st := []) C X I_X6_refuse l_X6_76 (c_X6_refuse (-2)) (by decide) (Nat.le_of_ble_eq_true rfl) List.prefix_rfl List.prefix_rfl rfl rfl (Nat.le_of_ble_eq_true rfl) rfl (dx dX6_holding 18 rfl) ?_
            intro rh11 h11 hph11 kkh11
            obtain ⟨rfl, gh11⟩ := hph11
            have oh11 : Ow h11 v u w g B z κ := o.ref gh11
            have fh11 : Fr 0 63 h h11 := gh11.mono (by omega) (by omega)
            have kh11 : xK h11 = xK h := kkh11
            have eA : hldA (nI σ) (nI η) a = -2 := by simp [hldA, hldG, hldB, clN (show σ < 2 ^ 31 by omega), clN (show η < 2 ^ 31 by omega), inR_nI (show σ < 2 ^ 31 by omega), inR_nI (show η < 2 ^ 31 by omega), show σ < 8 by omega, c1, c3, c5, c7, c9, (inR_gt (n := 99) (by omega) (Int32.not_le.mp c9) : inR a 100 = false), (Int32.not_le.mp c9)]
            have eG : hldG g (nI σ) (nI η) a = g := by simp [hldA, hldG, hldB, clN (show σ < 2 ^ 31 by omega), clN (show η < 2 ^ 31 by omega), inR_nI (show σ < 2 ^ 31 by omega), inR_nI (show η < 2 ^ 31 by omega), show σ < 8 by omega, c1, c3, c5, c7, c9, (inR_gt (n := 99) (by omega) (Int32.not_le.mp c9) : inR a 100 = false), (Int32.not_le.mp c9)]
            exact F.1 _ _ _ _ _ rfl rfl (dx dX6_holding 19 rfl) kh11 (show some (vi (-2)) = some (vi (hldA (nI σ) (nI η) a)) ∧ OwX h h11 v w (hldG g (nI σ) (nI η) a) B z κ from by rw [eA, eG]; exact ⟨rfl, ⟨_, oh11⟩, fh11⟩)
set_option maxHeartbeats 4000000 in
theorem x_wipe {l : Launch} {h : Hp} {v u w : Vg} {g : Sg} {B : Nat → Int32} {z : Nat} {κ : Int32} (o : Ow h v u w g B z κ) (hg : GOk g)  : Ms l yX6_wipe cX6_wipe 2 (some .int) 20 [vr 6 0] h (xK h) (fun r h' => r = some (vi (nI z)) ∧ OwX h h' v w g B 0 κ) := by
  refine Ms.of (by decide) (Nat.le_of_ble_eq_true rfl) (fun G C X F => ?_)
  have C : Cx G cX6_wipe 2 RX6 := C
  show Rr G 0 [(0, vr 6 0)] [] h
  have bP := o.pv.bP
  have bM := o.pv.bM
  have bN := o.pv.bN
  have bz := o.pt.2.2
  refine r_aload_n C (dx dX6_wipe 0 rfl) rfl ?_
  refine g_X6_50 C (dx dX6_wipe 1 rfl) ?_
  refine r_cvP (as := []) (st := []) (v := vi (nI z)) C X I_X3_length l_X6_182 (c_X3_length o.pt) (by decide) (Nat.le_of_ble_eq_true rfl) List.prefix_rfl rfl rfl (Nat.le_of_ble_eq_true rfl) rfl (dx dX6_wipe 2 rfl) ?_
  refine r_istore_n (ls' := [(0, vr 6 0), (1, vi (nI z))]) C (dx dX6_wipe 3 rfl) (by decide) [1, 0] rfl ?_
  refine r_aload_n C (dx dX6_wipe 4 rfl) rfl ?_
  refine g_X6_50 C (dx dX6_wipe 5 rfl) ?_
  refine r_cv (as := []) (st := []) C X I_X3_clear l_X6_188 (c_X3_clear o.pt) (by decide) (Nat.le_of_ble_eq_true rfl) List.prefix_rfl List.prefix_rfl rfl rfl (Nat.le_of_ble_eq_true rfl) rfl (dx dX6_wipe 6 rfl) ?_
  intro rh1 h1 hph1 kkh1
  obtain ⟨rfl, wh1, gh1⟩ := hph1
  have oh1 : Ow h1 v u w g B 0 κ := o.tap wh1 (gh1.mono (by omega) (by omega))
  have fh1 : Fr 0 63 h h1 := gh1.mono (by omega) (by omega)
  have kh1 : xK h1 = xK h := kkh1
  refine r_iload_n C (dx dX6_wipe 7 rfl) rfl ?_
  exact F.1 _ _ _ _ _ rfl rfl (dx dX6_wipe 8 rfl) kh1 (show some (vi (nI z)) = some (vi (nI z)) ∧ OwX h h1 v w g B 0 κ from by exact ⟨rfl, ⟨_, oh1⟩, fh1⟩)
set_option maxHeartbeats 4000000 in
theorem x_part {l : Launch} {h : Hp} {v u w : Vg} {g : Sg} {B : Nat → Int32} {z : Nat} {κ : Int32} (o : Ow h v u w g B z κ) (hg : GOk g)  : Ms l yX6_part cX6_part 1 (some .int) 20 [vr 6 0] h (xK h) (fun r h' => r = some (vi (partA v)) ∧ OwX h h' (partV v) w g B z κ) := by
  refine Ms.of (by decide) (Nat.le_of_ble_eq_true rfl) (fun G C X F => ?_)
  have C : Cx G cX6_part 1 RX6 := C
  show Rr G 0 [(0, vr 6 0)] [] h
  have bP := o.pv.bP
  have bM := o.pv.bM
  have bN := o.pv.bN
  have bz := o.pt.2.2
  refine r_aload_n C (dx dX6_part 0 rfl) rfl ?_
  refine g_X6_10 C (dx dX6_part 1 rfl) ?_
  refine g_X6_138 (x := nI (vP v)) C (dx dX6_part 2 rfl) o.pv.eP ?_
  refine r_bipush (v := nI 12) C (dx dX6_part 3 rfl) rfl ?_
  refine rn_lt (a := vP v) (b := 12) (tgt := 19) C (by omega) (by omega) (dx dX6_part 4 rfl) (by decide) (fun c1 => ?_) (fun c1 => ?_)
  · first
    | (omega; done)
    | (
        have c1 : vP v < 12 := c1
        refine r_aload_n C (dx dX6_part 9 rfl) rfl ?_
        refine g_X6_10 C (dx dX6_part 10 rfl) ?_
        refine r_cv (as := []) (st := []) C X I_X5_addPart l_X6_141 (c_X5_addPart o.pv (by omega)) (by decide) (Nat.le_of_ble_eq_true rfl) List.prefix_rfl List.prefix_rfl rfl rfl (Nat.le_of_ble_eq_true rfl) rfl (dx dX6_part 11 rfl) ?_
        intro rh2 h2 hph2 kkh2
        obtain ⟨rfl, wh2, gh2⟩ := hph2
        have oh2 : Ow h2 (addPartV v) u w g B z κ := o.now wh2 gh2
        have fh2 : Fr 0 63 h h2 := gh2.mono (by omega) (by omega)
        have kh2 : xK h2 = xK h := kkh2
        have eA : partA v = nI (vP v) := by simp [partA, partV, c1]
        have eV : partV v = (addPartV v) := by simp [partA, partV, c1]
        exact F.1 _ _ _ _ _ rfl rfl (dx dX6_part 12 rfl) kh2 (show some (vi (nI (vP v))) = some (vi (partA v)) ∧ OwX h h2 (partV v) w g B z κ from by rw [eA, eV]; exact ⟨rfl, ⟨_, oh2⟩, fh2⟩))
  · first
    | (omega; done)
    | (
        have c1 : 12 ≤ vP v := c1
        refine r_aload_n C (dx dX6_part 5 rfl) rfl ?_
        refine r_bipush (v := -6) C (dx dX6_part 6 rfl) rfl ?_
        refine r_cv (as := [vi (-6)]) (st := []) C X I_X6_refuse l_X6_76 (c_X6_refuse (-6)) (by decide) (Nat.le_of_ble_eq_true rfl) List.prefix_rfl List.prefix_rfl rfl rfl (Nat.le_of_ble_eq_true rfl) rfl (dx dX6_part 7 rfl) ?_
        intro rh3 h3 hph3 kkh3
        obtain ⟨rfl, gh3⟩ := hph3
        have oh3 : Ow h3 v u w g B z κ := o.ref gh3
        have fh3 : Fr 0 63 h h3 := gh3.mono (by omega) (by omega)
        have kh3 : xK h3 = xK h := kkh3
        have eA : partA v = -6 := by simp [partA, partV, c1, Nat.not_lt.mpr c1]
        have eV : partV v = v := by simp [partA, partV, c1, Nat.not_lt.mpr c1]
        exact F.1 _ _ _ _ _ rfl rfl (dx dX6_part 8 rfl) kh3 (show some (vi (-6)) = some (vi (partA v)) ∧ OwX h h3 (partV v) w g B z κ from by rw [eA, eV]; exact ⟨rfl, ⟨_, oh3⟩, fh3⟩))
set_option maxHeartbeats 4000000 in
theorem x_machine {l : Launch} {h : Hp} {v u w : Vg} {g : Sg} {B : Nat → Int32} {z : Nat} {κ : Int32} (o : Ow h v u w g B z κ) (hg : GOk g) (m n : Int32) : Ms l yX6_machine cX6_machine 3 (some .int) 20 [vr 6 0, vi m, vi n] h (xK h) (fun r h' => r = some (vi (machA v m n)) ∧ OwX h h' (machV v m n) w g B z κ) := by
  refine Ms.of (by decide) (Nat.le_of_ble_eq_true rfl) (fun G C X F => ?_)
  have C : Cx G cX6_machine 3 RX6 := C
  show Rr G 0 [(0, vr 6 0), (1, vi m), (2, vi n)] [] h
  have bP := o.pv.bP
  have bM := o.pv.bM
  have bN := o.pv.bN
  have bz := o.pt.2.2
  refine r_iload_n C (dx dX6_machine 0 rfl) rfl ?_
  refine r_if_eq (tgt := 26) C (dx dX6_machine 1 rfl) (by decide) (fun c1 => ?_) (fun c1 => ?_)
  ·
    have c1 : m = 0 := c1
    refine r_aload_n C (dx dX6_machine 13 rfl) rfl ?_
    refine r_bipush (v := -2) C (dx dX6_machine 14 rfl) rfl ?_
    refine r_cv (as := [vi (-2)]) (st := []) C X I_X6_refuse l_X6_76 (c_X6_refuse (-2)) (by decide) (Nat.le_of_ble_eq_true rfl) List.prefix_rfl List.prefix_rfl rfl rfl (Nat.le_of_ble_eq_true rfl) rfl (dx dX6_machine 15 rfl) ?_
    intro rh2 h2 hph2 kkh2
    obtain ⟨rfl, gh2⟩ := hph2
    have oh2 : Ow h2 v u w g B z κ := o.ref gh2
    have fh2 : Fr 0 63 h h2 := gh2.mono (by omega) (by omega)
    have kh2 : xK h2 = xK h := kkh2
    have eA : machA v m n = -2 := by simp [machA, machV, machB, c1]
    have eV : machV v m n = v := by simp [machA, machV, machB, c1]
    exact F.1 _ _ _ _ _ rfl rfl (dx dX6_machine 16 rfl) kh2 (show some (vi (-2)) = some (vi (machA v m n)) ∧ OwX h h2 (machV v m n) w g B z κ from by rw [eA, eV]; exact ⟨rfl, ⟨_, oh2⟩, fh2⟩)
  ·
    have c1 : ¬ m = 0 := c1
    refine r_aload_n C (dx dX6_machine 2 rfl) rfl ?_
    refine g_X6_10 C (dx dX6_machine 3 rfl) ?_
    refine r_iload_n C (dx dX6_machine 4 rfl) rfl ?_
    refine r_cvP (as := [vi m]) (st := []) (v := vi (b2i (inR m (2 ^ vP v)))) C X I_X5_isSetOfParts l_X6_144 (c_X5_isSetOfParts o.pv _) (by decide) (Nat.le_of_ble_eq_true rfl) List.prefix_rfl rfl rfl (Nat.le_of_ble_eq_true rfl) rfl (dx dX6_machine 5 rfl) ?_
    refine rb_eq (b := inR m (2 ^ vP v)) (tgt := 26) C (dx dX6_machine 6 rfl) (by decide) (fun c3 => ?_) (fun c3 => ?_)
    ·
      have c3 : (inR m (2 ^ vP v)) = false := c3
      refine r_aload_n C (dx dX6_machine 13 rfl) rfl ?_
      refine r_bipush (v := -2) C (dx dX6_machine 14 rfl) rfl ?_
      refine r_cv (as := [vi (-2)]) (st := []) C X I_X6_refuse l_X6_76 (c_X6_refuse (-2)) (by decide) (Nat.le_of_ble_eq_true rfl) List.prefix_rfl List.prefix_rfl rfl rfl (Nat.le_of_ble_eq_true rfl) rfl (dx dX6_machine 15 rfl) ?_
      intro rh4 h4 hph4 kkh4
      obtain ⟨rfl, gh4⟩ := hph4
      have oh4 : Ow h4 v u w g B z κ := o.ref gh4
      have fh4 : Fr 0 63 h h4 := gh4.mono (by omega) (by omega)
      have kh4 : xK h4 = xK h := kkh4
      have eA : machA v m n = -2 := by simp [machA, machV, machB, c1, c3]
      have eV : machV v m n = v := by simp [machA, machV, machB, c1, c3]
      exact F.1 _ _ _ _ _ rfl rfl (dx dX6_machine 16 rfl) kh4 (show some (vi (-2)) = some (vi (machA v m n)) ∧ OwX h h4 (machV v m n) w g B z κ from by rw [eA, eV]; exact ⟨rfl, ⟨_, oh4⟩, fh4⟩)
    ·
      have c3 : (inR m (2 ^ vP v)) = true := c3
      refine r_iload_n C (dx dX6_machine 7 rfl) rfl ?_
      refine r_iconst (v := nI 1) C (dx dX6_machine 8 rfl) rfl ?_
      refine r_icmp_lt (tgt := 26) C (dx dX6_machine 9 rfl) (by decide) (fun c5 => ?_) (fun c5 => ?_)
      ·
        have c5 : n < nI 1 := c5
        refine r_aload_n C (dx dX6_machine 13 rfl) rfl ?_
        refine r_bipush (v := -2) C (dx dX6_machine 14 rfl) rfl ?_
        refine r_cv (as := [vi (-2)]) (st := []) C X I_X6_refuse l_X6_76 (c_X6_refuse (-2)) (by decide) (Nat.le_of_ble_eq_true rfl) List.prefix_rfl List.prefix_rfl rfl rfl (Nat.le_of_ble_eq_true rfl) rfl (dx dX6_machine 15 rfl) ?_
        intro rh6 h6 hph6 kkh6
        obtain ⟨rfl, gh6⟩ := hph6
        have oh6 : Ow h6 v u w g B z κ := o.ref gh6
        have fh6 : Fr 0 63 h h6 := gh6.mono (by omega) (by omega)
        have kh6 : xK h6 = xK h := kkh6
        have eA : machA v m n = -2 := by simp [machA, machV, machB, c1, c3, c5]
        have eV : machV v m n = v := by simp [machA, machV, machB, c1, c3, c5]
        exact F.1 _ _ _ _ _ rfl rfl (dx dX6_machine 16 rfl) kh6 (show some (vi (-2)) = some (vi (machA v m n)) ∧ OwX h h6 (machV v m n) w g B z κ from by rw [eA, eV]; exact ⟨rfl, ⟨_, oh6⟩, fh6⟩)
      ·
        have c5 : ¬ n < nI 1 := c5
        refine r_iload_n C (dx dX6_machine 10 rfl) rfl ?_
        refine r_bipush (v := nI 99) C (dx dX6_machine 11 rfl) rfl ?_
        refine r_icmp_le (tgt := 33) C (dx dX6_machine 12 rfl) (by decide) (fun c7 => ?_) (fun c7 => ?_)
        ·
          have c7 : n ≤ nI 99 := c7
          refine r_aload_n C (dx dX6_machine 17 rfl) rfl ?_
          refine g_X6_10 C (dx dX6_machine 18 rfl) ?_
          refine g_X6_147 (x := nI (vM v)) C (dx dX6_machine 19 rfl) o.pv.eM ?_
          refine r_bipush (v := nI 6) C (dx dX6_machine 20 rfl) rfl ?_
          refine rn_lt (a := vM v) (b := 6) (tgt := 52) C (by omega) (by omega) (dx dX6_machine 21 rfl) (by decide) (fun c8 => ?_) (fun c8 => ?_)
          · first
            | (omega; done)
            | (
                have c8 : vM v < 6 := c8
                refine r_aload_n C (dx dX6_machine 26 rfl) rfl ?_
                refine g_X6_10 C (dx dX6_machine 27 rfl) ?_
                refine r_iload_n C (dx dX6_machine 28 rfl) rfl ?_
                refine r_iload_n C (dx dX6_machine 29 rfl) rfl ?_
                refine r_cv (as := [vi m, vi n]) (st := []) C X I_X5_addMachine l_X6_150 (c_X5_addMachine o.pv m n (by omega)) (by decide) (Nat.le_of_ble_eq_true rfl) List.prefix_rfl List.prefix_rfl rfl rfl (Nat.le_of_ble_eq_true rfl) rfl (dx dX6_machine 30 rfl) ?_
                intro rh9 h9 hph9 kkh9
                obtain ⟨rfl, wh9, gh9⟩ := hph9
                have oh9 : Ow h9 (addMacV v m n) u w g B z κ := o.now wh9 gh9
                have fh9 : Fr 0 63 h h9 := gh9.mono (by omega) (by omega)
                have kh9 : xK h9 = xK h := kkh9
                have eA : machA v m n = nI (vM v) := by simp [machA, machV, machB, c1, c3, c5, c7, (Int32.not_lt.mpr c7), c8]
                have eV : machV v m n = (addMacV v m n) := by simp [machA, machV, machB, c1, c3, c5, c7, (Int32.not_lt.mpr c7), c8]
                exact F.1 _ _ _ _ _ rfl rfl (dx dX6_machine 31 rfl) kh9 (show some (vi (nI (vM v))) = some (vi (machA v m n)) ∧ OwX h h9 (machV v m n) w g B z κ from by rw [eA, eV]; exact ⟨rfl, ⟨_, oh9⟩, fh9⟩))
          · first
            | (omega; done)
            | (
                have c8 : 6 ≤ vM v := c8
                refine r_aload_n C (dx dX6_machine 22 rfl) rfl ?_
                refine r_bipush (v := -6) C (dx dX6_machine 23 rfl) rfl ?_
                refine r_cv (as := [vi (-6)]) (st := []) C X I_X6_refuse l_X6_76 (c_X6_refuse (-6)) (by decide) (Nat.le_of_ble_eq_true rfl) List.prefix_rfl List.prefix_rfl rfl rfl (Nat.le_of_ble_eq_true rfl) rfl (dx dX6_machine 24 rfl) ?_
                intro rh10 h10 hph10 kkh10
                obtain ⟨rfl, gh10⟩ := hph10
                have oh10 : Ow h10 v u w g B z κ := o.ref gh10
                have fh10 : Fr 0 63 h h10 := gh10.mono (by omega) (by omega)
                have kh10 : xK h10 = xK h := kkh10
                have eA : machA v m n = -6 := by simp [machA, machV, machB, c1, c3, c5, c7, (Int32.not_lt.mpr c7), c8, Nat.not_lt.mpr c8]
                have eV : machV v m n = v := by simp [machA, machV, machB, c1, c3, c5, c7, (Int32.not_lt.mpr c7), c8, Nat.not_lt.mpr c8]
                exact F.1 _ _ _ _ _ rfl rfl (dx dX6_machine 25 rfl) kh10 (show some (vi (-6)) = some (vi (machA v m n)) ∧ OwX h h10 (machV v m n) w g B z κ from by rw [eA, eV]; exact ⟨rfl, ⟨_, oh10⟩, fh10⟩))
        ·
          have c7 : ¬ n ≤ nI 99 := c7
          refine r_aload_n C (dx dX6_machine 13 rfl) rfl ?_
          refine r_bipush (v := -2) C (dx dX6_machine 14 rfl) rfl ?_
          refine r_cv (as := [vi (-2)]) (st := []) C X I_X6_refuse l_X6_76 (c_X6_refuse (-2)) (by decide) (Nat.le_of_ble_eq_true rfl) List.prefix_rfl List.prefix_rfl rfl rfl (Nat.le_of_ble_eq_true rfl) rfl (dx dX6_machine 15 rfl) ?_
          intro rh11 h11 hph11 kkh11
          obtain ⟨rfl, gh11⟩ := hph11
          have oh11 : Ow h11 v u w g B z κ := o.ref gh11
          have fh11 : Fr 0 63 h h11 := gh11.mono (by omega) (by omega)
          have kh11 : xK h11 = xK h := kkh11
          have eA : machA v m n = -2 := by simp [machA, machV, machB, c1, c3, c5, c7, (inR_gt (n := 99) (by omega) (Int32.not_le.mp c7) : inR n 100 = false), (Int32.not_le.mp c7)]
          have eV : machV v m n = v := by simp [machA, machV, machB, c1, c3, c5, c7, (inR_gt (n := 99) (by omega) (Int32.not_le.mp c7) : inR n 100 = false), (Int32.not_le.mp c7)]
          exact F.1 _ _ _ _ _ rfl rfl (dx dX6_machine 16 rfl) kh11 (show some (vi (-2)) = some (vi (machA v m n)) ∧ OwX h h11 (machV v m n) w g B z κ from by rw [eA, eV]; exact ⟨rfl, ⟨_, oh11⟩, fh11⟩)
set_option maxHeartbeats 4000000 in
theorem x_one {l : Launch} {h : Hp} {v u w : Vg} {g : Sg} {B : Nat → Int32} {z : Nat} {κ : Int32} (o : Ow h v u w g B z κ) (hg : GOk g) (m n : Int32) : Ms l yX6_one cX6_one 3 (some .int) 20 [vr 6 0, vi m, vi n] h (xK h) (fun r h' => r = some (vi (oneAn v m n)) ∧ OwX h h' (oneV v m n) w g B z κ) := by
  refine Ms.of (by decide) (Nat.le_of_ble_eq_true rfl) (fun G C X F => ?_)
  have C : Cx G cX6_one 3 RX6 := C
  show Rr G 0 [(0, vr 6 0), (1, vi m), (2, vi n)] [] h
  have bP := o.pv.bP
  have bM := o.pv.bM
  have bN := o.pv.bN
  have bz := o.pt.2.2
  refine r_iload_n C (dx dX6_one 0 rfl) rfl ?_
  refine r_if_lt (tgt := 20) C (dx dX6_one 1 rfl) (by decide) (fun c1 => ?_) (fun c1 => ?_)
  ·
    have c1 : m < 0 := c1
    refine r_aload_n C (dx dX6_one 10 rfl) rfl ?_
    refine r_bipush (v := -2) C (dx dX6_one 11 rfl) rfl ?_
    refine r_cv (as := [vi (-2)]) (st := []) C X I_X6_refuse l_X6_76 (c_X6_refuse (-2)) (by decide) (Nat.le_of_ble_eq_true rfl) List.prefix_rfl List.prefix_rfl rfl rfl (Nat.le_of_ble_eq_true rfl) rfl (dx dX6_one 12 rfl) ?_
    intro rh2 h2 hph2 kkh2
    obtain ⟨rfl, gh2⟩ := hph2
    have oh2 : Ow h2 v u w g B z κ := o.ref gh2
    have fh2 : Fr 0 63 h h2 := gh2.mono (by omega) (by omega)
    have kh2 : xK h2 = xK h := kkh2
    have eA : oneAn v m n = -2 := by simp [oneAn, oneV, oneB, (fun n9 => inR_neg (n := n9) c1 : ∀ n9, inR m n9 = false), c1]
    have eV : oneV v m n = v := by simp [oneAn, oneV, oneB, (fun n9 => inR_neg (n := n9) c1 : ∀ n9, inR m n9 = false), c1]
    exact F.1 _ _ _ _ _ rfl rfl (dx dX6_one 13 rfl) kh2 (show some (vi (-2)) = some (vi (oneAn v m n)) ∧ OwX h h2 (oneV v m n) w g B z κ from by rw [eA, eV]; exact ⟨rfl, ⟨_, oh2⟩, fh2⟩)
  ·
    have c1 : ¬ m < 0 := c1
    refine r_iload_n C (dx dX6_one 2 rfl) rfl ?_
    refine r_bipush (v := nI 9) C (dx dX6_one 3 rfl) rfl ?_
    refine r_icmp_gt (tgt := 20) C (dx dX6_one 4 rfl) (by decide) (fun c3 => ?_) (fun c3 => ?_)
    ·
      have c3 : nI 9 < m := c3
      refine r_aload_n C (dx dX6_one 10 rfl) rfl ?_
      refine r_bipush (v := -2) C (dx dX6_one 11 rfl) rfl ?_
      refine r_cv (as := [vi (-2)]) (st := []) C X I_X6_refuse l_X6_76 (c_X6_refuse (-2)) (by decide) (Nat.le_of_ble_eq_true rfl) List.prefix_rfl List.prefix_rfl rfl rfl (Nat.le_of_ble_eq_true rfl) rfl (dx dX6_one 12 rfl) ?_
      intro rh4 h4 hph4 kkh4
      obtain ⟨rfl, gh4⟩ := hph4
      have oh4 : Ow h4 v u w g B z κ := o.ref gh4
      have fh4 : Fr 0 63 h h4 := gh4.mono (by omega) (by omega)
      have kh4 : xK h4 = xK h := kkh4
      have eA : oneAn v m n = -2 := by simp [oneAn, oneV, oneB, c1, (inR_gt (n := 9) (by omega) c3 : inR m 10 = false), c3]
      have eV : oneV v m n = v := by simp [oneAn, oneV, oneB, c1, (inR_gt (n := 9) (by omega) c3 : inR m 10 = false), c3]
      exact F.1 _ _ _ _ _ rfl rfl (dx dX6_one 13 rfl) kh4 (show some (vi (-2)) = some (vi (oneAn v m n)) ∧ OwX h h4 (oneV v m n) w g B z κ from by rw [eA, eV]; exact ⟨rfl, ⟨_, oh4⟩, fh4⟩)
    ·
      have c3 : ¬ nI 9 < m := c3
      refine r_iload_n C (dx dX6_one 5 rfl) rfl ?_
      refine r_if_lt (tgt := 20) C (dx dX6_one 6 rfl) (by decide) (fun c5 => ?_) (fun c5 => ?_)
      ·
        have c5 : n < 0 := c5
        refine r_aload_n C (dx dX6_one 10 rfl) rfl ?_
        refine r_bipush (v := -2) C (dx dX6_one 11 rfl) rfl ?_
        refine r_cv (as := [vi (-2)]) (st := []) C X I_X6_refuse l_X6_76 (c_X6_refuse (-2)) (by decide) (Nat.le_of_ble_eq_true rfl) List.prefix_rfl List.prefix_rfl rfl rfl (Nat.le_of_ble_eq_true rfl) rfl (dx dX6_one 12 rfl) ?_
        intro rh6 h6 hph6 kkh6
        obtain ⟨rfl, gh6⟩ := hph6
        have oh6 : Ow h6 v u w g B z κ := o.ref gh6
        have fh6 : Fr 0 63 h h6 := gh6.mono (by omega) (by omega)
        have kh6 : xK h6 = xK h := kkh6
        have eA : oneAn v m n = -2 := by simp [oneAn, oneV, oneB, c1, c3, (fun n9 => inR_neg (n := n9) c5 : ∀ n9, inR n n9 = false), c5]
        have eV : oneV v m n = v := by simp [oneAn, oneV, oneB, c1, c3, (fun n9 => inR_neg (n := n9) c5 : ∀ n9, inR n n9 = false), c5]
        exact F.1 _ _ _ _ _ rfl rfl (dx dX6_one 13 rfl) kh6 (show some (vi (-2)) = some (vi (oneAn v m n)) ∧ OwX h h6 (oneV v m n) w g B z κ from by rw [eA, eV]; exact ⟨rfl, ⟨_, oh6⟩, fh6⟩)
      ·
        have c5 : ¬ n < 0 := c5
        refine r_iload_n C (dx dX6_one 7 rfl) rfl ?_
        refine r_bipush (v := nI 10) C (dx dX6_one 8 rfl) rfl ?_
        refine r_icmp_le (tgt := 27) C (dx dX6_one 9 rfl) (by decide) (fun c7 => ?_) (fun c7 => ?_)
        ·
          have c7 : n ≤ nI 10 := c7
          refine r_aload_n C (dx dX6_one 14 rfl) rfl ?_
          refine g_X6_10 C (dx dX6_one 15 rfl) ?_
          refine g_X6_154 (x := nI (vN v)) C (dx dX6_one 16 rfl) o.pv.eN ?_
          refine r_bipush (v := nI 8) C (dx dX6_one 17 rfl) rfl ?_
          refine rn_lt (a := vN v) (b := 8) (tgt := 46) C (by omega) (by omega) (dx dX6_one 18 rfl) (by decide) (fun c8 => ?_) (fun c8 => ?_)
          · first
            | (omega; done)
            | (
                have c8 : vN v < 8 := c8
                refine r_aload_n C (dx dX6_one 23 rfl) rfl ?_
                refine g_X6_10 C (dx dX6_one 24 rfl) ?_
                refine r_iload_n C (dx dX6_one 25 rfl) rfl ?_
                refine r_iload_n C (dx dX6_one 26 rfl) rfl ?_
                refine r_cv (as := [vi m, vi n]) (st := []) C X I_X5_addOne l_X6_157 (c_X5_addOne o.pv m n (by omega)) (by decide) (Nat.le_of_ble_eq_true rfl) List.prefix_rfl List.prefix_rfl rfl rfl (Nat.le_of_ble_eq_true rfl) rfl (dx dX6_one 27 rfl) ?_
                intro rh9 h9 hph9 kkh9
                obtain ⟨rfl, wh9, gh9⟩ := hph9
                have oh9 : Ow h9 (addOneV v m n) u w g B z κ := o.now wh9 gh9
                have fh9 : Fr 0 63 h h9 := gh9.mono (by omega) (by omega)
                have kh9 : xK h9 = xK h := kkh9
                have eA : oneAn v m n = nI (vN v) := by simp [oneAn, oneV, oneB, c1, c3, c5, c7, (Int32.not_lt.mpr c7), c8]
                have eV : oneV v m n = (addOneV v m n) := by simp [oneAn, oneV, oneB, c1, c3, c5, c7, (Int32.not_lt.mpr c7), c8]
                exact F.1 _ _ _ _ _ rfl rfl (dx dX6_one 28 rfl) kh9 (show some (vi (nI (vN v))) = some (vi (oneAn v m n)) ∧ OwX h h9 (oneV v m n) w g B z κ from by rw [eA, eV]; exact ⟨rfl, ⟨_, oh9⟩, fh9⟩))
          · first
            | (omega; done)
            | (
                have c8 : 8 ≤ vN v := c8
                refine r_aload_n C (dx dX6_one 19 rfl) rfl ?_
                refine r_bipush (v := -6) C (dx dX6_one 20 rfl) rfl ?_
                refine r_cv (as := [vi (-6)]) (st := []) C X I_X6_refuse l_X6_76 (c_X6_refuse (-6)) (by decide) (Nat.le_of_ble_eq_true rfl) List.prefix_rfl List.prefix_rfl rfl rfl (Nat.le_of_ble_eq_true rfl) rfl (dx dX6_one 21 rfl) ?_
                intro rh10 h10 hph10 kkh10
                obtain ⟨rfl, gh10⟩ := hph10
                have oh10 : Ow h10 v u w g B z κ := o.ref gh10
                have fh10 : Fr 0 63 h h10 := gh10.mono (by omega) (by omega)
                have kh10 : xK h10 = xK h := kkh10
                have eA : oneAn v m n = -6 := by simp [oneAn, oneV, oneB, c1, c3, c5, c7, (Int32.not_lt.mpr c7), c8, Nat.not_lt.mpr c8]
                have eV : oneV v m n = v := by simp [oneAn, oneV, oneB, c1, c3, c5, c7, (Int32.not_lt.mpr c7), c8, Nat.not_lt.mpr c8]
                exact F.1 _ _ _ _ _ rfl rfl (dx dX6_one 22 rfl) kh10 (show some (vi (-6)) = some (vi (oneAn v m n)) ∧ OwX h h10 (oneV v m n) w g B z κ from by rw [eA, eV]; exact ⟨rfl, ⟨_, oh10⟩, fh10⟩))
        ·
          have c7 : ¬ n ≤ nI 10 := c7
          refine r_aload_n C (dx dX6_one 10 rfl) rfl ?_
          refine r_bipush (v := -2) C (dx dX6_one 11 rfl) rfl ?_
          refine r_cv (as := [vi (-2)]) (st := []) C X I_X6_refuse l_X6_76 (c_X6_refuse (-2)) (by decide) (Nat.le_of_ble_eq_true rfl) List.prefix_rfl List.prefix_rfl rfl rfl (Nat.le_of_ble_eq_true rfl) rfl (dx dX6_one 12 rfl) ?_
          intro rh11 h11 hph11 kkh11
          obtain ⟨rfl, gh11⟩ := hph11
          have oh11 : Ow h11 v u w g B z κ := o.ref gh11
          have fh11 : Fr 0 63 h h11 := gh11.mono (by omega) (by omega)
          have kh11 : xK h11 = xK h := kkh11
          have eA : oneAn v m n = -2 := by simp [oneAn, oneV, oneB, c1, c3, c5, c7, (inR_gt (n := 10) (by omega) (Int32.not_le.mp c7) : inR n 11 = false), (Int32.not_le.mp c7)]
          have eV : oneV v m n = v := by simp [oneAn, oneV, oneB, c1, c3, c5, c7, (inR_gt (n := 10) (by omega) (Int32.not_le.mp c7) : inR n 11 = false), (Int32.not_le.mp c7)]
          exact F.1 _ _ _ _ _ rfl rfl (dx dX6_one 13 rfl) kh11 (show some (vi (-2)) = some (vi (oneAn v m n)) ∧ OwX h h11 (oneV v m n) w g B z κ from by rw [eA, eV]; exact ⟨rfl, ⟨_, oh11⟩, fh11⟩)
set_option maxHeartbeats 4000000 in
theorem x_away {l : Launch} {h : Hp} {v u w : Vg} {g : Sg} {B : Nat → Int32} {z : Nat} {κ : Int32} (o : Ow h v u w g B z κ) (hg : GOk g) (o1 x : Int32) : Ms l yX6_away cX6_away 4 (some .int) 20 [vr 6 0, vi o1, vi x] h (xK h) (fun r h' => r = some (vi (awayA v o1 x)) ∧ OwX h h' (awayV v o1 x) w g B z κ) := by
  refine Ms.of (by decide) (Nat.le_of_ble_eq_true rfl) (fun G C X F => ?_)
  have C : Cx G cX6_away 4 RX6 := C
  show Rr G 0 [(0, vr 6 0), (1, vi o1), (2, vi x)] [] h
  have bP := o.pv.bP
  have bM := o.pv.bM
  have bN := o.pv.bN
  have bz := o.pt.2.2
  refine r_aload_n C (dx dX6_away 0 rfl) rfl ?_
  refine g_X6_10 C (dx dX6_away 1 rfl) ?_
  refine r_iload_n C (dx dX6_away 2 rfl) rfl ?_
  refine r_cvP (as := [vi o1]) (st := []) (v := vi (b2i (inR o1 (vN v)))) C X I_X5_isOne l_X6_160 (c_X5_isOne o.pv _) (by decide) (Nat.le_of_ble_eq_true rfl) List.prefix_rfl rfl rfl (Nat.le_of_ble_eq_true rfl) rfl (dx dX6_away 3 rfl) ?_
  refine rb_eq (b := inR o1 (vN v)) (tgt := 21) C (dx dX6_away 4 rfl) (by decide) (fun c1 => ?_) (fun c1 => ?_)
  ·
    have c1 : (inR o1 (vN v)) = false := c1
    refine r_aload_n C (dx dX6_away 10 rfl) rfl ?_
    refine r_bipush (v := -2) C (dx dX6_away 11 rfl) rfl ?_
    refine r_cv (as := [vi (-2)]) (st := []) C X I_X6_refuse l_X6_76 (c_X6_refuse (-2)) (by decide) (Nat.le_of_ble_eq_true rfl) List.prefix_rfl List.prefix_rfl rfl rfl (Nat.le_of_ble_eq_true rfl) rfl (dx dX6_away 12 rfl) ?_
    intro rh2 h2 hph2 kkh2
    obtain ⟨rfl, gh2⟩ := hph2
    have oh2 : Ow h2 v u w g B z κ := o.ref gh2
    have fh2 : Fr 0 63 h h2 := gh2.mono (by omega) (by omega)
    have kh2 : xK h2 = xK h := kkh2
    have eA : awayA v o1 x = -2 := by simp [awayA, awayV, awayB, c1]
    have eV : awayV v o1 x = v := by simp [awayA, awayV, awayB, c1]
    exact F.1 _ _ _ _ _ rfl rfl (dx dX6_away 13 rfl) kh2 (show some (vi (-2)) = some (vi (awayA v o1 x)) ∧ OwX h h2 (awayV v o1 x) w g B z κ from by rw [eA, eV]; exact ⟨rfl, ⟨_, oh2⟩, fh2⟩)
  ·
    have c1 : (inR o1 (vN v)) = true := c1
    obtain ⟨o19, ho19, rfl⟩ := inR_ex (n := (vN v)) (by omega) c1
    refine r_iload_n C (dx dX6_away 5 rfl) rfl ?_
    refine r_if_lt (tgt := 21) C (dx dX6_away 6 rfl) (by decide) (fun c3 => ?_) (fun c3 => ?_)
    ·
      have c3 : x < 0 := c3
      refine r_aload_n C (dx dX6_away 10 rfl) rfl ?_
      refine r_bipush (v := -2) C (dx dX6_away 11 rfl) rfl ?_
      refine r_cv (as := [vi (-2)]) (st := []) C X I_X6_refuse l_X6_76 (c_X6_refuse (-2)) (by decide) (Nat.le_of_ble_eq_true rfl) List.prefix_rfl List.prefix_rfl rfl rfl (Nat.le_of_ble_eq_true rfl) rfl (dx dX6_away 12 rfl) ?_
      intro rh4 h4 hph4 kkh4
      obtain ⟨rfl, gh4⟩ := hph4
      have oh4 : Ow h4 v u w g B z κ := o.ref gh4
      have fh4 : Fr 0 63 h h4 := gh4.mono (by omega) (by omega)
      have kh4 : xK h4 = xK h := kkh4
      have eA : awayA v (nI o19) x = -2 := by simp [awayA, awayV, awayB, clN (show o19 < 2 ^ 31 by omega), c1, (fun n9 => inR_neg (n := n9) c3 : ∀ n9, inR x n9 = false), c3]
      have eV : awayV v (nI o19) x = v := by simp [awayA, awayV, awayB, clN (show o19 < 2 ^ 31 by omega), c1, (fun n9 => inR_neg (n := n9) c3 : ∀ n9, inR x n9 = false), c3]
      exact F.1 _ _ _ _ _ rfl rfl (dx dX6_away 13 rfl) kh4 (show some (vi (-2)) = some (vi (awayA v (nI o19) x)) ∧ OwX h h4 (awayV v (nI o19) x) w g B z κ from by rw [eA, eV]; exact ⟨rfl, ⟨_, oh4⟩, fh4⟩)
    ·
      have c3 : ¬ x < 0 := c3
      refine r_iload_n C (dx dX6_away 7 rfl) rfl ?_
      refine r_bipush (v := nI 10) C (dx dX6_away 8 rfl) rfl ?_
      refine r_icmp_le (tgt := 28) C (dx dX6_away 9 rfl) (by decide) (fun c5 => ?_) (fun c5 => ?_)
      ·
        have c5 : x ≤ nI 10 := c5
        refine r_aload_n C (dx dX6_away 14 rfl) rfl ?_
        refine g_X6_10 C (dx dX6_away 15 rfl) ?_
        refine g_X6_163 C (dx dX6_away 16 rfl) ?_
        refine r_iload_n C (dx dX6_away 17 rfl) rfl ?_
        refine r_iald (j := o19) (x := vF v 5 o19) C rfl rfl (by decide) rfl (by omega) (dx dX6_away 18 rfl) (o.pv.e5 (by omega)) ?_
        refine r_istore_n (ls' := [(0, vr 6 0), (1, vi (nI o19)), (2, vi x), (3, vi (vF v 5 o19))]) C (dx dX6_away 19 rfl) (by decide) [1, 2, 3, 0] rfl ?_
        refine r_aload_n C (dx dX6_away 20 rfl) rfl ?_
        refine g_X6_10 C (dx dX6_away 21 rfl) ?_
        refine g_X6_163 C (dx dX6_away 22 rfl) ?_
        refine r_iload_n C (dx dX6_away 23 rfl) rfl ?_
        refine r_iload_n C (dx dX6_away 24 rfl) rfl ?_
        refine r_iast (j := o19) C rfl rfl (by decide) rfl (by omega) (dx dX6_away 25 rfl) ?_
        have oh6 : Ow (sI h 7 o19 x) (vset v 5 o19 x) u w g B z κ := o.now (o.pv.s5) (Fr.sI (by omega) (by omega))
        have fh6 : Fr 0 63 h (sI h 7 o19 x) := Fr.sI (by omega) (by omega)
        have kh6 : xK (sI h 7 o19 x) = xK h := rfl
        generalize sI h 7 o19 x = h6 at oh6 fh6 kh6 ⊢
        refine r_iload_n C (dx dX6_away 26 rfl) rfl ?_
        have eA : awayA v (nI o19) x = vF v 5 o19 := by simp [awayA, awayV, awayB, clN (show o19 < 2 ^ 31 by omega), c1, c3, c5, (Int32.not_lt.mpr c5)]
        have eV : awayV v (nI o19) x = (vset v 5 o19 x) := by simp [awayA, awayV, awayB, clN (show o19 < 2 ^ 31 by omega), c1, c3, c5, (Int32.not_lt.mpr c5)]
        exact F.1 _ _ _ _ _ rfl rfl (dx dX6_away 27 rfl) kh6 (show some (vi (vF v 5 o19)) = some (vi (awayA v (nI o19) x)) ∧ OwX h h6 (awayV v (nI o19) x) w g B z κ from by rw [eA, eV]; exact ⟨rfl, ⟨_, oh6⟩, fh6⟩)
      ·
        have c5 : ¬ x ≤ nI 10 := c5
        refine r_aload_n C (dx dX6_away 10 rfl) rfl ?_
        refine r_bipush (v := -2) C (dx dX6_away 11 rfl) rfl ?_
        refine r_cv (as := [vi (-2)]) (st := []) C X I_X6_refuse l_X6_76 (c_X6_refuse (-2)) (by decide) (Nat.le_of_ble_eq_true rfl) List.prefix_rfl List.prefix_rfl rfl rfl (Nat.le_of_ble_eq_true rfl) rfl (dx dX6_away 12 rfl) ?_
        intro rh7 h7 hph7 kkh7
        obtain ⟨rfl, gh7⟩ := hph7
        have oh7 : Ow h7 v u w g B z κ := o.ref gh7
        have fh7 : Fr 0 63 h h7 := gh7.mono (by omega) (by omega)
        have kh7 : xK h7 = xK h := kkh7
        have eA : awayA v (nI o19) x = -2 := by simp [awayA, awayV, awayB, clN (show o19 < 2 ^ 31 by omega), c1, c3, c5, (inR_gt (n := 10) (by omega) (Int32.not_le.mp c5) : inR x 11 = false), (Int32.not_le.mp c5)]
        have eV : awayV v (nI o19) x = v := by simp [awayA, awayV, awayB, clN (show o19 < 2 ^ 31 by omega), c1, c3, c5, (inR_gt (n := 10) (by omega) (Int32.not_le.mp c5) : inR x 11 = false), (Int32.not_le.mp c5)]
        exact F.1 _ _ _ _ _ rfl rfl (dx dX6_away 13 rfl) kh7 (show some (vi (-2)) = some (vi (awayA v (nI o19) x)) ∧ OwX h h7 (awayV v (nI o19) x) w g B z κ from by rw [eA, eV]; exact ⟨rfl, ⟨_, oh7⟩, fh7⟩)
set_option maxHeartbeats 4000000 in
theorem x_cross {l : Launch} {h : Hp} {v u w : Vg} {g : Sg} {B : Nat → Int32} {z : Nat} {κ : Int32} (o : Ow h v u w g B z κ) (hg : GOk g) (o1 : Int32) (b : Bool) : Ms l yX6_cross cX6_cross 3 (some .int) 20 [vr 6 0, vi o1, vi (b2i b)] h (xK h) (fun r h' => r = some (vi (crossA v o1 b)) ∧ OwX h h' (crossV v o1 b) w g B z κ) := by
  refine Ms.of (by decide) (Nat.le_of_ble_eq_true rfl) (fun G C X F => ?_)
  have C : Cx G cX6_cross 3 RX6 := C
  show Rr G 0 [(0, vr 6 0), (1, vi o1), (2, vi (b2i b))] [] h
  have bP := o.pv.bP
  have bM := o.pv.bM
  have bN := o.pv.bN
  have bz := o.pt.2.2
  refine r_aload_n C (dx dX6_cross 0 rfl) rfl ?_
  refine g_X6_10 C (dx dX6_cross 1 rfl) ?_
  refine r_iload_n C (dx dX6_cross 2 rfl) rfl ?_
  refine r_cvP (as := [vi o1]) (st := []) (v := vi (b2i (inR o1 (vN v)))) C X I_X5_isOne l_X6_160 (c_X5_isOne o.pv _) (by decide) (Nat.le_of_ble_eq_true rfl) List.prefix_rfl rfl rfl (Nat.le_of_ble_eq_true rfl) rfl (dx dX6_cross 3 rfl) ?_
  refine rb_ne (b := inR o1 (vN v)) (tgt := 18) C (dx dX6_cross 4 rfl) (by decide) (fun c1 => ?_) (fun c1 => ?_)
  ·
    have c1 : (inR o1 (vN v)) = true := c1
    obtain ⟨o19, ho19, rfl⟩ := inR_ex (n := (vN v)) (by omega) c1
    refine r_aload_n C (dx dX6_cross 9 rfl) rfl ?_
    refine g_X6_10 C (dx dX6_cross 10 rfl) ?_
    refine g_X6_166 C (dx dX6_cross 11 rfl) ?_
    refine r_iload_n C (dx dX6_cross 12 rfl) rfl ?_
    refine r_zald (j := o19) (x := vF v 6 o19) C rfl rfl (by decide) rfl (by omega) (dx dX6_cross 13 rfl) (o.pv.e6 (by omega)) ?_
    refine r_iload_n C (dx dX6_cross 14 rfl) rfl ?_
    refine r_icmp_ne (tgt := 33) C (dx dX6_cross 15 rfl) (by decide) (fun c2 => ?_) (fun c2 => ?_)
    ·
      have c2 : ¬ vF v 6 o19 = b2i b := c2
      refine r_aload_n C (dx dX6_cross 18 rfl) rfl ?_
      refine g_X6_10 C (dx dX6_cross 19 rfl) ?_
      refine g_X6_166 C (dx dX6_cross 20 rfl) ?_
      refine r_iload_n C (dx dX6_cross 21 rfl) rfl ?_
      refine r_iload_n C (dx dX6_cross 22 rfl) rfl ?_
      refine r_zast (j := o19) C rfl rfl (by decide) rfl (by omega) (dx dX6_cross 23 rfl) ?_
      have oh3 : Ow (sI h 8 o19 (vp_nar .boolean (b2i b))) (vset v 6 o19 (vp_nar .boolean (b2i b))) u w g B z κ := o.now (o.pv.s6 (fit_nb b)) (Fr.sI (by omega) (by omega))
      have fh3 : Fr 0 63 h (sI h 8 o19 (vp_nar .boolean (b2i b))) := Fr.sI (by omega) (by omega)
      have kh3 : xK (sI h 8 o19 (vp_nar .boolean (b2i b))) = xK h := rfl
      generalize sI h 8 o19 (vp_nar .boolean (b2i b)) = h3 at oh3 fh3 kh3 ⊢
      refine r_iconst (v := nI 1) C (dx dX6_cross 24 rfl) rfl ?_
      have eA : crossA v (nI o19) b = nI 1 := by simp [crossA, crossV, vpn_b, clN (show o19 < 2 ^ 31 by omega), c1, c2]
      have eV : crossV v (nI o19) b = (vset v 6 o19 (vp_nar .boolean (b2i b))) := by simp [crossA, crossV, vpn_b, clN (show o19 < 2 ^ 31 by omega), c1, c2]
      exact F.1 _ _ _ _ _ rfl rfl (dx dX6_cross 25 rfl) kh3 (show some (vi (nI 1)) = some (vi (crossA v (nI o19) b)) ∧ OwX h h3 (crossV v (nI o19) b) w g B z κ from by rw [eA, eV]; exact ⟨rfl, ⟨_, oh3⟩, fh3⟩)
    ·
      have c2 : vF v 6 o19 = b2i b := c2
      refine r_iconst (v := nI 0) C (dx dX6_cross 16 rfl) rfl ?_
      have eA : crossA v (nI o19) b = nI 0 := by simp [crossA, crossV, vpn_b, clN (show o19 < 2 ^ 31 by omega), c1, c2]
      have eV : crossV v (nI o19) b = v := by simp [crossA, crossV, vpn_b, clN (show o19 < 2 ^ 31 by omega), c1, c2]
      exact F.1 _ _ _ _ _ rfl rfl (dx dX6_cross 17 rfl) rfl (show some (vi (nI 0)) = some (vi (crossA v (nI o19) b)) ∧ OwX h h (crossV v (nI o19) b) w g B z κ from by rw [eA, eV]; exact ⟨rfl, ⟨_, o⟩, Fr.rf⟩)
  ·
    have c1 : (inR o1 (vN v)) = false := c1
    refine r_aload_n C (dx dX6_cross 5 rfl) rfl ?_
    refine r_bipush (v := -2) C (dx dX6_cross 6 rfl) rfl ?_
    refine r_cv (as := [vi (-2)]) (st := []) C X I_X6_refuse l_X6_76 (c_X6_refuse (-2)) (by decide) (Nat.le_of_ble_eq_true rfl) List.prefix_rfl List.prefix_rfl rfl rfl (Nat.le_of_ble_eq_true rfl) rfl (dx dX6_cross 7 rfl) ?_
    intro rh4 h4 hph4 kkh4
    obtain ⟨rfl, gh4⟩ := hph4
    have oh4 : Ow h4 v u w g B z κ := o.ref gh4
    have fh4 : Fr 0 63 h h4 := gh4.mono (by omega) (by omega)
    have kh4 : xK h4 = xK h := kkh4
    have eA : crossA v o1 b = -2 := by simp [crossA, crossV, vpn_b, c1]
    have eV : crossV v o1 b = v := by simp [crossA, crossV, vpn_b, c1]
    exact F.1 _ _ _ _ _ rfl rfl (dx dX6_cross 8 rfl) kh4 (show some (vi (-2)) = some (vi (crossA v o1 b)) ∧ OwX h h4 (crossV v o1 b) w g B z κ from by rw [eA, eV]; exact ⟨rfl, ⟨_, oh4⟩, fh4⟩)
set_option maxHeartbeats 4000000 in
theorem x_give {l : Launch} {h : Hp} {v u w : Vg} {g : Sg} {B : Nat → Int32} {z : Nat} {κ : Int32} (o : Ow h v u w g B z κ) (hg : GOk g) (p o1 : Int32) (b : Bool) : Ms l yX6_give cX6_give 5 (some .int) 20 [vr 6 0, vi p, vi o1, vi (b2i b)] h (xK h) (fun r h' => r = some (vi (giveA v p o1 b)) ∧ OwX h h' (giveV v p o1 b) w g B z κ) := by
  refine Ms.of (by decide) (Nat.le_of_ble_eq_true rfl) (fun G C X F => ?_)
  have C : Cx G cX6_give 5 RX6 := C
  show Rr G 0 [(0, vr 6 0), (1, vi p), (2, vi o1), (3, vi (b2i b))] [] h
  have bP := o.pv.bP
  have bM := o.pv.bM
  have bN := o.pv.bN
  have bz := o.pt.2.2
  refine r_aload_n C (dx dX6_give 0 rfl) rfl ?_
  refine g_X6_10 C (dx dX6_give 1 rfl) ?_
  refine r_iload_n C (dx dX6_give 2 rfl) rfl ?_
  refine r_cvP (as := [vi p]) (st := []) (v := vi (b2i (inR p (vP v)))) C X I_X5_isPart l_X6_170 (c_X5_isPart o.pv _) (by decide) (Nat.le_of_ble_eq_true rfl) List.prefix_rfl rfl rfl (Nat.le_of_ble_eq_true rfl) rfl (dx dX6_give 3 rfl) ?_
  refine rb_eq (b := inR p (vP v)) (tgt := 27) C (dx dX6_give 4 rfl) (by decide) (fun c1 => ?_) (fun c1 => ?_)
  ·
    have c1 : (inR p (vP v)) = false := c1
    refine r_aload_n C (dx dX6_give 13 rfl) rfl ?_
    refine r_bipush (v := -2) C (dx dX6_give 14 rfl) rfl ?_
    refine r_cv (as := [vi (-2)]) (st := []) C X I_X6_refuse l_X6_76 (c_X6_refuse (-2)) (by decide) (Nat.le_of_ble_eq_true rfl) List.prefix_rfl List.prefix_rfl rfl rfl (Nat.le_of_ble_eq_true rfl) rfl (dx dX6_give 15 rfl) ?_
    intro rh2 h2 hph2 kkh2
    obtain ⟨rfl, gh2⟩ := hph2
    have oh2 : Ow h2 v u w g B z κ := o.ref gh2
    have fh2 : Fr 0 63 h h2 := gh2.mono (by omega) (by omega)
    have kh2 : xK h2 = xK h := kkh2
    have eA : giveA v p o1 b = -2 := by simp [giveA, giveV, giveF, c1]
    have eV : giveV v p o1 b = v := by simp [giveA, giveV, giveF, c1]
    exact F.1 _ _ _ _ _ rfl rfl (dx dX6_give 16 rfl) kh2 (show some (vi (-2)) = some (vi (giveA v p o1 b)) ∧ OwX h h2 (giveV v p o1 b) w g B z κ from by rw [eA, eV]; exact ⟨rfl, ⟨_, oh2⟩, fh2⟩)
  ·
    have c1 : (inR p (vP v)) = true := c1
    obtain ⟨π, hπ, rfl⟩ := inR_ex (n := (vP v)) (by omega) c1
    refine r_iload_n C (dx dX6_give 5 rfl) rfl ?_
    refine r_iconst (v := -1) C (dx dX6_give 6 rfl) rfl ?_
    refine r_icmp_eq (tgt := 34) C (dx dX6_give 7 rfl) (by decide) (fun c3 => ?_) (fun c3 => ?_)
    ·
      have c3 : o1 = -1 := c3
      refine r_iload_n C (dx dX6_give 17 rfl) rfl ?_
      refine rb_eq (b := b) (tgt := 50) C (dx dX6_give 18 rfl) (by decide) (fun c4 => ?_) (fun c4 => ?_)
      ·
        have c4 : b = false := c4
        refine r_aload_n C (dx dX6_give 25 rfl) rfl ?_
        refine g_X6_10 C (dx dX6_give 26 rfl) ?_
        refine g_X6_176 C (dx dX6_give 27 rfl) ?_
        refine r_iload_n C (dx dX6_give 28 rfl) rfl ?_
        refine r_iald (j := π) (x := vF v 0 π) C rfl rfl (by decide) rfl (by omega) (dx dX6_give 29 rfl) (o.pv.e0 (by omega)) ?_
        refine r_istore (ls' := [(0, vr 6 0), (1, vi (nI π)), (2, vi o1), (3, vi (b2i b)), (4, vi (vF v 0 π))]) C (dx dX6_give 30 rfl) (by decide) [1, 2, 3, 4, 0] rfl ?_
        refine r_iload_n C (dx dX6_give 31 rfl) rfl ?_
        refine r_iconst (v := -1) C (dx dX6_give 32 rfl) rfl ?_
        refine r_icmp_eq (tgt := 90) C (dx dX6_give 33 rfl) (by decide) (fun c5 => ?_) (fun c5 => ?_)
        ·
          have c5 : o1 = -1 := c5
          refine r_iload_n C (dx dX6_give 46 rfl) rfl ?_
          refine rb_eq (b := b) (tgt := 107) C (dx dX6_give 47 rfl) (by decide) (fun c6 => ?_) (fun c6 => ?_)
          ·
            have c6 : b = false := c6
            refine r_aload_n C (dx dX6_give 55 rfl) rfl ?_
            refine g_X6_10 C (dx dX6_give 56 rfl) ?_
            refine g_X6_176 C (dx dX6_give 57 rfl) ?_
            refine r_iload_n C (dx dX6_give 58 rfl) rfl ?_
            refine r_iload_n C (dx dX6_give 59 rfl) rfl ?_
            refine r_iast (j := π) C rfl rfl (by decide) rfl (by omega) (dx dX6_give 60 rfl) ?_
            have oh7 : Ow (sI h 2 π o1) (vset v 0 π o1) u w g B z κ := o.now (o.pv.s0) (Fr.sI (by omega) (by omega))
            have fh7 : Fr 0 63 h (sI h 2 π o1) := Fr.sI (by omega) (by omega)
            have kh7 : xK (sI h 2 π o1) = xK h := rfl
            generalize sI h 2 π o1 = h7 at oh7 fh7 kh7 ⊢
            refine r_iload C (dx dX6_give 61 rfl) rfl ?_
            have eA : giveA v (nI π) o1 b = vF v 0 π := by simp [giveA, giveV, giveF, clN (show π < 2 ^ 31 by omega), c1, c3, c4, c5, c6]
            have eV : giveV v (nI π) o1 b = (vset v 0 π o1) := by simp [giveA, giveV, giveF, clN (show π < 2 ^ 31 by omega), c1, c3, c4, c5, c6]
            exact F.1 _ _ _ _ _ rfl rfl (dx dX6_give 62 rfl) kh7 (show some (vi (vF v 0 π)) = some (vi (giveA v (nI π) o1 b)) ∧ OwX h h7 (giveV v (nI π) o1 b) w g B z κ from by rw [eA, eV]; exact ⟨rfl, ⟨_, oh7⟩, fh7⟩)
          ·
            have c6 : b = true := c6
            exact absurd (c4.symm.trans c6) (by decide)
        ·
          have c5 : ¬ o1 = -1 := c5
          exact absurd c3 c5
      ·
        have c4 : b = true := c4
        refine r_aload_n C (dx dX6_give 19 rfl) rfl ?_
        refine g_X6_10 C (dx dX6_give 20 rfl) ?_
        refine g_X6_173 C (dx dX6_give 21 rfl) ?_
        refine r_iload_n C (dx dX6_give 22 rfl) rfl ?_
        refine r_iald (j := π) (x := vF v 1 π) C rfl rfl (by decide) rfl (by omega) (dx dX6_give 23 rfl) (o.pv.e1 (by omega)) ?_
        refine r_goto (tgt := 59) C (dx dX6_give 24 rfl) (by decide) ?_
        refine r_istore (ls' := [(0, vr 6 0), (1, vi (nI π)), (2, vi o1), (3, vi (b2i b)), (4, vi (vF v 1 π))]) C (dx dX6_give 30 rfl) (by decide) [1, 2, 3, 4, 0] rfl ?_
        refine r_iload_n C (dx dX6_give 31 rfl) rfl ?_
        refine r_iconst (v := -1) C (dx dX6_give 32 rfl) rfl ?_
        refine r_icmp_eq (tgt := 90) C (dx dX6_give 33 rfl) (by decide) (fun c8 => ?_) (fun c8 => ?_)
        ·
          have c8 : o1 = -1 := c8
          refine r_iload_n C (dx dX6_give 46 rfl) rfl ?_
          refine rb_eq (b := b) (tgt := 107) C (dx dX6_give 47 rfl) (by decide) (fun c9 => ?_) (fun c9 => ?_)
          ·
            have c9 : b = false := c9
            exact absurd (c4.symm.trans c9) (by decide)
          ·
            have c9 : b = true := c9
            refine r_aload_n C (dx dX6_give 48 rfl) rfl ?_
            refine g_X6_10 C (dx dX6_give 49 rfl) ?_
            refine g_X6_173 C (dx dX6_give 50 rfl) ?_
            refine r_iload_n C (dx dX6_give 51 rfl) rfl ?_
            refine r_iload_n C (dx dX6_give 52 rfl) rfl ?_
            refine r_iast (j := π) C rfl rfl (by decide) rfl (by omega) (dx dX6_give 53 rfl) ?_
            have oh10 : Ow (sI h 3 π o1) (vset v 1 π o1) u w g B z κ := o.now (o.pv.s1) (Fr.sI (by omega) (by omega))
            have fh10 : Fr 0 63 h (sI h 3 π o1) := Fr.sI (by omega) (by omega)
            have kh10 : xK (sI h 3 π o1) = xK h := rfl
            generalize sI h 3 π o1 = h10 at oh10 fh10 kh10 ⊢
            refine r_goto (tgt := 117) C (dx dX6_give 54 rfl) (by decide) ?_
            refine r_iload C (dx dX6_give 61 rfl) rfl ?_
            have eA : giveA v (nI π) o1 b = vF v 1 π := by simp [giveA, giveV, giveF, clN (show π < 2 ^ 31 by omega), c1, c3, c4, c8, c9]
            have eV : giveV v (nI π) o1 b = (vset v 1 π o1) := by simp [giveA, giveV, giveF, clN (show π < 2 ^ 31 by omega), c1, c3, c4, c8, c9]
            exact F.1 _ _ _ _ _ rfl rfl (dx dX6_give 62 rfl) kh10 (show some (vi (vF v 1 π)) = some (vi (giveA v (nI π) o1 b)) ∧ OwX h h10 (giveV v (nI π) o1 b) w g B z κ from by rw [eA, eV]; exact ⟨rfl, ⟨_, oh10⟩, fh10⟩)
        ·
          have c8 : ¬ o1 = -1 := c8
          exact absurd c3 c8
    ·
      have c3 : ¬ o1 = -1 := c3
      refine r_aload_n C (dx dX6_give 8 rfl) rfl ?_
      refine g_X6_10 C (dx dX6_give 9 rfl) ?_
      refine r_iload_n C (dx dX6_give 10 rfl) rfl ?_
      refine r_cvP (as := [vi o1]) (st := []) (v := vi (b2i (inR o1 (vN v)))) C X I_X5_isOne l_X6_160 (c_X5_isOne o.pv _) (by decide) (Nat.le_of_ble_eq_true rfl) List.prefix_rfl rfl rfl (Nat.le_of_ble_eq_true rfl) rfl (dx dX6_give 11 rfl) ?_
      refine rb_ne (b := inR o1 (vN v)) (tgt := 34) C (dx dX6_give 12 rfl) (by decide) (fun c11 => ?_) (fun c11 => ?_)
      ·
        have c11 : (inR o1 (vN v)) = true := c11
        refine r_iload_n C (dx dX6_give 17 rfl) rfl ?_
        refine rb_eq (b := b) (tgt := 50) C (dx dX6_give 18 rfl) (by decide) (fun c12 => ?_) (fun c12 => ?_)
        ·
          have c12 : b = false := c12
          refine r_aload_n C (dx dX6_give 25 rfl) rfl ?_
          refine g_X6_10 C (dx dX6_give 26 rfl) ?_
          refine g_X6_176 C (dx dX6_give 27 rfl) ?_
          refine r_iload_n C (dx dX6_give 28 rfl) rfl ?_
          refine r_iald (j := π) (x := vF v 0 π) C rfl rfl (by decide) rfl (by omega) (dx dX6_give 29 rfl) (o.pv.e0 (by omega)) ?_
          refine r_istore (ls' := [(0, vr 6 0), (1, vi (nI π)), (2, vi o1), (3, vi (b2i b)), (4, vi (vF v 0 π))]) C (dx dX6_give 30 rfl) (by decide) [1, 2, 3, 4, 0] rfl ?_
          refine r_iload_n C (dx dX6_give 31 rfl) rfl ?_
          refine r_iconst (v := -1) C (dx dX6_give 32 rfl) rfl ?_
          refine r_icmp_eq (tgt := 90) C (dx dX6_give 33 rfl) (by decide) (fun c13 => ?_) (fun c13 => ?_)
          ·
            have c13 : o1 = -1 := c13
            exact absurd c13 c3
          ·
            have c13 : ¬ o1 = -1 := c13
            refine r_iload_n C (dx dX6_give 34 rfl) rfl ?_
            refine r_iload C (dx dX6_give 35 rfl) rfl ?_
            refine r_icmp_eq (tgt := 90) C (dx dX6_give 36 rfl) (by decide) (fun c14 => ?_) (fun c14 => ?_)
            ·
              have c14 : o1 = vF v 0 π := c14
              refine r_iload_n C (dx dX6_give 46 rfl) rfl ?_
              refine rb_eq (b := b) (tgt := 107) C (dx dX6_give 47 rfl) (by decide) (fun c15 => ?_) (fun c15 => ?_)
              ·
                have c15 : b = false := c15
                refine r_aload_n C (dx dX6_give 55 rfl) rfl ?_
                refine g_X6_10 C (dx dX6_give 56 rfl) ?_
                refine g_X6_176 C (dx dX6_give 57 rfl) ?_
                refine r_iload_n C (dx dX6_give 58 rfl) rfl ?_
                refine r_iload_n C (dx dX6_give 59 rfl) rfl ?_
                refine r_iast (j := π) C rfl rfl (by decide) rfl (by omega) (dx dX6_give 60 rfl) ?_
                have oh16 : Ow (sI h 2 π o1) (vset v 0 π o1) u w g B z κ := o.now (o.pv.s0) (Fr.sI (by omega) (by omega))
                have fh16 : Fr 0 63 h (sI h 2 π o1) := Fr.sI (by omega) (by omega)
                have kh16 : xK (sI h 2 π o1) = xK h := rfl
                generalize sI h 2 π o1 = h16 at oh16 fh16 kh16 ⊢
                refine r_iload C (dx dX6_give 61 rfl) rfl ?_
                have eA : giveA v (nI π) o1 b = vF v 0 π := by simp [giveA, giveV, giveF, clN (show π < 2 ^ 31 by omega), c1, c3, c11, c12, c13, eq_true c14, c15]
                have eV : giveV v (nI π) o1 b = (vset v 0 π o1) := by simp [giveA, giveV, giveF, clN (show π < 2 ^ 31 by omega), c1, c3, c11, c12, c13, eq_true c14, c15]
                exact F.1 _ _ _ _ _ rfl rfl (dx dX6_give 62 rfl) kh16 (show some (vi (vF v 0 π)) = some (vi (giveA v (nI π) o1 b)) ∧ OwX h h16 (giveV v (nI π) o1 b) w g B z κ from by rw [eA, eV]; exact ⟨rfl, ⟨_, oh16⟩, fh16⟩)
              ·
                have c15 : b = true := c15
                exact absurd (c12.symm.trans c15) (by decide)
            ·
              have c14 : ¬ o1 = vF v 0 π := c14
              refine r_aload_n C (dx dX6_give 37 rfl) rfl ?_
              refine g_X6_10 C (dx dX6_give 38 rfl) ?_
              refine r_iload_n C (dx dX6_give 39 rfl) rfl ?_
              refine r_cvP (as := [vi o1]) (st := []) (v := vi (b2i (hasRm v o1))) C X I_X5_hasRoom l_X6_179 (c_X5_hasRoom o.pv _) (by decide) (Nat.le_of_ble_eq_true rfl) List.prefix_rfl rfl rfl (Nat.le_of_ble_eq_true rfl) rfl (dx dX6_give 40 rfl) ?_
              refine rb_ne (b := hasRm v o1) (tgt := 90) C (dx dX6_give 41 rfl) (by decide) (fun c17 => ?_) (fun c17 => ?_)
              ·
                have c17 : (hasRm v o1) = true := c17
                refine r_iload_n C (dx dX6_give 46 rfl) rfl ?_
                refine rb_eq (b := b) (tgt := 107) C (dx dX6_give 47 rfl) (by decide) (fun c18 => ?_) (fun c18 => ?_)
                ·
                  have c18 : b = false := c18
                  refine r_aload_n C (dx dX6_give 55 rfl) rfl ?_
                  refine g_X6_10 C (dx dX6_give 56 rfl) ?_
                  refine g_X6_176 C (dx dX6_give 57 rfl) ?_
                  refine r_iload_n C (dx dX6_give 58 rfl) rfl ?_
                  refine r_iload_n C (dx dX6_give 59 rfl) rfl ?_
                  refine r_iast (j := π) C rfl rfl (by decide) rfl (by omega) (dx dX6_give 60 rfl) ?_
                  have oh19 : Ow (sI h 2 π o1) (vset v 0 π o1) u w g B z κ := o.now (o.pv.s0) (Fr.sI (by omega) (by omega))
                  have fh19 : Fr 0 63 h (sI h 2 π o1) := Fr.sI (by omega) (by omega)
                  have kh19 : xK (sI h 2 π o1) = xK h := rfl
                  generalize sI h 2 π o1 = h19 at oh19 fh19 kh19 ⊢
                  refine r_iload C (dx dX6_give 61 rfl) rfl ?_
                  have eA : giveA v (nI π) o1 b = vF v 0 π := by simp [giveA, giveV, giveF, clN (show π < 2 ^ 31 by omega), c1, c3, c11, c12, c13, c14, c17, c18]
                  have eV : giveV v (nI π) o1 b = (vset v 0 π o1) := by simp [giveA, giveV, giveF, clN (show π < 2 ^ 31 by omega), c1, c3, c11, c12, c13, c14, c17, c18]
                  exact F.1 _ _ _ _ _ rfl rfl (dx dX6_give 62 rfl) kh19 (show some (vi (vF v 0 π)) = some (vi (giveA v (nI π) o1 b)) ∧ OwX h h19 (giveV v (nI π) o1 b) w g B z κ from by rw [eA, eV]; exact ⟨rfl, ⟨_, oh19⟩, fh19⟩)
                ·
                  have c18 : b = true := c18
                  exact absurd (c12.symm.trans c18) (by decide)
              ·
                have c17 : (hasRm v o1) = false := c17
                refine r_aload_n C (dx dX6_give 42 rfl) rfl ?_
                refine r_bipush (v := -5) C (dx dX6_give 43 rfl) rfl ?_
                refine r_cv (as := [vi (-5)]) (st := []) C X I_X6_refuse l_X6_76 (c_X6_refuse (-5)) (by decide) (Nat.le_of_ble_eq_true rfl) List.prefix_rfl List.prefix_rfl rfl rfl (Nat.le_of_ble_eq_true rfl) rfl (dx dX6_give 44 rfl) ?_
                intro rh20 h20 hph20 kkh20
                obtain ⟨rfl, gh20⟩ := hph20
                have oh20 : Ow h20 v u w g B z κ := o.ref gh20
                have fh20 : Fr 0 63 h h20 := gh20.mono (by omega) (by omega)
                have kh20 : xK h20 = xK h := kkh20
                have eA : giveA v (nI π) o1 b = -5 := by simp [giveA, giveV, giveF, clN (show π < 2 ^ 31 by omega), c1, c3, c11, c12, c13, c14, c17]
                have eV : giveV v (nI π) o1 b = v := by simp [giveA, giveV, giveF, clN (show π < 2 ^ 31 by omega), c1, c3, c11, c12, c13, c14, c17]
                exact F.1 _ _ _ _ _ rfl rfl (dx dX6_give 45 rfl) kh20 (show some (vi (-5)) = some (vi (giveA v (nI π) o1 b)) ∧ OwX h h20 (giveV v (nI π) o1 b) w g B z κ from by rw [eA, eV]; exact ⟨rfl, ⟨_, oh20⟩, fh20⟩)
        ·
          have c12 : b = true := c12
          refine r_aload_n C (dx dX6_give 19 rfl) rfl ?_
          refine g_X6_10 C (dx dX6_give 20 rfl) ?_
          refine g_X6_173 C (dx dX6_give 21 rfl) ?_
          refine r_iload_n C (dx dX6_give 22 rfl) rfl ?_
          refine r_iald (j := π) (x := vF v 1 π) C rfl rfl (by decide) rfl (by omega) (dx dX6_give 23 rfl) (o.pv.e1 (by omega)) ?_
          refine r_goto (tgt := 59) C (dx dX6_give 24 rfl) (by decide) ?_
          refine r_istore (ls' := [(0, vr 6 0), (1, vi (nI π)), (2, vi o1), (3, vi (b2i b)), (4, vi (vF v 1 π))]) C (dx dX6_give 30 rfl) (by decide) [1, 2, 3, 4, 0] rfl ?_
          refine r_iload_n C (dx dX6_give 31 rfl) rfl ?_
          refine r_iconst (v := -1) C (dx dX6_give 32 rfl) rfl ?_
          refine r_icmp_eq (tgt := 90) C (dx dX6_give 33 rfl) (by decide) (fun c21 => ?_) (fun c21 => ?_)
          ·
            have c21 : o1 = -1 := c21
            exact absurd c21 c3
          ·
            have c21 : ¬ o1 = -1 := c21
            refine r_iload_n C (dx dX6_give 34 rfl) rfl ?_
            refine r_iload C (dx dX6_give 35 rfl) rfl ?_
            refine r_icmp_eq (tgt := 90) C (dx dX6_give 36 rfl) (by decide) (fun c22 => ?_) (fun c22 => ?_)
            ·
              have c22 : o1 = vF v 1 π := c22
              refine r_iload_n C (dx dX6_give 46 rfl) rfl ?_
              refine rb_eq (b := b) (tgt := 107) C (dx dX6_give 47 rfl) (by decide) (fun c23 => ?_) (fun c23 => ?_)
              ·
                have c23 : b = false := c23
                exact absurd (c12.symm.trans c23) (by decide)
              ·
                have c23 : b = true := c23
                refine r_aload_n C (dx dX6_give 48 rfl) rfl ?_
                refine g_X6_10 C (dx dX6_give 49 rfl) ?_
                refine g_X6_173 C (dx dX6_give 50 rfl) ?_
                refine r_iload_n C (dx dX6_give 51 rfl) rfl ?_
                refine r_iload_n C (dx dX6_give 52 rfl) rfl ?_
                refine r_iast (j := π) C rfl rfl (by decide) rfl (by omega) (dx dX6_give 53 rfl) ?_
                have oh24 : Ow (sI h 3 π o1) (vset v 1 π o1) u w g B z κ := o.now (o.pv.s1) (Fr.sI (by omega) (by omega))
                have fh24 : Fr 0 63 h (sI h 3 π o1) := Fr.sI (by omega) (by omega)
                have kh24 : xK (sI h 3 π o1) = xK h := rfl
                generalize sI h 3 π o1 = h24 at oh24 fh24 kh24 ⊢
                refine r_goto (tgt := 117) C (dx dX6_give 54 rfl) (by decide) ?_
                refine r_iload C (dx dX6_give 61 rfl) rfl ?_
                have eA : giveA v (nI π) o1 b = vF v 1 π := by simp [giveA, giveV, giveF, clN (show π < 2 ^ 31 by omega), c1, c3, c11, c12, c21, eq_true c22, c23]
                have eV : giveV v (nI π) o1 b = (vset v 1 π o1) := by simp [giveA, giveV, giveF, clN (show π < 2 ^ 31 by omega), c1, c3, c11, c12, c21, eq_true c22, c23]
                exact F.1 _ _ _ _ _ rfl rfl (dx dX6_give 62 rfl) kh24 (show some (vi (vF v 1 π)) = some (vi (giveA v (nI π) o1 b)) ∧ OwX h h24 (giveV v (nI π) o1 b) w g B z κ from by rw [eA, eV]; exact ⟨rfl, ⟨_, oh24⟩, fh24⟩)
            ·
              have c22 : ¬ o1 = vF v 1 π := c22
              refine r_aload_n C (dx dX6_give 37 rfl) rfl ?_
              refine g_X6_10 C (dx dX6_give 38 rfl) ?_
              refine r_iload_n C (dx dX6_give 39 rfl) rfl ?_
              refine r_cvP (as := [vi o1]) (st := []) (v := vi (b2i (hasRm v o1))) C X I_X5_hasRoom l_X6_179 (c_X5_hasRoom o.pv _) (by decide) (Nat.le_of_ble_eq_true rfl) List.prefix_rfl rfl rfl (Nat.le_of_ble_eq_true rfl) rfl (dx dX6_give 40 rfl) ?_
              refine rb_ne (b := hasRm v o1) (tgt := 90) C (dx dX6_give 41 rfl) (by decide) (fun c25 => ?_) (fun c25 => ?_)
              ·
                have c25 : (hasRm v o1) = true := c25
                refine r_iload_n C (dx dX6_give 46 rfl) rfl ?_
                refine rb_eq (b := b) (tgt := 107) C (dx dX6_give 47 rfl) (by decide) (fun c26 => ?_) (fun c26 => ?_)
                ·
                  have c26 : b = false := c26
                  exact absurd (c12.symm.trans c26) (by decide)
                ·
                  have c26 : b = true := c26
                  refine r_aload_n C (dx dX6_give 48 rfl) rfl ?_
                  refine g_X6_10 C (dx dX6_give 49 rfl) ?_
                  refine g_X6_173 C (dx dX6_give 50 rfl) ?_
                  refine r_iload_n C (dx dX6_give 51 rfl) rfl ?_
                  refine r_iload_n C (dx dX6_give 52 rfl) rfl ?_
                  refine r_iast (j := π) C rfl rfl (by decide) rfl (by omega) (dx dX6_give 53 rfl) ?_
                  have oh27 : Ow (sI h 3 π o1) (vset v 1 π o1) u w g B z κ := o.now (o.pv.s1) (Fr.sI (by omega) (by omega))
                  have fh27 : Fr 0 63 h (sI h 3 π o1) := Fr.sI (by omega) (by omega)
                  have kh27 : xK (sI h 3 π o1) = xK h := rfl
                  generalize sI h 3 π o1 = h27 at oh27 fh27 kh27 ⊢
                  refine r_goto (tgt := 117) C (dx dX6_give 54 rfl) (by decide) ?_
                  refine r_iload C (dx dX6_give 61 rfl) rfl ?_
                  have eA : giveA v (nI π) o1 b = vF v 1 π := by simp [giveA, giveV, giveF, clN (show π < 2 ^ 31 by omega), c1, c3, c11, c12, c21, c22, c25, c26]
                  have eV : giveV v (nI π) o1 b = (vset v 1 π o1) := by simp [giveA, giveV, giveF, clN (show π < 2 ^ 31 by omega), c1, c3, c11, c12, c21, c22, c25, c26]
                  exact F.1 _ _ _ _ _ rfl rfl (dx dX6_give 62 rfl) kh27 (show some (vi (vF v 1 π)) = some (vi (giveA v (nI π) o1 b)) ∧ OwX h h27 (giveV v (nI π) o1 b) w g B z κ from by rw [eA, eV]; exact ⟨rfl, ⟨_, oh27⟩, fh27⟩)
              ·
                have c25 : (hasRm v o1) = false := c25
                refine r_aload_n C (dx dX6_give 42 rfl) rfl ?_
                refine r_bipush (v := -5) C (dx dX6_give 43 rfl) rfl ?_
                refine r_cv (as := [vi (-5)]) (st := []) C X I_X6_refuse l_X6_76 (c_X6_refuse (-5)) (by decide) (Nat.le_of_ble_eq_true rfl) List.prefix_rfl List.prefix_rfl rfl rfl (Nat.le_of_ble_eq_true rfl) rfl (dx dX6_give 44 rfl) ?_
                intro rh28 h28 hph28 kkh28
                obtain ⟨rfl, gh28⟩ := hph28
                have oh28 : Ow h28 v u w g B z κ := o.ref gh28
                have fh28 : Fr 0 63 h h28 := gh28.mono (by omega) (by omega)
                have kh28 : xK h28 = xK h := kkh28
                have eA : giveA v (nI π) o1 b = -5 := by simp [giveA, giveV, giveF, clN (show π < 2 ^ 31 by omega), c1, c3, c11, c12, c21, c22, c25]
                have eV : giveV v (nI π) o1 b = v := by simp [giveA, giveV, giveF, clN (show π < 2 ^ 31 by omega), c1, c3, c11, c12, c21, c22, c25]
                exact F.1 _ _ _ _ _ rfl rfl (dx dX6_give 45 rfl) kh28 (show some (vi (-5)) = some (vi (giveA v (nI π) o1 b)) ∧ OwX h h28 (giveV v (nI π) o1 b) w g B z κ from by rw [eA, eV]; exact ⟨rfl, ⟨_, oh28⟩, fh28⟩)
      ·
        have c11 : (inR o1 (vN v)) = false := c11
        refine r_aload_n C (dx dX6_give 13 rfl) rfl ?_
        refine r_bipush (v := -2) C (dx dX6_give 14 rfl) rfl ?_
        refine r_cv (as := [vi (-2)]) (st := []) C X I_X6_refuse l_X6_76 (c_X6_refuse (-2)) (by decide) (Nat.le_of_ble_eq_true rfl) List.prefix_rfl List.prefix_rfl rfl rfl (Nat.le_of_ble_eq_true rfl) rfl (dx dX6_give 15 rfl) ?_
        intro rh29 h29 hph29 kkh29
        obtain ⟨rfl, gh29⟩ := hph29
        have oh29 : Ow h29 v u w g B z κ := o.ref gh29
        have fh29 : Fr 0 63 h h29 := gh29.mono (by omega) (by omega)
        have kh29 : xK h29 = xK h := kkh29
        have eA : giveA v (nI π) o1 b = -2 := by simp [giveA, giveV, giveF, clN (show π < 2 ^ 31 by omega), c1, c3, c11]
        have eV : giveV v (nI π) o1 b = v := by simp [giveA, giveV, giveF, clN (show π < 2 ^ 31 by omega), c1, c3, c11]
        exact F.1 _ _ _ _ _ rfl rfl (dx dX6_give 16 rfl) kh29 (show some (vi (-2)) = some (vi (giveA v (nI π) o1 b)) ∧ OwX h h29 (giveV v (nI π) o1 b) w g B z κ from by rw [eA, eV]; exact ⟨rfl, ⟨_, oh29⟩, fh29⟩)
set_option maxHeartbeats 4000000 in
theorem x_partOf {l : Launch} {h : Hp} {v u w : Vg} {g : Sg} {B : Nat → Int32} {z : Nat} {κ : Int32} (o : Ow h v u w g B z κ) (hg : GOk g) (p x : Int32) : Ms l yX6_partOf cX6_partOf 3 (some .int) 20 [vr 6 0, vi p, vi x] h (xK h) (fun r h' => PI r ∧ OwX h h' v w g B z κ) := by
  refine Ms.of (by decide) (Nat.le_of_ble_eq_true rfl) (fun G C X F => ?_)
  have C : Cx G cX6_partOf 3 RX6 := C
  show Rr G 0 [(0, vr 6 0), (1, vi p), (2, vi x)] [] h
  have bP := o.pv.bP
  have bM := o.pv.bM
  have bN := o.pv.bN
  have bz := o.pt.2.2
  refine r_aload_n C (dx dX6_partOf 0 rfl) rfl ?_
  refine g_X6_10 C (dx dX6_partOf 1 rfl) ?_
  refine r_iload_n C (dx dX6_partOf 2 rfl) rfl ?_
  refine r_cvP (as := [vi p]) (st := []) (v := vi (b2i (inR p (vP v)))) C X I_X5_isPart l_X6_170 (c_X5_isPart o.pv _) (by decide) (Nat.le_of_ble_eq_true rfl) List.prefix_rfl rfl rfl (Nat.le_of_ble_eq_true rfl) rfl (dx dX6_partOf 3 rfl) ?_
  refine rb_eq (b := inR p (vP v)) (tgt := 20) C (dx dX6_partOf 4 rfl) (by decide) (fun c1 => ?_) (fun c1 => ?_)
  ·
    have c1 : (inR p (vP v)) = false := c1
    refine r_aload_n C (dx dX6_partOf 10 rfl) rfl ?_
    refine r_bipush (v := -2) C (dx dX6_partOf 11 rfl) rfl ?_
    refine r_cv (as := [vi (-2)]) (st := []) C X I_X6_refuse l_X6_76 (c_X6_refuse (-2)) (by decide) (Nat.le_of_ble_eq_true rfl) List.prefix_rfl List.prefix_rfl rfl rfl (Nat.le_of_ble_eq_true rfl) rfl (dx dX6_partOf 12 rfl) ?_
    intro rh2 h2 hph2 kkh2
    obtain ⟨rfl, gh2⟩ := hph2
    have oh2 : Ow h2 v u w g B z κ := o.ref gh2
    have fh2 : Fr 0 63 h h2 := gh2.mono (by omega) (by omega)
    have kh2 : xK h2 = xK h := kkh2
    exact F.1 _ _ _ _ _ rfl rfl (dx dX6_partOf 13 rfl) kh2 ⟨⟨_, rfl⟩, (show OwX h h2 v w g B z κ from by exact ⟨⟨_, oh2⟩, fh2⟩)⟩
  ·
    have c1 : (inR p (vP v)) = true := c1
    obtain ⟨π, hπ, rfl⟩ := inR_ex (n := (vP v)) (by omega) c1
    refine r_iload_n C (dx dX6_partOf 5 rfl) rfl ?_
    refine r_if_lt (tgt := 20) C (dx dX6_partOf 6 rfl) (by decide) (fun c3 => ?_) (fun c3 => ?_)
    ·
      have c3 : x < 0 := c3
      refine r_aload_n C (dx dX6_partOf 10 rfl) rfl ?_
      refine r_bipush (v := -2) C (dx dX6_partOf 11 rfl) rfl ?_
      refine r_cv (as := [vi (-2)]) (st := []) C X I_X6_refuse l_X6_76 (c_X6_refuse (-2)) (by decide) (Nat.le_of_ble_eq_true rfl) List.prefix_rfl List.prefix_rfl rfl rfl (Nat.le_of_ble_eq_true rfl) rfl (dx dX6_partOf 12 rfl) ?_
      intro rh4 h4 hph4 kkh4
      obtain ⟨rfl, gh4⟩ := hph4
      have oh4 : Ow h4 v u w g B z κ := o.ref gh4
      have fh4 : Fr 0 63 h h4 := gh4.mono (by omega) (by omega)
      have kh4 : xK h4 = xK h := kkh4
      exact F.1 _ _ _ _ _ rfl rfl (dx dX6_partOf 13 rfl) kh4 ⟨⟨_, rfl⟩, (show OwX h h4 v w g B z κ from by exact ⟨⟨_, oh4⟩, fh4⟩)⟩
    ·
      have c3 : ¬ x < 0 := c3
      refine r_iload_n C (dx dX6_partOf 7 rfl) rfl ?_
      refine r_iconst (v := nI 1) C (dx dX6_partOf 8 rfl) rfl ?_
      refine r_icmp_le (tgt := 27) C (dx dX6_partOf 9 rfl) (by decide) (fun c5 => ?_) (fun c5 => ?_)
      ·
        have c5 : x ≤ nI 1 := c5
        refine r_iload_n C (dx dX6_partOf 14 rfl) rfl ?_
        refine r_if_ne (tgt := 43) C (dx dX6_partOf 15 rfl) (by decide) (fun c6 => ?_) (fun c6 => ?_)
        ·
          have c6 : ¬ x = 0 := c6
          refine r_aload_n C (dx dX6_partOf 22 rfl) rfl ?_
          refine g_X6_10 C (dx dX6_partOf 23 rfl) ?_
          refine g_X6_173 C (dx dX6_partOf 24 rfl) ?_
          refine r_iload_n C (dx dX6_partOf 25 rfl) rfl ?_
          refine r_iald (j := π) (x := vF v 1 π) C rfl rfl (by decide) rfl (by omega) (dx dX6_partOf 26 rfl) (o.pv.e1 (by omega)) ?_
          exact F.1 _ _ _ _ _ rfl rfl (dx dX6_partOf 27 rfl) rfl ⟨⟨_, rfl⟩, (show OwX h h v w g B z κ from by exact ⟨⟨_, o⟩, Fr.rf⟩)⟩
        ·
          have c6 : x = 0 := c6
          refine r_aload_n C (dx dX6_partOf 16 rfl) rfl ?_
          refine g_X6_10 C (dx dX6_partOf 17 rfl) ?_
          refine g_X6_176 C (dx dX6_partOf 18 rfl) ?_
          refine r_iload_n C (dx dX6_partOf 19 rfl) rfl ?_
          refine r_iald (j := π) (x := vF v 0 π) C rfl rfl (by decide) rfl (by omega) (dx dX6_partOf 20 rfl) (o.pv.e0 (by omega)) ?_
          refine r_goto (tgt := 52) C (dx dX6_partOf 21 rfl) (by decide) ?_
          exact F.1 _ _ _ _ _ rfl rfl (dx dX6_partOf 27 rfl) rfl ⟨⟨_, rfl⟩, (show OwX h h v w g B z κ from by exact ⟨⟨_, o⟩, Fr.rf⟩)⟩
      ·
        have c5 : ¬ x ≤ nI 1 := c5
        refine r_aload_n C (dx dX6_partOf 10 rfl) rfl ?_
        refine r_bipush (v := -2) C (dx dX6_partOf 11 rfl) rfl ?_
        refine r_cv (as := [vi (-2)]) (st := []) C X I_X6_refuse l_X6_76 (c_X6_refuse (-2)) (by decide) (Nat.le_of_ble_eq_true rfl) List.prefix_rfl List.prefix_rfl rfl rfl (Nat.le_of_ble_eq_true rfl) rfl (dx dX6_partOf 12 rfl) ?_
        intro rh7 h7 hph7 kkh7
        obtain ⟨rfl, gh7⟩ := hph7
        have oh7 : Ow h7 v u w g B z κ := o.ref gh7
        have fh7 : Fr 0 63 h h7 := gh7.mono (by omega) (by omega)
        have kh7 : xK h7 = xK h := kkh7
        exact F.1 _ _ _ _ _ rfl rfl (dx dX6_partOf 13 rfl) kh7 ⟨⟨_, rfl⟩, (show OwX h h7 v w g B z κ from by exact ⟨⟨_, oh7⟩, fh7⟩)⟩
set_option maxHeartbeats 4000000 in
theorem x_machineOf {l : Launch} {h : Hp} {v u w : Vg} {g : Sg} {B : Nat → Int32} {z : Nat} {κ : Int32} (o : Ow h v u w g B z κ) (hg : GOk g) (m x : Int32) : Ms l yX6_machineOf cX6_machineOf 3 (some .int) 20 [vr 6 0, vi m, vi x] h (xK h) (fun r h' => PI r ∧ OwX h h' v w g B z κ) := by
  refine Ms.of (by decide) (Nat.le_of_ble_eq_true rfl) (fun G C X F => ?_)
  have C : Cx G cX6_machineOf 3 RX6 := C
  show Rr G 0 [(0, vr 6 0), (1, vi m), (2, vi x)] [] h
  have bP := o.pv.bP
  have bM := o.pv.bM
  have bN := o.pv.bN
  have bz := o.pt.2.2
  refine r_aload_n C (dx dX6_machineOf 0 rfl) rfl ?_
  refine g_X6_10 C (dx dX6_machineOf 1 rfl) ?_
  refine r_iload_n C (dx dX6_machineOf 2 rfl) rfl ?_
  refine r_cvP (as := [vi m]) (st := []) (v := vi (b2i (inR m (vM v)))) C X I_X5_isMachine l_X6_202 (c_X5_isMachine o.pv _) (by decide) (Nat.le_of_ble_eq_true rfl) List.prefix_rfl rfl rfl (Nat.le_of_ble_eq_true rfl) rfl (dx dX6_machineOf 3 rfl) ?_
  refine rb_eq (b := inR m (vM v)) (tgt := 20) C (dx dX6_machineOf 4 rfl) (by decide) (fun c1 => ?_) (fun c1 => ?_)
  ·
    have c1 : (inR m (vM v)) = false := c1
    refine r_aload_n C (dx dX6_machineOf 10 rfl) rfl ?_
    refine r_bipush (v := -2) C (dx dX6_machineOf 11 rfl) rfl ?_
    refine r_cv (as := [vi (-2)]) (st := []) C X I_X6_refuse l_X6_76 (c_X6_refuse (-2)) (by decide) (Nat.le_of_ble_eq_true rfl) List.prefix_rfl List.prefix_rfl rfl rfl (Nat.le_of_ble_eq_true rfl) rfl (dx dX6_machineOf 12 rfl) ?_
    intro rh2 h2 hph2 kkh2
    obtain ⟨rfl, gh2⟩ := hph2
    have oh2 : Ow h2 v u w g B z κ := o.ref gh2
    have fh2 : Fr 0 63 h h2 := gh2.mono (by omega) (by omega)
    have kh2 : xK h2 = xK h := kkh2
    exact F.1 _ _ _ _ _ rfl rfl (dx dX6_machineOf 13 rfl) kh2 ⟨⟨_, rfl⟩, (show OwX h h2 v w g B z κ from by exact ⟨⟨_, oh2⟩, fh2⟩)⟩
  ·
    have c1 : (inR m (vM v)) = true := c1
    obtain ⟨μ, hμ, rfl⟩ := inR_ex (n := (vM v)) (by omega) c1
    refine r_iload_n C (dx dX6_machineOf 5 rfl) rfl ?_
    refine r_if_lt (tgt := 20) C (dx dX6_machineOf 6 rfl) (by decide) (fun c3 => ?_) (fun c3 => ?_)
    ·
      have c3 : x < 0 := c3
      refine r_aload_n C (dx dX6_machineOf 10 rfl) rfl ?_
      refine r_bipush (v := -2) C (dx dX6_machineOf 11 rfl) rfl ?_
      refine r_cv (as := [vi (-2)]) (st := []) C X I_X6_refuse l_X6_76 (c_X6_refuse (-2)) (by decide) (Nat.le_of_ble_eq_true rfl) List.prefix_rfl List.prefix_rfl rfl rfl (Nat.le_of_ble_eq_true rfl) rfl (dx dX6_machineOf 12 rfl) ?_
      intro rh4 h4 hph4 kkh4
      obtain ⟨rfl, gh4⟩ := hph4
      have oh4 : Ow h4 v u w g B z κ := o.ref gh4
      have fh4 : Fr 0 63 h h4 := gh4.mono (by omega) (by omega)
      have kh4 : xK h4 = xK h := kkh4
      exact F.1 _ _ _ _ _ rfl rfl (dx dX6_machineOf 13 rfl) kh4 ⟨⟨_, rfl⟩, (show OwX h h4 v w g B z κ from by exact ⟨⟨_, oh4⟩, fh4⟩)⟩
    ·
      have c3 : ¬ x < 0 := c3
      refine r_iload_n C (dx dX6_machineOf 7 rfl) rfl ?_
      refine r_iconst (v := nI 1) C (dx dX6_machineOf 8 rfl) rfl ?_
      refine r_icmp_le (tgt := 27) C (dx dX6_machineOf 9 rfl) (by decide) (fun c5 => ?_) (fun c5 => ?_)
      ·
        have c5 : x ≤ nI 1 := c5
        refine r_iload_n C (dx dX6_machineOf 14 rfl) rfl ?_
        refine r_if_ne (tgt := 43) C (dx dX6_machineOf 15 rfl) (by decide) (fun c6 => ?_) (fun c6 => ?_)
        ·
          have c6 : ¬ x = 0 := c6
          refine r_aload_n C (dx dX6_machineOf 22 rfl) rfl ?_
          refine g_X6_10 C (dx dX6_machineOf 23 rfl) ?_
          refine g_X6_208 C (dx dX6_machineOf 24 rfl) ?_
          refine r_iload_n C (dx dX6_machineOf 25 rfl) rfl ?_
          refine r_iald (j := μ) (x := vF v 3 μ) C rfl rfl (by decide) rfl (by omega) (dx dX6_machineOf 26 rfl) (o.pv.e3 (by omega)) ?_
          exact F.1 _ _ _ _ _ rfl rfl (dx dX6_machineOf 27 rfl) rfl ⟨⟨_, rfl⟩, (show OwX h h v w g B z κ from by exact ⟨⟨_, o⟩, Fr.rf⟩)⟩
        ·
          have c6 : x = 0 := c6
          refine r_aload_n C (dx dX6_machineOf 16 rfl) rfl ?_
          refine g_X6_10 C (dx dX6_machineOf 17 rfl) ?_
          refine g_X6_205 C (dx dX6_machineOf 18 rfl) ?_
          refine r_iload_n C (dx dX6_machineOf 19 rfl) rfl ?_
          refine r_iald (j := μ) (x := vF v 2 μ) C rfl rfl (by decide) rfl (by omega) (dx dX6_machineOf 20 rfl) (o.pv.e2 (by omega)) ?_
          refine r_goto (tgt := 52) C (dx dX6_machineOf 21 rfl) (by decide) ?_
          exact F.1 _ _ _ _ _ rfl rfl (dx dX6_machineOf 27 rfl) rfl ⟨⟨_, rfl⟩, (show OwX h h v w g B z κ from by exact ⟨⟨_, o⟩, Fr.rf⟩)⟩
      ·
        have c5 : ¬ x ≤ nI 1 := c5
        refine r_aload_n C (dx dX6_machineOf 10 rfl) rfl ?_
        refine r_bipush (v := -2) C (dx dX6_machineOf 11 rfl) rfl ?_
        refine r_cv (as := [vi (-2)]) (st := []) C X I_X6_refuse l_X6_76 (c_X6_refuse (-2)) (by decide) (Nat.le_of_ble_eq_true rfl) List.prefix_rfl List.prefix_rfl rfl rfl (Nat.le_of_ble_eq_true rfl) rfl (dx dX6_machineOf 12 rfl) ?_
        intro rh7 h7 hph7 kkh7
        obtain ⟨rfl, gh7⟩ := hph7
        have oh7 : Ow h7 v u w g B z κ := o.ref gh7
        have fh7 : Fr 0 63 h h7 := gh7.mono (by omega) (by omega)
        have kh7 : xK h7 = xK h := kkh7
        exact F.1 _ _ _ _ _ rfl rfl (dx dX6_machineOf 13 rfl) kh7 ⟨⟨_, rfl⟩, (show OwX h h7 v w g B z κ from by exact ⟨⟨_, oh7⟩, fh7⟩)⟩
set_option maxHeartbeats 4000000 in
theorem x_oneOf {l : Launch} {h : Hp} {v u w : Vg} {g : Sg} {B : Nat → Int32} {z : Nat} {κ : Int32} (o : Ow h v u w g B z κ) (hg : GOk g) (o1 x : Int32) : Ms l yX6_oneOf cX6_oneOf 3 (some .int) 20 [vr 6 0, vi o1, vi x] h (xK h) (fun r h' => PI r ∧ OwX h h' v w g B z κ) := by
  refine Ms.of (by decide) (Nat.le_of_ble_eq_true rfl) (fun G C X F => ?_)
  have C : Cx G cX6_oneOf 3 RX6 := C
  show Rr G 0 [(0, vr 6 0), (1, vi o1), (2, vi x)] [] h
  have bP := o.pv.bP
  have bM := o.pv.bM
  have bN := o.pv.bN
  have bz := o.pt.2.2
  refine r_aload_n C (dx dX6_oneOf 0 rfl) rfl ?_
  refine g_X6_10 C (dx dX6_oneOf 1 rfl) ?_
  refine r_iload_n C (dx dX6_oneOf 2 rfl) rfl ?_
  refine r_cvP (as := [vi o1]) (st := []) (v := vi (b2i (inR o1 (vN v)))) C X I_X5_isOne l_X6_160 (c_X5_isOne o.pv _) (by decide) (Nat.le_of_ble_eq_true rfl) List.prefix_rfl rfl rfl (Nat.le_of_ble_eq_true rfl) rfl (dx dX6_oneOf 3 rfl) ?_
  refine rb_ne (b := inR o1 (vN v)) (tgt := 18) C (dx dX6_oneOf 4 rfl) (by decide) (fun c1 => ?_) (fun c1 => ?_)
  ·
    have c1 : (inR o1 (vN v)) = true := c1
    obtain ⟨o19, ho19, rfl⟩ := inR_ex (n := (vN v)) (by omega) c1
    refine r_iload_n C (dx dX6_oneOf 9 rfl) rfl ?_
    rcases sw_c 5 x with ⟨j9, hj9, e9⟩ | e9
    · rcases (show j9 = 0 ∨ j9 = 1 ∨ j9 = 2 ∨ j9 = 3 ∨ j9 = 4 by omega) with e8 | e8 | e8 | e8 | e8
      ·
        rw [e8] at e9; subst e9
        refine r_tabIn (off := 33) (tgt := 52) C (dx dX6_oneOf 10 rfl) (by decide) (by decide) (by decide) (by decide) ?_
        refine r_aload_n C (dx dX6_oneOf 11 rfl) rfl ?_
        refine g_X6_10 C (dx dX6_oneOf 12 rfl) ?_
        refine g_X6_211 C (dx dX6_oneOf 13 rfl) ?_
        refine r_iload_n C (dx dX6_oneOf 14 rfl) rfl ?_
        refine r_iald (j := o19) (x := vF v 4 o19) C rfl rfl (by decide) rfl (by omega) (dx dX6_oneOf 15 rfl) (o.pv.e4 (by omega)) ?_
        exact F.1 _ _ _ _ _ rfl rfl (dx dX6_oneOf 16 rfl) rfl ⟨⟨_, rfl⟩, (show OwX h h v w g B z κ from by exact ⟨⟨_, o⟩, Fr.rf⟩)⟩
      ·
        rw [e8] at e9; subst e9
        refine r_tabIn (off := 43) (tgt := 62) C (dx dX6_oneOf 10 rfl) (by decide) (by decide) (by decide) (by decide) ?_
        refine r_aload_n C (dx dX6_oneOf 17 rfl) rfl ?_
        refine g_X6_10 C (dx dX6_oneOf 18 rfl) ?_
        refine g_X6_163 C (dx dX6_oneOf 19 rfl) ?_
        refine r_iload_n C (dx dX6_oneOf 20 rfl) rfl ?_
        refine r_iald (j := o19) (x := vF v 5 o19) C rfl rfl (by decide) rfl (by omega) (dx dX6_oneOf 21 rfl) (o.pv.e5 (by omega)) ?_
        exact F.1 _ _ _ _ _ rfl rfl (dx dX6_oneOf 22 rfl) rfl ⟨⟨_, rfl⟩, (show OwX h h v w g B z κ from by exact ⟨⟨_, o⟩, Fr.rf⟩)⟩
      ·
        rw [e8] at e9; subst e9
        refine r_tabIn (off := 53) (tgt := 72) C (dx dX6_oneOf 10 rfl) (by decide) (by decide) (by decide) (by decide) ?_
        refine r_aload_n C (dx dX6_oneOf 23 rfl) rfl ?_
        refine g_X6_10 C (dx dX6_oneOf 24 rfl) ?_
        refine g_X6_166 C (dx dX6_oneOf 25 rfl) ?_
        refine r_iload_n C (dx dX6_oneOf 26 rfl) rfl ?_
        refine r_zald (j := o19) (x := vF v 6 o19) C rfl rfl (by decide) rfl (by omega) (dx dX6_oneOf 27 rfl) (o.pv.e6 (by omega)) ?_
        refine r_if_eq (tgt := 88) C (dx dX6_oneOf 28 rfl) (by decide) (fun c2 => ?_) (fun c2 => ?_)
        ·
          have c2 : vF v 6 o19 = 0 := c2
          refine r_iconst (v := nI 0) C (dx dX6_oneOf 31 rfl) rfl ?_
          exact F.1 _ _ _ _ _ rfl rfl (dx dX6_oneOf 32 rfl) rfl ⟨⟨_, rfl⟩, (show OwX h h v w g B z κ from by exact ⟨⟨_, o⟩, Fr.rf⟩)⟩
        ·
          have c2 : ¬ vF v 6 o19 = 0 := c2
          refine r_iconst (v := nI 1) C (dx dX6_oneOf 29 rfl) rfl ?_
          refine r_goto (tgt := 89) C (dx dX6_oneOf 30 rfl) (by decide) ?_
          exact F.1 _ _ _ _ _ rfl rfl (dx dX6_oneOf 32 rfl) rfl ⟨⟨_, rfl⟩, (show OwX h h v w g B z κ from by exact ⟨⟨_, o⟩, Fr.rf⟩)⟩
      ·
        rw [e8] at e9; subst e9
        refine r_tabIn (off := 71) (tgt := 90) C (dx dX6_oneOf 10 rfl) (by decide) (by decide) (by decide) (by decide) ?_
        refine r_aload_n C (dx dX6_oneOf 33 rfl) rfl ?_
        refine g_X6_10 C (dx dX6_oneOf 34 rfl) ?_
        refine r_iload_n C (dx dX6_oneOf 35 rfl) rfl ?_
        refine r_cvP (as := [vi (nI o19)]) (st := []) (v := vi (nI (pcs v (nI o19) (vP v)))) C X I_X5_piecesOf l_X6_214 (c_X5_piecesOf o.pv _) (by decide) (Nat.le_of_ble_eq_true rfl) List.prefix_rfl rfl rfl (Nat.le_of_ble_eq_true rfl) rfl (dx dX6_oneOf 36 rfl) ?_
        exact F.1 _ _ _ _ _ rfl rfl (dx dX6_oneOf 37 rfl) rfl ⟨⟨_, rfl⟩, (show OwX h h v w g B z κ from by exact ⟨⟨_, o⟩, Fr.rf⟩)⟩
      ·
        rw [e8] at e9; subst e9
        refine r_tabIn (off := 80) (tgt := 99) C (dx dX6_oneOf 10 rfl) (by decide) (by decide) (by decide) (by decide) ?_
        refine r_aload_n C (dx dX6_oneOf 38 rfl) rfl ?_
        refine g_X6_10 C (dx dX6_oneOf 39 rfl) ?_
        refine g_X6_217 C (dx dX6_oneOf 40 rfl) ?_
        refine r_iload_n C (dx dX6_oneOf 41 rfl) rfl ?_
        refine r_iald (j := o19) (x := vF v 7 o19) C rfl rfl (by decide) rfl (by omega) (dx dX6_oneOf 42 rfl) (o.pv.e7 (by omega)) ?_
        exact F.1 _ _ _ _ _ rfl rfl (dx dX6_oneOf 43 rfl) rfl ⟨⟨_, rfl⟩, (show OwX h h v w g B z κ from by exact ⟨⟨_, o⟩, Fr.rf⟩)⟩
    ·
      refine r_tabOut (tgt := 109) C (dx dX6_oneOf 10 rfl) (by omega) (by decide) ?_
      refine r_aload_n C (dx dX6_oneOf 44 rfl) rfl ?_
      refine r_bipush (v := -2) C (dx dX6_oneOf 45 rfl) rfl ?_
      refine r_cv (as := [vi (-2)]) (st := []) C X I_X6_refuse l_X6_76 (c_X6_refuse (-2)) (by decide) (Nat.le_of_ble_eq_true rfl) List.prefix_rfl List.prefix_rfl rfl rfl (Nat.le_of_ble_eq_true rfl) rfl (dx dX6_oneOf 46 rfl) ?_
      intro rh3 h3 hph3 kkh3
      obtain ⟨rfl, gh3⟩ := hph3
      have oh3 : Ow h3 v u w g B z κ := o.ref gh3
      have fh3 : Fr 0 63 h h3 := gh3.mono (by omega) (by omega)
      have kh3 : xK h3 = xK h := kkh3
      exact F.1 _ _ _ _ _ rfl rfl (dx dX6_oneOf 47 rfl) kh3 ⟨⟨_, rfl⟩, (show OwX h h3 v w g B z κ from by exact ⟨⟨_, oh3⟩, fh3⟩)⟩
  ·
    have c1 : (inR o1 (vN v)) = false := c1
    refine r_aload_n C (dx dX6_oneOf 5 rfl) rfl ?_
    refine r_bipush (v := -2) C (dx dX6_oneOf 6 rfl) rfl ?_
    refine r_cv (as := [vi (-2)]) (st := []) C X I_X6_refuse l_X6_76 (c_X6_refuse (-2)) (by decide) (Nat.le_of_ble_eq_true rfl) List.prefix_rfl List.prefix_rfl rfl rfl (Nat.le_of_ble_eq_true rfl) rfl (dx dX6_oneOf 7 rfl) ?_
    intro rh4 h4 hph4 kkh4
    obtain ⟨rfl, gh4⟩ := hph4
    have oh4 : Ow h4 v u w g B z κ := o.ref gh4
    have fh4 : Fr 0 63 h h4 := gh4.mono (by omega) (by omega)
    have kh4 : xK h4 = xK h := kkh4
    exact F.1 _ _ _ _ _ rfl rfl (dx dX6_oneOf 8 rfl) kh4 ⟨⟨_, rfl⟩, (show OwX h h4 v w g B z κ from by exact ⟨⟨_, oh4⟩, fh4⟩)⟩
set_option maxHeartbeats 4000000 in
theorem x_has {l : Launch} {h : Hp} {v u w : Vg} {g : Sg} {B : Nat → Int32} {z : Nat} {κ : Int32} (o : Ow h v u w g B z κ) (hg : GOk g) (x : Int32) : Ms l yX6_has cX6_has 2 (some .int) 20 [vr 6 0, vi x] h (xK h) (fun r h' => PI r ∧ OwX h h' v w g B z κ) := by
  refine Ms.of (by decide) (Nat.le_of_ble_eq_true rfl) (fun G C X F => ?_)
  have C : Cx G cX6_has 2 RX6 := C
  show Rr G 0 [(0, vr 6 0), (1, vi x)] [] h
  have bP := o.pv.bP
  have bM := o.pv.bM
  have bN := o.pv.bN
  have bz := o.pt.2.2
  refine r_aload_n C (dx dX6_has 0 rfl) rfl ?_
  refine g_X6_10 C (dx dX6_has 1 rfl) ?_
  refine r_iload_n C (dx dX6_has 2 rfl) rfl ?_
  refine r_cvP (as := [vi x]) (st := []) (v := vi (b2i (inR x (2 ^ vN v)))) C X I_X5_isSetOfPeople l_X6_220 (c_X5_isSetOfPeople o.pv _) (by decide) (Nat.le_of_ble_eq_true rfl) List.prefix_rfl rfl rfl (Nat.le_of_ble_eq_true rfl) rfl (dx dX6_has 3 rfl) ?_
  refine rb_ne (b := inR x (2 ^ vN v)) (tgt := 18) C (dx dX6_has 4 rfl) (by decide) (fun c1 => ?_) (fun c1 => ?_)
  ·
    have c1 : (inR x (2 ^ vN v)) = true := c1
    refine r_aload_n C (dx dX6_has 9 rfl) rfl ?_
    refine g_X6_10 C (dx dX6_has 10 rfl) ?_
    refine r_iload_n C (dx dX6_has 11 rfl) rfl ?_
    refine r_cvP (as := [vi x]) (st := []) (v := vi (hasP v x)) C X I_X5_partsWith l_X6_223 (c_X5_partsWith o.pv _) (by decide) (Nat.le_of_ble_eq_true rfl) List.prefix_rfl rfl rfl (Nat.le_of_ble_eq_true rfl) rfl (dx dX6_has 12 rfl) ?_
    exact F.1 _ _ _ _ _ rfl rfl (dx dX6_has 13 rfl) rfl ⟨⟨_, rfl⟩, (show OwX h h v w g B z κ from by exact ⟨⟨_, o⟩, Fr.rf⟩)⟩
  ·
    have c1 : (inR x (2 ^ vN v)) = false := c1
    refine r_aload_n C (dx dX6_has 5 rfl) rfl ?_
    refine r_bipush (v := -2) C (dx dX6_has 6 rfl) rfl ?_
    refine r_cv (as := [vi (-2)]) (st := []) C X I_X6_refuse l_X6_76 (c_X6_refuse (-2)) (by decide) (Nat.le_of_ble_eq_true rfl) List.prefix_rfl List.prefix_rfl rfl rfl (Nat.le_of_ble_eq_true rfl) rfl (dx dX6_has 7 rfl) ?_
    intro rh2 h2 hph2 kkh2
    obtain ⟨rfl, gh2⟩ := hph2
    have oh2 : Ow h2 v u w g B z κ := o.ref gh2
    have fh2 : Fr 0 63 h h2 := gh2.mono (by omega) (by omega)
    have kh2 : xK h2 = xK h := kkh2
    exact F.1 _ _ _ _ _ rfl rfl (dx dX6_has 8 rfl) kh2 ⟨⟨_, rfl⟩, (show OwX h h2 v w g B z κ from by exact ⟨⟨_, oh2⟩, fh2⟩)⟩
set_option maxHeartbeats 4000000 in
theorem x_works {l : Launch} {h : Hp} {v u w : Vg} {g : Sg} {B : Nat → Int32} {z : Nat} {κ : Int32} (o : Ow h v u w g B z κ) (hg : GOk g) (m x : Int32) : Ms l yX6_works cX6_works 3 (some .int) 20 [vr 6 0, vi m, vi x] h (xK h) (fun r h' => PI r ∧ OwX h h' v w g B z κ) := by
  refine Ms.of (by decide) (Nat.le_of_ble_eq_true rfl) (fun G C X F => ?_)
  have C : Cx G cX6_works 3 RX6 := C
  show Rr G 0 [(0, vr 6 0), (1, vi m), (2, vi x)] [] h
  have bP := o.pv.bP
  have bM := o.pv.bM
  have bN := o.pv.bN
  have bz := o.pt.2.2
  refine r_aload_n C (dx dX6_works 0 rfl) rfl ?_
  refine g_X6_10 C (dx dX6_works 1 rfl) ?_
  refine r_iload_n C (dx dX6_works 2 rfl) rfl ?_
  refine r_cvP (as := [vi m]) (st := []) (v := vi (b2i (inR m (vM v)))) C X I_X5_isMachine l_X6_202 (c_X5_isMachine o.pv _) (by decide) (Nat.le_of_ble_eq_true rfl) List.prefix_rfl rfl rfl (Nat.le_of_ble_eq_true rfl) rfl (dx dX6_works 3 rfl) ?_
  refine rb_eq (b := inR m (vM v)) (tgt := 22) C (dx dX6_works 4 rfl) (by decide) (fun c1 => ?_) (fun c1 => ?_)
  ·
    have c1 : (inR m (vM v)) = false := c1
    refine r_aload_n C (dx dX6_works 10 rfl) rfl ?_
    refine r_bipush (v := -2) C (dx dX6_works 11 rfl) rfl ?_
    refine r_cv (as := [vi (-2)]) (st := []) C X I_X6_refuse l_X6_76 (c_X6_refuse (-2)) (by decide) (Nat.le_of_ble_eq_true rfl) List.prefix_rfl List.prefix_rfl rfl rfl (Nat.le_of_ble_eq_true rfl) rfl (dx dX6_works 12 rfl) ?_
    intro rh2 h2 hph2 kkh2
    obtain ⟨rfl, gh2⟩ := hph2
    have oh2 : Ow h2 v u w g B z κ := o.ref gh2
    have fh2 : Fr 0 63 h h2 := gh2.mono (by omega) (by omega)
    have kh2 : xK h2 = xK h := kkh2
    exact F.1 _ _ _ _ _ rfl rfl (dx dX6_works 13 rfl) kh2 ⟨⟨_, rfl⟩, (show OwX h h2 v w g B z κ from by exact ⟨⟨_, oh2⟩, fh2⟩)⟩
  ·
    have c1 : (inR m (vM v)) = true := c1
    refine r_aload_n C (dx dX6_works 5 rfl) rfl ?_
    refine g_X6_10 C (dx dX6_works 6 rfl) ?_
    refine r_iload_n C (dx dX6_works 7 rfl) rfl ?_
    refine r_cvP (as := [vi x]) (st := []) (v := vi (b2i (inR x (2 ^ vN v)))) C X I_X5_isSetOfPeople l_X6_220 (c_X5_isSetOfPeople o.pv _) (by decide) (Nat.le_of_ble_eq_true rfl) List.prefix_rfl rfl rfl (Nat.le_of_ble_eq_true rfl) rfl (dx dX6_works 8 rfl) ?_
    refine rb_ne (b := inR x (2 ^ vN v)) (tgt := 29) C (dx dX6_works 9 rfl) (by decide) (fun c3 => ?_) (fun c3 => ?_)
    ·
      have c3 : (inR x (2 ^ vN v)) = true := c3
      refine r_aload_n C (dx dX6_works 14 rfl) rfl ?_
      refine g_X6_10 C (dx dX6_works 15 rfl) ?_
      refine r_iload_n C (dx dX6_works 16 rfl) rfl ?_
      refine r_aload_n C (dx dX6_works 17 rfl) rfl ?_
      refine g_X6_10 C (dx dX6_works 18 rfl) ?_
      refine r_iload_n C (dx dX6_works 19 rfl) rfl ?_
      refine r_cvP (as := [vi x]) (st := [vi m, vr 5 1]) (v := vi (hasP v x)) C X I_X5_partsWith l_X6_223 (c_X5_partsWith o.pv _) (by decide) (Nat.le_of_ble_eq_true rfl) List.prefix_rfl rfl rfl (Nat.le_of_ble_eq_true rfl) rfl (dx dX6_works 20 rfl) ?_
      refine r_cvP (as := [vi m, vi (hasP v x)]) (st := []) (v := vi (b2i (wkW v m (hasP v x)))) C X I_X5_isWorkedWith l_X6_226 (c_X5_isWorkedWith o.pv _ _) (by decide) (Nat.le_of_ble_eq_true rfl) List.prefix_rfl rfl rfl (Nat.le_of_ble_eq_true rfl) rfl (dx dX6_works 21 rfl) ?_
      refine rb_eq (b := wkW v m (hasP v x)) (tgt := 52) C (dx dX6_works 22 rfl) (by decide) (fun c4 => ?_) (fun c4 => ?_)
      ·
        have c4 : (wkW v m (hasP v x)) = false := c4
        refine r_iconst (v := nI 0) C (dx dX6_works 25 rfl) rfl ?_
        exact F.1 _ _ _ _ _ rfl rfl (dx dX6_works 26 rfl) rfl ⟨⟨_, rfl⟩, (show OwX h h v w g B z κ from by exact ⟨⟨_, o⟩, Fr.rf⟩)⟩
      ·
        have c4 : (wkW v m (hasP v x)) = true := c4
        refine r_iconst (v := nI 1) C (dx dX6_works 23 rfl) rfl ?_
        refine r_goto (tgt := 53) C (dx dX6_works 24 rfl) (by decide) ?_
        exact F.1 _ _ _ _ _ rfl rfl (dx dX6_works 26 rfl) rfl ⟨⟨_, rfl⟩, (show OwX h h v w g B z κ from by exact ⟨⟨_, o⟩, Fr.rf⟩)⟩
    ·
      have c3 : (inR x (2 ^ vN v)) = false := c3
      refine r_aload_n C (dx dX6_works 10 rfl) rfl ?_
      refine r_bipush (v := -2) C (dx dX6_works 11 rfl) rfl ?_
      refine r_cv (as := [vi (-2)]) (st := []) C X I_X6_refuse l_X6_76 (c_X6_refuse (-2)) (by decide) (Nat.le_of_ble_eq_true rfl) List.prefix_rfl List.prefix_rfl rfl rfl (Nat.le_of_ble_eq_true rfl) rfl (dx dX6_works 12 rfl) ?_
      intro rh5 h5 hph5 kkh5
      obtain ⟨rfl, gh5⟩ := hph5
      have oh5 : Ow h5 v u w g B z κ := o.ref gh5
      have fh5 : Fr 0 63 h h5 := gh5.mono (by omega) (by omega)
      have kh5 : xK h5 = xK h := kkh5
      exact F.1 _ _ _ _ _ rfl rfl (dx dX6_works 13 rfl) kh5 ⟨⟨_, rfl⟩, (show OwX h h5 v w g B z κ from by exact ⟨⟨_, oh5⟩, fh5⟩)⟩
set_option maxHeartbeats 4000000 in
theorem x_odds {l : Launch} {h : Hp} {v u w : Vg} {g : Sg} {B : Nat → Int32} {z : Nat} {κ : Int32} (o : Ow h v u w g B z κ) (hg : GOk g) (m : Int32) : Ms l yX6_odds cX6_odds 2 (some .long) 20 [vr 6 0, vi m] h (xK h) (fun r h' => PL r ∧ OwX h h' v w g B z κ) := by
  refine Ms.of (by decide) (Nat.le_of_ble_eq_true rfl) (fun G C X F => ?_)
  have C : Cx G cX6_odds 2 RX6 := C
  show Rr G 0 [(0, vr 6 0), (1, vi m)] [] h
  have bP := o.pv.bP
  have bM := o.pv.bM
  have bN := o.pv.bN
  have bz := o.pt.2.2
  refine r_aload_n C (dx dX6_odds 0 rfl) rfl ?_
  refine g_X6_10 C (dx dX6_odds 1 rfl) ?_
  refine r_iload_n C (dx dX6_odds 2 rfl) rfl ?_
  refine r_cvP (as := [vi m]) (st := []) (v := vi (b2i (inR m (vM v)))) C X I_X5_isMachine l_X6_202 (c_X5_isMachine o.pv _) (by decide) (Nat.le_of_ble_eq_true rfl) List.prefix_rfl rfl rfl (Nat.le_of_ble_eq_true rfl) rfl (dx dX6_odds 3 rfl) ?_
  refine rb_ne (b := inR m (vM v)) (tgt := 19) C (dx dX6_odds 4 rfl) (by decide) (fun c1 => ?_) (fun c1 => ?_)
  ·
    have c1 : (inR m (vM v)) = true := c1
    obtain ⟨μ, hμ, rfl⟩ := inR_ex (n := (vM v)) (by omega) c1
    refine r_aload_n C (dx dX6_odds 10 rfl) rfl ?_
    refine g_X6_29 C (dx dX6_odds 11 rfl) ?_
    refine r_aload_n C (dx dX6_odds 12 rfl) rfl ?_
    refine g_X6_10 C (dx dX6_odds 13 rfl) ?_
    refine r_iload_n C (dx dX6_odds 14 rfl) rfl ?_
    refine r_cv (as := [vr 5 1, vi (nI μ)]) (st := []) C X I_X4_oddsOf l_X6_236 (c_X4_oddsOf o.pv (by omega) μ (by omega)) (by decide) (Nat.le_of_ble_eq_true rfl) List.prefix_rfl List.prefix_rfl rfl rfl (Nat.le_of_ble_eq_true rfl) rfl (dx dX6_odds 15 rfl) ?_
    intro rh2 h2 hph2 kkh2
    obtain ⟨rfl, gh2⟩ := hph2
    have oh2 : Ow h2 v u w g B z κ := o.tm (gh2.mono (by omega) (by omega))
    have fh2 : Fr 0 63 h h2 := gh2.mono (by omega) (by omega)
    have kh2 : xK h2 = xK h := kkh2
    exact F.2.1 _ _ _ _ rfl (dx dX6_odds 16 rfl) kh2 ⟨⟨_, rfl⟩, (show OwX h h2 v w g B z κ from by exact ⟨⟨_, oh2⟩, fh2⟩)⟩
  ·
    have c1 : (inR m (vM v)) = false := c1
    refine r_aload_n C (dx dX6_odds 5 rfl) rfl ?_
    refine r_bipush (v := -2) C (dx dX6_odds 6 rfl) rfl ?_
    refine r_cv (as := [vi (-2)]) (st := []) C X I_X6_refuse l_X6_76 (c_X6_refuse (-2)) (by decide) (Nat.le_of_ble_eq_true rfl) List.prefix_rfl List.prefix_rfl rfl rfl (Nat.le_of_ble_eq_true rfl) rfl (dx dX6_odds 7 rfl) ?_
    intro rh3 h3 hph3 kkh3
    obtain ⟨rfl, gh3⟩ := hph3
    have oh3 : Ow h3 v u w g B z κ := o.ref gh3
    have fh3 : Fr 0 63 h h3 := gh3.mono (by omega) (by omega)
    have kh3 : xK h3 = xK h := kkh3
    refine r_i2l C (dx dX6_odds 8 rfl) ?_
    exact F.2.1 _ _ _ _ rfl (dx dX6_odds 9 rfl) kh3 ⟨⟨_, rfl⟩, (show OwX h h3 v w g B z κ from by exact ⟨⟨_, oh3⟩, fh3⟩)⟩
set_option maxHeartbeats 4000000 in
theorem x_day {l : Launch} {h : Hp} {v u w : Vg} {g : Sg} {B : Nat → Int32} {z : Nat} {κ : Int32} (o : Ow h v u w g B z κ) (hg : GOk g)  : Ms l yX6_day cX6_day 1 (some .long) 20 [vr 6 0] h (xK h) (fun r h' => PL r ∧ OwX h h' v w g B z κ) := by
  refine Ms.of (by decide) (Nat.le_of_ble_eq_true rfl) (fun G C X F => ?_)
  have C : Cx G cX6_day 1 RX6 := C
  show Rr G 0 [(0, vr 6 0)] [] h
  have bP := o.pv.bP
  have bM := o.pv.bM
  have bN := o.pv.bN
  have bz := o.pt.2.2
  refine r_aload_n C (dx dX6_day 0 rfl) rfl ?_
  refine g_X6_29 C (dx dX6_day 1 rfl) ?_
  refine r_aload_n C (dx dX6_day 2 rfl) rfl ?_
  refine g_X6_10 C (dx dX6_day 3 rfl) ?_
  refine r_cv (as := [vr 5 1]) (st := []) C X I_X4_worthOfDay l_X6_244 (c_X4_worthOfDay o.pv (by omega)) (by decide) (Nat.le_of_ble_eq_true rfl) List.prefix_rfl List.prefix_rfl rfl rfl (Nat.le_of_ble_eq_true rfl) rfl (dx dX6_day 4 rfl) ?_
  intro rh1 h1 hph1 kkh1
  obtain ⟨rfl, gh1⟩ := hph1
  have oh1 : Ow h1 v u w g B z κ := o.tm (gh1.mono (by omega) (by omega))
  have fh1 : Fr 0 63 h h1 := gh1.mono (by omega) (by omega)
  have kh1 : xK h1 = xK h := kkh1
  exact F.2.1 _ _ _ _ rfl (dx dX6_day 5 rfl) kh1 ⟨⟨_, rfl⟩, (show OwX h h1 v w g B z κ from by exact ⟨⟨_, oh1⟩, fh1⟩)⟩
set_option maxHeartbeats 4000000 in
theorem x_power {l : Launch} {h : Hp} {v u w : Vg} {g : Sg} {B : Nat → Int32} {z : Nat} {κ : Int32} (o : Ow h v u w g B z κ) (hg : GOk g) (m o1 : Int32) : Ms l yX6_power cX6_power 3 (some .int) 20 [vr 6 0, vi m, vi o1] h (xK h) (fun r h' => PI r ∧ OwX h h' v w g B z κ) := by
  refine Ms.of (by decide) (Nat.le_of_ble_eq_true rfl) (fun G C X F => ?_)
  have C : Cx G cX6_power 3 RX6 := C
  show Rr G 0 [(0, vr 6 0), (1, vi m), (2, vi o1)] [] h
  have bP := o.pv.bP
  have bM := o.pv.bM
  have bN := o.pv.bN
  have bz := o.pt.2.2
  refine r_aload_n C (dx dX6_power 0 rfl) rfl ?_
  refine g_X6_10 C (dx dX6_power 1 rfl) ?_
  refine r_iload_n C (dx dX6_power 2 rfl) rfl ?_
  refine r_cvP (as := [vi m]) (st := []) (v := vi (b2i (inR m (vM v)))) C X I_X5_isMachine l_X6_202 (c_X5_isMachine o.pv _) (by decide) (Nat.le_of_ble_eq_true rfl) List.prefix_rfl rfl rfl (Nat.le_of_ble_eq_true rfl) rfl (dx dX6_power 3 rfl) ?_
  refine rb_eq (b := inR m (vM v)) (tgt := 22) C (dx dX6_power 4 rfl) (by decide) (fun c1 => ?_) (fun c1 => ?_)
  ·
    have c1 : (inR m (vM v)) = false := c1
    refine r_aload_n C (dx dX6_power 10 rfl) rfl ?_
    refine r_bipush (v := -2) C (dx dX6_power 11 rfl) rfl ?_
    refine r_cv (as := [vi (-2)]) (st := []) C X I_X6_refuse l_X6_76 (c_X6_refuse (-2)) (by decide) (Nat.le_of_ble_eq_true rfl) List.prefix_rfl List.prefix_rfl rfl rfl (Nat.le_of_ble_eq_true rfl) rfl (dx dX6_power 12 rfl) ?_
    intro rh2 h2 hph2 kkh2
    obtain ⟨rfl, gh2⟩ := hph2
    have oh2 : Ow h2 v u w g B z κ := o.ref gh2
    have fh2 : Fr 0 63 h h2 := gh2.mono (by omega) (by omega)
    have kh2 : xK h2 = xK h := kkh2
    exact F.1 _ _ _ _ _ rfl rfl (dx dX6_power 13 rfl) kh2 ⟨⟨_, rfl⟩, (show OwX h h2 v w g B z κ from by exact ⟨⟨_, oh2⟩, fh2⟩)⟩
  ·
    have c1 : (inR m (vM v)) = true := c1
    obtain ⟨μ, hμ, rfl⟩ := inR_ex (n := (vM v)) (by omega) c1
    refine r_aload_n C (dx dX6_power 5 rfl) rfl ?_
    refine g_X6_10 C (dx dX6_power 6 rfl) ?_
    refine r_iload_n C (dx dX6_power 7 rfl) rfl ?_
    refine r_cvP (as := [vi o1]) (st := []) (v := vi (b2i (inR o1 (vN v)))) C X I_X5_isOne l_X6_160 (c_X5_isOne o.pv _) (by decide) (Nat.le_of_ble_eq_true rfl) List.prefix_rfl rfl rfl (Nat.le_of_ble_eq_true rfl) rfl (dx dX6_power 8 rfl) ?_
    refine rb_ne (b := inR o1 (vN v)) (tgt := 29) C (dx dX6_power 9 rfl) (by decide) (fun c3 => ?_) (fun c3 => ?_)
    ·
      have c3 : (inR o1 (vN v)) = true := c3
      obtain ⟨o19, ho19, rfl⟩ := inR_ex (n := (vN v)) (by omega) c3
      refine r_aload_n C (dx dX6_power 14 rfl) rfl ?_
      refine g_X6_29 C (dx dX6_power 15 rfl) ?_
      refine r_aload_n C (dx dX6_power 16 rfl) rfl ?_
      refine g_X6_10 C (dx dX6_power 17 rfl) ?_
      refine r_cv (as := [vr 5 1]) (st := []) C X I_X4_gather l_X6_248 (c_X4_gather o.pv (by omega)) (by decide) (Nat.le_of_ble_eq_true rfl) List.prefix_rfl List.prefix_rfl rfl rfl (Nat.le_of_ble_eq_true rfl) rfl (dx dX6_power 18 rfl) ?_
      intro rh4 h4 hph4 kkh4
      obtain ⟨rfl, qh4, gh4⟩ := hph4
      have oh4 : Ow h4 v u w g B z κ := o.tm (gh4.mono (by omega) (by omega))
      have fh4 : Fr 0 63 h h4 := gh4.mono (by omega) (by omega)
      have kh4 : xK h4 = xK h := kkh4
      refine r_aload_n C (dx dX6_power 19 rfl) rfl ?_
      refine g_X6_29 C (dx dX6_power 20 rfl) ?_
      refine r_aload_n C (dx dX6_power 21 rfl) rfl ?_
      refine g_X6_10 C (dx dX6_power 22 rfl) ?_
      refine r_iload_n C (dx dX6_power 23 rfl) rfl ?_
      refine r_iload_n C (dx dX6_power 24 rfl) rfl ?_
      refine r_cvP (as := [vr 5 1, vi (nI μ), vi (nI o19)]) (st := []) (v := vi (turnV v μ o19)) C X I_X4_turnsOn l_X6_251 (c_X4_turnsOn oh4.pv (by omega) μ o19 (by omega) (by omega) qh4 oh4.po) (by decide) (Nat.le_of_ble_eq_true rfl) (pfx_eq kh4) rfl rfl (Nat.le_of_ble_eq_true rfl) rfl (dx dX6_power 25 rfl) ?_
      exact F.1 _ _ _ _ _ rfl rfl (dx dX6_power 26 rfl) kh4 ⟨⟨_, rfl⟩, (show OwX h h4 v w g B z κ from by exact ⟨⟨_, oh4⟩, fh4⟩)⟩
    ·
      have c3 : (inR o1 (vN v)) = false := c3
      refine r_aload_n C (dx dX6_power 10 rfl) rfl ?_
      refine r_bipush (v := -2) C (dx dX6_power 11 rfl) rfl ?_
      refine r_cv (as := [vi (-2)]) (st := []) C X I_X6_refuse l_X6_76 (c_X6_refuse (-2)) (by decide) (Nat.le_of_ble_eq_true rfl) List.prefix_rfl List.prefix_rfl rfl rfl (Nat.le_of_ble_eq_true rfl) rfl (dx dX6_power 12 rfl) ?_
      intro rh5 h5 hph5 kkh5
      obtain ⟨rfl, gh5⟩ := hph5
      have oh5 : Ow h5 v u w g B z κ := o.ref gh5
      have fh5 : Fr 0 63 h h5 := gh5.mono (by omega) (by omega)
      have kh5 : xK h5 = xK h := kkh5
      exact F.1 _ _ _ _ _ rfl rfl (dx dX6_power 13 rfl) kh5 ⟨⟨_, rfl⟩, (show OwX h h5 v w g B z κ from by exact ⟨⟨_, oh5⟩, fh5⟩)⟩
set_option maxHeartbeats 4000000 in
theorem x_first {l : Launch} {h : Hp} {v u w : Vg} {g : Sg} {B : Nat → Int32} {z : Nat} {κ : Int32} (o : Ow h v u w g B z κ) (hg : GOk g)  : Ms l yX6_first cX6_first 7 (some .int) 20 [vr 6 0] h (xK h) (fun r h' => PI r ∧ OwX h h' v w g B z κ) := by
  refine Ms.of (by decide) (Nat.le_of_ble_eq_true rfl) (fun G C X F => ?_)
  have C : Cx G cX6_first 7 RX6 := C
  show Rr G 0 [(0, vr 6 0)] [] h
  have bP := o.pv.bP
  have bM := o.pv.bM
  have bN := o.pv.bN
  have bz := o.pt.2.2
  refine r_aload_n C (dx dX6_first 0 rfl) rfl ?_
  refine g_X6_10 C (dx dX6_first 1 rfl) ?_
  refine g_X6_154 (x := nI (vN v)) C (dx dX6_first 2 rfl) o.pv.eN ?_
  refine r_if_ne (tgt := 17) C (dx dX6_first 3 rfl) (by decide) (fun c1 => ?_) (fun c1 => ?_)
  ·
    have c1 : ¬ nI (vN v) = 0 := c1
    refine r_aload_n C (dx dX6_first 8 rfl) rfl ?_
    refine g_X6_29 C (dx dX6_first 9 rfl) ?_
    refine r_aload_n C (dx dX6_first 10 rfl) rfl ?_
    refine g_X6_10 C (dx dX6_first 11 rfl) ?_
    refine r_cv (as := [vr 5 1]) (st := []) C X I_X4_gather l_X6_248 (c_X4_gather o.pv (by omega)) (by decide) (Nat.le_of_ble_eq_true rfl) List.prefix_rfl List.prefix_rfl rfl rfl (Nat.le_of_ble_eq_true rfl) rfl (dx dX6_first 12 rfl) ?_
    intro rh2 h2 hph2 kkh2
    obtain ⟨rfl, qh2, gh2⟩ := hph2
    have oh2 : Ow h2 v u w g B z κ := o.tm (gh2.mono (by omega) (by omega))
    have fh2 : Fr 0 63 h h2 := gh2.mono (by omega) (by omega)
    have kh2 : xK h2 = xK h := kkh2
    refine r_iconst (v := nI 0) C (dx dX6_first 13 rfl) rfl ?_
    refine r_istore_n (ls' := [(0, vr 6 0), (1, vi (nI 0))]) C (dx dX6_first 14 rfl) (by decide) [1, 0] rfl ?_
    refine r_ldc2 C n_X6_255 (dx dX6_first 15 rfl) ?_
    refine r_lstore_n (ls' := [(0, vr 6 0), (1, vi (nI 0)), (2, vl (-1))]) C (dx dX6_first 16 rfl) (by decide) [1, 2, 0] rfl ?_
    refine r_iconst (v := nI 0) C (dx dX6_first 17 rfl) rfl ?_
    refine r_istore (ls' := [(0, vr 6 0), (1, vi (nI 0)), (2, vl (-1)), (4, vi (nI 0))]) C (dx dX6_first 18 rfl) (by decide) [1, 2, 3, 0] rfl ?_
    refine loopU (Φ := fun p => ∀ (x1 : Int32), ∀ (x2 : Int64), Rr G 37 [(0, vr 6 0), (1, vi x1), (2, vl x2), (4, vi (nI p))] [] h2) (N := vN v) ?_ ?_ 0 (by omega) (nI 0) (-1)
    ·
      intro  x1 x2
      refine r_iload C (dx dX6_first 19 rfl) rfl ?_
      refine r_aload_n C (dx dX6_first 20 rfl) rfl ?_
      refine g_X6_10 C (dx dX6_first 21 rfl) ?_
      refine g_X6_154 (x := nI (vN v)) C (dx dX6_first 22 rfl) oh2.pv.eN ?_
      refine rn_ge (a := vN v) (b := vN v) (tgt := 83) C (by omega) (by omega) (dx dX6_first 23 rfl) (by decide) (fun c3 => ?_) (fun c3 => ?_)
      · first
        | (omega; done)
        | (
            have c3 : vN v ≤ vN v := c3
            refine r_iload_n C (dx dX6_first 41 rfl) rfl ?_
            exact F.1 _ _ _ _ _ rfl rfl (dx dX6_first 42 rfl) kh2 ⟨⟨_, rfl⟩, (show OwX h h2 v w g B z κ from by exact ⟨⟨_, oh2⟩, fh2⟩)⟩)
      · first
        | (omega; done)
    ·
      intro p hp ihp x1 x2
      refine r_iload C (dx dX6_first 19 rfl) rfl ?_
      refine r_aload_n C (dx dX6_first 20 rfl) rfl ?_
      refine g_X6_10 C (dx dX6_first 21 rfl) ?_
      refine g_X6_154 (x := nI (vN v)) C (dx dX6_first 22 rfl) oh2.pv.eN ?_
      refine rn_ge (a := p) (b := vN v) (tgt := 83) C (by omega) (by omega) (dx dX6_first 23 rfl) (by decide) (fun c5 => ?_) (fun c5 => ?_)
      · first
        | (omega; done)
        | (
            have c5 : vN v ≤ p := c5
            refine r_iload_n C (dx dX6_first 41 rfl) rfl ?_
            exact F.1 _ _ _ _ _ rfl rfl (dx dX6_first 42 rfl) kh2 ⟨⟨_, rfl⟩, (show OwX h h2 v w g B z κ from by exact ⟨⟨_, oh2⟩, fh2⟩)⟩)
      · first
        | (omega; done)
        | (
            have c5 : p < vN v := c5
            refine r_aload_n C (dx dX6_first 24 rfl) rfl ?_
            refine g_X6_29 C (dx dX6_first 25 rfl) ?_
            refine r_aload_n C (dx dX6_first 26 rfl) rfl ?_
            refine g_X6_10 C (dx dX6_first 27 rfl) ?_
            refine r_iload C (dx dX6_first 28 rfl) rfl ?_
            refine r_cvP (as := [vr 5 1, vi (nI p)]) (st := []) (v := vl (worthT v p)) C X I_X4_worthOfTurnsOn l_X6_257 (c_X4_worthOfTurnsOn oh2.pv (by omega) p (by omega) qh2 oh2.po) (by decide) (Nat.le_of_ble_eq_true rfl) (pfx_eq kh2) rfl rfl (Nat.le_of_ble_eq_true rfl) rfl (dx dX6_first 29 rfl) ?_
            refine r_lstore (ls' := [(0, vr 6 0), (1, vi x1), (2, vl x2), (4, vi (nI p)), (5, vl (worthT v p))]) C (dx dX6_first 30 rfl) (by decide) [1, 2, 3, 4, 0] rfl ?_
            refine r_lload C (dx dX6_first 31 rfl) rfl ?_
            refine r_lload_n C (dx dX6_first 32 rfl) rfl ?_
            refine r_lcmp C (dx dX6_first 33 rfl) ?_
            refine r_if_le (tgt := 77) C (dx dX6_first 34 rfl) (by decide) (fun c6 => ?_) (fun c6 => ?_)
            ·
              have c6 : worthT v p ≤ x2 := (lg_cmp_le _ _).mp c6
              refine rn_iinc (a := p) (k := 1) (ls' := [(0, vr 6 0), (1, vi x1), (2, vl x2), (4, vi (nI (p + 1))), (5, vl (worthT v p))]) C (dx dX6_first 39 rfl) rfl rfl (by decide) [1, 2, 3, 0, 4] rfl ?_
              refine r_goto (tgt := 37) C (dx dX6_first 40 rfl) (by decide) ?_
              refine r_weak C [0, 1, 2, 3] rfl ?_
              exact ihp x1 x2
            ·
              have c6 : ¬ (worthT v p ≤ x2) := fun q => c6 ((lg_cmp_le _ _).mpr q)
              refine r_lload C (dx dX6_first 35 rfl) rfl ?_
              refine r_lstore_n (ls' := [(0, vr 6 0), (1, vi x1), (2, vl (worthT v p)), (4, vi (nI p)), (5, vl (worthT v p))]) C (dx dX6_first 36 rfl) (by decide) [1, 2, 0, 3, 4] rfl ?_
              refine r_iload C (dx dX6_first 37 rfl) rfl ?_
              refine r_istore_n (ls' := [(0, vr 6 0), (1, vi (nI p)), (2, vl (worthT v p)), (4, vi (nI p)), (5, vl (worthT v p))]) C (dx dX6_first 38 rfl) (by decide) [1, 0, 2, 3, 4] rfl ?_
              refine rn_iinc (a := p) (k := 1) (ls' := [(0, vr 6 0), (1, vi (nI p)), (2, vl (worthT v p)), (4, vi (nI (p + 1))), (5, vl (worthT v p))]) C (dx dX6_first 39 rfl) rfl rfl (by decide) [1, 2, 3, 0, 4] rfl ?_
              refine r_goto (tgt := 37) C (dx dX6_first 40 rfl) (by decide) ?_
              refine r_weak C [0, 1, 2, 3] rfl ?_
              exact ihp (nI p) (worthT v p))
  ·
    have c1 : nI (vN v) = 0 := c1
    refine r_aload_n C (dx dX6_first 4 rfl) rfl ?_
    refine r_bipush (v := -5) C (dx dX6_first 5 rfl) rfl ?_
    refine r_cv (as := [vi (-5)]) (st := []) C X I_X6_refuse l_X6_76 (c_X6_refuse (-5)) (by decide) (Nat.le_of_ble_eq_true rfl) List.prefix_rfl List.prefix_rfl rfl rfl (Nat.le_of_ble_eq_true rfl) rfl (dx dX6_first 6 rfl) ?_
    intro rh7 h7 hph7 kkh7
    obtain ⟨rfl, gh7⟩ := hph7
    have oh7 : Ow h7 v u w g B z κ := o.ref gh7
    have fh7 : Fr 0 63 h h7 := gh7.mono (by omega) (by omega)
    have kh7 : xK h7 = xK h := kkh7
    exact F.1 _ _ _ _ _ rfl rfl (dx dX6_first 7 rfl) kh7 ⟨⟨_, rfl⟩, (show OwX h h7 v w g B z κ from by exact ⟨⟨_, oh7⟩, fh7⟩)⟩
set_option maxHeartbeats 4000000 in
theorem x_swap {l : Launch} {h : Hp} {v u w : Vg} {g : Sg} {B : Nat → Int32} {z : Nat} {κ : Int32} (o : Ow h v u w g B z κ) (hg : GOk g) (p q : Int32) : Ms l yX6_swap cX6_swap 4 (some .int) 20 [vr 6 0, vi p, vi q] h (xK h) (fun r h' => r = some (vi (swapA v p q)) ∧ OwX h h' (swapV v p q) w g B z κ) := by
  refine Ms.of (by decide) (Nat.le_of_ble_eq_true rfl) (fun G C X F => ?_)
  have C : Cx G cX6_swap 4 RX6 := C
  show Rr G 0 [(0, vr 6 0), (1, vi p), (2, vi q)] [] h
  have bP := o.pv.bP
  have bM := o.pv.bM
  have bN := o.pv.bN
  have bz := o.pt.2.2
  refine r_aload_n C (dx dX6_swap 0 rfl) rfl ?_
  refine g_X6_10 C (dx dX6_swap 1 rfl) ?_
  refine r_iload_n C (dx dX6_swap 2 rfl) rfl ?_
  refine r_cvP (as := [vi p]) (st := []) (v := vi (b2i (inR p (vP v)))) C X I_X5_isPart l_X6_170 (c_X5_isPart o.pv _) (by decide) (Nat.le_of_ble_eq_true rfl) List.prefix_rfl rfl rfl (Nat.le_of_ble_eq_true rfl) rfl (dx dX6_swap 3 rfl) ?_
  refine rb_eq (b := inR p (vP v)) (tgt := 22) C (dx dX6_swap 4 rfl) (by decide) (fun c1 => ?_) (fun c1 => ?_)
  ·
    have c1 : (inR p (vP v)) = false := c1
    refine r_aload_n C (dx dX6_swap 10 rfl) rfl ?_
    refine r_bipush (v := -2) C (dx dX6_swap 11 rfl) rfl ?_
    refine r_cv (as := [vi (-2)]) (st := []) C X I_X6_refuse l_X6_76 (c_X6_refuse (-2)) (by decide) (Nat.le_of_ble_eq_true rfl) List.prefix_rfl List.prefix_rfl rfl rfl (Nat.le_of_ble_eq_true rfl) rfl (dx dX6_swap 12 rfl) ?_
    intro rh2 h2 hph2 kkh2
    obtain ⟨rfl, gh2⟩ := hph2
    have oh2 : Ow h2 v u w g B z κ := o.ref gh2
    have fh2 : Fr 0 63 h h2 := gh2.mono (by omega) (by omega)
    have kh2 : xK h2 = xK h := kkh2
    have eA : swapA v p q = -2 := by simp [swapA, swapV, c1]
    have eV : swapV v p q = v := by simp [swapA, swapV, c1]
    exact F.1 _ _ _ _ _ rfl rfl (dx dX6_swap 13 rfl) kh2 (show some (vi (-2)) = some (vi (swapA v p q)) ∧ OwX h h2 (swapV v p q) w g B z κ from by rw [eA, eV]; exact ⟨rfl, ⟨_, oh2⟩, fh2⟩)
  ·
    have c1 : (inR p (vP v)) = true := c1
    obtain ⟨π, hπ, rfl⟩ := inR_ex (n := (vP v)) (by omega) c1
    refine r_aload_n C (dx dX6_swap 5 rfl) rfl ?_
    refine g_X6_10 C (dx dX6_swap 6 rfl) ?_
    refine r_iload_n C (dx dX6_swap 7 rfl) rfl ?_
    refine r_cvP (as := [vi q]) (st := []) (v := vi (b2i (inR q (vP v)))) C X I_X5_isPart l_X6_170 (c_X5_isPart o.pv _) (by decide) (Nat.le_of_ble_eq_true rfl) List.prefix_rfl rfl rfl (Nat.le_of_ble_eq_true rfl) rfl (dx dX6_swap 8 rfl) ?_
    refine rb_ne (b := inR q (vP v)) (tgt := 29) C (dx dX6_swap 9 rfl) (by decide) (fun c3 => ?_) (fun c3 => ?_)
    ·
      have c3 : (inR q (vP v)) = true := c3
      obtain ⟨θ, hθ, rfl⟩ := inR_ex (n := (vP v)) (by omega) c3
      refine r_aload_n C (dx dX6_swap 14 rfl) rfl ?_
      refine g_X6_10 C (dx dX6_swap 15 rfl) ?_
      refine g_X6_176 C (dx dX6_swap 16 rfl) ?_
      refine r_iload_n C (dx dX6_swap 17 rfl) rfl ?_
      refine r_iald (j := π) (x := vF v 0 π) C rfl rfl (by decide) rfl (by omega) (dx dX6_swap 18 rfl) (o.pv.e0 (by omega)) ?_
      refine r_istore_n (ls' := [(0, vr 6 0), (1, vi (nI π)), (2, vi (nI θ)), (3, vi (vF v 0 π))]) C (dx dX6_swap 19 rfl) (by decide) [1, 2, 3, 0] rfl ?_
      refine r_iload_n C (dx dX6_swap 20 rfl) rfl ?_
      refine r_aload_n C (dx dX6_swap 21 rfl) rfl ?_
      refine g_X6_10 C (dx dX6_swap 22 rfl) ?_
      refine g_X6_176 C (dx dX6_swap 23 rfl) ?_
      refine r_iload_n C (dx dX6_swap 24 rfl) rfl ?_
      refine r_iald (j := θ) (x := vF v 0 θ) C rfl rfl (by decide) rfl (by omega) (dx dX6_swap 25 rfl) (o.pv.e0 (by omega)) ?_
      refine r_icmp_ne (tgt := 54) C (dx dX6_swap 26 rfl) (by decide) (fun c4 => ?_) (fun c4 => ?_)
      ·
        have c4 : ¬ vF v 0 π = vF v 0 θ := c4
        refine r_aload_n C (dx dX6_swap 29 rfl) rfl ?_
        refine g_X6_10 C (dx dX6_swap 30 rfl) ?_
        refine g_X6_176 C (dx dX6_swap 31 rfl) ?_
        refine r_iload_n C (dx dX6_swap 32 rfl) rfl ?_
        refine r_aload_n C (dx dX6_swap 33 rfl) rfl ?_
        refine g_X6_10 C (dx dX6_swap 34 rfl) ?_
        refine g_X6_176 C (dx dX6_swap 35 rfl) ?_
        refine r_iload_n C (dx dX6_swap 36 rfl) rfl ?_
        refine r_iald (j := θ) (x := vF v 0 θ) C rfl rfl (by decide) rfl (by omega) (dx dX6_swap 37 rfl) (o.pv.e0 (by omega)) ?_
        refine r_iast (j := π) C rfl rfl (by decide) rfl (by omega) (dx dX6_swap 38 rfl) ?_
        have oh5 : Ow (sI h 2 π (vF v 0 θ)) (vset v 0 π (vF v 0 θ)) u w g B z κ := o.now (o.pv.s0) (Fr.sI (by omega) (by omega))
        have fh5 : Fr 0 63 h (sI h 2 π (vF v 0 θ)) := Fr.sI (by omega) (by omega)
        have kh5 : xK (sI h 2 π (vF v 0 θ)) = xK h := rfl
        generalize sI h 2 π (vF v 0 θ) = h5 at oh5 fh5 kh5 ⊢
        refine r_aload_n C (dx dX6_swap 39 rfl) rfl ?_
        refine g_X6_10 C (dx dX6_swap 40 rfl) ?_
        refine g_X6_176 C (dx dX6_swap 41 rfl) ?_
        refine r_iload_n C (dx dX6_swap 42 rfl) rfl ?_
        refine r_iload_n C (dx dX6_swap 43 rfl) rfl ?_
        refine r_iast (j := θ) C rfl rfl (by decide) rfl (by omega) (dx dX6_swap 44 rfl) ?_
        have oh6 : Ow (sI h5 2 θ (vF v 0 π)) (vset (vset v 0 π (vF v 0 θ)) 0 θ (vF v 0 π)) u w g B z κ := oh5.now (oh5.pv.s0) (Fr.sI (by omega) (by omega))
        have fh6 : Fr 0 63 h (sI h5 2 θ (vF v 0 π)) := fh5.tr (Fr.sI (by omega) (by omega))
        have kh6 : xK (sI h5 2 θ (vF v 0 π)) = xK h := kh5
        generalize sI h5 2 θ (vF v 0 π) = h6 at oh6 fh6 kh6 ⊢
        refine r_iconst (v := nI 1) C (dx dX6_swap 45 rfl) rfl ?_
        have eA : swapA v (nI π) (nI θ) = nI 1 := by simp [swapA, swapV, clN (show π < 2 ^ 31 by omega), clN (show θ < 2 ^ 31 by omega), c1, c3, c4]
        have eV : swapV v (nI π) (nI θ) = (vset (vset v 0 π (vF v 0 θ)) 0 θ (vF v 0 π)) := by simp [swapA, swapV, clN (show π < 2 ^ 31 by omega), clN (show θ < 2 ^ 31 by omega), c1, c3, c4]
        exact F.1 _ _ _ _ _ rfl rfl (dx dX6_swap 46 rfl) kh6 (show some (vi (nI 1)) = some (vi (swapA v (nI π) (nI θ))) ∧ OwX h h6 (swapV v (nI π) (nI θ)) w g B z κ from by rw [eA, eV]; exact ⟨rfl, ⟨_, oh6⟩, fh6⟩)
      ·
        have c4 : vF v 0 π = vF v 0 θ := c4
        refine r_iconst (v := nI 0) C (dx dX6_swap 27 rfl) rfl ?_
        have eA : swapA v (nI π) (nI θ) = nI 0 := by simp [swapA, swapV, clN (show π < 2 ^ 31 by omega), clN (show θ < 2 ^ 31 by omega), c1, c3, c4]
        have eV : swapV v (nI π) (nI θ) = v := by simp [swapA, swapV, clN (show π < 2 ^ 31 by omega), clN (show θ < 2 ^ 31 by omega), c1, c3, c4]
        exact F.1 _ _ _ _ _ rfl rfl (dx dX6_swap 28 rfl) rfl (show some (vi (nI 0)) = some (vi (swapA v (nI π) (nI θ))) ∧ OwX h h (swapV v (nI π) (nI θ)) w g B z κ from by rw [eA, eV]; exact ⟨rfl, ⟨_, o⟩, Fr.rf⟩)
    ·
      have c3 : (inR q (vP v)) = false := c3
      refine r_aload_n C (dx dX6_swap 10 rfl) rfl ?_
      refine r_bipush (v := -2) C (dx dX6_swap 11 rfl) rfl ?_
      refine r_cv (as := [vi (-2)]) (st := []) C X I_X6_refuse l_X6_76 (c_X6_refuse (-2)) (by decide) (Nat.le_of_ble_eq_true rfl) List.prefix_rfl List.prefix_rfl rfl rfl (Nat.le_of_ble_eq_true rfl) rfl (dx dX6_swap 12 rfl) ?_
      intro rh7 h7 hph7 kkh7
      obtain ⟨rfl, gh7⟩ := hph7
      have oh7 : Ow h7 v u w g B z κ := o.ref gh7
      have fh7 : Fr 0 63 h h7 := gh7.mono (by omega) (by omega)
      have kh7 : xK h7 = xK h := kkh7
      have eA : swapA v (nI π) q = -2 := by simp [swapA, swapV, clN (show π < 2 ^ 31 by omega), c1, c3]
      have eV : swapV v (nI π) q = v := by simp [swapA, swapV, clN (show π < 2 ^ 31 by omega), c1, c3]
      exact F.1 _ _ _ _ _ rfl rfl (dx dX6_swap 13 rfl) kh7 (show some (vi (-2)) = some (vi (swapA v (nI π) q)) ∧ OwX h h7 (swapV v (nI π) q) w g B z κ from by rw [eA, eV]; exact ⟨rfl, ⟨_, oh7⟩, fh7⟩)
set_option maxHeartbeats 4000000 in
theorem x_seed {l : Launch} {h : Hp} {v u w : Vg} {g : Sg} {B : Nat → Int32} {z : Nat} {κ : Int32} (o : Ow h v u w g B z κ) (hg : GOk g) (x : Int32) : Ms l yX6_seed cX6_seed 3 (some .int) 20 [vr 6 0, vi x] h (xK h) (fun r h' => r = some (vi (vS v)) ∧ OwX h h' (vsS v x) w g B z κ) := by
  refine Ms.of (by decide) (Nat.le_of_ble_eq_true rfl) (fun G C X F => ?_)
  have C : Cx G cX6_seed 3 RX6 := C
  show Rr G 0 [(0, vr 6 0), (1, vi x)] [] h
  have bP := o.pv.bP
  have bM := o.pv.bM
  have bN := o.pv.bN
  have bz := o.pt.2.2
  refine r_aload_n C (dx dX6_seed 0 rfl) rfl ?_
  refine g_X6_10 C (dx dX6_seed 1 rfl) ?_
  refine g_X6_334 (x := vS v) C (dx dX6_seed 2 rfl) o.pv.eS ?_
  refine r_istore_n (ls' := [(0, vr 6 0), (1, vi x), (2, vi (vS v))]) C (dx dX6_seed 3 rfl) (by decide) [1, 2, 0] rfl ?_
  refine r_aload_n C (dx dX6_seed 4 rfl) rfl ?_
  refine g_X6_10 C (dx dX6_seed 5 rfl) ?_
  refine r_iload_n C (dx dX6_seed 6 rfl) rfl ?_
  refine p_X6_334 C (dx dX6_seed 7 rfl) rfl rfl ?_
  have oh1 : Ow (sI h 1 11 x) (vsS v x) u w g B z κ := o.now (o.pv.sS) (Fr.sI (by omega) (by omega))
  have fh1 : Fr 0 63 h (sI h 1 11 x) := Fr.sI (by omega) (by omega)
  have kh1 : xK (sI h 1 11 x) = xK h := rfl
  generalize sI h 1 11 x = h1 at oh1 fh1 kh1 ⊢
  refine r_iload_n C (dx dX6_seed 8 rfl) rfl ?_
  exact F.1 _ _ _ _ _ rfl rfl (dx dX6_seed 9 rfl) kh1 (show some (vi (vS v)) = some (vi (vS v)) ∧ OwX h h1 (vsS v x) w g B z κ from by exact ⟨rfl, ⟨_, oh1⟩, fh1⟩)
set_option maxHeartbeats 4000000 in
theorem x_image {l : Launch} {h : Hp} {v u w : Vg} {g : Sg} {B : Nat → Int32} {z : Nat} {κ : Int32} (o : Ow h v u w g B z κ) (hg : GOk g)  : Ms l yX6_image cX6_image 1 (some .int) 20 [vr 6 0] h (xK h) (fun r h' => r = some (vi (nI 1)) ∧ OwX h h' v v g B z (nI 1)) := by
  refine Ms.of (by decide) (Nat.le_of_ble_eq_true rfl) (fun G C X F => ?_)
  have C : Cx G cX6_image 1 RX6 := C
  show Rr G 0 [(0, vr 6 0)] [] h
  have bP := o.pv.bP
  have bM := o.pv.bM
  have bN := o.pv.bN
  have bz := o.pt.2.2
  refine r_aload_n C (dx dX6_image 0 rfl) rfl ?_
  refine g_X6_19 C (dx dX6_image 1 rfl) ?_
  refine r_aload_n C (dx dX6_image 2 rfl) rfl ?_
  refine g_X6_10 C (dx dX6_image 3 rfl) ?_
  refine r_cv (as := [vr 5 1]) (st := []) C X I_X5_takeOver l_X6_191 (c_X5_takeOver o.pw o.pv (by omega)) (by decide) (Nat.le_of_ble_eq_true rfl) List.prefix_rfl List.prefix_rfl rfl rfl (Nat.le_of_ble_eq_true rfl) rfl (dx dX6_image 4 rfl) ?_
  intro rh1 h1 hph1 kkh1
  obtain ⟨rfl, wh1, gh1⟩ := hph1
  have oh1 : Ow h1 v u v g B z κ := o.kep wh1 gh1
  have fh1 : Fr 0 63 h h1 := gh1.mono (by omega) (by omega)
  have kh1 : xK h1 = xK h := kkh1
  refine r_aload_n C (dx dX6_image 5 rfl) rfl ?_
  refine r_iconst (v := nI 1) C (dx dX6_image 6 rfl) rfl ?_
  refine p_X6_22 C (dx dX6_image 7 rfl) rfl rfl ?_
  have oh2 : Ow (sI h1 0 3 (nI 1)) v u v g B z (nI 1) := oh1.self (by rw [sI_at]; rfl) (Fr.sI (by omega) (by omega))
  have fh2 : Fr 0 63 h (sI h1 0 3 (nI 1)) := fh1.tr (Fr.sI (by omega) (by omega))
  have kh2 : xK (sI h1 0 3 (nI 1)) = xK h := kh1
  generalize sI h1 0 3 (nI 1) = h2 at oh2 fh2 kh2 ⊢
  refine r_iconst (v := nI 1) C (dx dX6_image 8 rfl) rfl ?_
  exact F.1 _ _ _ _ _ rfl rfl (dx dX6_image 9 rfl) kh2 (show some (vi (nI 1)) = some (vi (nI 1)) ∧ OwX h h2 v v g B z (nI 1) from by exact ⟨rfl, ⟨_, oh2⟩, fh2⟩)
set_option maxHeartbeats 4000000 in
theorem x_never {l : Launch} {h : Hp} {v u w : Vg} {g : Sg} {B : Nat → Int32} {z : Nat} {κ : Int32} (o : Ow h v u w g B z κ) (hg : GOk g) (b : Bool) : Ms l yX6_never cX6_never 3 (some .int) 20 [vr 6 0, vi (b2i b)] h (xK h) (fun r h' => PI r ∧ OwX h h' v w g B z κ) := by
  refine Ms.of (by decide) (Nat.le_of_ble_eq_true rfl) (fun G C X F => ?_)
  have C : Cx G cX6_never 3 RX6 := C
  show Rr G 0 [(0, vr 6 0), (1, vi (b2i b))] [] h
  have bP := o.pv.bP
  have bM := o.pv.bM
  have bN := o.pv.bN
  have bz := o.pt.2.2
  refine r_aload_n C (dx dX6_never 0 rfl) rfl ?_
  refine g_X6_10 C (dx dX6_never 1 rfl) ?_
  refine r_aload_n C (dx dX6_never 2 rfl) rfl ?_
  refine g_X6_10 C (dx dX6_never 3 rfl) ?_
  refine r_cvP (as := []) (st := [vr 5 1]) (v := vi (full (vN v))) C X I_X5_allPeople l_X6_282 (c_X5_allPeople o.pv) (by decide) (Nat.le_of_ble_eq_true rfl) List.prefix_rfl rfl rfl (Nat.le_of_ble_eq_true rfl) rfl (dx dX6_never 4 rfl) ?_
  refine r_cvP (as := [vi (full (vN v))]) (st := []) (v := vi (hasP v (full (vN v)))) C X I_X5_partsWith l_X6_223 (c_X5_partsWith o.pv _) (by decide) (Nat.le_of_ble_eq_true rfl) List.prefix_rfl rfl rfl (Nat.le_of_ble_eq_true rfl) rfl (dx dX6_never 5 rfl) ?_
  refine r_istore_n (ls' := [(0, vr 6 0), (1, vi (b2i b)), (2, vi (hasP v (full (vN v))))]) C (dx dX6_never 6 rfl) (by decide) [1, 2, 0] rfl ?_
  refine r_iload_n C (dx dX6_never 7 rfl) rfl ?_
  refine rb_ne (b := b) (tgt := 31) C (dx dX6_never 8 rfl) (by decide) (fun c1 => ?_) (fun c1 => ?_)
  ·
    have c1 : b = true := c1
    refine r_aload_n C (dx dX6_never 17 rfl) rfl ?_
    refine g_X6_10 C (dx dX6_never 18 rfl) ?_
    refine r_cvP (as := []) (st := []) (v := vi (full (vM v))) C X I_X5_allMachines l_X6_306 (c_X5_allMachines o.pv) (by decide) (Nat.le_of_ble_eq_true rfl) List.prefix_rfl rfl rfl (Nat.le_of_ble_eq_true rfl) rfl (dx dX6_never 19 rfl) ?_
    refine r_aload_n C (dx dX6_never 20 rfl) rfl ?_
    refine g_X6_10 C (dx dX6_never 21 rfl) ?_
    refine r_iload_n C (dx dX6_never 22 rfl) rfl ?_
    refine r_cvP (as := [vi (hasP v (full (vN v)))]) (st := [vi (full (vM v))]) (v := vi (macW v (hasP v (full (vN v))))) C X I_X5_machinesWith l_X6_309 (c_X5_machinesWith o.pv _) (by decide) (Nat.le_of_ble_eq_true rfl) List.prefix_rfl rfl rfl (Nat.le_of_ble_eq_true rfl) rfl (dx dX6_never 23 rfl) ?_
    refine r_iconst (v := -1) C (dx dX6_never 24 rfl) rfl ?_
    refine r_ixor C (dx dX6_never 25 rfl) ?_
    refine r_iand C (dx dX6_never 26 rfl) ?_
    exact F.1 _ _ _ _ _ rfl rfl (dx dX6_never 27 rfl) rfl ⟨⟨_, rfl⟩, (show OwX h h v w g B z κ from by exact ⟨⟨_, o⟩, Fr.rf⟩)⟩
  ·
    have c1 : b = false := c1
    refine r_aload_n C (dx dX6_never 9 rfl) rfl ?_
    refine g_X6_10 C (dx dX6_never 10 rfl) ?_
    refine r_cvP (as := []) (st := []) (v := vi (full (vP v))) C X I_X5_allParts l_X6_296 (c_X5_allParts o.pv) (by decide) (Nat.le_of_ble_eq_true rfl) List.prefix_rfl rfl rfl (Nat.le_of_ble_eq_true rfl) rfl (dx dX6_never 11 rfl) ?_
    refine r_iload_n C (dx dX6_never 12 rfl) rfl ?_
    refine r_iconst (v := -1) C (dx dX6_never 13 rfl) rfl ?_
    refine r_ixor C (dx dX6_never 14 rfl) ?_
    refine r_iand C (dx dX6_never 15 rfl) ?_
    exact F.1 _ _ _ _ _ rfl rfl (dx dX6_never 16 rfl) rfl ⟨⟨_, rfl⟩, (show OwX h h v w g B z κ from by exact ⟨⟨_, o⟩, Fr.rf⟩)⟩
set_option maxHeartbeats 4000000 in
theorem x_alone {l : Launch} {h : Hp} {v u w : Vg} {g : Sg} {B : Nat → Int32} {z : Nat} {κ : Int32} (o : Ow h v u w g B z κ) (hg : GOk g) (o1 : Int32) : Ms l yX6_alone cX6_alone 2 (some .int) 20 [vr 6 0, vi o1] h (xK h) (fun r h' => PI r ∧ OwX h h' v w g B z κ) := by
  refine Ms.of (by decide) (Nat.le_of_ble_eq_true rfl) (fun G C X F => ?_)
  have C : Cx G cX6_alone 2 RX6 := C
  show Rr G 0 [(0, vr 6 0), (1, vi o1)] [] h
  have bP := o.pv.bP
  have bM := o.pv.bM
  have bN := o.pv.bN
  have bz := o.pt.2.2
  refine r_aload_n C (dx dX6_alone 0 rfl) rfl ?_
  refine g_X6_10 C (dx dX6_alone 1 rfl) ?_
  refine r_iload_n C (dx dX6_alone 2 rfl) rfl ?_
  refine r_cvP (as := [vi o1]) (st := []) (v := vi (b2i (inR o1 (vN v)))) C X I_X5_isOne l_X6_160 (c_X5_isOne o.pv _) (by decide) (Nat.le_of_ble_eq_true rfl) List.prefix_rfl rfl rfl (Nat.le_of_ble_eq_true rfl) rfl (dx dX6_alone 3 rfl) ?_
  refine rb_ne (b := inR o1 (vN v)) (tgt := 18) C (dx dX6_alone 4 rfl) (by decide) (fun c1 => ?_) (fun c1 => ?_)
  ·
    have c1 : (inR o1 (vN v)) = true := c1
    refine r_aload_n C (dx dX6_alone 9 rfl) rfl ?_
    refine g_X6_10 C (dx dX6_alone 10 rfl) ?_
    refine r_aload_n C (dx dX6_alone 11 rfl) rfl ?_
    refine g_X6_10 C (dx dX6_alone 12 rfl) ?_
    refine r_iload_n C (dx dX6_alone 13 rfl) rfl ?_
    refine r_cvP (as := [vi o1]) (st := [vr 5 1]) (v := vi (ownP v o1)) C X I_X5_partsOfOne l_X6_312 (c_X5_partsOfOne o.pv _) (by decide) (Nat.le_of_ble_eq_true rfl) List.prefix_rfl rfl rfl (Nat.le_of_ble_eq_true rfl) rfl (dx dX6_alone 14 rfl) ?_
    refine r_cvP (as := [vi (ownP v o1)]) (st := []) (v := vi (macW v (ownP v o1))) C X I_X5_machinesWith l_X6_309 (c_X5_machinesWith o.pv _) (by decide) (Nat.le_of_ble_eq_true rfl) List.prefix_rfl rfl rfl (Nat.le_of_ble_eq_true rfl) rfl (dx dX6_alone 15 rfl) ?_
    exact F.1 _ _ _ _ _ rfl rfl (dx dX6_alone 16 rfl) rfl ⟨⟨_, rfl⟩, (show OwX h h v w g B z κ from by exact ⟨⟨_, o⟩, Fr.rf⟩)⟩
  ·
    have c1 : (inR o1 (vN v)) = false := c1
    refine r_aload_n C (dx dX6_alone 5 rfl) rfl ?_
    refine r_bipush (v := -2) C (dx dX6_alone 6 rfl) rfl ?_
    refine r_cv (as := [vi (-2)]) (st := []) C X I_X6_refuse l_X6_76 (c_X6_refuse (-2)) (by decide) (Nat.le_of_ble_eq_true rfl) List.prefix_rfl List.prefix_rfl rfl rfl (Nat.le_of_ble_eq_true rfl) rfl (dx dX6_alone 7 rfl) ?_
    intro rh2 h2 hph2 kkh2
    obtain ⟨rfl, gh2⟩ := hph2
    have oh2 : Ow h2 v u w g B z κ := o.ref gh2
    have fh2 : Fr 0 63 h h2 := gh2.mono (by omega) (by omega)
    have kh2 : xK h2 = xK h := kkh2
    exact F.1 _ _ _ _ _ rfl rfl (dx dX6_alone 8 rfl) kh2 ⟨⟨_, rfl⟩, (show OwX h h2 v w g B z κ from by exact ⟨⟨_, oh2⟩, fh2⟩)⟩
set_option maxHeartbeats 4000000 in
theorem x_room {l : Launch} {h : Hp} {v u w : Vg} {g : Sg} {B : Nat → Int32} {z : Nat} {κ : Int32} (o : Ow h v u w g B z κ) (hg : GOk g)  : Ms l yX6_room cX6_room 3 (some .int) 20 [vr 6 0] h (xK h) (fun r h' => PI r ∧ OwX h h' v w g B z κ) := by
  refine Ms.of (by decide) (Nat.le_of_ble_eq_true rfl) (fun G C X F => ?_)
  have C : Cx G cX6_room 3 RX6 := C
  show Rr G 0 [(0, vr 6 0)] [] h
  have bP := o.pv.bP
  have bM := o.pv.bM
  have bN := o.pv.bN
  have bz := o.pt.2.2
  refine r_iconst (v := nI 0) C (dx dX6_room 0 rfl) rfl ?_
  refine r_istore_n (ls' := [(0, vr 6 0), (1, vi (nI 0))]) C (dx dX6_room 1 rfl) (by decide) [1, 0] rfl ?_
  refine r_iconst (v := nI 0) C (dx dX6_room 2 rfl) rfl ?_
  refine r_istore_n (ls' := [(0, vr 6 0), (1, vi (nI 0)), (2, vi (nI 0))]) C (dx dX6_room 3 rfl) (by decide) [1, 2, 0] rfl ?_
  refine loopU (Φ := fun p => ∀ (x1 : Int32), Rr G 4 [(0, vr 6 0), (1, vi x1), (2, vi (nI p))] [] h) (N := vN v) ?_ ?_ 0 (by omega) (nI 0)
  ·
    intro  x1
    refine r_iload_n C (dx dX6_room 4 rfl) rfl ?_
    refine r_aload_n C (dx dX6_room 5 rfl) rfl ?_
    refine g_X6_10 C (dx dX6_room 6 rfl) ?_
    refine g_X6_154 (x := nI (vN v)) C (dx dX6_room 7 rfl) o.pv.eN ?_
    refine rn_ge (a := vN v) (b := vN v) (tgt := 42) C (by omega) (by omega) (dx dX6_room 8 rfl) (by decide) (fun c1 => ?_) (fun c1 => ?_)
    · first
      | (omega; done)
      | (
          have c1 : vN v ≤ vN v := c1
          refine r_iload_n C (dx dX6_room 24 rfl) rfl ?_
          exact F.1 _ _ _ _ _ rfl rfl (dx dX6_room 25 rfl) rfl ⟨⟨_, rfl⟩, (show OwX h h v w g B z κ from by exact ⟨⟨_, o⟩, Fr.rf⟩)⟩)
    · first
      | (omega; done)
  ·
    intro p hp ihp x1
    refine r_iload_n C (dx dX6_room 4 rfl) rfl ?_
    refine r_aload_n C (dx dX6_room 5 rfl) rfl ?_
    refine g_X6_10 C (dx dX6_room 6 rfl) ?_
    refine g_X6_154 (x := nI (vN v)) C (dx dX6_room 7 rfl) o.pv.eN ?_
    refine rn_ge (a := p) (b := vN v) (tgt := 42) C (by omega) (by omega) (dx dX6_room 8 rfl) (by decide) (fun c2 => ?_) (fun c2 => ?_)
    · first
      | (omega; done)
      | (
          have c2 : vN v ≤ p := c2
          refine r_iload_n C (dx dX6_room 24 rfl) rfl ?_
          exact F.1 _ _ _ _ _ rfl rfl (dx dX6_room 25 rfl) rfl ⟨⟨_, rfl⟩, (show OwX h h v w g B z κ from by exact ⟨⟨_, o⟩, Fr.rf⟩)⟩)
    · first
      | (omega; done)
      | (
          have c2 : p < vN v := c2
          refine r_iload_n C (dx dX6_room 9 rfl) rfl ?_
          refine r_aload_n C (dx dX6_room 10 rfl) rfl ?_
          refine g_X6_10 C (dx dX6_room 11 rfl) ?_
          refine g_X6_211 C (dx dX6_room 12 rfl) ?_
          refine r_iload_n C (dx dX6_room 13 rfl) rfl ?_
          refine r_iald (j := p) (x := vF v 4 p) C rfl rfl (by decide) rfl (by omega) (dx dX6_room 14 rfl) (o.pv.e4 (by omega)) ?_
          refine r_aload_n C (dx dX6_room 15 rfl) rfl ?_
          refine g_X6_10 C (dx dX6_room 16 rfl) ?_
          refine r_iload_n C (dx dX6_room 17 rfl) rfl ?_
          refine r_cvP (as := [vi (nI p)]) (st := [vi (vF v 4 p), vi x1]) (v := vi (nI (pcs v (nI p) (vP v)))) C X I_X5_piecesOf l_X6_214 (c_X5_piecesOf o.pv _) (by decide) (Nat.le_of_ble_eq_true rfl) List.prefix_rfl rfl rfl (Nat.le_of_ble_eq_true rfl) rfl (dx dX6_room 18 rfl) ?_
          refine r_isub C (dx dX6_room 19 rfl) ?_
          refine r_iadd C (dx dX6_room 20 rfl) ?_
          refine r_istore_n (ls' := [(0, vr 6 0), (1, vi (x1 + ((vF v 4 p) - (nI (pcs v (nI p) (vP v)))))), (2, vi (nI p))]) C (dx dX6_room 21 rfl) (by decide) [1, 0, 2] rfl ?_
          refine rn_iinc (a := p) (k := 1) (ls' := [(0, vr 6 0), (1, vi (x1 + ((vF v 4 p) - (nI (pcs v (nI p) (vP v)))))), (2, vi (nI (p + 1)))]) C (dx dX6_room 22 rfl) rfl rfl (by decide) [1, 2, 0] rfl ?_
          refine r_goto (tgt := 4) C (dx dX6_room 23 rfl) (by decide) ?_
          exact ihp (x1 + ((vF v 4 p) - (nI (pcs v (nI p) (vP v))))))
set_option maxHeartbeats 4000000 in
theorem x_says {l : Launch} {h : Hp} {v u w : Vg} {g : Sg} {B : Nat → Int32} {z : Nat} {κ : Int32} (o : Ow h v u w g B z κ) (hg : GOk g) (s x : Int32) : Ms l yX6_says cX6_says 4 (some .int) 20 [vr 6 0, vi s, vi x] h (xK h) (fun r h' => PI r ∧ OwX h h' v w g B z κ) := by
  refine Ms.of (by decide) (Nat.le_of_ble_eq_true rfl) (fun G C X F => ?_)
  have C : Cx G cX6_says 4 RX6 := C
  show Rr G 0 [(0, vr 6 0), (1, vi s), (2, vi x)] [] h
  have bP := o.pv.bP
  have bM := o.pv.bM
  have bN := o.pv.bN
  have bz := o.pt.2.2
  refine r_aload_n C (dx dX6_says 0 rfl) rfl ?_
  refine g_X6_57 C (dx dX6_says 1 rfl) ?_
  refine r_iload_n C (dx dX6_says 2 rfl) rfl ?_
  refine r_cvP (as := [vi s]) (st := []) (v := vi (b2i (inR s 8))) C X I_X2_isShelf l_X6_72 (c_X2_isShelf _) (by decide) (Nat.le_of_ble_eq_true rfl) List.prefix_rfl rfl rfl (Nat.le_of_ble_eq_true rfl) rfl (dx dX6_says 3 rfl) ?_
  refine rb_eq (b := inR s 8) (tgt := 20) C (dx dX6_says 4 rfl) (by decide) (fun c1 => ?_) (fun c1 => ?_)
  ·
    have c1 : (inR s 8) = false := c1
    refine r_aload_n C (dx dX6_says 10 rfl) rfl ?_
    refine r_bipush (v := -2) C (dx dX6_says 11 rfl) rfl ?_
    refine r_cv (as := [vi (-2)]) (st := []) C X I_X6_refuse l_X6_76 (c_X6_refuse (-2)) (by decide) (Nat.le_of_ble_eq_true rfl) List.prefix_rfl List.prefix_rfl rfl rfl (Nat.le_of_ble_eq_true rfl) rfl (dx dX6_says 12 rfl) ?_
    intro rh2 h2 hph2 kkh2
    obtain ⟨rfl, gh2⟩ := hph2
    have oh2 : Ow h2 v u w g B z κ := o.ref gh2
    have fh2 : Fr 0 63 h h2 := gh2.mono (by omega) (by omega)
    have kh2 : xK h2 = xK h := kkh2
    exact F.1 _ _ _ _ _ rfl rfl (dx dX6_says 13 rfl) kh2 ⟨⟨_, rfl⟩, (show OwX h h2 v w g B z κ from by exact ⟨⟨_, oh2⟩, fh2⟩)⟩
  ·
    have c1 : (inR s 8) = true := c1
    refine r_iload_n C (dx dX6_says 5 rfl) rfl ?_
    refine r_if_lt (tgt := 20) C (dx dX6_says 6 rfl) (by decide) (fun c3 => ?_) (fun c3 => ?_)
    ·
      have c3 : x < 0 := c3
      refine r_aload_n C (dx dX6_says 10 rfl) rfl ?_
      refine r_bipush (v := -2) C (dx dX6_says 11 rfl) rfl ?_
      refine r_cv (as := [vi (-2)]) (st := []) C X I_X6_refuse l_X6_76 (c_X6_refuse (-2)) (by decide) (Nat.le_of_ble_eq_true rfl) List.prefix_rfl List.prefix_rfl rfl rfl (Nat.le_of_ble_eq_true rfl) rfl (dx dX6_says 12 rfl) ?_
      intro rh4 h4 hph4 kkh4
      obtain ⟨rfl, gh4⟩ := hph4
      have oh4 : Ow h4 v u w g B z κ := o.ref gh4
      have fh4 : Fr 0 63 h h4 := gh4.mono (by omega) (by omega)
      have kh4 : xK h4 = xK h := kkh4
      exact F.1 _ _ _ _ _ rfl rfl (dx dX6_says 13 rfl) kh4 ⟨⟨_, rfl⟩, (show OwX h h4 v w g B z κ from by exact ⟨⟨_, oh4⟩, fh4⟩)⟩
    ·
      have c3 : ¬ x < 0 := c3
      refine r_iload_n C (dx dX6_says 7 rfl) rfl ?_
      refine r_iconst (v := nI 5) C (dx dX6_says 8 rfl) rfl ?_
      refine r_icmp_le (tgt := 27) C (dx dX6_says 9 rfl) (by decide) (fun c5 => ?_) (fun c5 => ?_)
      ·
        have c5 : x ≤ nI 5 := c5
        refine r_aload_n C (dx dX6_says 14 rfl) rfl ?_
        refine g_X6_57 C (dx dX6_says 15 rfl) ?_
        refine r_iload_n C (dx dX6_says 16 rfl) rfl ?_
        refine r_cvP (as := [vi s]) (st := []) (v := vi (hfV g s)) C X I_X2_holdingFault l_X6_114 (c_X2_holdingFault o.pg _) (by decide) (Nat.le_of_ble_eq_true rfl) List.prefix_rfl rfl rfl (Nat.le_of_ble_eq_true rfl) rfl (dx dX6_says 17 rfl) ?_
        refine r_istore_n (ls' := [(0, vr 6 0), (1, vi s), (2, vi x), (3, vi (hfV g s))]) C (dx dX6_says 18 rfl) (by decide) [1, 2, 3, 0] rfl ?_
        refine r_iload_n C (dx dX6_says 19 rfl) rfl ?_
        refine r_if_ne (tgt := 58) C (dx dX6_says 20 rfl) (by decide) (fun c6 => ?_) (fun c6 => ?_)
        ·
          have c6 : ¬ hfV g s = 0 := c6
          refine r_iload_n C (dx dX6_says 30 rfl) rfl ?_
          refine r_if_eq (tgt := 68) C (dx dX6_says 31 rfl) (by decide) (fun c7 => ?_) (fun c7 => ?_)
          ·
            have c7 : hfV g s = 0 := c7
            exact absurd c7 c6
          ·
            have c7 : ¬ hfV g s = 0 := c7
            refine r_aload_n C (dx dX6_says 32 rfl) rfl ?_
            refine r_iload_n C (dx dX6_says 33 rfl) rfl ?_
            refine r_cv (as := [vi (hfV g s)]) (st := []) C X I_X6_refuse l_X6_76 (c_X6_refuse (hfV g s)) (by decide) (Nat.le_of_ble_eq_true rfl) List.prefix_rfl List.prefix_rfl rfl rfl (Nat.le_of_ble_eq_true rfl) rfl (dx dX6_says 34 rfl) ?_
            intro rh8 h8 hph8 kkh8
            obtain ⟨rfl, gh8⟩ := hph8
            have oh8 : Ow h8 v u w g B z κ := o.ref gh8
            have fh8 : Fr 0 63 h h8 := gh8.mono (by omega) (by omega)
            have kh8 : xK h8 = xK h := kkh8
            exact F.1 _ _ _ _ _ rfl rfl (dx dX6_says 35 rfl) kh8 ⟨⟨_, rfl⟩, (show OwX h h8 v w g B z κ from by exact ⟨⟨_, oh8⟩, fh8⟩)⟩
        ·
          have c6 : hfV g s = 0 := c6
          refine r_aload_n C (dx dX6_says 21 rfl) rfl ?_
          refine g_X6_57 C (dx dX6_says 22 rfl) ?_
          refine r_iload_n C (dx dX6_says 23 rfl) rfl ?_
          refine r_cvP (as := [vi s]) (st := []) (v := vi (kdV g s)) C X I_X2_kindOn l_X6_117 (c_X2_kindOn o.pg _) (by decide) (Nat.le_of_ble_eq_true rfl) List.prefix_rfl rfl rfl (Nat.le_of_ble_eq_true rfl) rfl (dx dX6_says 24 rfl) ?_
          refine r_iload_n C (dx dX6_says 25 rfl) rfl ?_
          refine r_csP (as := [vi (kdV g s), vi x]) (st := []) (v := vi (b2i (undV (kdV g s) x))) C X I_X6_isUnder l_X6_120 (c_X6_isUnder _ _) (by decide) (Nat.le_of_ble_eq_true rfl) List.prefix_rfl (Nat.le_of_ble_eq_true rfl) rfl (dx dX6_says 26 rfl) ?_
          refine rb_ne (b := undV (kdV g s) x) (tgt := 58) C (dx dX6_says 27 rfl) (by decide) (fun c9 => ?_) (fun c9 => ?_)
          ·
            have c9 : (undV (kdV g s) x) = true := c9
            refine r_iload_n C (dx dX6_says 30 rfl) rfl ?_
            refine r_if_eq (tgt := 68) C (dx dX6_says 31 rfl) (by decide) (fun c10 => ?_) (fun c10 => ?_)
            ·
              have c10 : hfV g s = 0 := c10
              refine r_iload_n C (dx dX6_says 36 rfl) rfl ?_
              refine r_if_ne (tgt := 81) C (dx dX6_says 37 rfl) (by decide) (fun c11 => ?_) (fun c11 => ?_)
              ·
                have c11 : ¬ x = 0 := c11
                refine r_aload_n C (dx dX6_says 43 rfl) rfl ?_
                refine r_iload_n C (dx dX6_says 44 rfl) rfl ?_
                refine r_cv (as := [vi s]) (st := []) C X I_X6_tryHolding l_X6_127 (c_X6_tryHolding o hg (hf_hold c6)) (by decide) (Nat.le_of_ble_eq_true rfl) List.prefix_rfl List.prefix_rfl rfl rfl (Nat.le_of_ble_eq_true rfl) rfl (dx dX6_says 45 rfl) ?_
                intro rh12 h12 hph12 kkh12
                obtain ⟨rfl, ⟨yh12, wh12⟩, gh12⟩ := hph12
                have oh12 : Ow h12 v yh12 w g B z κ := wh12
                have fh12 : Fr 0 63 h h12 := gh12
                have kh12 : xK h12 = xK h := kkh12
                refine r_iload_n C (dx dX6_says 46 rfl) rfl ?_
                refine r_iconst (v := nI 3) C (dx dX6_says 47 rfl) rfl ?_
                refine r_icmp_ne (tgt := 101) C (dx dX6_says 48 rfl) (by decide) (fun c13 => ?_) (fun c13 => ?_)
                ·
                  have c13 : ¬ x = nI 3 := c13
                  refine r_aload_n C (dx dX6_says 53 rfl) rfl ?_
                  refine g_X6_16 C (dx dX6_says 54 rfl) ?_
                  refine r_cvP (as := []) (st := []) (v := vi (nI (cnt (fun p => decide (¬ vF yh12 0 p = -1)) (vP yh12)))) C X I_X5_holderCount l_X6_135 (c_X5_holderCount oh12.pu) (by decide) (Nat.le_of_ble_eq_true rfl) (pfx_eq kh12) rfl rfl (Nat.le_of_ble_eq_true rfl) rfl (dx dX6_says 55 rfl) ?_
                  exact F.1 _ _ _ _ _ rfl rfl (dx dX6_says 56 rfl) kh12 ⟨⟨_, rfl⟩, (show OwX h h12 v w g B z κ from by exact ⟨⟨_, oh12⟩, fh12⟩)⟩
                ·
                  have c13 : x = nI 3 := c13
                  refine r_aload_n C (dx dX6_says 49 rfl) rfl ?_
                  refine g_X6_16 C (dx dX6_says 50 rfl) ?_
                  refine r_cvP (as := []) (st := []) (v := vi (nI (cnt (fun p => decide (¬ vF yh12 1 p = -1)) (vP yh12)))) C X I_X5_secondCount l_X6_131 (c_X5_secondCount oh12.pu) (by decide) (Nat.le_of_ble_eq_true rfl) (pfx_eq kh12) rfl rfl (Nat.le_of_ble_eq_true rfl) rfl (dx dX6_says 51 rfl) ?_
                  refine r_goto (tgt := 108) C (dx dX6_says 52 rfl) (by decide) ?_
                  exact F.1 _ _ _ _ _ rfl rfl (dx dX6_says 56 rfl) kh12 ⟨⟨_, rfl⟩, (show OwX h h12 v w g B z κ from by exact ⟨⟨_, oh12⟩, fh12⟩)⟩
              ·
                have c11 : x = 0 := c11
                refine r_aload_n C (dx dX6_says 38 rfl) rfl ?_
                refine g_X6_57 C (dx dX6_says 39 rfl) ?_
                refine r_iload_n C (dx dX6_says 40 rfl) rfl ?_
                refine r_cvP (as := [vi s]) (st := []) (v := vi (byV g s)) C X I_X2_byOn l_X6_124 (c_X2_byOn o.pg _) (by decide) (Nat.le_of_ble_eq_true rfl) List.prefix_rfl rfl rfl (Nat.le_of_ble_eq_true rfl) rfl (dx dX6_says 41 rfl) ?_
                exact F.1 _ _ _ _ _ rfl rfl (dx dX6_says 42 rfl) rfl ⟨⟨_, rfl⟩, (show OwX h h v w g B z κ from by exact ⟨⟨_, o⟩, Fr.rf⟩)⟩
            ·
              have c10 : ¬ hfV g s = 0 := c10
              exact absurd c6 c10
          ·
            have c9 : (undV (kdV g s) x) = false := c9
            refine r_bipush (v := -3) C (dx dX6_says 28 rfl) rfl ?_
            refine r_istore_n (ls' := [(0, vr 6 0), (1, vi s), (2, vi x), (3, vi (-3))]) C (dx dX6_says 29 rfl) (by decide) [1, 2, 3, 0] rfl ?_
            refine r_iload_n C (dx dX6_says 30 rfl) rfl ?_
            refine r_if_eq (tgt := 68) C (dx dX6_says 31 rfl) (by decide) (fun c14 => ?_) (fun c14 => ?_)
            ·
              have c14 : (-3 : Int32) = 0 := c14
              refine r_iload_n C (dx dX6_says 36 rfl) rfl ?_
              refine r_if_ne (tgt := 81) C (dx dX6_says 37 rfl) (by decide) (fun c15 => ?_) (fun c15 => ?_)
              ·
                have c15 : ¬ x = 0 := c15
                refine r_aload_n C (dx dX6_says 43 rfl) rfl ?_
                refine r_iload_n C (dx dX6_says 44 rfl) rfl ?_
                refine r_cv (as := [vi s]) (st := []) C X I_X6_tryHolding l_X6_127 (c_X6_tryHolding o hg (hf_hold c6)) (by decide) (Nat.le_of_ble_eq_true rfl) List.prefix_rfl List.prefix_rfl rfl rfl (Nat.le_of_ble_eq_true rfl) rfl (dx dX6_says 45 rfl) ?_
                intro rh16 h16 hph16 kkh16
                obtain ⟨rfl, ⟨yh16, wh16⟩, gh16⟩ := hph16
                have oh16 : Ow h16 v yh16 w g B z κ := wh16
                have fh16 : Fr 0 63 h h16 := gh16
                have kh16 : xK h16 = xK h := kkh16
                refine r_iload_n C (dx dX6_says 46 rfl) rfl ?_
                refine r_iconst (v := nI 3) C (dx dX6_says 47 rfl) rfl ?_
                refine r_icmp_ne (tgt := 101) C (dx dX6_says 48 rfl) (by decide) (fun c17 => ?_) (fun c17 => ?_)
                ·
                  have c17 : ¬ x = nI 3 := c17
                  refine r_aload_n C (dx dX6_says 53 rfl) rfl ?_
                  refine g_X6_16 C (dx dX6_says 54 rfl) ?_
                  refine r_cvP (as := []) (st := []) (v := vi (nI (cnt (fun p => decide (¬ vF yh16 0 p = -1)) (vP yh16)))) C X I_X5_holderCount l_X6_135 (c_X5_holderCount oh16.pu) (by decide) (Nat.le_of_ble_eq_true rfl) (pfx_eq kh16) rfl rfl (Nat.le_of_ble_eq_true rfl) rfl (dx dX6_says 55 rfl) ?_
                  exact F.1 _ _ _ _ _ rfl rfl (dx dX6_says 56 rfl) kh16 ⟨⟨_, rfl⟩, (show OwX h h16 v w g B z κ from by exact ⟨⟨_, oh16⟩, fh16⟩)⟩
                ·
                  have c17 : x = nI 3 := c17
                  refine r_aload_n C (dx dX6_says 49 rfl) rfl ?_
                  refine g_X6_16 C (dx dX6_says 50 rfl) ?_
                  refine r_cvP (as := []) (st := []) (v := vi (nI (cnt (fun p => decide (¬ vF yh16 1 p = -1)) (vP yh16)))) C X I_X5_secondCount l_X6_131 (c_X5_secondCount oh16.pu) (by decide) (Nat.le_of_ble_eq_true rfl) (pfx_eq kh16) rfl rfl (Nat.le_of_ble_eq_true rfl) rfl (dx dX6_says 51 rfl) ?_
                  refine r_goto (tgt := 108) C (dx dX6_says 52 rfl) (by decide) ?_
                  exact F.1 _ _ _ _ _ rfl rfl (dx dX6_says 56 rfl) kh16 ⟨⟨_, rfl⟩, (show OwX h h16 v w g B z κ from by exact ⟨⟨_, oh16⟩, fh16⟩)⟩
              ·
                have c15 : x = 0 := c15
                refine r_aload_n C (dx dX6_says 38 rfl) rfl ?_
                refine g_X6_57 C (dx dX6_says 39 rfl) ?_
                refine r_iload_n C (dx dX6_says 40 rfl) rfl ?_
                refine r_cvP (as := [vi s]) (st := []) (v := vi (byV g s)) C X I_X2_byOn l_X6_124 (c_X2_byOn o.pg _) (by decide) (Nat.le_of_ble_eq_true rfl) List.prefix_rfl rfl rfl (Nat.le_of_ble_eq_true rfl) rfl (dx dX6_says 41 rfl) ?_
                exact F.1 _ _ _ _ _ rfl rfl (dx dX6_says 42 rfl) rfl ⟨⟨_, rfl⟩, (show OwX h h v w g B z κ from by exact ⟨⟨_, o⟩, Fr.rf⟩)⟩
            ·
              have c14 : ¬ (-3 : Int32) = 0 := c14
              refine r_aload_n C (dx dX6_says 32 rfl) rfl ?_
              refine r_iload_n C (dx dX6_says 33 rfl) rfl ?_
              refine r_cv (as := [vi (-3)]) (st := []) C X I_X6_refuse l_X6_76 (c_X6_refuse (-3)) (by decide) (Nat.le_of_ble_eq_true rfl) List.prefix_rfl List.prefix_rfl rfl rfl (Nat.le_of_ble_eq_true rfl) rfl (dx dX6_says 34 rfl) ?_
              intro rh18 h18 hph18 kkh18
              obtain ⟨rfl, gh18⟩ := hph18
              have oh18 : Ow h18 v u w g B z κ := o.ref gh18
              have fh18 : Fr 0 63 h h18 := gh18.mono (by omega) (by omega)
              have kh18 : xK h18 = xK h := kkh18
              exact F.1 _ _ _ _ _ rfl rfl (dx dX6_says 35 rfl) kh18 ⟨⟨_, rfl⟩, (show OwX h h18 v w g B z κ from by exact ⟨⟨_, oh18⟩, fh18⟩)⟩
      ·
        have c5 : ¬ x ≤ nI 5 := c5
        refine r_aload_n C (dx dX6_says 10 rfl) rfl ?_
        refine r_bipush (v := -2) C (dx dX6_says 11 rfl) rfl ?_
        refine r_cv (as := [vi (-2)]) (st := []) C X I_X6_refuse l_X6_76 (c_X6_refuse (-2)) (by decide) (Nat.le_of_ble_eq_true rfl) List.prefix_rfl List.prefix_rfl rfl rfl (Nat.le_of_ble_eq_true rfl) rfl (dx dX6_says 12 rfl) ?_
        intro rh19 h19 hph19 kkh19
        obtain ⟨rfl, gh19⟩ := hph19
        have oh19 : Ow h19 v u w g B z κ := o.ref gh19
        have fh19 : Fr 0 63 h h19 := gh19.mono (by omega) (by omega)
        have kh19 : xK h19 = xK h := kkh19
        exact F.1 _ _ _ _ _ rfl rfl (dx dX6_says 13 rfl) kh19 ⟨⟨_, rfl⟩, (show OwX h h19 v w g B z κ from by exact ⟨⟨_, oh19⟩, fh19⟩)⟩
set_option maxHeartbeats 4000000 in
theorem x_would {l : Launch} {h : Hp} {v u w : Vg} {g : Sg} {B : Nat → Int32} {z : Nat} {κ : Int32} (o : Ow h v u w g B z κ) (hg : GOk g) (s : Int32) : Ms l yX6_would cX6_would 3 (some .long) 20 [vr 6 0, vi s] h (xK h) (fun r h' => PL r ∧ OwX h h' v w g B z κ) := by
  refine Ms.of (by decide) (Nat.le_of_ble_eq_true rfl) (fun G C X F => ?_)
  have C : Cx G cX6_would 3 RX6 := C
  show Rr G 0 [(0, vr 6 0), (1, vi s)] [] h
  have bP := o.pv.bP
  have bM := o.pv.bM
  have bN := o.pv.bN
  have bz := o.pt.2.2
  refine r_aload_n C (dx dX6_would 0 rfl) rfl ?_
  refine g_X6_57 C (dx dX6_would 1 rfl) ?_
  refine r_iload_n C (dx dX6_would 2 rfl) rfl ?_
  refine r_cvP (as := [vi s]) (st := []) (v := vi (b2i (inR s 8))) C X I_X2_isShelf l_X6_72 (c_X2_isShelf _) (by decide) (Nat.le_of_ble_eq_true rfl) List.prefix_rfl rfl rfl (Nat.le_of_ble_eq_true rfl) rfl (dx dX6_would 3 rfl) ?_
  refine rb_ne (b := inR s 8) (tgt := 19) C (dx dX6_would 4 rfl) (by decide) (fun c1 => ?_) (fun c1 => ?_)
  ·
    have c1 : (inR s 8) = true := c1
    refine r_aload_n C (dx dX6_would 10 rfl) rfl ?_
    refine g_X6_57 C (dx dX6_would 11 rfl) ?_
    refine r_iload_n C (dx dX6_would 12 rfl) rfl ?_
    refine r_cvP (as := [vi s]) (st := []) (v := vi (hfV g s)) C X I_X2_holdingFault l_X6_114 (c_X2_holdingFault o.pg _) (by decide) (Nat.le_of_ble_eq_true rfl) List.prefix_rfl rfl rfl (Nat.le_of_ble_eq_true rfl) rfl (dx dX6_would 13 rfl) ?_
    refine r_istore_n (ls' := [(0, vr 6 0), (1, vi s), (2, vi (hfV g s))]) C (dx dX6_would 14 rfl) (by decide) [1, 2, 0] rfl ?_
    refine r_iload_n C (dx dX6_would 15 rfl) rfl ?_
    refine r_if_eq (tgt := 39) C (dx dX6_would 16 rfl) (by decide) (fun c2 => ?_) (fun c2 => ?_)
    ·
      have c2 : hfV g s = 0 := c2
      refine r_aload_n C (dx dX6_would 22 rfl) rfl ?_
      refine r_iload_n C (dx dX6_would 23 rfl) rfl ?_
      refine r_cv (as := [vi s]) (st := []) C X I_X6_tryHolding l_X6_127 (c_X6_tryHolding o hg (hf_hold c2)) (by decide) (Nat.le_of_ble_eq_true rfl) List.prefix_rfl List.prefix_rfl rfl rfl (Nat.le_of_ble_eq_true rfl) rfl (dx dX6_would 24 rfl) ?_
      intro rh3 h3 hph3 kkh3
      obtain ⟨rfl, ⟨yh3, wh3⟩, gh3⟩ := hph3
      have oh3 : Ow h3 v yh3 w g B z κ := wh3
      have fh3 : Fr 0 63 h h3 := gh3
      have kh3 : xK h3 = xK h := kkh3
      refine r_aload_n C (dx dX6_would 25 rfl) rfl ?_
      refine g_X6_29 C (dx dX6_would 26 rfl) ?_
      refine r_aload_n C (dx dX6_would 27 rfl) rfl ?_
      refine g_X6_16 C (dx dX6_would 28 rfl) ?_
      refine r_cv (as := [vr 5 10]) (st := []) C X I_X4_worthOfDay l_X6_244 (c_X4_worthOfDay oh3.pu (by omega)) (by decide) (Nat.le_of_ble_eq_true rfl) List.prefix_rfl (pfx_eq kh3) rfl rfl (Nat.le_of_ble_eq_true rfl) rfl (dx dX6_would 29 rfl) ?_
      intro rh4 h4 hph4 kkh4
      obtain ⟨rfl, gh4⟩ := hph4
      have oh4 : Ow h4 v yh3 w g B z κ := oh3.tm (gh4.mono (by omega) (by omega))
      have fh4 : Fr 0 63 h h4 := fh3.tr (gh4.mono (by omega) (by omega))
      have kh4 : xK h4 = xK h := (kkh4).trans kh3
      exact F.2.1 _ _ _ _ rfl (dx dX6_would 30 rfl) kh4 ⟨⟨_, rfl⟩, (show OwX h h4 v w g B z κ from by exact ⟨⟨_, oh4⟩, fh4⟩)⟩
    ·
      have c2 : ¬ hfV g s = 0 := c2
      refine r_aload_n C (dx dX6_would 17 rfl) rfl ?_
      refine r_iload_n C (dx dX6_would 18 rfl) rfl ?_
      refine r_cv (as := [vi (hfV g s)]) (st := []) C X I_X6_refuse l_X6_76 (c_X6_refuse (hfV g s)) (by decide) (Nat.le_of_ble_eq_true rfl) List.prefix_rfl List.prefix_rfl rfl rfl (Nat.le_of_ble_eq_true rfl) rfl (dx dX6_would 19 rfl) ?_
      intro rh5 h5 hph5 kkh5
      obtain ⟨rfl, gh5⟩ := hph5
      have oh5 : Ow h5 v u w g B z κ := o.ref gh5
      have fh5 : Fr 0 63 h h5 := gh5.mono (by omega) (by omega)
      have kh5 : xK h5 = xK h := kkh5
      refine r_i2l C (dx dX6_would 20 rfl) ?_
      exact F.2.1 _ _ _ _ rfl (dx dX6_would 21 rfl) kh5 ⟨⟨_, rfl⟩, (show OwX h h5 v w g B z κ from by exact ⟨⟨_, oh5⟩, fh5⟩)⟩
  ·
    have c1 : (inR s 8) = false := c1
    refine r_aload_n C (dx dX6_would 5 rfl) rfl ?_
    refine r_bipush (v := -2) C (dx dX6_would 6 rfl) rfl ?_
    refine r_cv (as := [vi (-2)]) (st := []) C X I_X6_refuse l_X6_76 (c_X6_refuse (-2)) (by decide) (Nat.le_of_ble_eq_true rfl) List.prefix_rfl List.prefix_rfl rfl rfl (Nat.le_of_ble_eq_true rfl) rfl (dx dX6_would 7 rfl) ?_
    intro rh6 h6 hph6 kkh6
    obtain ⟨rfl, gh6⟩ := hph6
    have oh6 : Ow h6 v u w g B z κ := o.ref gh6
    have fh6 : Fr 0 63 h h6 := gh6.mono (by omega) (by omega)
    have kh6 : xK h6 = xK h := kkh6
    refine r_i2l C (dx dX6_would 8 rfl) ?_
    exact F.2.1 _ _ _ _ rfl (dx dX6_would 9 rfl) kh6 ⟨⟨_, rfl⟩, (show OwX h h6 v w g B z κ from by exact ⟨⟨_, oh6⟩, fh6⟩)⟩
set_option maxHeartbeats 4000000 in
theorem x_head {l : Launch} {h : Hp} {v u w : Vg} {g : Sg} {B : Nat → Int32} {z : Nat} {κ : Int32} (o : Ow h v u w g B z κ) (hg : GOk g)  : Ms l yX6_head cX6_head 7 (some .int) 20 [vr 6 0] h (xK h) (fun r h' => PI r ∧ OwX h h' v w g B z κ) := by
  refine Ms.of (by decide) (Nat.le_of_ble_eq_true rfl) (fun G C X F => ?_)
  have C : Cx G cX6_head 7 RX6 := C
  show Rr G 0 [(0, vr 6 0)] [] h
  have bP := o.pv.bP
  have bM := o.pv.bM
  have bN := o.pv.bN
  have bz := o.pt.2.2
  refine r_iconst (v := -1) C (dx dX6_head 0 rfl) rfl ?_
  refine r_istore_n (ls' := [(0, vr 6 0), (1, vi (-1))]) C (dx dX6_head 1 rfl) (by decide) [1, 0] rfl ?_
  refine r_ldc2 C n_X6_255 (dx dX6_head 2 rfl) ?_
  refine r_lstore_n (ls' := [(0, vr 6 0), (1, vi (-1)), (2, vl (-1))]) C (dx dX6_head 3 rfl) (by decide) [1, 2, 0] rfl ?_
  refine r_iconst (v := nI 0) C (dx dX6_head 4 rfl) rfl ?_
  refine r_istore (ls' := [(0, vr 6 0), (1, vi (-1)), (2, vl (-1)), (4, vi (nI 0))]) C (dx dX6_head 5 rfl) (by decide) [1, 2, 3, 0] rfl ?_
  refine loopU (Φ := fun p => ∀ (x1 : Int32), ∀ (x2 : Int64), ∀ (h9p : Hp) (u9p : Vg), Ow h9p v u9p w g B z κ → Fr 0 63 h h9p → xK h9p = xK h → Rr G 9 [(0, vr 6 0), (1, vi x1), (2, vl x2), (4, vi (nI p))] [] h9p) (N := 8) ?_ ?_ 0 (by omega) (-1) (-1) h u o Fr.rf rfl
  ·
    intro  x1 x2 h9p u9p oh9p fh9p kh9p
    refine r_iload C (dx dX6_head 6 rfl) rfl ?_
    refine r_bipush (v := nI 8) C (dx dX6_head 7 rfl) rfl ?_
    refine rn_ge (a := 8) (b := 8) (tgt := 66) C (by omega) (by omega) (dx dX6_head 8 rfl) (by decide) (fun c1 => ?_) (fun c1 => ?_)
    · first
      | (omega; done)
      | (
          have c1 : 8 ≤ 8 := c1
          refine r_iload_n C (dx dX6_head 33 rfl) rfl ?_
          refine r_iconst (v := -1) C (dx dX6_head 34 rfl) rfl ?_
          refine r_icmp_ne (tgt := 80) C (dx dX6_head 35 rfl) (by decide) (fun c2 => ?_) (fun c2 => ?_)
          ·
            have c2 : ¬ x1 = -1 := c2
            refine r_iload_n C (dx dX6_head 40 rfl) rfl ?_
            exact F.1 _ _ _ _ _ rfl rfl (dx dX6_head 41 rfl) kh9p ⟨⟨_, rfl⟩, (show OwX h h9p v w g B z κ from by exact ⟨⟨_, oh9p⟩, fh9p⟩)⟩
          ·
            have c2 : x1 = -1 := c2
            refine r_aload_n C (dx dX6_head 36 rfl) rfl ?_
            refine r_bipush (v := -5) C (dx dX6_head 37 rfl) rfl ?_
            refine r_cv (as := [vi (-5)]) (st := []) C X I_X6_refuse l_X6_76 (c_X6_refuse (-5)) (by decide) (Nat.le_of_ble_eq_true rfl) List.prefix_rfl (pfx_eq kh9p) rfl rfl (Nat.le_of_ble_eq_true rfl) rfl (dx dX6_head 38 rfl) ?_
            intro rh3 h3 hph3 kkh3
            obtain ⟨rfl, gh3⟩ := hph3
            have oh3 : Ow h3 v u9p w g B z κ := oh9p.ref gh3
            have fh3 : Fr 0 63 h h3 := fh9p.tr (gh3.mono (by omega) (by omega))
            have kh3 : xK h3 = xK h := (kkh3).trans kh9p
            refine r_goto (tgt := 81) C (dx dX6_head 39 rfl) (by decide) ?_
            exact F.1 _ _ _ _ _ rfl rfl (dx dX6_head 41 rfl) kh3 ⟨⟨_, rfl⟩, (show OwX h h3 v w g B z κ from by exact ⟨⟨_, oh3⟩, fh3⟩)⟩)
    · first
      | (omega; done)
  ·
    intro p hp ihp x1 x2 h9p u9p oh9p fh9p kh9p
    refine r_iload C (dx dX6_head 6 rfl) rfl ?_
    refine r_bipush (v := nI 8) C (dx dX6_head 7 rfl) rfl ?_
    refine rn_ge (a := p) (b := 8) (tgt := 66) C (by omega) (by omega) (dx dX6_head 8 rfl) (by decide) (fun c5 => ?_) (fun c5 => ?_)
    · first
      | (omega; done)
      | (
          have c5 : 8 ≤ p := c5
          refine r_iload_n C (dx dX6_head 33 rfl) rfl ?_
          refine r_iconst (v := -1) C (dx dX6_head 34 rfl) rfl ?_
          refine r_icmp_ne (tgt := 80) C (dx dX6_head 35 rfl) (by decide) (fun c6 => ?_) (fun c6 => ?_)
          ·
            have c6 : ¬ x1 = -1 := c6
            refine r_iload_n C (dx dX6_head 40 rfl) rfl ?_
            exact F.1 _ _ _ _ _ rfl rfl (dx dX6_head 41 rfl) kh9p ⟨⟨_, rfl⟩, (show OwX h h9p v w g B z κ from by exact ⟨⟨_, oh9p⟩, fh9p⟩)⟩
          ·
            have c6 : x1 = -1 := c6
            refine r_aload_n C (dx dX6_head 36 rfl) rfl ?_
            refine r_bipush (v := -5) C (dx dX6_head 37 rfl) rfl ?_
            refine r_cv (as := [vi (-5)]) (st := []) C X I_X6_refuse l_X6_76 (c_X6_refuse (-5)) (by decide) (Nat.le_of_ble_eq_true rfl) List.prefix_rfl (pfx_eq kh9p) rfl rfl (Nat.le_of_ble_eq_true rfl) rfl (dx dX6_head 38 rfl) ?_
            intro rh7 h7 hph7 kkh7
            obtain ⟨rfl, gh7⟩ := hph7
            have oh7 : Ow h7 v u9p w g B z κ := oh9p.ref gh7
            have fh7 : Fr 0 63 h h7 := fh9p.tr (gh7.mono (by omega) (by omega))
            have kh7 : xK h7 = xK h := (kkh7).trans kh9p
            refine r_goto (tgt := 81) C (dx dX6_head 39 rfl) (by decide) ?_
            exact F.1 _ _ _ _ _ rfl rfl (dx dX6_head 41 rfl) kh7 ⟨⟨_, rfl⟩, (show OwX h h7 v w g B z κ from by exact ⟨⟨_, oh7⟩, fh7⟩)⟩)
    · first
      | (omega; done)
      | (
          have c5 : p < 8 := c5
          refine r_aload_n C (dx dX6_head 9 rfl) rfl ?_
          refine g_X6_57 C (dx dX6_head 10 rfl) ?_
          refine r_iload C (dx dX6_head 11 rfl) rfl ?_
          refine r_cvP (as := [vi (nI p)]) (st := []) (v := vi (b2i (holdB g (nI p)))) C X I_X2_isOfHolding l_X6_94 (c_X2_isOfHolding oh9p.pg _) (by decide) (Nat.le_of_ble_eq_true rfl) (pfx_eq kh9p) rfl rfl (Nat.le_of_ble_eq_true rfl) rfl (dx dX6_head 12 rfl) ?_
          refine rb_eq (b := holdB g (nI p)) (tgt := 60) C (dx dX6_head 13 rfl) (by decide) (fun c8 => ?_) (fun c8 => ?_)
          ·
            have c8 : (holdB g (nI p)) = false := c8
            refine rn_iinc (a := p) (k := 1) (ls' := [(0, vr 6 0), (1, vi x1), (2, vl x2), (4, vi (nI (p + 1)))]) C (dx dX6_head 31 rfl) rfl rfl (by decide) [1, 2, 3, 0] rfl ?_
            refine r_goto (tgt := 9) C (dx dX6_head 32 rfl) (by decide) ?_
            exact ihp x1 x2 h9p u9p oh9p fh9p kh9p
          ·
            have c8 : (holdB g (nI p)) = true := c8
            refine r_aload_n C (dx dX6_head 14 rfl) rfl ?_
            refine r_iload C (dx dX6_head 15 rfl) rfl ?_
            refine r_cv (as := [vi (nI p)]) (st := []) C X I_X6_tryHolding l_X6_127 (c_X6_tryHolding oh9p hg c8) (by decide) (Nat.le_of_ble_eq_true rfl) List.prefix_rfl (pfx_eq kh9p) rfl rfl (Nat.le_of_ble_eq_true rfl) rfl (dx dX6_head 16 rfl) ?_
            intro rh9 h9 hph9 kkh9
            obtain ⟨rfl, ⟨yh9, wh9⟩, gh9⟩ := hph9
            have oh9 : Ow h9 v yh9 w g B z κ := wh9
            have fh9 : Fr 0 63 h h9 := fh9p.tr (gh9)
            have kh9 : xK h9 = xK h := (kkh9).trans kh9p
            refine r_aload_n C (dx dX6_head 17 rfl) rfl ?_
            refine g_X6_29 C (dx dX6_head 18 rfl) ?_
            refine r_aload_n C (dx dX6_head 19 rfl) rfl ?_
            refine g_X6_16 C (dx dX6_head 20 rfl) ?_
            refine r_cv (as := [vr 5 10]) (st := []) C X I_X4_worthOfDay l_X6_244 (c_X4_worthOfDay oh9.pu (by omega)) (by decide) (Nat.le_of_ble_eq_true rfl) List.prefix_rfl (pfx_eq kh9) rfl rfl (Nat.le_of_ble_eq_true rfl) rfl (dx dX6_head 21 rfl) ?_
            intro rh10 h10 hph10 kkh10
            obtain ⟨rfl, gh10⟩ := hph10
            have oh10 : Ow h10 v yh9 w g B z κ := oh9.tm (gh10.mono (by omega) (by omega))
            have fh10 : Fr 0 63 h h10 := fh9.tr (gh10.mono (by omega) (by omega))
            have kh10 : xK h10 = xK h := (kkh10).trans kh9
            refine r_lstore (ls' := [(0, vr 6 0), (1, vi x1), (2, vl x2), (4, vi (nI p)), (5, vl (dayC yh9))]) C (dx dX6_head 22 rfl) (by decide) [1, 2, 3, 4, 0] rfl ?_
            refine r_lload C (dx dX6_head 23 rfl) rfl ?_
            refine r_lload_n C (dx dX6_head 24 rfl) rfl ?_
            refine r_lcmp C (dx dX6_head 25 rfl) ?_
            refine r_if_le (tgt := 60) C (dx dX6_head 26 rfl) (by decide) (fun c11 => ?_) (fun c11 => ?_)
            ·
              have c11 : dayC yh9 ≤ x2 := (lg_cmp_le _ _).mp c11
              refine rn_iinc (a := p) (k := 1) (ls' := [(0, vr 6 0), (1, vi x1), (2, vl x2), (4, vi (nI (p + 1))), (5, vl (dayC yh9))]) C (dx dX6_head 31 rfl) rfl rfl (by decide) [1, 2, 3, 0, 4] rfl ?_
              refine r_goto (tgt := 9) C (dx dX6_head 32 rfl) (by decide) ?_
              refine r_weak C [0, 1, 2, 3] rfl ?_
              exact ihp x1 x2 h10 yh9 oh10 fh10 kh10
            ·
              have c11 : ¬ (dayC yh9 ≤ x2) := fun q => c11 ((lg_cmp_le _ _).mpr q)
              refine r_lload C (dx dX6_head 27 rfl) rfl ?_
              refine r_lstore_n (ls' := [(0, vr 6 0), (1, vi x1), (2, vl (dayC yh9)), (4, vi (nI p)), (5, vl (dayC yh9))]) C (dx dX6_head 28 rfl) (by decide) [1, 2, 0, 3, 4] rfl ?_
              refine r_iload C (dx dX6_head 29 rfl) rfl ?_
              refine r_istore_n (ls' := [(0, vr 6 0), (1, vi (nI p)), (2, vl (dayC yh9)), (4, vi (nI p)), (5, vl (dayC yh9))]) C (dx dX6_head 30 rfl) (by decide) [1, 0, 2, 3, 4] rfl ?_
              refine rn_iinc (a := p) (k := 1) (ls' := [(0, vr 6 0), (1, vi (nI p)), (2, vl (dayC yh9)), (4, vi (nI (p + 1))), (5, vl (dayC yh9))]) C (dx dX6_head 31 rfl) rfl rfl (by decide) [1, 2, 3, 0, 4] rfl ?_
              refine r_goto (tgt := 9) C (dx dX6_head 32 rfl) (by decide) ?_
              refine r_weak C [0, 1, 2, 3] rfl ?_
              exact ihp (nI p) (dayC yh9) h10 yh9 oh10 fh10 kh10)
set_option maxHeartbeats 4000000 in
theorem x_both {l : Launch} {h : Hp} {v u w : Vg} {g : Sg} {B : Nat → Int32} {z : Nat} {κ : Int32} (o : Ow h v u w g B z κ) (hg : GOk g) (m n x : Int32) : Ms l yX6_both cX6_both 4 (some .int) 20 [vr 6 0, vi m, vi n, vi x] h (xK h) (fun r h' => PI r ∧ OwX h h' v w g B z κ) := by
  refine Ms.of (by decide) (Nat.le_of_ble_eq_true rfl) (fun G C X F => ?_)
  have C : Cx G cX6_both 4 RX6 := C
  show Rr G 0 [(0, vr 6 0), (1, vi m), (2, vi n), (3, vi x)] [] h
  have bP := o.pv.bP
  have bM := o.pv.bM
  have bN := o.pv.bN
  have bz := o.pt.2.2
  refine r_aload_n C (dx dX6_both 0 rfl) rfl ?_
  refine g_X6_10 C (dx dX6_both 1 rfl) ?_
  refine r_iload_n C (dx dX6_both 2 rfl) rfl ?_
  refine r_iload_n C (dx dX6_both 3 rfl) rfl ?_
  refine r_cvP (as := [vi m, vi n]) (st := []) (v := vi (b2i (pairV v m n))) C X I_X5_isPair l_X6_229 (c_X5_isPair o.pv _ _) (by decide) (Nat.le_of_ble_eq_true rfl) List.prefix_rfl rfl rfl (Nat.le_of_ble_eq_true rfl) rfl (dx dX6_both 4 rfl) ?_
  refine rb_eq (b := pairV v m n) (tgt := 23) C (dx dX6_both 5 rfl) (by decide) (fun c1 => ?_) (fun c1 => ?_)
  ·
    have c1 : (pairV v m n) = false := c1
    refine r_aload_n C (dx dX6_both 11 rfl) rfl ?_
    refine r_bipush (v := -2) C (dx dX6_both 12 rfl) rfl ?_
    refine r_cv (as := [vi (-2)]) (st := []) C X I_X6_refuse l_X6_76 (c_X6_refuse (-2)) (by decide) (Nat.le_of_ble_eq_true rfl) List.prefix_rfl List.prefix_rfl rfl rfl (Nat.le_of_ble_eq_true rfl) rfl (dx dX6_both 13 rfl) ?_
    intro rh2 h2 hph2 kkh2
    obtain ⟨rfl, gh2⟩ := hph2
    have oh2 : Ow h2 v u w g B z κ := o.ref gh2
    have fh2 : Fr 0 63 h h2 := gh2.mono (by omega) (by omega)
    have kh2 : xK h2 = xK h := kkh2
    exact F.1 _ _ _ _ _ rfl rfl (dx dX6_both 14 rfl) kh2 ⟨⟨_, rfl⟩, (show OwX h h2 v w g B z κ from by exact ⟨⟨_, oh2⟩, fh2⟩)⟩
  ·
    have c1 : (pairV v m n) = true := c1
    obtain ⟨μ, hμ, ξ, hξ, hne, rfl, rfl⟩ := pair_ex c1
    refine r_aload_n C (dx dX6_both 6 rfl) rfl ?_
    refine g_X6_10 C (dx dX6_both 7 rfl) ?_
    refine r_iload_n C (dx dX6_both 8 rfl) rfl ?_
    refine r_cvP (as := [vi x]) (st := []) (v := vi (b2i (inR x (2 ^ vN v)))) C X I_X5_isSetOfPeople l_X6_220 (c_X5_isSetOfPeople o.pv _) (by decide) (Nat.le_of_ble_eq_true rfl) List.prefix_rfl rfl rfl (Nat.le_of_ble_eq_true rfl) rfl (dx dX6_both 9 rfl) ?_
    refine rb_ne (b := inR x (2 ^ vN v)) (tgt := 30) C (dx dX6_both 10 rfl) (by decide) (fun c3 => ?_) (fun c3 => ?_)
    ·
      have c3 : (inR x (2 ^ vN v)) = true := c3
      refine r_aload_n C (dx dX6_both 15 rfl) rfl ?_
      refine g_X6_10 C (dx dX6_both 16 rfl) ?_
      refine r_iload_n C (dx dX6_both 17 rfl) rfl ?_
      refine r_iload_n C (dx dX6_both 18 rfl) rfl ?_
      refine r_iload_n C (dx dX6_both 19 rfl) rfl ?_
      refine r_cvP (as := [vi (nI μ), vi (nI ξ), vi x]) (st := []) (v := vi (b2i (bothW v μ ξ x))) C X I_X5_areBothWorked l_X6_232 (c_X5_areBothWorked o.pv _ _ _ (by omega) (by omega) (by omega)) (by decide) (Nat.le_of_ble_eq_true rfl) List.prefix_rfl rfl rfl (Nat.le_of_ble_eq_true rfl) rfl (dx dX6_both 20 rfl) ?_
      refine rb_eq (b := bothW v μ ξ x) (tgt := 47) C (dx dX6_both 21 rfl) (by decide) (fun c4 => ?_) (fun c4 => ?_)
      ·
        have c4 : (bothW v μ ξ x) = false := c4
        refine r_iconst (v := nI 0) C (dx dX6_both 24 rfl) rfl ?_
        exact F.1 _ _ _ _ _ rfl rfl (dx dX6_both 25 rfl) rfl ⟨⟨_, rfl⟩, (show OwX h h v w g B z κ from by exact ⟨⟨_, o⟩, Fr.rf⟩)⟩
      ·
        have c4 : (bothW v μ ξ x) = true := c4
        refine r_iconst (v := nI 1) C (dx dX6_both 22 rfl) rfl ?_
        refine r_goto (tgt := 48) C (dx dX6_both 23 rfl) (by decide) ?_
        exact F.1 _ _ _ _ _ rfl rfl (dx dX6_both 25 rfl) rfl ⟨⟨_, rfl⟩, (show OwX h h v w g B z κ from by exact ⟨⟨_, o⟩, Fr.rf⟩)⟩
    ·
      have c3 : (inR x (2 ^ vN v)) = false := c3
      refine r_aload_n C (dx dX6_both 11 rfl) rfl ?_
      refine r_bipush (v := -2) C (dx dX6_both 12 rfl) rfl ?_
      refine r_cv (as := [vi (-2)]) (st := []) C X I_X6_refuse l_X6_76 (c_X6_refuse (-2)) (by decide) (Nat.le_of_ble_eq_true rfl) List.prefix_rfl List.prefix_rfl rfl rfl (Nat.le_of_ble_eq_true rfl) rfl (dx dX6_both 13 rfl) ?_
      intro rh5 h5 hph5 kkh5
      obtain ⟨rfl, gh5⟩ := hph5
      have oh5 : Ow h5 v u w g B z κ := o.ref gh5
      have fh5 : Fr 0 63 h h5 := gh5.mono (by omega) (by omega)
      have kh5 : xK h5 = xK h := kkh5
      exact F.1 _ _ _ _ _ rfl rfl (dx dX6_both 14 rfl) kh5 ⟨⟨_, rfl⟩, (show OwX h h5 v w g B z κ from by exact ⟨⟨_, oh5⟩, fh5⟩)⟩
set_option maxHeartbeats 4000000 in
theorem x_atOnce {l : Launch} {h : Hp} {v u w : Vg} {g : Sg} {B : Nat → Int32} {z : Nat} {κ : Int32} (o : Ow h v u w g B z κ) (hg : GOk g) (m n : Int32) : Ms l yX6_atOnce cX6_atOnce 3 (some .long) 20 [vr 6 0, vi m, vi n] h (xK h) (fun r h' => PL r ∧ OwX h h' v w g B z κ) := by
  refine Ms.of (by decide) (Nat.le_of_ble_eq_true rfl) (fun G C X F => ?_)
  have C : Cx G cX6_atOnce 3 RX6 := C
  show Rr G 0 [(0, vr 6 0), (1, vi m), (2, vi n)] [] h
  have bP := o.pv.bP
  have bM := o.pv.bM
  have bN := o.pv.bN
  have bz := o.pt.2.2
  refine r_aload_n C (dx dX6_atOnce 0 rfl) rfl ?_
  refine g_X6_10 C (dx dX6_atOnce 1 rfl) ?_
  refine r_iload_n C (dx dX6_atOnce 2 rfl) rfl ?_
  refine r_iload_n C (dx dX6_atOnce 3 rfl) rfl ?_
  refine r_cvP (as := [vi m, vi n]) (st := []) (v := vi (b2i (pairV v m n))) C X I_X5_isPair l_X6_229 (c_X5_isPair o.pv _ _) (by decide) (Nat.le_of_ble_eq_true rfl) List.prefix_rfl rfl rfl (Nat.le_of_ble_eq_true rfl) rfl (dx dX6_atOnce 4 rfl) ?_
  refine rb_ne (b := pairV v m n) (tgt := 20) C (dx dX6_atOnce 5 rfl) (by decide) (fun c1 => ?_) (fun c1 => ?_)
  ·
    have c1 : (pairV v m n) = true := c1
    obtain ⟨μ, hμ, ξ, hξ, hne, rfl, rfl⟩ := pair_ex c1
    refine r_aload_n C (dx dX6_atOnce 11 rfl) rfl ?_
    refine g_X6_29 C (dx dX6_atOnce 12 rfl) ?_
    refine r_aload_n C (dx dX6_atOnce 13 rfl) rfl ?_
    refine g_X6_10 C (dx dX6_atOnce 14 rfl) ?_
    refine r_iload_n C (dx dX6_atOnce 15 rfl) rfl ?_
    refine r_iload_n C (dx dX6_atOnce 16 rfl) rfl ?_
    refine r_cv (as := [vr 5 1, vi (nI μ), vi (nI ξ)]) (st := []) C X I_X4_oddsOfPair l_X6_240 (c_X4_oddsOfPair o.pv (by omega) μ ξ (by omega) (by omega) hne) (by decide) (Nat.le_of_ble_eq_true rfl) List.prefix_rfl List.prefix_rfl rfl rfl (Nat.le_of_ble_eq_true rfl) rfl (dx dX6_atOnce 17 rfl) ?_
    intro rh2 h2 hph2 kkh2
    obtain ⟨rfl, gh2⟩ := hph2
    have oh2 : Ow h2 v u w g B z κ := o.tm (gh2.mono (by omega) (by omega))
    have fh2 : Fr 0 63 h h2 := gh2.mono (by omega) (by omega)
    have kh2 : xK h2 = xK h := kkh2
    exact F.2.1 _ _ _ _ rfl (dx dX6_atOnce 18 rfl) kh2 ⟨⟨_, rfl⟩, (show OwX h h2 v w g B z κ from by exact ⟨⟨_, oh2⟩, fh2⟩)⟩
  ·
    have c1 : (pairV v m n) = false := c1
    refine r_aload_n C (dx dX6_atOnce 6 rfl) rfl ?_
    refine r_bipush (v := -2) C (dx dX6_atOnce 7 rfl) rfl ?_
    refine r_cv (as := [vi (-2)]) (st := []) C X I_X6_refuse l_X6_76 (c_X6_refuse (-2)) (by decide) (Nat.le_of_ble_eq_true rfl) List.prefix_rfl List.prefix_rfl rfl rfl (Nat.le_of_ble_eq_true rfl) rfl (dx dX6_atOnce 8 rfl) ?_
    intro rh3 h3 hph3 kkh3
    obtain ⟨rfl, gh3⟩ := hph3
    have oh3 : Ow h3 v u w g B z κ := o.ref gh3
    have fh3 : Fr 0 63 h h3 := gh3.mono (by omega) (by omega)
    have kh3 : xK h3 = xK h := kkh3
    refine r_i2l C (dx dX6_atOnce 9 rfl) ?_
    exact F.2.1 _ _ _ _ rfl (dx dX6_atOnce 10 rfl) kh3 ⟨⟨_, rfl⟩, (show OwX h h3 v w g B z κ from by exact ⟨⟨_, oh3⟩, fh3⟩)⟩
set_option maxHeartbeats 4000000 in
theorem x_best {l : Launch} {h : Hp} {v u w : Vg} {g : Sg} {B : Nat → Int32} {z : Nat} {κ : Int32} (o : Ow h v u w g B z κ) (hg : GOk g) (p : Int32) : Ms l yX6_best cX6_best 2 (some .int) 20 [vr 6 0, vi p] h (xK h) (fun r h' => PI r ∧ OwX h h' v w g B z κ) := by
  refine Ms.of (by decide) (Nat.le_of_ble_eq_true rfl) (fun G C X F => ?_)
  have C : Cx G cX6_best 2 RX6 := C
  show Rr G 0 [(0, vr 6 0), (1, vi p)] [] h
  have bP := o.pv.bP
  have bM := o.pv.bM
  have bN := o.pv.bN
  have bz := o.pt.2.2
  refine r_aload_n C (dx dX6_best 0 rfl) rfl ?_
  refine g_X6_10 C (dx dX6_best 1 rfl) ?_
  refine r_iload_n C (dx dX6_best 2 rfl) rfl ?_
  refine r_cvP (as := [vi p]) (st := []) (v := vi (b2i (inR p (vP v)))) C X I_X5_isPart l_X6_170 (c_X5_isPart o.pv _) (by decide) (Nat.le_of_ble_eq_true rfl) List.prefix_rfl rfl rfl (Nat.le_of_ble_eq_true rfl) rfl (dx dX6_best 3 rfl) ?_
  refine rb_ne (b := inR p (vP v)) (tgt := 18) C (dx dX6_best 4 rfl) (by decide) (fun c1 => ?_) (fun c1 => ?_)
  ·
    have c1 : (inR p (vP v)) = true := c1
    obtain ⟨π, hπ, rfl⟩ := inR_ex (n := (vP v)) (by omega) c1
    refine r_aload_n C (dx dX6_best 9 rfl) rfl ?_
    refine r_cvP (as := []) (st := []) (v := vi (b2i (bigB v))) C X I_X6_isTooBigForBest l_X6_264 (c_X6_isTooBigForBest o hg) (by decide) (Nat.le_of_ble_eq_true rfl) List.prefix_rfl rfl rfl (Nat.le_of_ble_eq_true rfl) rfl (dx dX6_best 10 rfl) ?_
    refine rb_eq (b := bigB v) (tgt := 32) C (dx dX6_best 11 rfl) (by decide) (fun c2 => ?_) (fun c2 => ?_)
    ·
      have c2 : (bigB v) = false := c2
      have hbig := big_no c2
      refine r_aload_n C (dx dX6_best 16 rfl) rfl ?_
      refine g_X6_43 C (dx dX6_best 17 rfl) ?_
      refine r_aload_n C (dx dX6_best 18 rfl) rfl ?_
      refine g_X6_10 C (dx dX6_best 19 rfl) ?_
      refine r_cv (as := [vr 5 1]) (st := []) C X I_X1_run l_X6_268 (c_X1_run o.pv o.ps (by omega)) (by decide) (Nat.le_of_ble_eq_true rfl) List.prefix_rfl List.prefix_rfl rfl rfl (Nat.le_of_ble_eq_true rfl) rfl (dx dX6_best 20 rfl) ?_
      intro rh3 h3 hph3 kkh3
      obtain ⟨rfl, wh3, gh3⟩ := hph3
      have oh3 : Ow h3 v u w g B z κ := o.sea wh3 gh3
      have fh3 : Fr 0 63 h h3 := gh3.mono (by omega) (by omega)
      have kh3 : xK h3 = xK h := kkh3
      refine r_aload_n C (dx dX6_best 21 rfl) rfl ?_
      refine g_X6_43 C (dx dX6_best 22 rfl) ?_
      refine r_iload_n C (dx dX6_best 23 rfl) rfl ?_
      refine r_cvP (as := [vi (nI π)]) (st := []) (v := vi (xI h3 (34 + 2) π)) C X I_X1_holderOf l_X6_271 (c_X1_holderOf (by omega)) (by decide) (Nat.le_of_ble_eq_true rfl) (pfx_eq kh3) rfl rfl (Nat.le_of_ble_eq_true rfl) rfl (dx dX6_best 24 rfl) ?_
      exact F.1 _ _ _ _ _ rfl rfl (dx dX6_best 25 rfl) kh3 ⟨⟨_, rfl⟩, (show OwX h h3 v w g B z κ from by exact ⟨⟨_, oh3⟩, fh3⟩)⟩
    ·
      have c2 : (bigB v) = true := c2
      refine r_aload_n C (dx dX6_best 12 rfl) rfl ?_
      refine r_bipush (v := -5) C (dx dX6_best 13 rfl) rfl ?_
      refine r_cv (as := [vi (-5)]) (st := []) C X I_X6_refuse l_X6_76 (c_X6_refuse (-5)) (by decide) (Nat.le_of_ble_eq_true rfl) List.prefix_rfl List.prefix_rfl rfl rfl (Nat.le_of_ble_eq_true rfl) rfl (dx dX6_best 14 rfl) ?_
      intro rh4 h4 hph4 kkh4
      obtain ⟨rfl, gh4⟩ := hph4
      have oh4 : Ow h4 v u w g B z κ := o.ref gh4
      have fh4 : Fr 0 63 h h4 := gh4.mono (by omega) (by omega)
      have kh4 : xK h4 = xK h := kkh4
      exact F.1 _ _ _ _ _ rfl rfl (dx dX6_best 15 rfl) kh4 ⟨⟨_, rfl⟩, (show OwX h h4 v w g B z κ from by exact ⟨⟨_, oh4⟩, fh4⟩)⟩
  ·
    have c1 : (inR p (vP v)) = false := c1
    refine r_aload_n C (dx dX6_best 5 rfl) rfl ?_
    refine r_bipush (v := -2) C (dx dX6_best 6 rfl) rfl ?_
    refine r_cv (as := [vi (-2)]) (st := []) C X I_X6_refuse l_X6_76 (c_X6_refuse (-2)) (by decide) (Nat.le_of_ble_eq_true rfl) List.prefix_rfl List.prefix_rfl rfl rfl (Nat.le_of_ble_eq_true rfl) rfl (dx dX6_best 7 rfl) ?_
    intro rh5 h5 hph5 kkh5
    obtain ⟨rfl, gh5⟩ := hph5
    have oh5 : Ow h5 v u w g B z κ := o.ref gh5
    have fh5 : Fr 0 63 h h5 := gh5.mono (by omega) (by omega)
    have kh5 : xK h5 = xK h := kkh5
    exact F.1 _ _ _ _ _ rfl rfl (dx dX6_best 8 rfl) kh5 ⟨⟨_, rfl⟩, (show OwX h h5 v w g B z κ from by exact ⟨⟨_, oh5⟩, fh5⟩)⟩
set_option maxHeartbeats 4000000 in
theorem x_bestDay {l : Launch} {h : Hp} {v u w : Vg} {g : Sg} {B : Nat → Int32} {z : Nat} {κ : Int32} (o : Ow h v u w g B z κ) (hg : GOk g)  : Ms l yX6_bestDay cX6_bestDay 1 (some .long) 20 [vr 6 0] h (xK h) (fun r h' => PL r ∧ OwX h h' v w g B z κ) := by
  refine Ms.of (by decide) (Nat.le_of_ble_eq_true rfl) (fun G C X F => ?_)
  have C : Cx G cX6_bestDay 1 RX6 := C
  show Rr G 0 [(0, vr 6 0)] [] h
  have bP := o.pv.bP
  have bM := o.pv.bM
  have bN := o.pv.bN
  have bz := o.pt.2.2
  refine r_aload_n C (dx dX6_bestDay 0 rfl) rfl ?_
  refine r_cvP (as := []) (st := []) (v := vi (b2i (bigB v))) C X I_X6_isTooBigForBest l_X6_264 (c_X6_isTooBigForBest o hg) (by decide) (Nat.le_of_ble_eq_true rfl) List.prefix_rfl rfl rfl (Nat.le_of_ble_eq_true rfl) rfl (dx dX6_bestDay 1 rfl) ?_
  refine rb_eq (b := bigB v) (tgt := 15) C (dx dX6_bestDay 2 rfl) (by decide) (fun c1 => ?_) (fun c1 => ?_)
  ·
    have c1 : (bigB v) = false := c1
    have hbig := big_no c1
    refine r_aload_n C (dx dX6_bestDay 8 rfl) rfl ?_
    refine g_X6_43 C (dx dX6_bestDay 9 rfl) ?_
    refine r_aload_n C (dx dX6_bestDay 10 rfl) rfl ?_
    refine g_X6_10 C (dx dX6_bestDay 11 rfl) ?_
    refine r_cv (as := [vr 5 1]) (st := []) C X I_X1_run l_X6_268 (c_X1_run o.pv o.ps (by omega)) (by decide) (Nat.le_of_ble_eq_true rfl) List.prefix_rfl List.prefix_rfl rfl rfl (Nat.le_of_ble_eq_true rfl) rfl (dx dX6_bestDay 12 rfl) ?_
    intro rh2 h2 hph2 kkh2
    obtain ⟨rfl, wh2, gh2⟩ := hph2
    have oh2 : Ow h2 v u w g B z κ := o.sea wh2 gh2
    have fh2 : Fr 0 63 h h2 := gh2.mono (by omega) (by omega)
    have kh2 : xK h2 = xK h := kkh2
    refine r_aload_n C (dx dX6_bestDay 13 rfl) rfl ?_
    refine g_X6_43 C (dx dX6_bestDay 14 rfl) ?_
    refine r_cvP (as := []) (st := []) (v := vl (xL h2 34 5)) C X I_X1_greatestDay l_X6_274 c_X1_greatestDay (by decide) (Nat.le_of_ble_eq_true rfl) (pfx_eq kh2) rfl rfl (Nat.le_of_ble_eq_true rfl) rfl (dx dX6_bestDay 15 rfl) ?_
    exact F.2.1 _ _ _ _ rfl (dx dX6_bestDay 16 rfl) kh2 ⟨⟨_, rfl⟩, (show OwX h h2 v w g B z κ from by exact ⟨⟨_, oh2⟩, fh2⟩)⟩
  ·
    have c1 : (bigB v) = true := c1
    refine r_aload_n C (dx dX6_bestDay 3 rfl) rfl ?_
    refine r_bipush (v := -5) C (dx dX6_bestDay 4 rfl) rfl ?_
    refine r_cv (as := [vi (-5)]) (st := []) C X I_X6_refuse l_X6_76 (c_X6_refuse (-5)) (by decide) (Nat.le_of_ble_eq_true rfl) List.prefix_rfl List.prefix_rfl rfl rfl (Nat.le_of_ble_eq_true rfl) rfl (dx dX6_bestDay 5 rfl) ?_
    intro rh3 h3 hph3 kkh3
    obtain ⟨rfl, gh3⟩ := hph3
    have oh3 : Ow h3 v u w g B z κ := o.ref gh3
    have fh3 : Fr 0 63 h h3 := gh3.mono (by omega) (by omega)
    have kh3 : xK h3 = xK h := kkh3
    refine r_i2l C (dx dX6_bestDay 6 rfl) ?_
    exact F.2.1 _ _ _ _ rfl (dx dX6_bestDay 7 rfl) kh3 ⟨⟨_, rfl⟩, (show OwX h h3 v w g B z κ from by exact ⟨⟨_, oh3⟩, fh3⟩)⟩
set_option maxHeartbeats 4000000 in
theorem x_bears {l : Launch} {h : Hp} {v u w : Vg} {g : Sg} {B : Nat → Int32} {z : Nat} {κ : Int32} (o : Ow h v u w g B z κ) (hg : GOk g) (m : Int32) : Ms l yX6_bears cX6_bears 3 (some .int) 20 [vr 6 0, vi m] h (xK h) (fun r h' => PI r ∧ OwX h h' v w g B z κ) := by
  refine Ms.of (by decide) (Nat.le_of_ble_eq_true rfl) (fun G C X F => ?_)
  have C : Cx G cX6_bears 3 RX6 := C
  show Rr G 0 [(0, vr 6 0), (1, vi m)] [] h
  have bP := o.pv.bP
  have bM := o.pv.bM
  have bN := o.pv.bN
  have bz := o.pt.2.2
  refine r_aload_n C (dx dX6_bears 0 rfl) rfl ?_
  refine g_X6_10 C (dx dX6_bears 1 rfl) ?_
  refine r_iload_n C (dx dX6_bears 2 rfl) rfl ?_
  refine r_cvP (as := [vi m]) (st := []) (v := vi (b2i (inR m (vM v)))) C X I_X5_isMachine l_X6_202 (c_X5_isMachine o.pv _) (by decide) (Nat.le_of_ble_eq_true rfl) List.prefix_rfl rfl rfl (Nat.le_of_ble_eq_true rfl) rfl (dx dX6_bears 3 rfl) ?_
  refine rb_ne (b := inR m (vM v)) (tgt := 18) C (dx dX6_bears 4 rfl) (by decide) (fun c1 => ?_) (fun c1 => ?_)
  ·
    have c1 : (inR m (vM v)) = true := c1
    obtain ⟨μ, hμ, rfl⟩ := inR_ex (n := (vM v)) (by omega) c1
    refine r_aload_n C (dx dX6_bears 9 rfl) rfl ?_
    refine g_X6_29 C (dx dX6_bears 10 rfl) ?_
    refine r_aload_n C (dx dX6_bears 11 rfl) rfl ?_
    refine g_X6_10 C (dx dX6_bears 12 rfl) ?_
    refine r_cv (as := [vr 5 1]) (st := []) C X I_X4_gather l_X6_248 (c_X4_gather o.pv (by omega)) (by decide) (Nat.le_of_ble_eq_true rfl) List.prefix_rfl List.prefix_rfl rfl rfl (Nat.le_of_ble_eq_true rfl) rfl (dx dX6_bears 13 rfl) ?_
    intro rh2 h2 hph2 kkh2
    obtain ⟨rfl, qh2, gh2⟩ := hph2
    have oh2 : Ow h2 v u w g B z κ := o.tm (gh2.mono (by omega) (by omega))
    have fh2 : Fr 0 63 h h2 := gh2.mono (by omega) (by omega)
    have kh2 : xK h2 = xK h := kkh2
    refine r_aload_n C (dx dX6_bears 14 rfl) rfl ?_
    refine g_X6_29 C (dx dX6_bears 15 rfl) ?_
    refine r_aload_n C (dx dX6_bears 16 rfl) rfl ?_
    refine g_X6_10 C (dx dX6_bears 17 rfl) ?_
    refine r_iload_n C (dx dX6_bears 18 rfl) rfl ?_
    refine r_cvP (as := [vr 5 1, vi (nI μ)]) (st := []) (v := vi (bornV v μ)) C X I_X4_bornBy l_X6_278 (c_X4_bornBy oh2.pv (by omega) μ qh2) (by decide) (Nat.le_of_ble_eq_true rfl) (pfx_eq kh2) rfl rfl (Nat.le_of_ble_eq_true rfl) rfl (dx dX6_bears 19 rfl) ?_
    refine r_istore_n (ls' := [(0, vr 6 0), (1, vi (nI μ)), (2, vi (bornV v μ))]) C (dx dX6_bears 20 rfl) (by decide) [1, 2, 0] rfl ?_
    refine r_iload_n C (dx dX6_bears 21 rfl) rfl ?_
    refine r_iconst (v := -1) C (dx dX6_bears 22 rfl) rfl ?_
    refine r_icmp_ne (tgt := 56) C (dx dX6_bears 23 rfl) (by decide) (fun c3 => ?_) (fun c3 => ?_)
    ·
      have c3 : ¬ bornV v μ = -1 := c3
      refine r_iload_n C (dx dX6_bears 28 rfl) rfl ?_
      exact F.1 _ _ _ _ _ rfl rfl (dx dX6_bears 29 rfl) kh2 ⟨⟨_, rfl⟩, (show OwX h h2 v w g B z κ from by exact ⟨⟨_, oh2⟩, fh2⟩)⟩
    ·
      have c3 : bornV v μ = -1 := c3
      refine r_aload_n C (dx dX6_bears 24 rfl) rfl ?_
      refine r_bipush (v := -5) C (dx dX6_bears 25 rfl) rfl ?_
      refine r_cv (as := [vi (-5)]) (st := []) C X I_X6_refuse l_X6_76 (c_X6_refuse (-5)) (by decide) (Nat.le_of_ble_eq_true rfl) List.prefix_rfl (pfx_eq kh2) rfl rfl (Nat.le_of_ble_eq_true rfl) rfl (dx dX6_bears 26 rfl) ?_
      intro rh4 h4 hph4 kkh4
      obtain ⟨rfl, gh4⟩ := hph4
      have oh4 : Ow h4 v u w g B z κ := oh2.ref gh4
      have fh4 : Fr 0 63 h h4 := fh2.tr (gh4.mono (by omega) (by omega))
      have kh4 : xK h4 = xK h := (kkh4).trans kh2
      refine r_goto (tgt := 57) C (dx dX6_bears 27 rfl) (by decide) ?_
      exact F.1 _ _ _ _ _ rfl rfl (dx dX6_bears 29 rfl) kh4 ⟨⟨_, rfl⟩, (show OwX h h4 v w g B z κ from by exact ⟨⟨_, oh4⟩, fh4⟩)⟩
  ·
    have c1 : (inR m (vM v)) = false := c1
    refine r_aload_n C (dx dX6_bears 5 rfl) rfl ?_
    refine r_bipush (v := -2) C (dx dX6_bears 6 rfl) rfl ?_
    refine r_cv (as := [vi (-2)]) (st := []) C X I_X6_refuse l_X6_76 (c_X6_refuse (-2)) (by decide) (Nat.le_of_ble_eq_true rfl) List.prefix_rfl List.prefix_rfl rfl rfl (Nat.le_of_ble_eq_true rfl) rfl (dx dX6_bears 7 rfl) ?_
    intro rh5 h5 hph5 kkh5
    obtain ⟨rfl, gh5⟩ := hph5
    have oh5 : Ow h5 v u w g B z κ := o.ref gh5
    have fh5 : Fr 0 63 h h5 := gh5.mono (by omega) (by omega)
    have kh5 : xK h5 = xK h := kkh5
    exact F.1 _ _ _ _ _ rfl rfl (dx dX6_bears 8 rfl) kh5 ⟨⟨_, rfl⟩, (show OwX h h5 v w g B z κ from by exact ⟨⟨_, oh5⟩, fh5⟩)⟩
set_option maxHeartbeats 4000000 in
theorem x_harms {l : Launch} {h : Hp} {v u w : Vg} {g : Sg} {B : Nat → Int32} {z : Nat} {κ : Int32} (o : Ow h v u w g B z κ) (hg : GOk g)  : Ms l yX6_harms cX6_harms 7 (some .int) 20 [vr 6 0] h (xK h) (fun r h' => PI r ∧ OwX h h' v w g B z κ) := by
  refine Ms.of (by decide) (Nat.le_of_ble_eq_true rfl) (fun G C X F => ?_)
  have C : Cx G cX6_harms 7 RX6 := C
  show Rr G 0 [(0, vr 6 0)] [] h
  have bP := o.pv.bP
  have bM := o.pv.bM
  have bN := o.pv.bN
  have bz := o.pt.2.2
  refine r_iconst (v := -1) C (dx dX6_harms 0 rfl) rfl ?_
  refine r_istore_n (ls' := [(0, vr 6 0), (1, vi (-1))]) C (dx dX6_harms 1 rfl) (by decide) [1, 0] rfl ?_
  refine r_lconst (v := 0) C (dx dX6_harms 2 rfl) rfl ?_
  refine r_lstore_n (ls' := [(0, vr 6 0), (1, vi (-1)), (2, vl 0)]) C (dx dX6_harms 3 rfl) (by decide) [1, 2, 0] rfl ?_
  refine r_iconst (v := nI 0) C (dx dX6_harms 4 rfl) rfl ?_
  refine r_istore (ls' := [(0, vr 6 0), (1, vi (-1)), (2, vl 0), (4, vi (nI 0))]) C (dx dX6_harms 5 rfl) (by decide) [1, 2, 3, 0] rfl ?_
  refine loopU (Φ := fun p => ∀ (x1 : Int32), ∀ (x2 : Int64), ∀ (h9p : Hp) (u9p : Vg), Ow h9p v u9p w g B z κ → Fr 0 63 h h9p → xK h9p = xK h → Rr G 7 [(0, vr 6 0), (1, vi x1), (2, vl x2), (4, vi (nI p))] [] h9p) (N := vN v) ?_ ?_ 0 (by omega) (-1) 0 h u o Fr.rf rfl
  ·
    intro  x1 x2 h9p u9p oh9p fh9p kh9p
    refine r_iload C (dx dX6_harms 6 rfl) rfl ?_
    refine r_aload_n C (dx dX6_harms 7 rfl) rfl ?_
    refine g_X6_10 C (dx dX6_harms 8 rfl) ?_
    refine g_X6_154 (x := nI (vN v)) C (dx dX6_harms 9 rfl) oh9p.pv.eN ?_
    refine rn_ge (a := vN v) (b := vN v) (tgt := 91) C (by omega) (by omega) (dx dX6_harms 10 rfl) (by decide) (fun c1 => ?_) (fun c1 => ?_)
    · first
      | (omega; done)
      | (
          have c1 : vN v ≤ vN v := c1
          refine r_iload_n C (dx dX6_harms 47 rfl) rfl ?_
          refine r_iconst (v := -1) C (dx dX6_harms 48 rfl) rfl ?_
          refine r_icmp_ne (tgt := 105) C (dx dX6_harms 49 rfl) (by decide) (fun c2 => ?_) (fun c2 => ?_)
          ·
            have c2 : ¬ x1 = -1 := c2
            refine r_iload_n C (dx dX6_harms 54 rfl) rfl ?_
            exact F.1 _ _ _ _ _ rfl rfl (dx dX6_harms 55 rfl) kh9p ⟨⟨_, rfl⟩, (show OwX h h9p v w g B z κ from by exact ⟨⟨_, oh9p⟩, fh9p⟩)⟩
          ·
            have c2 : x1 = -1 := c2
            refine r_aload_n C (dx dX6_harms 50 rfl) rfl ?_
            refine r_bipush (v := -5) C (dx dX6_harms 51 rfl) rfl ?_
            refine r_cv (as := [vi (-5)]) (st := []) C X I_X6_refuse l_X6_76 (c_X6_refuse (-5)) (by decide) (Nat.le_of_ble_eq_true rfl) List.prefix_rfl (pfx_eq kh9p) rfl rfl (Nat.le_of_ble_eq_true rfl) rfl (dx dX6_harms 52 rfl) ?_
            intro rh3 h3 hph3 kkh3
            obtain ⟨rfl, gh3⟩ := hph3
            have oh3 : Ow h3 v u9p w g B z κ := oh9p.ref gh3
            have fh3 : Fr 0 63 h h3 := fh9p.tr (gh3.mono (by omega) (by omega))
            have kh3 : xK h3 = xK h := (kkh3).trans kh9p
            refine r_goto (tgt := 106) C (dx dX6_harms 53 rfl) (by decide) ?_
            exact F.1 _ _ _ _ _ rfl rfl (dx dX6_harms 55 rfl) kh3 ⟨⟨_, rfl⟩, (show OwX h h3 v w g B z κ from by exact ⟨⟨_, oh3⟩, fh3⟩)⟩)
    · first
      | (omega; done)
  ·
    intro p hp ihp x1 x2 h9p u9p oh9p fh9p kh9p
    refine r_iload C (dx dX6_harms 6 rfl) rfl ?_
    refine r_aload_n C (dx dX6_harms 7 rfl) rfl ?_
    refine g_X6_10 C (dx dX6_harms 8 rfl) ?_
    refine g_X6_154 (x := nI (vN v)) C (dx dX6_harms 9 rfl) oh9p.pv.eN ?_
    refine rn_ge (a := p) (b := vN v) (tgt := 91) C (by omega) (by omega) (dx dX6_harms 10 rfl) (by decide) (fun c5 => ?_) (fun c5 => ?_)
    · first
      | (omega; done)
      | (
          have c5 : vN v ≤ p := c5
          refine r_iload_n C (dx dX6_harms 47 rfl) rfl ?_
          refine r_iconst (v := -1) C (dx dX6_harms 48 rfl) rfl ?_
          refine r_icmp_ne (tgt := 105) C (dx dX6_harms 49 rfl) (by decide) (fun c6 => ?_) (fun c6 => ?_)
          ·
            have c6 : ¬ x1 = -1 := c6
            refine r_iload_n C (dx dX6_harms 54 rfl) rfl ?_
            exact F.1 _ _ _ _ _ rfl rfl (dx dX6_harms 55 rfl) kh9p ⟨⟨_, rfl⟩, (show OwX h h9p v w g B z κ from by exact ⟨⟨_, oh9p⟩, fh9p⟩)⟩
          ·
            have c6 : x1 = -1 := c6
            refine r_aload_n C (dx dX6_harms 50 rfl) rfl ?_
            refine r_bipush (v := -5) C (dx dX6_harms 51 rfl) rfl ?_
            refine r_cv (as := [vi (-5)]) (st := []) C X I_X6_refuse l_X6_76 (c_X6_refuse (-5)) (by decide) (Nat.le_of_ble_eq_true rfl) List.prefix_rfl (pfx_eq kh9p) rfl rfl (Nat.le_of_ble_eq_true rfl) rfl (dx dX6_harms 52 rfl) ?_
            intro rh7 h7 hph7 kkh7
            obtain ⟨rfl, gh7⟩ := hph7
            have oh7 : Ow h7 v u9p w g B z κ := oh9p.ref gh7
            have fh7 : Fr 0 63 h h7 := fh9p.tr (gh7.mono (by omega) (by omega))
            have kh7 : xK h7 = xK h := (kkh7).trans kh9p
            refine r_goto (tgt := 106) C (dx dX6_harms 53 rfl) (by decide) ?_
            exact F.1 _ _ _ _ _ rfl rfl (dx dX6_harms 55 rfl) kh7 ⟨⟨_, rfl⟩, (show OwX h h7 v w g B z κ from by exact ⟨⟨_, oh7⟩, fh7⟩)⟩)
    · first
      | (omega; done)
      | (
          have c5 : p < vN v := c5
          refine r_aload_n C (dx dX6_harms 11 rfl) rfl ?_
          refine g_X6_10 C (dx dX6_harms 12 rfl) ?_
          refine g_X6_166 C (dx dX6_harms 13 rfl) ?_
          refine r_iload C (dx dX6_harms 14 rfl) rfl ?_
          refine r_zald (j := p) (x := vF v 6 p) C rfl rfl (by decide) rfl (by omega) (dx dX6_harms 15 rfl) (oh9p.pv.e6 (by omega)) ?_
          refine r_if_ne (tgt := 85) C (dx dX6_harms 16 rfl) (by decide) (fun c8 => ?_) (fun c8 => ?_)
          ·
            have c8 : ¬ vF v 6 p = 0 := c8
            refine rn_iinc (a := p) (k := 1) (ls' := [(0, vr 6 0), (1, vi x1), (2, vl x2), (4, vi (nI (p + 1)))]) C (dx dX6_harms 45 rfl) rfl rfl (by decide) [1, 2, 3, 0] rfl ?_
            refine r_goto (tgt := 7) C (dx dX6_harms 46 rfl) (by decide) ?_
            exact ihp x1 x2 h9p u9p oh9p fh9p kh9p
          ·
            have c8 : vF v 6 p = 0 := c8
            refine r_aload_n C (dx dX6_harms 17 rfl) rfl ?_
            refine g_X6_16 C (dx dX6_harms 18 rfl) ?_
            refine r_aload_n C (dx dX6_harms 19 rfl) rfl ?_
            refine g_X6_10 C (dx dX6_harms 20 rfl) ?_
            refine r_cv (as := [vr 5 1]) (st := []) C X I_X5_takeOver l_X6_191 (c_X5_takeOver oh9p.pu oh9p.pv (by omega)) (by decide) (Nat.le_of_ble_eq_true rfl) List.prefix_rfl (pfx_eq kh9p) rfl rfl (Nat.le_of_ble_eq_true rfl) rfl (dx dX6_harms 21 rfl) ?_
            intro rh9 h9 hph9 kkh9
            obtain ⟨rfl, wh9, gh9⟩ := hph9
            have oh9 : Ow h9 v v w g B z κ := oh9p.tri wh9 gh9
            have fh9 : Fr 0 63 h h9 := fh9p.tr (gh9.mono (by omega) (by omega))
            have kh9 : xK h9 = xK h := (kkh9).trans kh9p
            refine r_aload_n C (dx dX6_harms 22 rfl) rfl ?_
            refine g_X6_16 C (dx dX6_harms 23 rfl) ?_
            refine g_X6_166 C (dx dX6_harms 24 rfl) ?_
            refine r_iload C (dx dX6_harms 25 rfl) rfl ?_
            refine r_iconst (v := nI 1) C (dx dX6_harms 26 rfl) rfl ?_
            refine r_zast (j := p) C rfl rfl (by decide) rfl (by omega) (dx dX6_harms 27 rfl) ?_
            have oh10 : Ow (sI h9 17 p (vp_nar .boolean (nI 1))) v (vset v 6 p (vp_nar .boolean (nI 1))) w g B z κ := oh9.tri (oh9.pu.s6 rfl) (Fr.sI (by omega) (by omega))
            have fh10 : Fr 0 63 h (sI h9 17 p (vp_nar .boolean (nI 1))) := fh9.tr (Fr.sI (by omega) (by omega))
            have kh10 : xK (sI h9 17 p (vp_nar .boolean (nI 1))) = xK h := kh9
            generalize sI h9 17 p (vp_nar .boolean (nI 1)) = h10 at oh10 fh10 kh10 ⊢
            refine r_aload_n C (dx dX6_harms 28 rfl) rfl ?_
            refine g_X6_29 C (dx dX6_harms 29 rfl) ?_
            refine r_aload_n C (dx dX6_harms 30 rfl) rfl ?_
            refine g_X6_16 C (dx dX6_harms 31 rfl) ?_
            refine r_cv (as := [vr 5 10]) (st := []) C X I_X4_worthOfDay l_X6_244 (c_X4_worthOfDay oh10.pu (by omega)) (by decide) (Nat.le_of_ble_eq_true rfl) List.prefix_rfl (pfx_eq kh10) rfl rfl (Nat.le_of_ble_eq_true rfl) rfl (dx dX6_harms 32 rfl) ?_
            intro rh11 h11 hph11 kkh11
            obtain ⟨rfl, gh11⟩ := hph11
            have oh11 : Ow h11 v (vset v 6 p (vp_nar .boolean (nI 1))) w g B z κ := oh10.tm (gh11.mono (by omega) (by omega))
            have fh11 : Fr 0 63 h h11 := fh10.tr (gh11.mono (by omega) (by omega))
            have kh11 : xK h11 = xK h := (kkh11).trans kh10
            refine r_lstore (ls' := [(0, vr 6 0), (1, vi x1), (2, vl x2), (4, vi (nI p)), (5, vl (dayC (vset v 6 p (vp_nar .boolean (nI 1)))))]) C (dx dX6_harms 33 rfl) (by decide) [1, 2, 3, 4, 0] rfl ?_
            refine r_iload_n C (dx dX6_harms 34 rfl) rfl ?_
            refine r_iconst (v := -1) C (dx dX6_harms 35 rfl) rfl ?_
            refine r_icmp_eq (tgt := 79) C (dx dX6_harms 36 rfl) (by decide) (fun c12 => ?_) (fun c12 => ?_)
            ·
              have c12 : x1 = -1 := c12
              refine r_lload C (dx dX6_harms 41 rfl) rfl ?_
              refine r_lstore_n (ls' := [(0, vr 6 0), (1, vi x1), (2, vl (dayC (vset v 6 p (vp_nar .boolean (nI 1))))), (4, vi (nI p)), (5, vl (dayC (vset v 6 p (vp_nar .boolean (nI 1)))))]) C (dx dX6_harms 42 rfl) (by decide) [1, 2, 0, 3, 4] rfl ?_
              refine r_iload C (dx dX6_harms 43 rfl) rfl ?_
              refine r_istore_n (ls' := [(0, vr 6 0), (1, vi (nI p)), (2, vl (dayC (vset v 6 p (vp_nar .boolean (nI 1))))), (4, vi (nI p)), (5, vl (dayC (vset v 6 p (vp_nar .boolean (nI 1)))))]) C (dx dX6_harms 44 rfl) (by decide) [1, 0, 2, 3, 4] rfl ?_
              refine rn_iinc (a := p) (k := 1) (ls' := [(0, vr 6 0), (1, vi (nI p)), (2, vl (dayC (vset v 6 p (vp_nar .boolean (nI 1))))), (4, vi (nI (p + 1))), (5, vl (dayC (vset v 6 p (vp_nar .boolean (nI 1)))))]) C (dx dX6_harms 45 rfl) rfl rfl (by decide) [1, 2, 3, 0, 4] rfl ?_
              refine r_goto (tgt := 7) C (dx dX6_harms 46 rfl) (by decide) ?_
              refine r_weak C [0, 1, 2, 3] rfl ?_
              exact ihp (nI p) (dayC (vset v 6 p (vp_nar .boolean (nI 1)))) h11 (vset v 6 p (vp_nar .boolean (nI 1))) oh11 fh11 kh11
            ·
              have c12 : ¬ x1 = -1 := c12
              refine r_lload C (dx dX6_harms 37 rfl) rfl ?_
              refine r_lload_n C (dx dX6_harms 38 rfl) rfl ?_
              refine r_lcmp C (dx dX6_harms 39 rfl) ?_
              refine r_if_ge (tgt := 85) C (dx dX6_harms 40 rfl) (by decide) (fun c13 => ?_) (fun c13 => ?_)
              ·
                have c13 : x2 ≤ dayC (vset v 6 p (vp_nar .boolean (nI 1))) := (lg_cmp_ge _ _).mp c13
                refine rn_iinc (a := p) (k := 1) (ls' := [(0, vr 6 0), (1, vi x1), (2, vl x2), (4, vi (nI (p + 1))), (5, vl (dayC (vset v 6 p (vp_nar .boolean (nI 1)))))]) C (dx dX6_harms 45 rfl) rfl rfl (by decide) [1, 2, 3, 0, 4] rfl ?_
                refine r_goto (tgt := 7) C (dx dX6_harms 46 rfl) (by decide) ?_
                refine r_weak C [0, 1, 2, 3] rfl ?_
                exact ihp x1 x2 h11 (vset v 6 p (vp_nar .boolean (nI 1))) oh11 fh11 kh11
              ·
                have c13 : ¬ (x2 ≤ dayC (vset v 6 p (vp_nar .boolean (nI 1)))) := fun q => c13 ((lg_cmp_ge _ _).mpr q)
                refine r_lload C (dx dX6_harms 41 rfl) rfl ?_
                refine r_lstore_n (ls' := [(0, vr 6 0), (1, vi x1), (2, vl (dayC (vset v 6 p (vp_nar .boolean (nI 1))))), (4, vi (nI p)), (5, vl (dayC (vset v 6 p (vp_nar .boolean (nI 1)))))]) C (dx dX6_harms 42 rfl) (by decide) [1, 2, 0, 3, 4] rfl ?_
                refine r_iload C (dx dX6_harms 43 rfl) rfl ?_
                refine r_istore_n (ls' := [(0, vr 6 0), (1, vi (nI p)), (2, vl (dayC (vset v 6 p (vp_nar .boolean (nI 1))))), (4, vi (nI p)), (5, vl (dayC (vset v 6 p (vp_nar .boolean (nI 1)))))]) C (dx dX6_harms 44 rfl) (by decide) [1, 0, 2, 3, 4] rfl ?_
                refine rn_iinc (a := p) (k := 1) (ls' := [(0, vr 6 0), (1, vi (nI p)), (2, vl (dayC (vset v 6 p (vp_nar .boolean (nI 1))))), (4, vi (nI (p + 1))), (5, vl (dayC (vset v 6 p (vp_nar .boolean (nI 1)))))]) C (dx dX6_harms 45 rfl) rfl rfl (by decide) [1, 2, 3, 0, 4] rfl ?_
                refine r_goto (tgt := 7) C (dx dX6_harms 46 rfl) (by decide) ?_
                refine r_weak C [0, 1, 2, 3] rfl ?_
                exact ihp (nI p) (dayC (vset v 6 p (vp_nar .boolean (nI 1)))) h11 (vset v 6 p (vp_nar .boolean (nI 1))) oh11 fh11 kh11)
set_option maxHeartbeats 4000000 in
theorem x_least {l : Launch} {h : Hp} {v u w : Vg} {g : Sg} {B : Nat → Int32} {z : Nat} {κ : Int32} (o : Ow h v u w g B z κ) (hg : GOk g)  : Ms l yX6_least cX6_least 4 (some .int) 20 [vr 6 0] h (xK h) (fun r h' => PI r ∧ OwX h h' v w g B z κ) := by
  refine Ms.of (by decide) (Nat.le_of_ble_eq_true rfl) (fun G C X F => ?_)
  have C : Cx G cX6_least 4 RX6 := C
  show Rr G 0 [(0, vr 6 0)] [] h
  have bP := o.pv.bP
  have bM := o.pv.bM
  have bN := o.pv.bN
  have bz := o.pt.2.2
  obtain ⟨S, hS⟩ : ∃ S, S = 2 ^ vN v := ⟨_, rfl⟩
  have p8 := pow8 bN
  rw [← hS] at p8
  refine r_aload_n C (dx dX6_least 0 rfl) rfl ?_
  refine g_X6_29 C (dx dX6_least 1 rfl) ?_
  refine r_aload_n C (dx dX6_least 2 rfl) rfl ?_
  refine g_X6_10 C (dx dX6_least 3 rfl) ?_
  refine r_cv (as := [vr 5 1]) (st := []) C X I_X4_gather l_X6_248 (c_X4_gather o.pv (by omega)) (by decide) (Nat.le_of_ble_eq_true rfl) List.prefix_rfl List.prefix_rfl rfl rfl (Nat.le_of_ble_eq_true rfl) rfl (dx dX6_least 4 rfl) ?_
  intro rh1 h1 hph1 kkh1
  obtain ⟨rfl, qh1, gh1⟩ := hph1
  have oh1 : Ow h1 v u w g B z κ := o.tm (gh1.mono (by omega) (by omega))
  have fh1 : Fr 0 63 h h1 := gh1.mono (by omega) (by omega)
  have kh1 : xK h1 = xK h := kkh1
  rw [← hS] at qh1
  refine r_aload_n C (dx dX6_least 5 rfl) rfl ?_
  refine g_X6_10 C (dx dX6_least 6 rfl) ?_
  refine r_cvP (as := []) (st := []) (v := vi (nI (S - 1))) C X I_X5_allPeople l_X6_282 (c_allS oh1.pv hS) (by decide) (Nat.le_of_ble_eq_true rfl) (pfx_eq kh1) rfl rfl (Nat.le_of_ble_eq_true rfl) rfl (dx dX6_least 7 rfl) ?_
  refine r_istore_n (ls' := [(0, vr 6 0), (1, vi (nI (S - 1)))]) C (dx dX6_least 8 rfl) (by decide) [1, 0] rfl ?_
  refine r_iload_n C (dx dX6_least 9 rfl) rfl ?_
  refine r_istore_n (ls' := [(0, vr 6 0), (1, vi (nI (S - 1))), (2, vi (nI (S - 1)))]) C (dx dX6_least 10 rfl) (by decide) [1, 2, 0] rfl ?_
  refine r_iconst (v := nI 0) C (dx dX6_least 11 rfl) rfl ?_
  refine r_istore_n (ls' := [(0, vr 6 0), (1, vi (nI (S - 1))), (2, vi (nI (S - 1))), (3, vi (nI 0))]) C (dx dX6_least 12 rfl) (by decide) [1, 2, 3, 0] rfl ?_
  refine loopU (Φ := fun p => ∀ (x2 : Nat), x2 < 4096 → Rr G 23 [(0, vr 6 0), (1, vi (nI (S - 1))), (2, vi (nI x2)), (3, vi (nI p))] [] h1) (N := S - 1) ?_ ?_ 0 (by omega) (S - 1) (by omega)
  ·
    intro  x2 hx2
    refine r_iload_n C (dx dX6_least 13 rfl) rfl ?_
    refine r_iload_n C (dx dX6_least 14 rfl) rfl ?_
    refine rn_ge (a := S - 1) (b := S - 1) (tgt := 69) C (by omega) (by omega) (dx dX6_least 15 rfl) (by decide) (fun c2 => ?_) (fun c2 => ?_)
    · first
      | (omega; done)
      | (
          have c2 : S - 1 ≤ S - 1 := c2
          refine r_iload_n C (dx dX6_least 37 rfl) rfl ?_
          exact F.1 _ _ _ _ _ rfl rfl (dx dX6_least 38 rfl) kh1 ⟨⟨_, rfl⟩, (show OwX h h1 v w g B z κ from by exact ⟨⟨_, oh1⟩, fh1⟩)⟩)
    · first
      | (omega; done)
      | (
          have c2 : S - 1 < S - 1 := c2
          refine r_iload_n C (dx dX6_least 16 rfl) rfl ?_
          have bc3 := pcn_12 (a := S - 1) (by omega)
          refine r_csP (as := [vi (nI (S - 1))]) (st := []) (v := vi (nI (pcn (S - 1)))) C X I_J6_bitCount_0f7a4 l_X6_285 (c_J6_bitCount_0f7a4 (a := S - 1) (by omega)) (by decide) (Nat.le_of_ble_eq_true rfl) (pfx_eq kh1) (Nat.le_of_ble_eq_true rfl) rfl (dx dX6_least 17 rfl) ?_
          refine r_iload_n C (dx dX6_least 18 rfl) rfl ?_
          have bc4 := pcn_12 (a := x2) (by omega)
          refine r_csP (as := [vi (nI x2)]) (st := [vi (nI (pcn (S - 1)))]) (v := vi (nI (pcn x2))) C X I_J6_bitCount_0f7a4 l_X6_285 (c_J6_bitCount_0f7a4 (a := x2) (by omega)) (by decide) (Nat.le_of_ble_eq_true rfl) (pfx_eq kh1) (Nat.le_of_ble_eq_true rfl) rfl (dx dX6_least 19 rfl) ?_
          refine rn_ge (a := pcn (S - 1)) (b := pcn x2) (tgt := 63) C (by omega) (by omega) (dx dX6_least 20 rfl) (by decide) (fun c5 => ?_) (fun c5 => ?_)
          · first
            | (omega; done)
          · first
            | (omega; done))
  ·
    intro p hp ihp x2 hx2
    refine r_iload_n C (dx dX6_least 13 rfl) rfl ?_
    refine r_iload_n C (dx dX6_least 14 rfl) rfl ?_
    refine rn_ge (a := p) (b := S - 1) (tgt := 69) C (by omega) (by omega) (dx dX6_least 15 rfl) (by decide) (fun c7 => ?_) (fun c7 => ?_)
    · first
      | (omega; done)
      | (
          have c7 : S - 1 ≤ p := c7
          refine r_iload_n C (dx dX6_least 37 rfl) rfl ?_
          exact F.1 _ _ _ _ _ rfl rfl (dx dX6_least 38 rfl) kh1 ⟨⟨_, rfl⟩, (show OwX h h1 v w g B z κ from by exact ⟨⟨_, oh1⟩, fh1⟩)⟩)
    · first
      | (omega; done)
      | (
          have c7 : p < S - 1 := c7
          refine r_iload_n C (dx dX6_least 16 rfl) rfl ?_
          have bc8 := pcn_12 (a := p) (by omega)
          refine r_csP (as := [vi (nI p)]) (st := []) (v := vi (nI (pcn p))) C X I_J6_bitCount_0f7a4 l_X6_285 (c_J6_bitCount_0f7a4 (a := p) (by omega)) (by decide) (Nat.le_of_ble_eq_true rfl) (pfx_eq kh1) (Nat.le_of_ble_eq_true rfl) rfl (dx dX6_least 17 rfl) ?_
          refine r_iload_n C (dx dX6_least 18 rfl) rfl ?_
          have bc9 := pcn_12 (a := x2) (by omega)
          refine r_csP (as := [vi (nI x2)]) (st := [vi (nI (pcn p))]) (v := vi (nI (pcn x2))) C X I_J6_bitCount_0f7a4 l_X6_285 (c_J6_bitCount_0f7a4 (a := x2) (by omega)) (by decide) (Nat.le_of_ble_eq_true rfl) (pfx_eq kh1) (Nat.le_of_ble_eq_true rfl) rfl (dx dX6_least 19 rfl) ?_
          refine rn_ge (a := pcn p) (b := pcn x2) (tgt := 63) C (by omega) (by omega) (dx dX6_least 20 rfl) (by decide) (fun c10 => ?_) (fun c10 => ?_)
          · first
            | (omega; done)
            | (
                have c10 : pcn x2 ≤ pcn p := c10
                refine rn_iinc (a := p) (k := 1) (ls' := [(0, vr 6 0), (1, vi (nI (S - 1))), (2, vi (nI x2)), (3, vi (nI (p + 1)))]) C (dx dX6_least 35 rfl) rfl rfl (by decide) [1, 2, 3, 0] rfl ?_
                refine r_goto (tgt := 23) C (dx dX6_least 36 rfl) (by decide) ?_
                exact ihp x2 (by omega))
          · first
            | (omega; done)
            | (
                have c10 : pcn p < pcn x2 := c10
                refine r_aload_n C (dx dX6_least 21 rfl) rfl ?_
                refine g_X6_10 C (dx dX6_least 22 rfl) ?_
                refine r_aload_n C (dx dX6_least 23 rfl) rfl ?_
                refine g_X6_29 C (dx dX6_least 24 rfl) ?_
                refine r_iload_n C (dx dX6_least 25 rfl) rfl ?_
                refine r_iload_n C (dx dX6_least 26 rfl) rfl ?_
                refine r_iconst (v := -1) C (dx dX6_least 27 rfl) rfl ?_
                refine r_ixor C (dx dX6_least 28 rfl) ?_
                refine r_iand C (dx dX6_least 29 rfl) ?_
                rw [nI_dif (by omega)]
                refine r_cvP (as := [vi (nI (dif (S - 1) p))]) (st := [vr 5 1]) (v := vi (gat v (dif (S - 1) p) (vN v))) C X I_X4_partsOf l_X6_290 (c_partsG qh1 (by omega) (a := dif (S - 1) p) (Nat.lt_of_le_of_lt (dif_le _ _) (by omega))) (by decide) (Nat.le_of_ble_eq_true rfl) (pfx_eq kh1) rfl rfl (Nat.le_of_ble_eq_true rfl) rfl (dx dX6_least 30 rfl) ?_
                refine r_cvP (as := [vi (gat v (dif (S - 1) p) (vN v))]) (st := []) (v := vi (b2i (decide (¬ macW v (gat v (dif (S - 1) p) (vN v)) = 0)))) C X I_X5_isAnyWorkedWith l_X6_293 (c_X5_isAnyWorkedWith oh1.pv _) (by decide) (Nat.le_of_ble_eq_true rfl) (pfx_eq kh1) rfl rfl (Nat.le_of_ble_eq_true rfl) rfl (dx dX6_least 31 rfl) ?_
                refine rb_ne (b := decide (¬ macW v (gat v (dif (S - 1) p) (vN v)) = 0)) (tgt := 63) C (dx dX6_least 32 rfl) (by decide) (fun c11 => ?_) (fun c11 => ?_)
                ·
                  have c11 : (decide (¬ macW v (gat v (dif (S - 1) p) (vN v)) = 0)) = true := c11
                  refine rn_iinc (a := p) (k := 1) (ls' := [(0, vr 6 0), (1, vi (nI (S - 1))), (2, vi (nI x2)), (3, vi (nI (p + 1)))]) C (dx dX6_least 35 rfl) rfl rfl (by decide) [1, 2, 3, 0] rfl ?_
                  refine r_goto (tgt := 23) C (dx dX6_least 36 rfl) (by decide) ?_
                  exact ihp x2 (by omega)
                ·
                  have c11 : (decide (¬ macW v (gat v (dif (S - 1) p) (vN v)) = 0)) = false := c11
                  refine r_iload_n C (dx dX6_least 33 rfl) rfl ?_
                  refine r_istore_n (ls' := [(0, vr 6 0), (1, vi (nI (S - 1))), (2, vi (nI p)), (3, vi (nI p))]) C (dx dX6_least 34 rfl) (by decide) [1, 2, 0, 3] rfl ?_
                  refine rn_iinc (a := p) (k := 1) (ls' := [(0, vr 6 0), (1, vi (nI (S - 1))), (2, vi (nI p)), (3, vi (nI (p + 1)))]) C (dx dX6_least 35 rfl) rfl rfl (by decide) [1, 2, 3, 0] rfl ?_
                  refine r_goto (tgt := 23) C (dx dX6_least 36 rfl) (by decide) ?_
                  exact ihp p (by omega)))
set_option maxHeartbeats 4000000 in
theorem x_with {l : Launch} {h : Hp} {v u w : Vg} {g : Sg} {B : Nat → Int32} {z : Nat} {κ : Int32} (o : Ow h v u w g B z κ) (hg : GOk g) (m : Int32) : Ms l yX6_with cX6_with 5 (some .int) 20 [vr 6 0, vi m] h (xK h) (fun r h' => PI r ∧ OwX h h' v w g B z κ) := by
  refine Ms.of (by decide) (Nat.le_of_ble_eq_true rfl) (fun G C X F => ?_)
  have C : Cx G cX6_with 5 RX6 := C
  show Rr G 0 [(0, vr 6 0), (1, vi m)] [] h
  have bP := o.pv.bP
  have bM := o.pv.bM
  have bN := o.pv.bN
  have bz := o.pt.2.2
  obtain ⟨S, hS⟩ : ∃ S, S = 2 ^ vN v := ⟨_, rfl⟩
  have p8 := pow8 bN
  rw [← hS] at p8
  refine r_aload_n C (dx dX6_with 0 rfl) rfl ?_
  refine g_X6_10 C (dx dX6_with 1 rfl) ?_
  refine r_iload_n C (dx dX6_with 2 rfl) rfl ?_
  refine r_cvP (as := [vi m]) (st := []) (v := vi (b2i (inR m (vM v)))) C X I_X5_isMachine l_X6_202 (c_X5_isMachine o.pv _) (by decide) (Nat.le_of_ble_eq_true rfl) List.prefix_rfl rfl rfl (Nat.le_of_ble_eq_true rfl) rfl (dx dX6_with 3 rfl) ?_
  refine rb_ne (b := inR m (vM v)) (tgt := 18) C (dx dX6_with 4 rfl) (by decide) (fun c1 => ?_) (fun c1 => ?_)
  ·
    have c1 : (inR m (vM v)) = true := c1
    obtain ⟨μ, hμ, rfl⟩ := inR_ex (n := (vM v)) (by omega) c1
    refine r_aload_n C (dx dX6_with 9 rfl) rfl ?_
    refine g_X6_29 C (dx dX6_with 10 rfl) ?_
    refine r_aload_n C (dx dX6_with 11 rfl) rfl ?_
    refine g_X6_10 C (dx dX6_with 12 rfl) ?_
    refine r_cv (as := [vr 5 1]) (st := []) C X I_X4_gather l_X6_248 (c_X4_gather o.pv (by omega)) (by decide) (Nat.le_of_ble_eq_true rfl) List.prefix_rfl List.prefix_rfl rfl rfl (Nat.le_of_ble_eq_true rfl) rfl (dx dX6_with 13 rfl) ?_
    intro rh2 h2 hph2 kkh2
    obtain ⟨rfl, qh2, gh2⟩ := hph2
    have oh2 : Ow h2 v u w g B z κ := o.tm (gh2.mono (by omega) (by omega))
    have fh2 : Fr 0 63 h h2 := gh2.mono (by omega) (by omega)
    have kh2 : xK h2 = xK h := kkh2
    rw [← hS] at qh2
    refine r_iconst (v := -1) C (dx dX6_with 14 rfl) rfl ?_
    refine r_istore_n (ls' := [(0, vr 6 0), (1, vi (nI μ)), (2, vi (-1))]) C (dx dX6_with 15 rfl) (by decide) [1, 2, 0] rfl ?_
    refine r_iconst (v := nI 0) C (dx dX6_with 16 rfl) rfl ?_
    refine r_istore_n (ls' := [(0, vr 6 0), (1, vi (nI μ)), (2, vi (-1)), (3, vi (nI 0))]) C (dx dX6_with 17 rfl) (by decide) [1, 2, 3, 0] rfl ?_
    refine loopU (Φ := fun p => ∀ (x2 : Int32), (x2 = -1 ∨ ∃ a, a < 4096 ∧ x2 = nI a) → Rr G 33 [(0, vr 6 0), (1, vi (nI μ)), (2, vi x2), (3, vi (nI p))] [] h2) (N := S) ?_ ?_ 0 (by omega) (-1) (Or.inl rfl)
    ·
      intro  x2 hx2
      refine r_iload_n C (dx dX6_with 18 rfl) rfl ?_
      refine r_aload_n C (dx dX6_with 19 rfl) rfl ?_
      refine g_X6_10 C (dx dX6_with 20 rfl) ?_
      refine r_cvP (as := []) (st := [vi (nI S)]) (v := vi (nI (S - 1))) C X I_X5_allPeople l_X6_282 (c_allS oh2.pv hS) (by decide) (Nat.le_of_ble_eq_true rfl) (pfx_eq kh2) rfl rfl (Nat.le_of_ble_eq_true rfl) rfl (dx dX6_with 21 rfl) ?_
      refine rn_gt (a := S) (b := S - 1) (tgt := 99) C (by omega) (by omega) (dx dX6_with 22 rfl) (by decide) (fun c3 => ?_) (fun c3 => ?_)
      · first
        | (omega; done)
        | (
            have c3 : S - 1 < S := c3
            refine r_iload_n C (dx dX6_with 50 rfl) rfl ?_
            refine r_iconst (v := -1) C (dx dX6_with 51 rfl) rfl ?_
            refine r_icmp_ne (tgt := 113) C (dx dX6_with 52 rfl) (by decide) (fun c4 => ?_) (fun c4 => ?_)
            ·
              have c4 : ¬ x2 = -1 := c4
              refine r_iload_n C (dx dX6_with 57 rfl) rfl ?_
              exact F.1 _ _ _ _ _ rfl rfl (dx dX6_with 58 rfl) kh2 ⟨⟨_, rfl⟩, (show OwX h h2 v w g B z κ from by exact ⟨⟨_, oh2⟩, fh2⟩)⟩
            ·
              have c4 : x2 = -1 := c4
              refine r_aload_n C (dx dX6_with 53 rfl) rfl ?_
              refine r_bipush (v := -5) C (dx dX6_with 54 rfl) rfl ?_
              refine r_cv (as := [vi (-5)]) (st := []) C X I_X6_refuse l_X6_76 (c_X6_refuse (-5)) (by decide) (Nat.le_of_ble_eq_true rfl) List.prefix_rfl (pfx_eq kh2) rfl rfl (Nat.le_of_ble_eq_true rfl) rfl (dx dX6_with 55 rfl) ?_
              intro rh5 h5 hph5 kkh5
              obtain ⟨rfl, gh5⟩ := hph5
              have oh5 : Ow h5 v u w g B z κ := oh2.ref gh5
              have fh5 : Fr 0 63 h h5 := fh2.tr (gh5.mono (by omega) (by omega))
              have kh5 : xK h5 = xK h := (kkh5).trans kh2
              refine r_goto (tgt := 114) C (dx dX6_with 56 rfl) (by decide) ?_
              exact F.1 _ _ _ _ _ rfl rfl (dx dX6_with 58 rfl) kh5 ⟨⟨_, rfl⟩, (show OwX h h5 v w g B z κ from by exact ⟨⟨_, oh5⟩, fh5⟩)⟩)
      · first
        | (omega; done)
    ·
      intro p hp ihp x2 hx2
      refine r_iload_n C (dx dX6_with 18 rfl) rfl ?_
      refine r_aload_n C (dx dX6_with 19 rfl) rfl ?_
      refine g_X6_10 C (dx dX6_with 20 rfl) ?_
      refine r_cvP (as := []) (st := [vi (nI p)]) (v := vi (nI (S - 1))) C X I_X5_allPeople l_X6_282 (c_allS oh2.pv hS) (by decide) (Nat.le_of_ble_eq_true rfl) (pfx_eq kh2) rfl rfl (Nat.le_of_ble_eq_true rfl) rfl (dx dX6_with 21 rfl) ?_
      refine rn_gt (a := p) (b := S - 1) (tgt := 99) C (by omega) (by omega) (dx dX6_with 22 rfl) (by decide) (fun c9 => ?_) (fun c9 => ?_)
      · first
        | (omega; done)
        | (
            have c9 : S - 1 < p := c9
            refine r_iload_n C (dx dX6_with 50 rfl) rfl ?_
            refine r_iconst (v := -1) C (dx dX6_with 51 rfl) rfl ?_
            refine r_icmp_ne (tgt := 113) C (dx dX6_with 52 rfl) (by decide) (fun c10 => ?_) (fun c10 => ?_)
            ·
              have c10 : ¬ x2 = -1 := c10
              refine r_iload_n C (dx dX6_with 57 rfl) rfl ?_
              exact F.1 _ _ _ _ _ rfl rfl (dx dX6_with 58 rfl) kh2 ⟨⟨_, rfl⟩, (show OwX h h2 v w g B z κ from by exact ⟨⟨_, oh2⟩, fh2⟩)⟩
            ·
              have c10 : x2 = -1 := c10
              refine r_aload_n C (dx dX6_with 53 rfl) rfl ?_
              refine r_bipush (v := -5) C (dx dX6_with 54 rfl) rfl ?_
              refine r_cv (as := [vi (-5)]) (st := []) C X I_X6_refuse l_X6_76 (c_X6_refuse (-5)) (by decide) (Nat.le_of_ble_eq_true rfl) List.prefix_rfl (pfx_eq kh2) rfl rfl (Nat.le_of_ble_eq_true rfl) rfl (dx dX6_with 55 rfl) ?_
              intro rh11 h11 hph11 kkh11
              obtain ⟨rfl, gh11⟩ := hph11
              have oh11 : Ow h11 v u w g B z κ := oh2.ref gh11
              have fh11 : Fr 0 63 h h11 := fh2.tr (gh11.mono (by omega) (by omega))
              have kh11 : xK h11 = xK h := (kkh11).trans kh2
              refine r_goto (tgt := 114) C (dx dX6_with 56 rfl) (by decide) ?_
              exact F.1 _ _ _ _ _ rfl rfl (dx dX6_with 58 rfl) kh11 ⟨⟨_, rfl⟩, (show OwX h h11 v w g B z κ from by exact ⟨⟨_, oh11⟩, fh11⟩)⟩)
      · first
        | (omega; done)
        | (
            have c9 : p ≤ S - 1 := c9
            refine r_iload_n C (dx dX6_with 23 rfl) rfl ?_
            refine r_iconst (v := -1) C (dx dX6_with 24 rfl) rfl ?_
            refine r_icmp_eq (tgt := 60) C (dx dX6_with 25 rfl) (by decide) (fun c12 => ?_) (fun c12 => ?_)
            ·
              have c12 : x2 = -1 := c12
              refine r_iconst (v := nI 1) C (dx dX6_with 31 rfl) rfl ?_
              refine r_goto (tgt := 65) C (dx dX6_with 32 rfl) (by decide) ?_
              refine r_istore (ls' := [(0, vr 6 0), (1, vi (nI μ)), (2, vi x2), (3, vi (nI p)), (4, vi (nI 1))]) C (dx dX6_with 34 rfl) (by decide) [1, 2, 3, 4, 0] rfl ?_
              refine r_iload C (dx dX6_with 35 rfl) rfl ?_
              refine r_if_eq (tgt := 93) C (dx dX6_with 36 rfl) (by decide) (fun c13 => (show False from by revert c13; decide).elim) (fun _ => ?_)
              refine r_aload_n C (dx dX6_with 37 rfl) rfl ?_
              refine g_X6_10 C (dx dX6_with 38 rfl) ?_
              refine r_iload_n C (dx dX6_with 39 rfl) rfl ?_
              refine r_aload_n C (dx dX6_with 40 rfl) rfl ?_
              refine g_X6_29 C (dx dX6_with 41 rfl) ?_
              refine r_iload_n C (dx dX6_with 42 rfl) rfl ?_
              refine r_cvP (as := [vi (nI p)]) (st := [vi (nI μ), vr 5 1]) (v := vi (gat v p (vN v))) C X I_X4_partsOf l_X6_290 (c_partsG qh2 (by omega) (a := p) (by omega)) (by decide) (Nat.le_of_ble_eq_true rfl) (pfx_eq kh2) rfl rfl (Nat.le_of_ble_eq_true rfl) rfl (dx dX6_with 43 rfl) ?_
              refine r_cvP (as := [vi (nI μ), vi (gat v p (vN v))]) (st := []) (v := vi (b2i (wkW v (nI μ) (gat v p (vN v))))) C X I_X5_isWorkedWith l_X6_226 (c_X5_isWorkedWith oh2.pv _ _) (by decide) (Nat.le_of_ble_eq_true rfl) (pfx_eq kh2) rfl rfl (Nat.le_of_ble_eq_true rfl) rfl (dx dX6_with 44 rfl) ?_
              refine rb_eq (b := wkW v (nI μ) (gat v p (vN v))) (tgt := 93) C (dx dX6_with 45 rfl) (by decide) (fun c14 => ?_) (fun c14 => ?_)
              ·
                have c14 : (wkW v (nI μ) (gat v p (vN v))) = false := c14
                refine rn_iinc (a := p) (k := 1) (ls' := [(0, vr 6 0), (1, vi (nI μ)), (2, vi x2), (3, vi (nI (p + 1))), (4, vi (nI 1))]) C (dx dX6_with 48 rfl) rfl rfl (by decide) [1, 2, 3, 0, 4] rfl ?_
                refine r_goto (tgt := 33) C (dx dX6_with 49 rfl) (by decide) ?_
                refine r_weak C [0, 1, 2, 3] rfl ?_
                exact ihp x2 hx2
              ·
                have c14 : (wkW v (nI μ) (gat v p (vN v))) = true := c14
                refine r_iload_n C (dx dX6_with 46 rfl) rfl ?_
                refine r_istore_n (ls' := [(0, vr 6 0), (1, vi (nI μ)), (2, vi (nI p)), (3, vi (nI p)), (4, vi (nI 1))]) C (dx dX6_with 47 rfl) (by decide) [1, 2, 0, 3, 4] rfl ?_
                refine rn_iinc (a := p) (k := 1) (ls' := [(0, vr 6 0), (1, vi (nI μ)), (2, vi (nI p)), (3, vi (nI (p + 1))), (4, vi (nI 1))]) C (dx dX6_with 48 rfl) rfl rfl (by decide) [1, 2, 3, 0, 4] rfl ?_
                refine r_goto (tgt := 33) C (dx dX6_with 49 rfl) (by decide) ?_
                refine r_weak C [0, 1, 2, 3] rfl ?_
                exact ihp (nI p) (Or.inr ⟨_, by omega, rfl⟩)
            ·
              have c12 : ¬ x2 = -1 := c12
              refine r_iload_n C (dx dX6_with 26 rfl) rfl ?_
              have bc15 := pcn_12 (a := p) (by omega)
              refine r_csP (as := [vi (nI p)]) (st := []) (v := vi (nI (pcn p))) C X I_J6_bitCount_0f7a4 l_X6_285 (c_J6_bitCount_0f7a4 (a := p) (by omega)) (by decide) (Nat.le_of_ble_eq_true rfl) (pfx_eq kh2) (Nat.le_of_ble_eq_true rfl) rfl (dx dX6_with 27 rfl) ?_
              refine r_iload_n C (dx dX6_with 28 rfl) rfl ?_
              have bc16 := pcn_h (bc_hi (by omega) hx2 c12)
              refine r_csP (as := [vi x2]) (st := [vi (nI (pcn p))]) (v := vi (nI (pcn x2.toNatClampNeg))) C X I_J6_bitCount_0f7a4 l_X6_285 (c_bcE (bc_hi (by omega) hx2 c12)) (by decide) (Nat.le_of_ble_eq_true rfl) (pfx_eq kh2) (Nat.le_of_ble_eq_true rfl) rfl (dx dX6_with 29 rfl) ?_
              refine rn_ge (a := pcn p) (b := pcn x2.toNatClampNeg) (tgt := 64) C (by omega) (by omega) (dx dX6_with 30 rfl) (by decide) (fun c17 => ?_) (fun c17 => ?_)
              · first
                | (omega; done)
                | (
                    have c17 : pcn x2.toNatClampNeg ≤ pcn p := c17
                    refine r_iconst (v := nI 0) C (dx dX6_with 33 rfl) rfl ?_
                    refine r_istore (ls' := [(0, vr 6 0), (1, vi (nI μ)), (2, vi x2), (3, vi (nI p)), (4, vi (nI 0))]) C (dx dX6_with 34 rfl) (by decide) [1, 2, 3, 4, 0] rfl ?_
                    refine r_iload C (dx dX6_with 35 rfl) rfl ?_
                    refine r_if_eq (tgt := 93) C (dx dX6_with 36 rfl) (by decide) (fun _ => ?_) (fun c18 => (show False from by revert c18; decide).elim)
                    refine rn_iinc (a := p) (k := 1) (ls' := [(0, vr 6 0), (1, vi (nI μ)), (2, vi x2), (3, vi (nI (p + 1))), (4, vi (nI 0))]) C (dx dX6_with 48 rfl) rfl rfl (by decide) [1, 2, 3, 0, 4] rfl ?_
                    refine r_goto (tgt := 33) C (dx dX6_with 49 rfl) (by decide) ?_
                    refine r_weak C [0, 1, 2, 3] rfl ?_
                    exact ihp x2 hx2)
              · first
                | (omega; done)
                | (
                    have c17 : pcn p < pcn x2.toNatClampNeg := c17
                    refine r_iconst (v := nI 1) C (dx dX6_with 31 rfl) rfl ?_
                    refine r_goto (tgt := 65) C (dx dX6_with 32 rfl) (by decide) ?_
                    refine r_istore (ls' := [(0, vr 6 0), (1, vi (nI μ)), (2, vi x2), (3, vi (nI p)), (4, vi (nI 1))]) C (dx dX6_with 34 rfl) (by decide) [1, 2, 3, 4, 0] rfl ?_
                    refine r_iload C (dx dX6_with 35 rfl) rfl ?_
                    refine r_if_eq (tgt := 93) C (dx dX6_with 36 rfl) (by decide) (fun c19 => (show False from by revert c19; decide).elim) (fun _ => ?_)
                    refine r_aload_n C (dx dX6_with 37 rfl) rfl ?_
                    refine g_X6_10 C (dx dX6_with 38 rfl) ?_
                    refine r_iload_n C (dx dX6_with 39 rfl) rfl ?_
                    refine r_aload_n C (dx dX6_with 40 rfl) rfl ?_
                    refine g_X6_29 C (dx dX6_with 41 rfl) ?_
                    refine r_iload_n C (dx dX6_with 42 rfl) rfl ?_
                    refine r_cvP (as := [vi (nI p)]) (st := [vi (nI μ), vr 5 1]) (v := vi (gat v p (vN v))) C X I_X4_partsOf l_X6_290 (c_partsG qh2 (by omega) (a := p) (by omega)) (by decide) (Nat.le_of_ble_eq_true rfl) (pfx_eq kh2) rfl rfl (Nat.le_of_ble_eq_true rfl) rfl (dx dX6_with 43 rfl) ?_
                    refine r_cvP (as := [vi (nI μ), vi (gat v p (vN v))]) (st := []) (v := vi (b2i (wkW v (nI μ) (gat v p (vN v))))) C X I_X5_isWorkedWith l_X6_226 (c_X5_isWorkedWith oh2.pv _ _) (by decide) (Nat.le_of_ble_eq_true rfl) (pfx_eq kh2) rfl rfl (Nat.le_of_ble_eq_true rfl) rfl (dx dX6_with 44 rfl) ?_
                    refine rb_eq (b := wkW v (nI μ) (gat v p (vN v))) (tgt := 93) C (dx dX6_with 45 rfl) (by decide) (fun c20 => ?_) (fun c20 => ?_)
                    ·
                      have c20 : (wkW v (nI μ) (gat v p (vN v))) = false := c20
                      refine rn_iinc (a := p) (k := 1) (ls' := [(0, vr 6 0), (1, vi (nI μ)), (2, vi x2), (3, vi (nI (p + 1))), (4, vi (nI 1))]) C (dx dX6_with 48 rfl) rfl rfl (by decide) [1, 2, 3, 0, 4] rfl ?_
                      refine r_goto (tgt := 33) C (dx dX6_with 49 rfl) (by decide) ?_
                      refine r_weak C [0, 1, 2, 3] rfl ?_
                      exact ihp x2 hx2
                    ·
                      have c20 : (wkW v (nI μ) (gat v p (vN v))) = true := c20
                      refine r_iload_n C (dx dX6_with 46 rfl) rfl ?_
                      refine r_istore_n (ls' := [(0, vr 6 0), (1, vi (nI μ)), (2, vi (nI p)), (3, vi (nI p)), (4, vi (nI 1))]) C (dx dX6_with 47 rfl) (by decide) [1, 2, 0, 3, 4] rfl ?_
                      refine rn_iinc (a := p) (k := 1) (ls' := [(0, vr 6 0), (1, vi (nI μ)), (2, vi (nI p)), (3, vi (nI (p + 1))), (4, vi (nI 1))]) C (dx dX6_with 48 rfl) rfl rfl (by decide) [1, 2, 3, 0, 4] rfl ?_
                      refine r_goto (tgt := 33) C (dx dX6_with 49 rfl) (by decide) ?_
                      refine r_weak C [0, 1, 2, 3] rfl ?_
                      exact ihp (nI p) (Or.inr ⟨_, by omega, rfl⟩)))
  ·
    have c1 : (inR m (vM v)) = false := c1
    refine r_aload_n C (dx dX6_with 5 rfl) rfl ?_
    refine r_bipush (v := -2) C (dx dX6_with 6 rfl) rfl ?_
    refine r_cv (as := [vi (-2)]) (st := []) C X I_X6_refuse l_X6_76 (c_X6_refuse (-2)) (by decide) (Nat.le_of_ble_eq_true rfl) List.prefix_rfl List.prefix_rfl rfl rfl (Nat.le_of_ble_eq_true rfl) rfl (dx dX6_with 7 rfl) ?_
    intro rh21 h21 hph21 kkh21
    obtain ⟨rfl, gh21⟩ := hph21
    have oh21 : Ow h21 v u w g B z κ := o.ref gh21
    have fh21 : Fr 0 63 h h21 := gh21.mono (by omega) (by omega)
    have kh21 : xK h21 = xK h := kkh21
    exact F.1 _ _ _ _ _ rfl rfl (dx dX6_with 8 rfl) kh21 ⟨⟨_, rfl⟩, (show OwX h h21 v w g B z κ from by exact ⟨⟨_, oh21⟩, fh21⟩)⟩
set_option maxHeartbeats 4000000 in
theorem x_stolen {l : Launch} {h : Hp} {v u w : Vg} {g : Sg} {B : Nat → Int32} {z : Nat} {κ : Int32} (o : Ow h v u w g B z κ) (hg : GOk g)  : Ms l yX6_stolen cX6_stolen 5 (some .int) 20 [vr 6 0] h (xK h) (fun r h' => PI r ∧ OwX h h' v w g B z κ) := by
  refine Ms.of (by decide) (Nat.le_of_ble_eq_true rfl) (fun G C X F => ?_)
  have C : Cx G cX6_stolen 5 RX6 := C
  show Rr G 0 [(0, vr 6 0)] [] h
  have bP := o.pv.bP
  have bM := o.pv.bM
  have bN := o.pv.bN
  have bz := o.pt.2.2
  obtain ⟨S, hS⟩ : ∃ S, S = 2 ^ vP v := ⟨_, rfl⟩
  have p12 := pow12 bP
  rw [← hS] at p12
  refine r_aload_n C (dx dX6_stolen 0 rfl) rfl ?_
  refine g_X6_10 C (dx dX6_stolen 1 rfl) ?_
  refine r_aload_n C (dx dX6_stolen 2 rfl) rfl ?_
  refine g_X6_10 C (dx dX6_stolen 3 rfl) ?_
  refine r_cvP (as := []) (st := [vr 5 1]) (v := vi (full (vN v))) C X I_X5_allPeople l_X6_282 (c_X5_allPeople o.pv) (by decide) (Nat.le_of_ble_eq_true rfl) List.prefix_rfl rfl rfl (Nat.le_of_ble_eq_true rfl) rfl (dx dX6_stolen 4 rfl) ?_
  refine r_cvP (as := [vi (full (vN v))]) (st := []) (v := vi (hasP v (full (vN v)))) C X I_X5_partsWith l_X6_223 (c_X5_partsWith o.pv _) (by decide) (Nat.le_of_ble_eq_true rfl) List.prefix_rfl rfl rfl (Nat.le_of_ble_eq_true rfl) rfl (dx dX6_stolen 5 rfl) ?_
  refine r_istore_n (ls' := [(0, vr 6 0), (1, vi (hasP v (full (vN v))))]) C (dx dX6_stolen 6 rfl) (by decide) [1, 0] rfl ?_
  refine r_aload_n C (dx dX6_stolen 7 rfl) rfl ?_
  refine g_X6_10 C (dx dX6_stolen 8 rfl) ?_
  refine r_cvP (as := []) (st := []) (v := vi (nI (S - 1))) C X I_X5_allParts l_X6_296 (c_allPs o.pv hS) (by decide) (Nat.le_of_ble_eq_true rfl) List.prefix_rfl rfl rfl (Nat.le_of_ble_eq_true rfl) rfl (dx dX6_stolen 9 rfl) ?_
  refine r_istore_n (ls' := [(0, vr 6 0), (1, vi (hasP v (full (vN v)))), (2, vi (nI (S - 1)))]) C (dx dX6_stolen 10 rfl) (by decide) [1, 2, 0] rfl ?_
  refine r_iload_n C (dx dX6_stolen 11 rfl) rfl ?_
  refine r_istore_n (ls' := [(0, vr 6 0), (1, vi (hasP v (full (vN v)))), (2, vi (nI (S - 1))), (3, vi (nI (S - 1)))]) C (dx dX6_stolen 12 rfl) (by decide) [1, 2, 3, 0] rfl ?_
  refine r_iconst (v := nI 0) C (dx dX6_stolen 13 rfl) rfl ?_
  refine r_istore (ls' := [(0, vr 6 0), (1, vi (hasP v (full (vN v)))), (2, vi (nI (S - 1))), (3, vi (nI (S - 1))), (4, vi (nI 0))]) C (dx dX6_stolen 14 rfl) (by decide) [1, 2, 3, 4, 0] rfl ?_
  refine loopU (Φ := fun p => ∀ (x3 : Nat), x3 < 4096 → Rr G 28 [(0, vr 6 0), (1, vi (hasP v (full (vN v)))), (2, vi (nI (S - 1))), (3, vi (nI x3)), (4, vi (nI p))] [] h) (N := S - 1) ?_ ?_ 0 (by omega) (S - 1) (by omega)
  ·
    intro  x3 hx3
    refine r_iload C (dx dX6_stolen 15 rfl) rfl ?_
    refine r_iload_n C (dx dX6_stolen 16 rfl) rfl ?_
    refine rn_ge (a := S - 1) (b := S - 1) (tgt := 71) C (by omega) (by omega) (dx dX6_stolen 17 rfl) (by decide) (fun c1 => ?_) (fun c1 => ?_)
    · first
      | (omega; done)
      | (
          have c1 : S - 1 ≤ S - 1 := c1
          refine r_iload_n C (dx dX6_stolen 36 rfl) rfl ?_
          exact F.1 _ _ _ _ _ rfl rfl (dx dX6_stolen 37 rfl) rfl ⟨⟨_, rfl⟩, (show OwX h h v w g B z κ from by exact ⟨⟨_, o⟩, Fr.rf⟩)⟩)
    · first
      | (omega; done)
      | (
          have c1 : S - 1 < S - 1 := c1
          refine r_iload C (dx dX6_stolen 18 rfl) rfl ?_
          have bc2 := pcn_12 (a := S - 1) (by omega)
          refine r_csP (as := [vi (nI (S - 1))]) (st := []) (v := vi (nI (pcn (S - 1)))) C X I_J6_bitCount_0f7a4 l_X6_285 (c_J6_bitCount_0f7a4 (a := S - 1) (by omega)) (by decide) (Nat.le_of_ble_eq_true rfl) List.prefix_rfl (Nat.le_of_ble_eq_true rfl) rfl (dx dX6_stolen 19 rfl) ?_
          refine r_iload_n C (dx dX6_stolen 20 rfl) rfl ?_
          have bc3 := pcn_12 (a := x3) (by omega)
          refine r_csP (as := [vi (nI x3)]) (st := [vi (nI (pcn (S - 1)))]) (v := vi (nI (pcn x3))) C X I_J6_bitCount_0f7a4 l_X6_285 (c_J6_bitCount_0f7a4 (a := x3) (by omega)) (by decide) (Nat.le_of_ble_eq_true rfl) List.prefix_rfl (Nat.le_of_ble_eq_true rfl) rfl (dx dX6_stolen 21 rfl) ?_
          refine rn_ge (a := pcn (S - 1)) (b := pcn x3) (tgt := 65) C (by omega) (by omega) (dx dX6_stolen 22 rfl) (by decide) (fun c4 => ?_) (fun c4 => ?_)
          · first
            | (omega; done)
          · first
            | (omega; done))
  ·
    intro p hp ihp x3 hx3
    refine r_iload C (dx dX6_stolen 15 rfl) rfl ?_
    refine r_iload_n C (dx dX6_stolen 16 rfl) rfl ?_
    refine rn_ge (a := p) (b := S - 1) (tgt := 71) C (by omega) (by omega) (dx dX6_stolen 17 rfl) (by decide) (fun c6 => ?_) (fun c6 => ?_)
    · first
      | (omega; done)
      | (
          have c6 : S - 1 ≤ p := c6
          refine r_iload_n C (dx dX6_stolen 36 rfl) rfl ?_
          exact F.1 _ _ _ _ _ rfl rfl (dx dX6_stolen 37 rfl) rfl ⟨⟨_, rfl⟩, (show OwX h h v w g B z κ from by exact ⟨⟨_, o⟩, Fr.rf⟩)⟩)
    · first
      | (omega; done)
      | (
          have c6 : p < S - 1 := c6
          refine r_iload C (dx dX6_stolen 18 rfl) rfl ?_
          have bc7 := pcn_12 (a := p) (by omega)
          refine r_csP (as := [vi (nI p)]) (st := []) (v := vi (nI (pcn p))) C X I_J6_bitCount_0f7a4 l_X6_285 (c_J6_bitCount_0f7a4 (a := p) (by omega)) (by decide) (Nat.le_of_ble_eq_true rfl) List.prefix_rfl (Nat.le_of_ble_eq_true rfl) rfl (dx dX6_stolen 19 rfl) ?_
          refine r_iload_n C (dx dX6_stolen 20 rfl) rfl ?_
          have bc8 := pcn_12 (a := x3) (by omega)
          refine r_csP (as := [vi (nI x3)]) (st := [vi (nI (pcn p))]) (v := vi (nI (pcn x3))) C X I_J6_bitCount_0f7a4 l_X6_285 (c_J6_bitCount_0f7a4 (a := x3) (by omega)) (by decide) (Nat.le_of_ble_eq_true rfl) List.prefix_rfl (Nat.le_of_ble_eq_true rfl) rfl (dx dX6_stolen 21 rfl) ?_
          refine rn_ge (a := pcn p) (b := pcn x3) (tgt := 65) C (by omega) (by omega) (dx dX6_stolen 22 rfl) (by decide) (fun c9 => ?_) (fun c9 => ?_)
          · first
            | (omega; done)
            | (
                have c9 : pcn x3 ≤ pcn p := c9
                refine rn_iinc (a := p) (k := 1) (ls' := [(0, vr 6 0), (1, vi (hasP v (full (vN v)))), (2, vi (nI (S - 1))), (3, vi (nI x3)), (4, vi (nI (p + 1)))]) C (dx dX6_stolen 34 rfl) rfl rfl (by decide) [1, 2, 3, 4, 0] rfl ?_
                refine r_goto (tgt := 28) C (dx dX6_stolen 35 rfl) (by decide) ?_
                exact ihp x3 (by omega))
          · first
            | (omega; done)
            | (
                have c9 : pcn p < pcn x3 := c9
                refine r_aload_n C (dx dX6_stolen 23 rfl) rfl ?_
                refine g_X6_10 C (dx dX6_stolen 24 rfl) ?_
                refine r_iload_n C (dx dX6_stolen 25 rfl) rfl ?_
                refine r_iload C (dx dX6_stolen 26 rfl) rfl ?_
                refine r_iconst (v := -1) C (dx dX6_stolen 27 rfl) rfl ?_
                refine r_ixor C (dx dX6_stolen 28 rfl) ?_
                refine r_iand C (dx dX6_stolen 29 rfl) ?_
                refine r_cvP (as := [vi ((hasP v (full (vN v))) &&& ((nI p) ^^^ (-1)))]) (st := []) (v := vi (b2i (decide (¬ macW v ((hasP v (full (vN v))) &&& ((nI p) ^^^ (-1))) = 0)))) C X I_X5_isAnyWorkedWith l_X6_293 (c_X5_isAnyWorkedWith o.pv _) (by decide) (Nat.le_of_ble_eq_true rfl) List.prefix_rfl rfl rfl (Nat.le_of_ble_eq_true rfl) rfl (dx dX6_stolen 30 rfl) ?_
                refine rb_ne (b := decide (¬ macW v ((hasP v (full (vN v))) &&& ((nI p) ^^^ (-1))) = 0)) (tgt := 65) C (dx dX6_stolen 31 rfl) (by decide) (fun c10 => ?_) (fun c10 => ?_)
                ·
                  have c10 : (decide (¬ macW v ((hasP v (full (vN v))) &&& ((nI p) ^^^ (-1))) = 0)) = true := c10
                  refine rn_iinc (a := p) (k := 1) (ls' := [(0, vr 6 0), (1, vi (hasP v (full (vN v)))), (2, vi (nI (S - 1))), (3, vi (nI x3)), (4, vi (nI (p + 1)))]) C (dx dX6_stolen 34 rfl) rfl rfl (by decide) [1, 2, 3, 4, 0] rfl ?_
                  refine r_goto (tgt := 28) C (dx dX6_stolen 35 rfl) (by decide) ?_
                  exact ihp x3 (by omega)
                ·
                  have c10 : (decide (¬ macW v ((hasP v (full (vN v))) &&& ((nI p) ^^^ (-1))) = 0)) = false := c10
                  refine r_iload C (dx dX6_stolen 32 rfl) rfl ?_
                  refine r_istore_n (ls' := [(0, vr 6 0), (1, vi (hasP v (full (vN v)))), (2, vi (nI (S - 1))), (3, vi (nI p)), (4, vi (nI p))]) C (dx dX6_stolen 33 rfl) (by decide) [1, 2, 3, 0, 4] rfl ?_
                  refine rn_iinc (a := p) (k := 1) (ls' := [(0, vr 6 0), (1, vi (hasP v (full (vN v)))), (2, vi (nI (S - 1))), (3, vi (nI p)), (4, vi (nI (p + 1)))]) C (dx dX6_stolen 34 rfl) rfl rfl (by decide) [1, 2, 3, 4, 0] rfl ?_
                  refine r_goto (tgt := 28) C (dx dX6_stolen 35 rfl) (by decide) ?_
                  exact ihp p (by omega)))
set_option maxHeartbeats 4000000 in
theorem x_gift {l : Launch} {h : Hp} {v u w : Vg} {g : Sg} {B : Nat → Int32} {z : Nat} {κ : Int32} (o : Ow h v u w g B z κ) (hg : GOk g) (p o1 : Int32) : Ms l yX6_gift cX6_gift 3 (some .long) 20 [vr 6 0, vi p, vi o1] h (xK h) (fun r h' => PL r ∧ OwX h h' v w g B z κ) := by
  refine Ms.of (by decide) (Nat.le_of_ble_eq_true rfl) (fun G C X F => ?_)
  have C : Cx G cX6_gift 3 RX6 := C
  show Rr G 0 [(0, vr 6 0), (1, vi p), (2, vi o1)] [] h
  have bP := o.pv.bP
  have bM := o.pv.bM
  have bN := o.pv.bN
  have bz := o.pt.2.2
  refine r_aload_n C (dx dX6_gift 0 rfl) rfl ?_
  refine g_X6_10 C (dx dX6_gift 1 rfl) ?_
  refine r_iload_n C (dx dX6_gift 2 rfl) rfl ?_
  refine r_cvP (as := [vi p]) (st := []) (v := vi (b2i (inR p (vP v)))) C X I_X5_isPart l_X6_170 (c_X5_isPart o.pv _) (by decide) (Nat.le_of_ble_eq_true rfl) List.prefix_rfl rfl rfl (Nat.le_of_ble_eq_true rfl) rfl (dx dX6_gift 3 rfl) ?_
  refine rb_eq (b := inR p (vP v)) (tgt := 22) C (dx dX6_gift 4 rfl) (by decide) (fun c1 => ?_) (fun c1 => ?_)
  ·
    have c1 : (inR p (vP v)) = false := c1
    refine r_aload_n C (dx dX6_gift 10 rfl) rfl ?_
    refine r_bipush (v := -2) C (dx dX6_gift 11 rfl) rfl ?_
    refine r_cv (as := [vi (-2)]) (st := []) C X I_X6_refuse l_X6_76 (c_X6_refuse (-2)) (by decide) (Nat.le_of_ble_eq_true rfl) List.prefix_rfl List.prefix_rfl rfl rfl (Nat.le_of_ble_eq_true rfl) rfl (dx dX6_gift 12 rfl) ?_
    intro rh2 h2 hph2 kkh2
    obtain ⟨rfl, gh2⟩ := hph2
    have oh2 : Ow h2 v u w g B z κ := o.ref gh2
    have fh2 : Fr 0 63 h h2 := gh2.mono (by omega) (by omega)
    have kh2 : xK h2 = xK h := kkh2
    refine r_popI C (dx dX6_gift 13 rfl) ?_
    refine r_ldc2 C n_X6_302 (dx dX6_gift 14 rfl) ?_
    exact F.2.1 _ _ _ _ rfl (dx dX6_gift 15 rfl) kh2 ⟨⟨_, rfl⟩, (show OwX h h2 v w g B z κ from by exact ⟨⟨_, oh2⟩, fh2⟩)⟩
  ·
    have c1 : (inR p (vP v)) = true := c1
    obtain ⟨π, hπ, rfl⟩ := inR_ex (n := (vP v)) (by omega) c1
    refine r_aload_n C (dx dX6_gift 5 rfl) rfl ?_
    refine g_X6_10 C (dx dX6_gift 6 rfl) ?_
    refine r_iload_n C (dx dX6_gift 7 rfl) rfl ?_
    refine r_cvP (as := [vi o1]) (st := []) (v := vi (b2i (inR o1 (vN v)))) C X I_X5_isOne l_X6_160 (c_X5_isOne o.pv _) (by decide) (Nat.le_of_ble_eq_true rfl) List.prefix_rfl rfl rfl (Nat.le_of_ble_eq_true rfl) rfl (dx dX6_gift 8 rfl) ?_
    refine rb_ne (b := inR o1 (vN v)) (tgt := 33) C (dx dX6_gift 9 rfl) (by decide) (fun c3 => ?_) (fun c3 => ?_)
    ·
      have c3 : (inR o1 (vN v)) = true := c3
      obtain ⟨o19, ho19, rfl⟩ := inR_ex (n := (vN v)) (by omega) c3
      refine r_aload_n C (dx dX6_gift 16 rfl) rfl ?_
      refine g_X6_10 C (dx dX6_gift 17 rfl) ?_
      refine g_X6_176 C (dx dX6_gift 18 rfl) ?_
      refine r_iload_n C (dx dX6_gift 19 rfl) rfl ?_
      refine r_iald (j := π) (x := vF v 0 π) C rfl rfl (by decide) rfl (by omega) (dx dX6_gift 20 rfl) (o.pv.e0 (by omega)) ?_
      refine r_iload_n C (dx dX6_gift 21 rfl) rfl ?_
      refine r_icmp_eq (tgt := 68) C (dx dX6_gift 22 rfl) (by decide) (fun c4 => ?_) (fun c4 => ?_)
      ·
        have c4 : vF v 0 π = nI o19 := c4
        refine r_aload_n C (dx dX6_gift 34 rfl) rfl ?_
        refine g_X6_16 C (dx dX6_gift 35 rfl) ?_
        refine r_aload_n C (dx dX6_gift 36 rfl) rfl ?_
        refine g_X6_10 C (dx dX6_gift 37 rfl) ?_
        refine r_cv (as := [vr 5 1]) (st := []) C X I_X5_takeOver l_X6_191 (c_X5_takeOver o.pu o.pv (by omega)) (by decide) (Nat.le_of_ble_eq_true rfl) List.prefix_rfl List.prefix_rfl rfl rfl (Nat.le_of_ble_eq_true rfl) rfl (dx dX6_gift 38 rfl) ?_
        intro rh5 h5 hph5 kkh5
        obtain ⟨rfl, wh5, gh5⟩ := hph5
        have oh5 : Ow h5 v v w g B z κ := o.tri wh5 gh5
        have fh5 : Fr 0 63 h h5 := gh5.mono (by omega) (by omega)
        have kh5 : xK h5 = xK h := kkh5
        refine r_aload_n C (dx dX6_gift 39 rfl) rfl ?_
        refine g_X6_16 C (dx dX6_gift 40 rfl) ?_
        refine g_X6_176 C (dx dX6_gift 41 rfl) ?_
        refine r_iload_n C (dx dX6_gift 42 rfl) rfl ?_
        refine r_iload_n C (dx dX6_gift 43 rfl) rfl ?_
        refine r_iast (j := π) C rfl rfl (by decide) rfl (by omega) (dx dX6_gift 44 rfl) ?_
        have oh6 : Ow (sI h5 11 π (nI o19)) v (vset v 0 π (nI o19)) w g B z κ := oh5.tri (oh5.pu.s0) (Fr.sI (by omega) (by omega))
        have fh6 : Fr 0 63 h (sI h5 11 π (nI o19)) := fh5.tr (Fr.sI (by omega) (by omega))
        have kh6 : xK (sI h5 11 π (nI o19)) = xK h := kh5
        generalize sI h5 11 π (nI o19) = h6 at oh6 fh6 kh6 ⊢
        refine r_aload_n C (dx dX6_gift 45 rfl) rfl ?_
        refine g_X6_29 C (dx dX6_gift 46 rfl) ?_
        refine r_aload_n C (dx dX6_gift 47 rfl) rfl ?_
        refine g_X6_16 C (dx dX6_gift 48 rfl) ?_
        refine r_cv (as := [vr 5 10]) (st := []) C X I_X4_worthOfDay l_X6_244 (c_X4_worthOfDay oh6.pu (by omega)) (by decide) (Nat.le_of_ble_eq_true rfl) List.prefix_rfl (pfx_eq kh6) rfl rfl (Nat.le_of_ble_eq_true rfl) rfl (dx dX6_gift 49 rfl) ?_
        intro rh7 h7 hph7 kkh7
        obtain ⟨rfl, gh7⟩ := hph7
        have oh7 : Ow h7 v (vset v 0 π (nI o19)) w g B z κ := oh6.tm (gh7.mono (by omega) (by omega))
        have fh7 : Fr 0 63 h h7 := fh6.tr (gh7.mono (by omega) (by omega))
        have kh7 : xK h7 = xK h := (kkh7).trans kh6
        refine r_aload_n C (dx dX6_gift 50 rfl) rfl ?_
        refine g_X6_29 C (dx dX6_gift 51 rfl) ?_
        refine r_aload_n C (dx dX6_gift 52 rfl) rfl ?_
        refine g_X6_10 C (dx dX6_gift 53 rfl) ?_
        refine r_cv (as := [vr 5 1]) (st := [vl (dayC (vset v 0 π (nI o19)))]) C X I_X4_worthOfDay l_X6_244 (c_X4_worthOfDay oh7.pv (by omega)) (by decide) (Nat.le_of_ble_eq_true rfl) List.prefix_rfl (pfx_eq kh7) rfl rfl (Nat.le_of_ble_eq_true rfl) rfl (dx dX6_gift 54 rfl) ?_
        intro rh8 h8 hph8 kkh8
        obtain ⟨rfl, gh8⟩ := hph8
        have oh8 : Ow h8 v (vset v 0 π (nI o19)) w g B z κ := oh7.tm (gh8.mono (by omega) (by omega))
        have fh8 : Fr 0 63 h h8 := fh7.tr (gh8.mono (by omega) (by omega))
        have kh8 : xK h8 = xK h := (kkh8).trans kh7
        refine r_lsub C (dx dX6_gift 55 rfl) ?_
        exact F.2.1 _ _ _ _ rfl (dx dX6_gift 56 rfl) kh8 ⟨⟨_, rfl⟩, (show OwX h h8 v w g B z κ from by exact ⟨⟨_, oh8⟩, fh8⟩)⟩
      ·
        have c4 : ¬ vF v 0 π = nI o19 := c4
        refine r_aload_n C (dx dX6_gift 23 rfl) rfl ?_
        refine g_X6_10 C (dx dX6_gift 24 rfl) ?_
        refine r_iload_n C (dx dX6_gift 25 rfl) rfl ?_
        refine r_cvP (as := [vi (nI o19)]) (st := []) (v := vi (b2i (hasRm v (nI o19)))) C X I_X5_hasRoom l_X6_179 (c_X5_hasRoom o.pv _) (by decide) (Nat.le_of_ble_eq_true rfl) List.prefix_rfl rfl rfl (Nat.le_of_ble_eq_true rfl) rfl (dx dX6_gift 26 rfl) ?_
        refine rb_ne (b := hasRm v (nI o19)) (tgt := 68) C (dx dX6_gift 27 rfl) (by decide) (fun c9 => ?_) (fun c9 => ?_)
        ·
          have c9 : (hasRm v (nI o19)) = true := c9
          refine r_aload_n C (dx dX6_gift 34 rfl) rfl ?_
          refine g_X6_16 C (dx dX6_gift 35 rfl) ?_
          refine r_aload_n C (dx dX6_gift 36 rfl) rfl ?_
          refine g_X6_10 C (dx dX6_gift 37 rfl) ?_
          refine r_cv (as := [vr 5 1]) (st := []) C X I_X5_takeOver l_X6_191 (c_X5_takeOver o.pu o.pv (by omega)) (by decide) (Nat.le_of_ble_eq_true rfl) List.prefix_rfl List.prefix_rfl rfl rfl (Nat.le_of_ble_eq_true rfl) rfl (dx dX6_gift 38 rfl) ?_
          intro rh10 h10 hph10 kkh10
          obtain ⟨rfl, wh10, gh10⟩ := hph10
          have oh10 : Ow h10 v v w g B z κ := o.tri wh10 gh10
          have fh10 : Fr 0 63 h h10 := gh10.mono (by omega) (by omega)
          have kh10 : xK h10 = xK h := kkh10
          refine r_aload_n C (dx dX6_gift 39 rfl) rfl ?_
          refine g_X6_16 C (dx dX6_gift 40 rfl) ?_
          refine g_X6_176 C (dx dX6_gift 41 rfl) ?_
          refine r_iload_n C (dx dX6_gift 42 rfl) rfl ?_
          refine r_iload_n C (dx dX6_gift 43 rfl) rfl ?_
          refine r_iast (j := π) C rfl rfl (by decide) rfl (by omega) (dx dX6_gift 44 rfl) ?_
          have oh11 : Ow (sI h10 11 π (nI o19)) v (vset v 0 π (nI o19)) w g B z κ := oh10.tri (oh10.pu.s0) (Fr.sI (by omega) (by omega))
          have fh11 : Fr 0 63 h (sI h10 11 π (nI o19)) := fh10.tr (Fr.sI (by omega) (by omega))
          have kh11 : xK (sI h10 11 π (nI o19)) = xK h := kh10
          generalize sI h10 11 π (nI o19) = h11 at oh11 fh11 kh11 ⊢
          refine r_aload_n C (dx dX6_gift 45 rfl) rfl ?_
          refine g_X6_29 C (dx dX6_gift 46 rfl) ?_
          refine r_aload_n C (dx dX6_gift 47 rfl) rfl ?_
          refine g_X6_16 C (dx dX6_gift 48 rfl) ?_
          refine r_cv (as := [vr 5 10]) (st := []) C X I_X4_worthOfDay l_X6_244 (c_X4_worthOfDay oh11.pu (by omega)) (by decide) (Nat.le_of_ble_eq_true rfl) List.prefix_rfl (pfx_eq kh11) rfl rfl (Nat.le_of_ble_eq_true rfl) rfl (dx dX6_gift 49 rfl) ?_
          intro rh12 h12 hph12 kkh12
          obtain ⟨rfl, gh12⟩ := hph12
          have oh12 : Ow h12 v (vset v 0 π (nI o19)) w g B z κ := oh11.tm (gh12.mono (by omega) (by omega))
          have fh12 : Fr 0 63 h h12 := fh11.tr (gh12.mono (by omega) (by omega))
          have kh12 : xK h12 = xK h := (kkh12).trans kh11
          refine r_aload_n C (dx dX6_gift 50 rfl) rfl ?_
          refine g_X6_29 C (dx dX6_gift 51 rfl) ?_
          refine r_aload_n C (dx dX6_gift 52 rfl) rfl ?_
          refine g_X6_10 C (dx dX6_gift 53 rfl) ?_
          refine r_cv (as := [vr 5 1]) (st := [vl (dayC (vset v 0 π (nI o19)))]) C X I_X4_worthOfDay l_X6_244 (c_X4_worthOfDay oh12.pv (by omega)) (by decide) (Nat.le_of_ble_eq_true rfl) List.prefix_rfl (pfx_eq kh12) rfl rfl (Nat.le_of_ble_eq_true rfl) rfl (dx dX6_gift 54 rfl) ?_
          intro rh13 h13 hph13 kkh13
          obtain ⟨rfl, gh13⟩ := hph13
          have oh13 : Ow h13 v (vset v 0 π (nI o19)) w g B z κ := oh12.tm (gh13.mono (by omega) (by omega))
          have fh13 : Fr 0 63 h h13 := fh12.tr (gh13.mono (by omega) (by omega))
          have kh13 : xK h13 = xK h := (kkh13).trans kh12
          refine r_lsub C (dx dX6_gift 55 rfl) ?_
          exact F.2.1 _ _ _ _ rfl (dx dX6_gift 56 rfl) kh13 ⟨⟨_, rfl⟩, (show OwX h h13 v w g B z κ from by exact ⟨⟨_, oh13⟩, fh13⟩)⟩
        ·
          have c9 : (hasRm v (nI o19)) = false := c9
          refine r_aload_n C (dx dX6_gift 28 rfl) rfl ?_
          refine r_bipush (v := -5) C (dx dX6_gift 29 rfl) rfl ?_
          refine r_cv (as := [vi (-5)]) (st := []) C X I_X6_refuse l_X6_76 (c_X6_refuse (-5)) (by decide) (Nat.le_of_ble_eq_true rfl) List.prefix_rfl List.prefix_rfl rfl rfl (Nat.le_of_ble_eq_true rfl) rfl (dx dX6_gift 30 rfl) ?_
          intro rh14 h14 hph14 kkh14
          obtain ⟨rfl, gh14⟩ := hph14
          have oh14 : Ow h14 v u w g B z κ := o.ref gh14
          have fh14 : Fr 0 63 h h14 := gh14.mono (by omega) (by omega)
          have kh14 : xK h14 = xK h := kkh14
          refine r_popI C (dx dX6_gift 31 rfl) ?_
          refine r_ldc2 C n_X6_304 (dx dX6_gift 32 rfl) ?_
          exact F.2.1 _ _ _ _ rfl (dx dX6_gift 33 rfl) kh14 ⟨⟨_, rfl⟩, (show OwX h h14 v w g B z κ from by exact ⟨⟨_, oh14⟩, fh14⟩)⟩
    ·
      have c3 : (inR o1 (vN v)) = false := c3
      refine r_aload_n C (dx dX6_gift 10 rfl) rfl ?_
      refine r_bipush (v := -2) C (dx dX6_gift 11 rfl) rfl ?_
      refine r_cv (as := [vi (-2)]) (st := []) C X I_X6_refuse l_X6_76 (c_X6_refuse (-2)) (by decide) (Nat.le_of_ble_eq_true rfl) List.prefix_rfl List.prefix_rfl rfl rfl (Nat.le_of_ble_eq_true rfl) rfl (dx dX6_gift 12 rfl) ?_
      intro rh15 h15 hph15 kkh15
      obtain ⟨rfl, gh15⟩ := hph15
      have oh15 : Ow h15 v u w g B z κ := o.ref gh15
      have fh15 : Fr 0 63 h h15 := gh15.mono (by omega) (by omega)
      have kh15 : xK h15 = xK h := kkh15
      refine r_popI C (dx dX6_gift 13 rfl) ?_
      refine r_ldc2 C n_X6_302 (dx dX6_gift 14 rfl) ?_
      exact F.2.1 _ _ _ _ rfl (dx dX6_gift 15 rfl) kh15 ⟨⟨_, rfl⟩, (show OwX h h15 v w g B z κ from by exact ⟨⟨_, oh15⟩, fh15⟩)⟩
set_option maxHeartbeats 4000000 in
theorem x_trust {l : Launch} {h : Hp} {v u w : Vg} {g : Sg} {B : Nat → Int32} {z : Nat} {κ : Int32} (o : Ow h v u w g B z κ) (hg : GOk g) (x y : Int32) : Ms l yX6_trust cX6_trust 3 (some .long) 20 [vr 6 0, vi x, vi y] h (xK h) (fun r h' => PL r ∧ OwX h h' v w g B z κ) := by
  refine Ms.of (by decide) (Nat.le_of_ble_eq_true rfl) (fun G C X F => ?_)
  have C : Cx G cX6_trust 3 RX6 := C
  show Rr G 0 [(0, vr 6 0), (1, vi x), (2, vi y)] [] h
  have bP := o.pv.bP
  have bM := o.pv.bM
  have bN := o.pv.bN
  have bz := o.pt.2.2
  refine r_aload_n C (dx dX6_trust 0 rfl) rfl ?_
  refine g_X6_10 C (dx dX6_trust 1 rfl) ?_
  refine r_iload_n C (dx dX6_trust 2 rfl) rfl ?_
  refine r_cvP (as := [vi x]) (st := []) (v := vi (b2i (inR x (vN v)))) C X I_X5_isOne l_X6_160 (c_X5_isOne o.pv _) (by decide) (Nat.le_of_ble_eq_true rfl) List.prefix_rfl rfl rfl (Nat.le_of_ble_eq_true rfl) rfl (dx dX6_trust 3 rfl) ?_
  refine rb_eq (b := inR x (vN v)) (tgt := 27) C (dx dX6_trust 4 rfl) (by decide) (fun c1 => ?_) (fun c1 => ?_)
  ·
    have c1 : (inR x (vN v)) = false := c1
    refine r_aload_n C (dx dX6_trust 13 rfl) rfl ?_
    refine r_bipush (v := -2) C (dx dX6_trust 14 rfl) rfl ?_
    refine r_cv (as := [vi (-2)]) (st := []) C X I_X6_refuse l_X6_76 (c_X6_refuse (-2)) (by decide) (Nat.le_of_ble_eq_true rfl) List.prefix_rfl List.prefix_rfl rfl rfl (Nat.le_of_ble_eq_true rfl) rfl (dx dX6_trust 15 rfl) ?_
    intro rh2 h2 hph2 kkh2
    obtain ⟨rfl, gh2⟩ := hph2
    have oh2 : Ow h2 v u w g B z κ := o.ref gh2
    have fh2 : Fr 0 63 h h2 := gh2.mono (by omega) (by omega)
    have kh2 : xK h2 = xK h := kkh2
    refine r_popI C (dx dX6_trust 16 rfl) ?_
    refine r_ldc2 C n_X6_302 (dx dX6_trust 17 rfl) ?_
    exact F.2.1 _ _ _ _ rfl (dx dX6_trust 18 rfl) kh2 ⟨⟨_, rfl⟩, (show OwX h h2 v w g B z κ from by exact ⟨⟨_, oh2⟩, fh2⟩)⟩
  ·
    have c1 : (inR x (vN v)) = true := c1
    refine r_aload_n C (dx dX6_trust 5 rfl) rfl ?_
    refine g_X6_10 C (dx dX6_trust 6 rfl) ?_
    refine r_iload_n C (dx dX6_trust 7 rfl) rfl ?_
    refine r_cvP (as := [vi y]) (st := []) (v := vi (b2i (inR y (vN v)))) C X I_X5_isOne l_X6_160 (c_X5_isOne o.pv _) (by decide) (Nat.le_of_ble_eq_true rfl) List.prefix_rfl rfl rfl (Nat.le_of_ble_eq_true rfl) rfl (dx dX6_trust 8 rfl) ?_
    refine rb_eq (b := inR y (vN v)) (tgt := 27) C (dx dX6_trust 9 rfl) (by decide) (fun c3 => ?_) (fun c3 => ?_)
    ·
      have c3 : (inR y (vN v)) = false := c3
      refine r_aload_n C (dx dX6_trust 13 rfl) rfl ?_
      refine r_bipush (v := -2) C (dx dX6_trust 14 rfl) rfl ?_
      refine r_cv (as := [vi (-2)]) (st := []) C X I_X6_refuse l_X6_76 (c_X6_refuse (-2)) (by decide) (Nat.le_of_ble_eq_true rfl) List.prefix_rfl List.prefix_rfl rfl rfl (Nat.le_of_ble_eq_true rfl) rfl (dx dX6_trust 15 rfl) ?_
      intro rh4 h4 hph4 kkh4
      obtain ⟨rfl, gh4⟩ := hph4
      have oh4 : Ow h4 v u w g B z κ := o.ref gh4
      have fh4 : Fr 0 63 h h4 := gh4.mono (by omega) (by omega)
      have kh4 : xK h4 = xK h := kkh4
      refine r_popI C (dx dX6_trust 16 rfl) ?_
      refine r_ldc2 C n_X6_302 (dx dX6_trust 17 rfl) ?_
      exact F.2.1 _ _ _ _ rfl (dx dX6_trust 18 rfl) kh4 ⟨⟨_, rfl⟩, (show OwX h h4 v w g B z κ from by exact ⟨⟨_, oh4⟩, fh4⟩)⟩
    ·
      have c3 : (inR y (vN v)) = true := c3
      refine r_iload_n C (dx dX6_trust 10 rfl) rfl ?_
      refine r_iload_n C (dx dX6_trust 11 rfl) rfl ?_
      refine r_icmp_ne (tgt := 38) C (dx dX6_trust 12 rfl) (by decide) (fun c5 => ?_) (fun c5 => ?_)
      ·
        have c5 : ¬ x = y := c5
        refine r_aload_n C (dx dX6_trust 19 rfl) rfl ?_
        refine g_X6_16 C (dx dX6_trust 20 rfl) ?_
        refine r_aload_n C (dx dX6_trust 21 rfl) rfl ?_
        refine g_X6_10 C (dx dX6_trust 22 rfl) ?_
        refine r_cv (as := [vr 5 1]) (st := []) C X I_X5_takeOver l_X6_191 (c_X5_takeOver o.pu o.pv (by omega)) (by decide) (Nat.le_of_ble_eq_true rfl) List.prefix_rfl List.prefix_rfl rfl rfl (Nat.le_of_ble_eq_true rfl) rfl (dx dX6_trust 23 rfl) ?_
        intro rh6 h6 hph6 kkh6
        obtain ⟨rfl, wh6, gh6⟩ := hph6
        have oh6 : Ow h6 v v w g B z κ := o.tri wh6 gh6
        have fh6 : Fr 0 63 h h6 := gh6.mono (by omega) (by omega)
        have kh6 : xK h6 = xK h := kkh6
        refine r_aload_n C (dx dX6_trust 24 rfl) rfl ?_
        refine g_X6_16 C (dx dX6_trust 25 rfl) ?_
        refine r_iload_n C (dx dX6_trust 26 rfl) rfl ?_
        refine r_iload_n C (dx dX6_trust 27 rfl) rfl ?_
        refine r_cv (as := [vi x, vi y]) (st := []) C X I_X5_handOver l_X6_318 (c_X5_handOver oh6.pu _ _) (by decide) (Nat.le_of_ble_eq_true rfl) List.prefix_rfl (pfx_eq kh6) rfl rfl (Nat.le_of_ble_eq_true rfl) rfl (dx dX6_trust 28 rfl) ?_
        intro rh7 h7 hph7 kkh7
        obtain ⟨rfl, wh7, gh7⟩ := hph7
        obtain ⟨uh7, oh7⟩ : ∃ uh7, Ow h7 v uh7 w g B z κ := ⟨_, oh6.tri wh7 gh7⟩
        have fh7 : Fr 0 63 h h7 := fh6.tr (gh7.mono (by omega) (by omega))
        have kh7 : xK h7 = xK h := (kkh7).trans kh6
        refine r_aload_n C (dx dX6_trust 29 rfl) rfl ?_
        refine g_X6_29 C (dx dX6_trust 30 rfl) ?_
        refine r_aload_n C (dx dX6_trust 31 rfl) rfl ?_
        refine g_X6_16 C (dx dX6_trust 32 rfl) ?_
        refine r_cv (as := [vr 5 10]) (st := []) C X I_X4_worthOfDay l_X6_244 (c_X4_worthOfDay oh7.pu (by omega)) (by decide) (Nat.le_of_ble_eq_true rfl) List.prefix_rfl (pfx_eq kh7) rfl rfl (Nat.le_of_ble_eq_true rfl) rfl (dx dX6_trust 33 rfl) ?_
        intro rh8 h8 hph8 kkh8
        obtain ⟨rfl, gh8⟩ := hph8
        have oh8 : Ow h8 v uh7 w g B z κ := oh7.tm (gh8.mono (by omega) (by omega))
        have fh8 : Fr 0 63 h h8 := fh7.tr (gh8.mono (by omega) (by omega))
        have kh8 : xK h8 = xK h := (kkh8).trans kh7
        refine r_aload_n C (dx dX6_trust 34 rfl) rfl ?_
        refine g_X6_29 C (dx dX6_trust 35 rfl) ?_
        refine r_aload_n C (dx dX6_trust 36 rfl) rfl ?_
        refine g_X6_10 C (dx dX6_trust 37 rfl) ?_
        refine r_cv (as := [vr 5 1]) (st := [vl (dayC uh7)]) C X I_X4_worthOfDay l_X6_244 (c_X4_worthOfDay oh8.pv (by omega)) (by decide) (Nat.le_of_ble_eq_true rfl) List.prefix_rfl (pfx_eq kh8) rfl rfl (Nat.le_of_ble_eq_true rfl) rfl (dx dX6_trust 38 rfl) ?_
        intro rh9 h9 hph9 kkh9
        obtain ⟨rfl, gh9⟩ := hph9
        have oh9 : Ow h9 v uh7 w g B z κ := oh8.tm (gh9.mono (by omega) (by omega))
        have fh9 : Fr 0 63 h h9 := fh8.tr (gh9.mono (by omega) (by omega))
        have kh9 : xK h9 = xK h := (kkh9).trans kh8
        refine r_lsub C (dx dX6_trust 39 rfl) ?_
        exact F.2.1 _ _ _ _ rfl (dx dX6_trust 40 rfl) kh9 ⟨⟨_, rfl⟩, (show OwX h h9 v w g B z κ from by exact ⟨⟨_, oh9⟩, fh9⟩)⟩
      ·
        have c5 : x = y := c5
        refine r_aload_n C (dx dX6_trust 13 rfl) rfl ?_
        refine r_bipush (v := -2) C (dx dX6_trust 14 rfl) rfl ?_
        refine r_cv (as := [vi (-2)]) (st := []) C X I_X6_refuse l_X6_76 (c_X6_refuse (-2)) (by decide) (Nat.le_of_ble_eq_true rfl) List.prefix_rfl List.prefix_rfl rfl rfl (Nat.le_of_ble_eq_true rfl) rfl (dx dX6_trust 15 rfl) ?_
        intro rh10 h10 hph10 kkh10
        obtain ⟨rfl, gh10⟩ := hph10
        have oh10 : Ow h10 v u w g B z κ := o.ref gh10
        have fh10 : Fr 0 63 h h10 := gh10.mono (by omega) (by omega)
        have kh10 : xK h10 = xK h := kkh10
        refine r_popI C (dx dX6_trust 16 rfl) ?_
        refine r_ldc2 C n_X6_302 (dx dX6_trust 17 rfl) ?_
        exact F.2.1 _ _ _ _ rfl (dx dX6_trust 18 rfl) kh10 ⟨⟨_, rfl⟩, (show OwX h h10 v w g B z κ from by exact ⟨⟨_, oh10⟩, fh10⟩)⟩
set_option maxHeartbeats 4000000 in
theorem x_key {l : Launch} {h : Hp} {v u w : Vg} {g : Sg} {B : Nat → Int32} {z : Nat} {κ : Int32} (o : Ow h v u w g B z κ) (hg : GOk g)  : Ms l yX6_key cX6_key 5 (some .int) 20 [vr 6 0] h (xK h) (fun r h' => PI r ∧ OwX h h' v w g B z κ) := by
  refine Ms.of (by decide) (Nat.le_of_ble_eq_true rfl) (fun G C X F => ?_)
  have C : Cx G cX6_key 5 RX6 := C
  show Rr G 0 [(0, vr 6 0)] [] h
  have bP := o.pv.bP
  have bM := o.pv.bM
  have bN := o.pv.bN
  have bz := o.pt.2.2
  refine r_aload_n C (dx dX6_key 0 rfl) rfl ?_
  refine g_X6_10 C (dx dX6_key 1 rfl) ?_
  refine g_X6_154 (x := nI (vN v)) C (dx dX6_key 2 rfl) o.pv.eN ?_
  refine r_if_ne (tgt := 17) C (dx dX6_key 3 rfl) (by decide) (fun c1 => ?_) (fun c1 => ?_)
  ·
    have c1 : ¬ nI (vN v) = 0 := c1
    refine r_iconst (v := nI 0) C (dx dX6_key 8 rfl) rfl ?_
    refine r_istore_n (ls' := [(0, vr 6 0), (1, vi (nI 0))]) C (dx dX6_key 9 rfl) (by decide) [1, 0] rfl ?_
    refine r_iconst (v := -1) C (dx dX6_key 10 rfl) rfl ?_
    refine r_istore_n (ls' := [(0, vr 6 0), (1, vi (nI 0)), (2, vi (-1))]) C (dx dX6_key 11 rfl) (by decide) [1, 2, 0] rfl ?_
    refine r_iconst (v := nI 0) C (dx dX6_key 12 rfl) rfl ?_
    refine r_istore_n (ls' := [(0, vr 6 0), (1, vi (nI 0)), (2, vi (-1)), (3, vi (nI 0))]) C (dx dX6_key 13 rfl) (by decide) [1, 2, 3, 0] rfl ?_
    refine loopU (Φ := fun p => ∀ (x1 : Int32), ∀ (x2 : Int32), Rr G 23 [(0, vr 6 0), (1, vi x1), (2, vi x2), (3, vi (nI p))] [] h) (N := vN v) ?_ ?_ 0 (by omega) (nI 0) (-1)
    ·
      intro  x1 x2
      refine r_iload_n C (dx dX6_key 14 rfl) rfl ?_
      refine r_aload_n C (dx dX6_key 15 rfl) rfl ?_
      refine g_X6_10 C (dx dX6_key 16 rfl) ?_
      refine g_X6_154 (x := nI (vN v)) C (dx dX6_key 17 rfl) o.pv.eN ?_
      refine rn_ge (a := vN v) (b := vN v) (tgt := 68) C (by omega) (by omega) (dx dX6_key 18 rfl) (by decide) (fun c2 => ?_) (fun c2 => ?_)
      · first
        | (omega; done)
        | (
            have c2 : vN v ≤ vN v := c2
            refine r_iload_n C (dx dX6_key 36 rfl) rfl ?_
            exact F.1 _ _ _ _ _ rfl rfl (dx dX6_key 37 rfl) rfl ⟨⟨_, rfl⟩, (show OwX h h v w g B z κ from by exact ⟨⟨_, o⟩, Fr.rf⟩)⟩)
      · first
        | (omega; done)
    ·
      intro p hp ihp x1 x2
      refine r_iload_n C (dx dX6_key 14 rfl) rfl ?_
      refine r_aload_n C (dx dX6_key 15 rfl) rfl ?_
      refine g_X6_10 C (dx dX6_key 16 rfl) ?_
      refine g_X6_154 (x := nI (vN v)) C (dx dX6_key 17 rfl) o.pv.eN ?_
      refine rn_ge (a := p) (b := vN v) (tgt := 68) C (by omega) (by omega) (dx dX6_key 18 rfl) (by decide) (fun c4 => ?_) (fun c4 => ?_)
      · first
        | (omega; done)
        | (
            have c4 : vN v ≤ p := c4
            refine r_iload_n C (dx dX6_key 36 rfl) rfl ?_
            exact F.1 _ _ _ _ _ rfl rfl (dx dX6_key 37 rfl) rfl ⟨⟨_, rfl⟩, (show OwX h h v w g B z κ from by exact ⟨⟨_, o⟩, Fr.rf⟩)⟩)
      · first
        | (omega; done)
        | (
            have c4 : p < vN v := c4
            refine r_aload_n C (dx dX6_key 19 rfl) rfl ?_
            refine g_X6_10 C (dx dX6_key 20 rfl) ?_
            refine r_aload_n C (dx dX6_key 21 rfl) rfl ?_
            refine g_X6_10 C (dx dX6_key 22 rfl) ?_
            refine r_iload_n C (dx dX6_key 23 rfl) rfl ?_
            refine r_cvP (as := [vi (nI p)]) (st := [vr 5 1]) (v := vi (ownP v (nI p))) C X I_X5_partsOfOne l_X6_312 (c_X5_partsOfOne o.pv _) (by decide) (Nat.le_of_ble_eq_true rfl) List.prefix_rfl rfl rfl (Nat.le_of_ble_eq_true rfl) rfl (dx dX6_key 24 rfl) ?_
            refine r_cvP (as := [vi (ownP v (nI p))]) (st := []) (v := vi (nI (touch v (ownP v (nI p))))) C X I_X5_machinesTouchedBy l_X6_315 (c_X5_machinesTouchedBy o.pv _) (by decide) (Nat.le_of_ble_eq_true rfl) List.prefix_rfl rfl rfl (Nat.le_of_ble_eq_true rfl) rfl (dx dX6_key 25 rfl) ?_
            refine r_istore (ls' := [(0, vr 6 0), (1, vi x1), (2, vi x2), (3, vi (nI p)), (4, vi (nI (touch v (ownP v (nI p)))))]) C (dx dX6_key 26 rfl) (by decide) [1, 2, 3, 4, 0] rfl ?_
            refine r_iload C (dx dX6_key 27 rfl) rfl ?_
            refine r_iload_n C (dx dX6_key 28 rfl) rfl ?_
            refine r_icmp_le (tgt := 62) C (dx dX6_key 29 rfl) (by decide) (fun c5 => ?_) (fun c5 => ?_)
            ·
              have c5 : nI (touch v (ownP v (nI p))) ≤ x2 := c5
              refine rn_iinc (a := p) (k := 1) (ls' := [(0, vr 6 0), (1, vi x1), (2, vi x2), (3, vi (nI (p + 1))), (4, vi (nI (touch v (ownP v (nI p)))))]) C (dx dX6_key 34 rfl) rfl rfl (by decide) [1, 2, 3, 0, 4] rfl ?_
              refine r_goto (tgt := 23) C (dx dX6_key 35 rfl) (by decide) ?_
              refine r_weak C [0, 1, 2, 3] rfl ?_
              exact ihp x1 x2
            ·
              have c5 : ¬ nI (touch v (ownP v (nI p))) ≤ x2 := c5
              refine r_iload C (dx dX6_key 30 rfl) rfl ?_
              refine r_istore_n (ls' := [(0, vr 6 0), (1, vi x1), (2, vi (nI (touch v (ownP v (nI p))))), (3, vi (nI p)), (4, vi (nI (touch v (ownP v (nI p)))))]) C (dx dX6_key 31 rfl) (by decide) [1, 2, 0, 3, 4] rfl ?_
              refine r_iload_n C (dx dX6_key 32 rfl) rfl ?_
              refine r_istore_n (ls' := [(0, vr 6 0), (1, vi (nI p)), (2, vi (nI (touch v (ownP v (nI p))))), (3, vi (nI p)), (4, vi (nI (touch v (ownP v (nI p)))))]) C (dx dX6_key 33 rfl) (by decide) [1, 0, 2, 3, 4] rfl ?_
              refine rn_iinc (a := p) (k := 1) (ls' := [(0, vr 6 0), (1, vi (nI p)), (2, vi (nI (touch v (ownP v (nI p))))), (3, vi (nI (p + 1))), (4, vi (nI (touch v (ownP v (nI p)))))]) C (dx dX6_key 34 rfl) rfl rfl (by decide) [1, 2, 3, 0, 4] rfl ?_
              refine r_goto (tgt := 23) C (dx dX6_key 35 rfl) (by decide) ?_
              refine r_weak C [0, 1, 2, 3] rfl ?_
              exact ihp (nI p) (nI (touch v (ownP v (nI p)))))
  ·
    have c1 : nI (vN v) = 0 := c1
    refine r_aload_n C (dx dX6_key 4 rfl) rfl ?_
    refine r_bipush (v := -5) C (dx dX6_key 5 rfl) rfl ?_
    refine r_cv (as := [vi (-5)]) (st := []) C X I_X6_refuse l_X6_76 (c_X6_refuse (-5)) (by decide) (Nat.le_of_ble_eq_true rfl) List.prefix_rfl List.prefix_rfl rfl rfl (Nat.le_of_ble_eq_true rfl) rfl (dx dX6_key 6 rfl) ?_
    intro rh6 h6 hph6 kkh6
    obtain ⟨rfl, gh6⟩ := hph6
    have oh6 : Ow h6 v u w g B z κ := o.ref gh6
    have fh6 : Fr 0 63 h h6 := gh6.mono (by omega) (by omega)
    have kh6 : xK h6 = xK h := kkh6
    exact F.1 _ _ _ _ _ rfl rfl (dx dX6_key 7 rfl) kh6 ⟨⟨_, rfl⟩, (show OwX h h6 v w g B z κ from by exact ⟨⟨_, oh6⟩, fh6⟩)⟩
set_option maxHeartbeats 4000000 in
theorem x_idle {l : Launch} {h : Hp} {v u w : Vg} {g : Sg} {B : Nat → Int32} {z : Nat} {κ : Int32} (o : Ow h v u w g B z κ) (hg : GOk g)  : Ms l yX6_idle cX6_idle 3 (some .int) 20 [vr 6 0] h (xK h) (fun r h' => PI r ∧ OwX h h' v w g B z κ) := by
  refine Ms.of (by decide) (Nat.le_of_ble_eq_true rfl) (fun G C X F => ?_)
  have C : Cx G cX6_idle 3 RX6 := C
  show Rr G 0 [(0, vr 6 0)] [] h
  have bP := o.pv.bP
  have bM := o.pv.bM
  have bN := o.pv.bN
  have bz := o.pt.2.2
  refine r_aload_n C (dx dX6_idle 0 rfl) rfl ?_
  refine g_X6_29 C (dx dX6_idle 1 rfl) ?_
  refine r_aload_n C (dx dX6_idle 2 rfl) rfl ?_
  refine g_X6_10 C (dx dX6_idle 3 rfl) ?_
  refine r_cv (as := [vr 5 1]) (st := []) C X I_X4_gather l_X6_248 (c_X4_gather o.pv (by omega)) (by decide) (Nat.le_of_ble_eq_true rfl) List.prefix_rfl List.prefix_rfl rfl rfl (Nat.le_of_ble_eq_true rfl) rfl (dx dX6_idle 4 rfl) ?_
  intro rh1 h1 hph1 kkh1
  obtain ⟨rfl, qh1, gh1⟩ := hph1
  have oh1 : Ow h1 v u w g B z κ := o.tm (gh1.mono (by omega) (by omega))
  have fh1 : Fr 0 63 h h1 := gh1.mono (by omega) (by omega)
  have kh1 : xK h1 = xK h := kkh1
  refine r_iconst (v := nI 0) C (dx dX6_idle 5 rfl) rfl ?_
  refine r_istore_n (ls' := [(0, vr 6 0), (1, vi (nI 0))]) C (dx dX6_idle 6 rfl) (by decide) [1, 0] rfl ?_
  refine r_iconst (v := nI 0) C (dx dX6_idle 7 rfl) rfl ?_
  refine r_istore_n (ls' := [(0, vr 6 0), (1, vi (nI 0)), (2, vi (nI 0))]) C (dx dX6_idle 8 rfl) (by decide) [1, 2, 0] rfl ?_
  refine loopU (Φ := fun p => ∀ (x1 : Int32), Rr G 15 [(0, vr 6 0), (1, vi x1), (2, vi (nI p))] [] h1) (N := vN v) ?_ ?_ 0 (by omega) (nI 0)
  ·
    intro  x1
    refine r_iload_n C (dx dX6_idle 9 rfl) rfl ?_
    refine r_aload_n C (dx dX6_idle 10 rfl) rfl ?_
    refine g_X6_10 C (dx dX6_idle 11 rfl) ?_
    refine g_X6_154 (x := nI (vN v)) C (dx dX6_idle 12 rfl) oh1.pv.eN ?_
    refine rn_ge (a := vN v) (b := vN v) (tgt := 55) C (by omega) (by omega) (dx dX6_idle 13 rfl) (by decide) (fun c2 => ?_) (fun c2 => ?_)
    · first
      | (omega; done)
      | (
          have c2 : vN v ≤ vN v := c2
          refine r_iload_n C (dx dX6_idle 31 rfl) rfl ?_
          exact F.1 _ _ _ _ _ rfl rfl (dx dX6_idle 32 rfl) kh1 ⟨⟨_, rfl⟩, (show OwX h h1 v w g B z κ from by exact ⟨⟨_, oh1⟩, fh1⟩)⟩)
    · first
      | (omega; done)
  ·
    intro p hp ihp x1
    refine r_iload_n C (dx dX6_idle 9 rfl) rfl ?_
    refine r_aload_n C (dx dX6_idle 10 rfl) rfl ?_
    refine g_X6_10 C (dx dX6_idle 11 rfl) ?_
    refine g_X6_154 (x := nI (vN v)) C (dx dX6_idle 12 rfl) oh1.pv.eN ?_
    refine rn_ge (a := p) (b := vN v) (tgt := 55) C (by omega) (by omega) (dx dX6_idle 13 rfl) (by decide) (fun c4 => ?_) (fun c4 => ?_)
    · first
      | (omega; done)
      | (
          have c4 : vN v ≤ p := c4
          refine r_iload_n C (dx dX6_idle 31 rfl) rfl ?_
          exact F.1 _ _ _ _ _ rfl rfl (dx dX6_idle 32 rfl) kh1 ⟨⟨_, rfl⟩, (show OwX h h1 v w g B z κ from by exact ⟨⟨_, oh1⟩, fh1⟩)⟩)
    · first
      | (omega; done)
      | (
          have c4 : p < vN v := c4
          refine r_aload_n C (dx dX6_idle 14 rfl) rfl ?_
          refine g_X6_29 C (dx dX6_idle 15 rfl) ?_
          refine r_aload_n C (dx dX6_idle 16 rfl) rfl ?_
          refine g_X6_10 C (dx dX6_idle 17 rfl) ?_
          refine r_iload_n C (dx dX6_idle 18 rfl) rfl ?_
          refine r_cvP (as := [vr 5 1, vi (nI p)]) (st := []) (v := vl (worthT v p)) C X I_X4_worthOfTurnsOn l_X6_257 (c_X4_worthOfTurnsOn oh1.pv (by omega) p (by omega) qh1 oh1.po) (by decide) (Nat.le_of_ble_eq_true rfl) (pfx_eq kh1) rfl rfl (Nat.le_of_ble_eq_true rfl) rfl (dx dX6_idle 19 rfl) ?_
          refine r_lconst (v := 0) C (dx dX6_idle 20 rfl) rfl ?_
          refine r_lcmp C (dx dX6_idle 21 rfl) ?_
          refine r_if_ne (tgt := 49) C (dx dX6_idle 22 rfl) (by decide) (fun c5 => ?_) (fun c5 => ?_)
          ·
            have c5 : ¬ (worthT v p = 0) := fun q => c5 ((lg_cmp_eq _ _).mpr q)
            refine rn_iinc (a := p) (k := 1) (ls' := [(0, vr 6 0), (1, vi x1), (2, vi (nI (p + 1)))]) C (dx dX6_idle 29 rfl) rfl rfl (by decide) [1, 2, 0] rfl ?_
            refine r_goto (tgt := 15) C (dx dX6_idle 30 rfl) (by decide) ?_
            exact ihp x1
          ·
            have c5 : worthT v p = 0 := (lg_cmp_eq _ _).mp c5
            refine r_iload_n C (dx dX6_idle 23 rfl) rfl ?_
            refine r_iconst (v := nI 1) C (dx dX6_idle 24 rfl) rfl ?_
            refine r_iload_n C (dx dX6_idle 25 rfl) rfl ?_
            refine r_ishl C (dx dX6_idle 26 rfl) ?_
            refine r_ior C (dx dX6_idle 27 rfl) ?_
            refine r_istore_n (ls' := [(0, vr 6 0), (1, vi (x1 ||| ((nI 1) <<< ((nI p) &&& 31)))), (2, vi (nI p))]) C (dx dX6_idle 28 rfl) (by decide) [1, 0, 2] rfl ?_
            refine rn_iinc (a := p) (k := 1) (ls' := [(0, vr 6 0), (1, vi (x1 ||| ((nI 1) <<< ((nI p) &&& 31)))), (2, vi (nI (p + 1)))]) C (dx dX6_idle 29 rfl) rfl rfl (by decide) [1, 2, 0] rfl ?_
            refine r_goto (tgt := 15) C (dx dX6_idle 30 rfl) (by decide) ?_
            exact ihp (x1 ||| ((nI 1) <<< ((nI p) &&& 31))))
set_option maxHeartbeats 4000000 in
theorem x_judge {l : Launch} {h : Hp} {v u w : Vg} {g : Sg} {B : Nat → Int32} {z : Nat} {κ : Int32} (o : Ow h v u w g B z κ) (hg : GOk g) (m s n : Int32) : Ms l yX6_judge cX6_judge 6 (some .int) 20 [vr 6 0, vi m, vi s, vi n] h (xK h) (fun r h' => PI r ∧ OwX h h' v w g B z κ) := by
  refine Ms.of (by decide) (Nat.le_of_ble_eq_true rfl) (fun G C X F => ?_)
  have C : Cx G cX6_judge 6 RX6 := C
  show Rr G 0 [(0, vr 6 0), (1, vi m), (2, vi s), (3, vi n)] [] h
  have bP := o.pv.bP
  have bM := o.pv.bM
  have bN := o.pv.bN
  have bz := o.pt.2.2
  refine r_aload_n C (dx dX6_judge 0 rfl) rfl ?_
  refine g_X6_10 C (dx dX6_judge 1 rfl) ?_
  refine r_iload_n C (dx dX6_judge 2 rfl) rfl ?_
  refine r_cvP (as := [vi m]) (st := []) (v := vi (b2i (inR m (vM v)))) C X I_X5_isMachine l_X6_202 (c_X5_isMachine o.pv _) (by decide) (Nat.le_of_ble_eq_true rfl) List.prefix_rfl rfl rfl (Nat.le_of_ble_eq_true rfl) rfl (dx dX6_judge 3 rfl) ?_
  refine rb_ne (b := inR m (vM v)) (tgt := 18) C (dx dX6_judge 4 rfl) (by decide) (fun c1 => ?_) (fun c1 => ?_)
  ·
    have c1 : (inR m (vM v)) = true := c1
    refine r_aload_n C (dx dX6_judge 9 rfl) rfl ?_
    refine r_iload_n C (dx dX6_judge 10 rfl) rfl ?_
    refine r_iload_n C (dx dX6_judge 11 rfl) rfl ?_
    refine r_cvP (as := [vi s, vi n]) (st := []) (v := vi (tfV g s n)) C X I_X6_toldFault l_X6_322 (c_X6_toldFault o hg _ _) (by decide) (Nat.le_of_ble_eq_true rfl) List.prefix_rfl rfl rfl (Nat.le_of_ble_eq_true rfl) rfl (dx dX6_judge 12 rfl) ?_
    refine r_istore (ls' := [(0, vr 6 0), (1, vi m), (2, vi s), (3, vi n), (4, vi (tfV g s n))]) C (dx dX6_judge 13 rfl) (by decide) [1, 2, 3, 4, 0] rfl ?_
    refine r_iload C (dx dX6_judge 14 rfl) rfl ?_
    refine r_if_eq (tgt := 38) C (dx dX6_judge 15 rfl) (by decide) (fun c2 => ?_) (fun c2 => ?_)
    ·
      have c2 : tfV g s n = 0 := c2
      obtain ⟨ν, hν, rfl⟩ := tf_ok c2
      refine r_iconst (v := nI 0) C (dx dX6_judge 20 rfl) rfl ?_
      refine r_istore (ls' := [(0, vr 6 0), (1, vi m), (2, vi s), (3, vi (nI ν)), (4, vi (tfV g s (nI ν))), (5, vi (nI 0))]) C (dx dX6_judge 21 rfl) (by decide) [1, 2, 3, 4, 5, 0] rfl ?_
      refine loopU (Φ := fun p => Rr G 41 [(0, vr 6 0), (1, vi m), (2, vi s), (3, vi (nI ν)), (4, vi (tfV g s (nI ν))), (5, vi (nI p))] [] h) (N := ν) ?_ ?_ 0 (by omega) 
      ·
        refine r_iload C (dx dX6_judge 22 rfl) rfl ?_
        refine r_iload_n C (dx dX6_judge 23 rfl) rfl ?_
        refine rn_ge (a := ν) (b := ν) (tgt := 74) C (by omega) (by omega) (dx dX6_judge 24 rfl) (by decide) (fun c3 => ?_) (fun c3 => ?_)
        · first
          | (omega; done)
          | (
              have c3 : ν ≤ ν := c3
              refine r_iconst (v := -1) C (dx dX6_judge 38 rfl) rfl ?_
              exact F.1 _ _ _ _ _ rfl rfl (dx dX6_judge 39 rfl) rfl ⟨⟨_, rfl⟩, (show OwX h h v w g B z κ from by exact ⟨⟨_, o⟩, Fr.rf⟩)⟩)
        · first
          | (omega; done)
      ·
        intro p hp ihp
        refine r_iload C (dx dX6_judge 22 rfl) rfl ?_
        refine r_iload_n C (dx dX6_judge 23 rfl) rfl ?_
        refine rn_ge (a := p) (b := ν) (tgt := 74) C (by omega) (by omega) (dx dX6_judge 24 rfl) (by decide) (fun c5 => ?_) (fun c5 => ?_)
        · first
          | (omega; done)
          | (
              have c5 : ν ≤ p := c5
              refine r_iconst (v := -1) C (dx dX6_judge 38 rfl) rfl ?_
              exact F.1 _ _ _ _ _ rfl rfl (dx dX6_judge 39 rfl) rfl ⟨⟨_, rfl⟩, (show OwX h h v w g B z κ from by exact ⟨⟨_, o⟩, Fr.rf⟩)⟩)
        · first
          | (omega; done)
          | (
              have c5 : p < ν := c5
              refine r_aload_n C (dx dX6_judge 25 rfl) rfl ?_
              refine g_X6_10 C (dx dX6_judge 26 rfl) ?_
              refine r_iload_n C (dx dX6_judge 27 rfl) rfl ?_
              refine r_aload_n C (dx dX6_judge 28 rfl) rfl ?_
              refine r_iload_n C (dx dX6_judge 29 rfl) rfl ?_
              refine r_iload C (dx dX6_judge 30 rfl) rfl ?_
              refine r_cvP (as := [vi s, vi (nI p)]) (st := [vi m, vr 5 1]) (v := vi (tdP v g s (nI p))) C X I_X6_partsOnToldDay l_X6_325 (c_X6_partsOnToldDay o hg _ _) (by decide) (Nat.le_of_ble_eq_true rfl) List.prefix_rfl rfl rfl (Nat.le_of_ble_eq_true rfl) rfl (dx dX6_judge 31 rfl) ?_
              refine r_cvP (as := [vi m, vi (tdP v g s (nI p))]) (st := []) (v := vi (b2i (wkW v m (tdP v g s (nI p))))) C X I_X5_isWorkedWith l_X6_226 (c_X5_isWorkedWith o.pv _ _) (by decide) (Nat.le_of_ble_eq_true rfl) List.prefix_rfl rfl rfl (Nat.le_of_ble_eq_true rfl) rfl (dx dX6_judge 32 rfl) ?_
              refine rb_ne (b := wkW v m (tdP v g s (nI p))) (tgt := 68) C (dx dX6_judge 33 rfl) (by decide) (fun c6 => ?_) (fun c6 => ?_)
              ·
                have c6 : (wkW v m (tdP v g s (nI p))) = true := c6
                refine rn_iinc (a := p) (k := 1) (ls' := [(0, vr 6 0), (1, vi m), (2, vi s), (3, vi (nI ν)), (4, vi (tfV g s (nI ν))), (5, vi (nI (p + 1)))]) C (dx dX6_judge 36 rfl) rfl rfl (by decide) [1, 2, 3, 4, 5, 0] rfl ?_
                refine r_goto (tgt := 41) C (dx dX6_judge 37 rfl) (by decide) ?_
                exact ihp 
              ·
                have c6 : (wkW v m (tdP v g s (nI p))) = false := c6
                refine r_iload C (dx dX6_judge 34 rfl) rfl ?_
                exact F.1 _ _ _ _ _ rfl rfl (dx dX6_judge 35 rfl) rfl ⟨⟨_, rfl⟩, (show OwX h h v w g B z κ from by exact ⟨⟨_, o⟩, Fr.rf⟩)⟩)
    ·
      have c2 : ¬ tfV g s n = 0 := c2
      refine r_aload_n C (dx dX6_judge 16 rfl) rfl ?_
      refine r_iload C (dx dX6_judge 17 rfl) rfl ?_
      refine r_cv (as := [vi (tfV g s n)]) (st := []) C X I_X6_refuse l_X6_76 (c_X6_refuse (tfV g s n)) (by decide) (Nat.le_of_ble_eq_true rfl) List.prefix_rfl List.prefix_rfl rfl rfl (Nat.le_of_ble_eq_true rfl) rfl (dx dX6_judge 18 rfl) ?_
      intro rh7 h7 hph7 kkh7
      obtain ⟨rfl, gh7⟩ := hph7
      have oh7 : Ow h7 v u w g B z κ := o.ref gh7
      have fh7 : Fr 0 63 h h7 := gh7.mono (by omega) (by omega)
      have kh7 : xK h7 = xK h := kkh7
      exact F.1 _ _ _ _ _ rfl rfl (dx dX6_judge 19 rfl) kh7 ⟨⟨_, rfl⟩, (show OwX h h7 v w g B z κ from by exact ⟨⟨_, oh7⟩, fh7⟩)⟩
  ·
    have c1 : (inR m (vM v)) = false := c1
    refine r_aload_n C (dx dX6_judge 5 rfl) rfl ?_
    refine r_bipush (v := -2) C (dx dX6_judge 6 rfl) rfl ?_
    refine r_cv (as := [vi (-2)]) (st := []) C X I_X6_refuse l_X6_76 (c_X6_refuse (-2)) (by decide) (Nat.le_of_ble_eq_true rfl) List.prefix_rfl List.prefix_rfl rfl rfl (Nat.le_of_ble_eq_true rfl) rfl (dx dX6_judge 7 rfl) ?_
    intro rh8 h8 hph8 kkh8
    obtain ⟨rfl, gh8⟩ := hph8
    have oh8 : Ow h8 v u w g B z κ := o.ref gh8
    have fh8 : Fr 0 63 h h8 := gh8.mono (by omega) (by omega)
    have kh8 : xK h8 = xK h := kkh8
    exact F.1 _ _ _ _ _ rfl rfl (dx dX6_judge 8 rfl) kh8 ⟨⟨_, rfl⟩, (show OwX h h8 v w g B z κ from by exact ⟨⟨_, oh8⟩, fh8⟩)⟩
set_option maxHeartbeats 4000000 in
theorem x_told {l : Launch} {h : Hp} {v u w : Vg} {g : Sg} {B : Nat → Int32} {z : Nat} {κ : Int32} (o : Ow h v u w g B z κ) (hg : GOk g) (s n : Int32) : Ms l yX6_told cX6_told 6 (some .int) 20 [vr 6 0, vi s, vi n] h (xK h) (fun r h' => PI r ∧ OwX h h' v w g B z κ) := by
  refine Ms.of (by decide) (Nat.le_of_ble_eq_true rfl) (fun G C X F => ?_)
  have C : Cx G cX6_told 6 RX6 := C
  show Rr G 0 [(0, vr 6 0), (1, vi s), (2, vi n)] [] h
  have bP := o.pv.bP
  have bM := o.pv.bM
  have bN := o.pv.bN
  have bz := o.pt.2.2
  refine r_aload_n C (dx dX6_told 0 rfl) rfl ?_
  refine r_iload_n C (dx dX6_told 1 rfl) rfl ?_
  refine r_iload_n C (dx dX6_told 2 rfl) rfl ?_
  refine r_cvP (as := [vi s, vi n]) (st := []) (v := vi (tfV g s n)) C X I_X6_toldFault l_X6_322 (c_X6_toldFault o hg _ _) (by decide) (Nat.le_of_ble_eq_true rfl) List.prefix_rfl rfl rfl (Nat.le_of_ble_eq_true rfl) rfl (dx dX6_told 3 rfl) ?_
  refine r_istore_n (ls' := [(0, vr 6 0), (1, vi s), (2, vi n), (3, vi (tfV g s n))]) C (dx dX6_told 4 rfl) (by decide) [1, 2, 3, 0] rfl ?_
  refine r_iload_n C (dx dX6_told 5 rfl) rfl ?_
  refine r_if_eq (tgt := 17) C (dx dX6_told 6 rfl) (by decide) (fun c1 => ?_) (fun c1 => ?_)
  ·
    have c1 : tfV g s n = 0 := c1
    obtain ⟨ν, hν, rfl⟩ := tf_ok c1
    refine r_iconst (v := nI 0) C (dx dX6_told 11 rfl) rfl ?_
    refine r_istore (ls' := [(0, vr 6 0), (1, vi s), (2, vi (nI ν)), (3, vi (tfV g s (nI ν))), (4, vi (nI 0))]) C (dx dX6_told 12 rfl) (by decide) [1, 2, 3, 4, 0] rfl ?_
    refine r_iconst (v := nI 0) C (dx dX6_told 13 rfl) rfl ?_
    refine r_istore (ls' := [(0, vr 6 0), (1, vi s), (2, vi (nI ν)), (3, vi (tfV g s (nI ν))), (4, vi (nI 0)), (5, vi (nI 0))]) C (dx dX6_told 14 rfl) (by decide) [1, 2, 3, 4, 5, 0] rfl ?_
    refine loopU (Φ := fun p => ∀ (x4 : Int32), Rr G 23 [(0, vr 6 0), (1, vi s), (2, vi (nI ν)), (3, vi (tfV g s (nI ν))), (4, vi x4), (5, vi (nI p))] [] h) (N := ν) ?_ ?_ 0 (by omega) (nI 0)
    ·
      intro  x4
      refine r_iload C (dx dX6_told 15 rfl) rfl ?_
      refine r_iload_n C (dx dX6_told 16 rfl) rfl ?_
      refine rn_ge (a := ν) (b := ν) (tgt := 54) C (by omega) (by omega) (dx dX6_told 17 rfl) (by decide) (fun c2 => ?_) (fun c2 => ?_)
      · first
        | (omega; done)
        | (
            have c2 : ν ≤ ν := c2
            refine r_iload C (dx dX6_told 30 rfl) rfl ?_
            exact F.1 _ _ _ _ _ rfl rfl (dx dX6_told 31 rfl) rfl ⟨⟨_, rfl⟩, (show OwX h h v w g B z κ from by exact ⟨⟨_, o⟩, Fr.rf⟩)⟩)
      · first
        | (omega; done)
    ·
      intro p hp ihp x4
      refine r_iload C (dx dX6_told 15 rfl) rfl ?_
      refine r_iload_n C (dx dX6_told 16 rfl) rfl ?_
      refine rn_ge (a := p) (b := ν) (tgt := 54) C (by omega) (by omega) (dx dX6_told 17 rfl) (by decide) (fun c3 => ?_) (fun c3 => ?_)
      · first
        | (omega; done)
        | (
            have c3 : ν ≤ p := c3
            refine r_iload C (dx dX6_told 30 rfl) rfl ?_
            exact F.1 _ _ _ _ _ rfl rfl (dx dX6_told 31 rfl) rfl ⟨⟨_, rfl⟩, (show OwX h h v w g B z κ from by exact ⟨⟨_, o⟩, Fr.rf⟩)⟩)
      · first
        | (omega; done)
        | (
            have c3 : p < ν := c3
            refine r_iload C (dx dX6_told 18 rfl) rfl ?_
            refine r_aload_n C (dx dX6_told 19 rfl) rfl ?_
            refine g_X6_10 C (dx dX6_told 20 rfl) ?_
            refine r_aload_n C (dx dX6_told 21 rfl) rfl ?_
            refine r_iload_n C (dx dX6_told 22 rfl) rfl ?_
            refine r_iload C (dx dX6_told 23 rfl) rfl ?_
            refine r_cvP (as := [vi s, vi (nI p)]) (st := [vr 5 1, vi x4]) (v := vi (tdP v g s (nI p))) C X I_X6_partsOnToldDay l_X6_325 (c_X6_partsOnToldDay o hg _ _) (by decide) (Nat.le_of_ble_eq_true rfl) List.prefix_rfl rfl rfl (Nat.le_of_ble_eq_true rfl) rfl (dx dX6_told 24 rfl) ?_
            refine r_cvP (as := [vi (tdP v g s (nI p))]) (st := [vi x4]) (v := vi (worthS v (tdP v g s (nI p)))) C X I_X5_worthWith l_X6_328 (c_X5_worthWith o.pv _) (by decide) (Nat.le_of_ble_eq_true rfl) List.prefix_rfl rfl rfl (Nat.le_of_ble_eq_true rfl) rfl (dx dX6_told 25 rfl) ?_
            refine r_iadd C (dx dX6_told 26 rfl) ?_
            refine r_istore (ls' := [(0, vr 6 0), (1, vi s), (2, vi (nI ν)), (3, vi (tfV g s (nI ν))), (4, vi (x4 + (worthS v (tdP v g s (nI p))))), (5, vi (nI p))]) C (dx dX6_told 27 rfl) (by decide) [1, 2, 3, 4, 0, 5] rfl ?_
            refine rn_iinc (a := p) (k := 1) (ls' := [(0, vr 6 0), (1, vi s), (2, vi (nI ν)), (3, vi (tfV g s (nI ν))), (4, vi (x4 + (worthS v (tdP v g s (nI p))))), (5, vi (nI (p + 1)))]) C (dx dX6_told 28 rfl) rfl rfl (by decide) [1, 2, 3, 4, 5, 0] rfl ?_
            refine r_goto (tgt := 23) C (dx dX6_told 29 rfl) (by decide) ?_
            exact ihp (x4 + (worthS v (tdP v g s (nI p)))))
  ·
    have c1 : ¬ tfV g s n = 0 := c1
    refine r_aload_n C (dx dX6_told 7 rfl) rfl ?_
    refine r_iload_n C (dx dX6_told 8 rfl) rfl ?_
    refine r_cv (as := [vi (tfV g s n)]) (st := []) C X I_X6_refuse l_X6_76 (c_X6_refuse (tfV g s n)) (by decide) (Nat.le_of_ble_eq_true rfl) List.prefix_rfl List.prefix_rfl rfl rfl (Nat.le_of_ble_eq_true rfl) rfl (dx dX6_told 9 rfl) ?_
    intro rh4 h4 hph4 kkh4
    obtain ⟨rfl, gh4⟩ := hph4
    have oh4 : Ow h4 v u w g B z κ := o.ref gh4
    have fh4 : Fr 0 63 h h4 := gh4.mono (by omega) (by omega)
    have kh4 : xK h4 = xK h := kkh4
    exact F.1 _ _ _ _ _ rfl rfl (dx dX6_told 10 rfl) kh4 ⟨⟨_, rfl⟩, (show OwX h h4 v w g B z κ from by exact ⟨⟨_, oh4⟩, fh4⟩)⟩
set_option maxHeartbeats 4000000 in
theorem x_days {l : Launch} {h : Hp} {v u w : Vg} {g : Sg} {B : Nat → Int32} {z : Nat} {κ : Int32} (o : Ow h v u w g B z κ) (hg : GOk g) (n : Int32) : Ms l yX6_days cX6_days 4 (some .int) 20 [vr 6 0, vi n] h (xK h) (fun r h' => r = some (vi (daysA v n)) ∧ OwX h h' (daysX v n) w g B z κ) := by
  refine Ms.of (by decide) (Nat.le_of_ble_eq_true rfl) (fun G C X F => ?_)
  have C : Cx G cX6_days 4 RX6 := C
  show Rr G 0 [(0, vr 6 0), (1, vi n)] [] h
  have bP := o.pv.bP
  have bM := o.pv.bM
  have bN := o.pv.bN
  have bz := o.pt.2.2
  refine r_iload_n C (dx dX6_days 0 rfl) rfl ?_
  refine r_iconst (v := nI 1) C (dx dX6_days 1 rfl) rfl ?_
  refine r_icmp_lt (tgt := 11) C (dx dX6_days 2 rfl) (by decide) (fun c1 => ?_) (fun c1 => ?_)
  ·
    have c1 : n < nI 1 := c1
    refine r_aload_n C (dx dX6_days 6 rfl) rfl ?_
    refine r_bipush (v := -2) C (dx dX6_days 7 rfl) rfl ?_
    refine r_cv (as := [vi (-2)]) (st := []) C X I_X6_refuse l_X6_76 (c_X6_refuse (-2)) (by decide) (Nat.le_of_ble_eq_true rfl) List.prefix_rfl List.prefix_rfl rfl rfl (Nat.le_of_ble_eq_true rfl) rfl (dx dX6_days 8 rfl) ?_
    intro rh2 h2 hph2 kkh2
    obtain ⟨rfl, gh2⟩ := hph2
    have oh2 : Ow h2 v u w g B z κ := o.ref gh2
    have fh2 : Fr 0 63 h h2 := gh2.mono (by omega) (by omega)
    have kh2 : xK h2 = xK h := kkh2
    have eA : daysA v n = -2 := by simp [daysA, daysX, dysB, c1]
    have eV : daysX v n = v := by simp [daysA, daysX, dysB, c1]
    exact F.1 _ _ _ _ _ rfl rfl (dx dX6_days 9 rfl) kh2 (show some (vi (-2)) = some (vi (daysA v n)) ∧ OwX h h2 (daysX v n) w g B z κ from by rw [eA, eV]; exact ⟨rfl, ⟨_, oh2⟩, fh2⟩)
  ·
    have c1 : ¬ n < nI 1 := c1
    refine r_iload_n C (dx dX6_days 3 rfl) rfl ?_
    refine r_bipush (v := nI 60) C (dx dX6_days 4 rfl) rfl ?_
    refine r_icmp_le (tgt := 18) C (dx dX6_days 5 rfl) (by decide) (fun c3 => ?_) (fun c3 => ?_)
    ·
      have c3 : n ≤ nI 60 := c3
      obtain ⟨ν, hν, hν2, rfl⟩ := btw (a := 1) (b := 60) (by omega) (by omega) c1 (Int32.not_lt.mpr c3)
      refine r_iconst (v := nI 0) C (dx dX6_days 10 rfl) rfl ?_
      refine r_istore_n (ls' := [(0, vr 6 0), (1, vi (nI ν)), (2, vi (nI 0))]) C (dx dX6_days 11 rfl) (by decide) [1, 2, 0] rfl ?_
      refine r_iconst (v := nI 0) C (dx dX6_days 12 rfl) rfl ?_
      refine r_istore_n (ls' := [(0, vr 6 0), (1, vi (nI ν)), (2, vi (nI 0)), (3, vi (nI 0))]) C (dx dX6_days 13 rfl) (by decide) [1, 2, 3, 0] rfl ?_
      refine loopU (Φ := fun p => ∀ g9, Ow g9 (daysV v p) u w g B z κ → Fr 0 63 h g9 → xK g9 = xK h → Rr G 22 [(0, vr 6 0), (1, vi (nI ν)), (2, vi (daysS v p)), (3, vi (nI p))] [] g9) (N := ν) ?_ ?_ 0 (Nat.zero_le _) h o Fr.rf rfl
      ·
        intro g9 o9 f9 k9
        refine r_iload_n C (dx dX6_days 14 rfl) rfl ?_
        refine r_iload_n C (dx dX6_days 15 rfl) rfl ?_
        refine rn_ge (a := ν) (b := ν) (tgt := 43) C (by omega) (by omega) (dx dX6_days 16 rfl) (by decide) (fun c4 => ?_) (fun c4 => ?_)
        · first
          | (omega; done)
          | (
              have c4 : ν ≤ ν := c4
              refine r_aload_n C (dx dX6_days 25 rfl) rfl ?_
              refine r_dupR C (dx dX6_days 26 rfl) ?_
              refine g_X6_65 (x := xI g9 0 10) C (dx dX6_days 27 rfl) rfl ?_
              refine r_iload_n C (dx dX6_days 28 rfl) rfl ?_
              refine r_iadd C (dx dX6_days 29 rfl) ?_
              refine p_X6_65 C (dx dX6_days 30 rfl) rfl rfl ?_
              have oh5 : Ow (sI g9 0 10 ((xI g9 0 10) + (nI ν))) (daysV v ν) u w g B z κ := o9.self (by rw [sI_at]; exact o9.pk) (Fr.sI (by omega) (by omega))
              have fh5 : Fr 0 63 h (sI g9 0 10 ((xI g9 0 10) + (nI ν))) := f9.tr (Fr.sI (by omega) (by omega))
              have kh5 : xK (sI g9 0 10 ((xI g9 0 10) + (nI ν))) = xK h := k9
              generalize sI g9 0 10 ((xI g9 0 10) + (nI ν)) = h5 at oh5 fh5 kh5 ⊢
              refine r_aload_n C (dx dX6_days 31 rfl) rfl ?_
              refine r_dupR C (dx dX6_days 32 rfl) ?_
              refine g_X6_69 (x := xI h5 0 11) C (dx dX6_days 33 rfl) rfl ?_
              refine r_iload_n C (dx dX6_days 34 rfl) rfl ?_
              refine r_iadd C (dx dX6_days 35 rfl) ?_
              refine p_X6_69 C (dx dX6_days 36 rfl) rfl rfl ?_
              have oh6 : Ow (sI h5 0 11 ((xI h5 0 11) + (daysS v ν))) (daysV v ν) u w g B z κ := oh5.self (by rw [sI_at]; exact oh5.pk) (Fr.sI (by omega) (by omega))
              have fh6 : Fr 0 63 h (sI h5 0 11 ((xI h5 0 11) + (daysS v ν))) := fh5.tr (Fr.sI (by omega) (by omega))
              have kh6 : xK (sI h5 0 11 ((xI h5 0 11) + (daysS v ν))) = xK h := kh5
              generalize sI h5 0 11 ((xI h5 0 11) + (daysS v ν)) = h6 at oh6 fh6 kh6 ⊢
              refine r_iload_n C (dx dX6_days 37 rfl) rfl ?_
              have eA : daysA v (nI ν) = daysS v ν := by simp [daysA, daysX, dysB, clN (show ν < 2 ^ 31 by omega), c1, c3, (Int32.not_lt.mpr c3), c4]
              have eV : daysX v (nI ν) = (daysV v ν) := by simp [daysA, daysX, dysB, clN (show ν < 2 ^ 31 by omega), c1, c3, (Int32.not_lt.mpr c3), c4]
              exact F.1 _ _ _ _ _ rfl rfl (dx dX6_days 38 rfl) kh6 (show some (vi (daysS v ν)) = some (vi (daysA v (nI ν))) ∧ OwX h h6 (daysX v (nI ν)) w g B z κ from by rw [eA, eV]; exact ⟨rfl, ⟨_, oh6⟩, fh6⟩))
        · first
          | (omega; done)
      ·
        intro p hp ih g9 o9 f9 k9
        refine r_iload_n C (dx dX6_days 14 rfl) rfl ?_
        refine r_iload_n C (dx dX6_days 15 rfl) rfl ?_
        refine rn_ge (a := p) (b := ν) (tgt := 43) C (by omega) (by omega) (dx dX6_days 16 rfl) (by decide) (fun c8 => ?_) (fun c8 => ?_)
        · first
          | (omega; done)
          | (
              have c8 : ν ≤ p := c8
              refine r_aload_n C (dx dX6_days 25 rfl) rfl ?_
              refine r_dupR C (dx dX6_days 26 rfl) ?_
              refine g_X6_65 (x := xI g9 0 10) C (dx dX6_days 27 rfl) rfl ?_
              refine r_iload_n C (dx dX6_days 28 rfl) rfl ?_
              refine r_iadd C (dx dX6_days 29 rfl) ?_
              refine p_X6_65 C (dx dX6_days 30 rfl) rfl rfl ?_
              have oh9 : Ow (sI g9 0 10 ((xI g9 0 10) + (nI ν))) (daysV v p) u w g B z κ := o9.self (by rw [sI_at]; exact o9.pk) (Fr.sI (by omega) (by omega))
              have fh9 : Fr 0 63 h (sI g9 0 10 ((xI g9 0 10) + (nI ν))) := f9.tr (Fr.sI (by omega) (by omega))
              have kh9 : xK (sI g9 0 10 ((xI g9 0 10) + (nI ν))) = xK h := k9
              generalize sI g9 0 10 ((xI g9 0 10) + (nI ν)) = h9 at oh9 fh9 kh9 ⊢
              refine r_aload_n C (dx dX6_days 31 rfl) rfl ?_
              refine r_dupR C (dx dX6_days 32 rfl) ?_
              refine g_X6_69 (x := xI h9 0 11) C (dx dX6_days 33 rfl) rfl ?_
              refine r_iload_n C (dx dX6_days 34 rfl) rfl ?_
              refine r_iadd C (dx dX6_days 35 rfl) ?_
              refine p_X6_69 C (dx dX6_days 36 rfl) rfl rfl ?_
              have oh10 : Ow (sI h9 0 11 ((xI h9 0 11) + (daysS v p))) (daysV v p) u w g B z κ := oh9.self (by rw [sI_at]; exact oh9.pk) (Fr.sI (by omega) (by omega))
              have fh10 : Fr 0 63 h (sI h9 0 11 ((xI h9 0 11) + (daysS v p))) := fh9.tr (Fr.sI (by omega) (by omega))
              have kh10 : xK (sI h9 0 11 ((xI h9 0 11) + (daysS v p))) = xK h := kh9
              generalize sI h9 0 11 ((xI h9 0 11) + (daysS v p)) = h10 at oh10 fh10 kh10 ⊢
              refine r_iload_n C (dx dX6_days 37 rfl) rfl ?_
              have eA : daysA v (nI ν) = daysS v p := by simp [daysA, daysX, dysB, clN (show ν < 2 ^ 31 by omega), c1, c3, (Int32.not_lt.mpr c3), c8]
              have eV : daysX v (nI ν) = (daysV v p) := by simp [daysA, daysX, dysB, clN (show ν < 2 ^ 31 by omega), c1, c3, (Int32.not_lt.mpr c3), c8]
              exact F.1 _ _ _ _ _ rfl rfl (dx dX6_days 38 rfl) kh10 (show some (vi (daysS v p)) = some (vi (daysA v (nI ν))) ∧ OwX h h10 (daysX v (nI ν)) w g B z κ from by rw [eA, eV]; exact ⟨rfl, ⟨_, oh10⟩, fh10⟩))
        · first
          | (omega; done)
          | (
              have c8 : p < ν := c8
              refine r_iload_n C (dx dX6_days 17 rfl) rfl ?_
              refine r_aload_n C (dx dX6_days 18 rfl) rfl ?_
              refine g_X6_10 C (dx dX6_days 19 rfl) ?_
              refine r_cv (as := []) (st := [vi (daysS v p)]) C X I_X5_passDay l_X6_331 (c_X5_passDay o9.pv) (by decide) (Nat.le_of_ble_eq_true rfl) List.prefix_rfl (pfx_eq k9) rfl rfl (Nat.le_of_ble_eq_true rfl) rfl (dx dX6_days 20 rfl) ?_
              intro rh11 h11 hph11 kkh11
              obtain ⟨rfl, wh11, gh11⟩ := hph11
              have oh11 : Ow h11 (dayV (daysV v p)) u w g B z κ := o9.now wh11 gh11
              have fh11 : Fr 0 63 h h11 := f9.tr (gh11.mono (by omega) (by omega))
              have kh11 : xK h11 = xK h := (kkh11).trans k9
              refine r_iadd C (dx dX6_days 21 rfl) ?_
              refine r_istore_n (ls' := [(0, vr 6 0), (1, vi (nI ν)), (2, vi ((daysS v p) + (worthS (daysV v p) (dayP (daysV v p))))), (3, vi (nI p))]) C (dx dX6_days 22 rfl) (by decide) [1, 2, 0, 3] rfl ?_
              refine rn_iinc (a := p) (k := 1) (ls' := [(0, vr 6 0), (1, vi (nI ν)), (2, vi ((daysS v p) + (worthS (daysV v p) (dayP (daysV v p))))), (3, vi (nI (p + 1)))]) C (dx dX6_days 23 rfl) rfl rfl (by decide) [1, 2, 3, 0] rfl ?_
              refine r_goto (tgt := 22) C (dx dX6_days 24 rfl) (by decide) ?_
              exact ih h11 oh11 fh11 kh11)
    ·
      have c3 : ¬ n ≤ nI 60 := c3
      refine r_aload_n C (dx dX6_days 6 rfl) rfl ?_
      refine r_bipush (v := -2) C (dx dX6_days 7 rfl) rfl ?_
      refine r_cv (as := [vi (-2)]) (st := []) C X I_X6_refuse l_X6_76 (c_X6_refuse (-2)) (by decide) (Nat.le_of_ble_eq_true rfl) List.prefix_rfl List.prefix_rfl rfl rfl (Nat.le_of_ble_eq_true rfl) rfl (dx dX6_days 8 rfl) ?_
      intro rh12 h12 hph12 kkh12
      obtain ⟨rfl, gh12⟩ := hph12
      have oh12 : Ow h12 v u w g B z κ := o.ref gh12
      have fh12 : Fr 0 63 h h12 := gh12.mono (by omega) (by omega)
      have kh12 : xK h12 = xK h := kkh12
      have eA : daysA v n = -2 := by simp [daysA, daysX, dysB, c1, c3, (inR_gt (n := 60) (by omega) (Int32.not_le.mp c3) : inR n 61 = false), (Int32.not_le.mp c3)]
      have eV : daysX v n = v := by simp [daysA, daysX, dysB, c1, c3, (inR_gt (n := 60) (by omega) (Int32.not_le.mp c3) : inR n 61 = false), (Int32.not_le.mp c3)]
      exact F.1 _ _ _ _ _ rfl rfl (dx dX6_days 9 rfl) kh12 (show some (vi (-2)) = some (vi (daysA v n)) ∧ OwX h h12 (daysX v n) w g B z κ from by rw [eA, eV]; exact ⟨rfl, ⟨_, oh12⟩, fh12⟩)
set_option maxHeartbeats 4000000 in
theorem x_back {l : Launch} {h : Hp} {v u w : Vg} {g : Sg} {B : Nat → Int32} {z : Nat} {κ : Int32} (o : Ow h v u w g B z κ) (hg : GOk g)  : Ms l yX6_back cX6_back 1 (some .int) 20 [vr 6 0] h (xK h) (fun r h' => r = some (vi (backA κ)) ∧ OwX h h' (if κ = 0 then v else w) w g B z κ) := by
  refine Ms.of (by decide) (Nat.le_of_ble_eq_true rfl) (fun G C X F => ?_)
  have C : Cx G cX6_back 1 RX6 := C
  show Rr G 0 [(0, vr 6 0)] [] h
  have bP := o.pv.bP
  have bM := o.pv.bM
  have bN := o.pv.bN
  have bz := o.pt.2.2
  refine r_aload_n C (dx dX6_back 0 rfl) rfl ?_
  refine g_X6_22 (x := κ) C (dx dX6_back 1 rfl) o.pk ?_
  refine r_if_ne (tgt := 14) C (dx dX6_back 2 rfl) (by decide) (fun c1 => ?_) (fun c1 => ?_)
  ·
    have c1 : ¬ κ = 0 := c1
    refine r_aload_n C (dx dX6_back 7 rfl) rfl ?_
    refine g_X6_10 C (dx dX6_back 8 rfl) ?_
    refine r_aload_n C (dx dX6_back 9 rfl) rfl ?_
    refine g_X6_19 C (dx dX6_back 10 rfl) ?_
    refine r_cv (as := [vr 5 19]) (st := []) C X I_X5_takeOver l_X6_191 (c_X5_takeOver o.pv o.pw (by omega)) (by decide) (Nat.le_of_ble_eq_true rfl) List.prefix_rfl List.prefix_rfl rfl rfl (Nat.le_of_ble_eq_true rfl) rfl (dx dX6_back 11 rfl) ?_
    intro rh2 h2 hph2 kkh2
    obtain ⟨rfl, wh2, gh2⟩ := hph2
    have oh2 : Ow h2 w u w g B z κ := o.now wh2 gh2
    have fh2 : Fr 0 63 h h2 := gh2.mono (by omega) (by omega)
    have kh2 : xK h2 = xK h := kkh2
    refine r_iconst (v := nI 1) C (dx dX6_back 12 rfl) rfl ?_
    have eA : backA κ = nI 1 := by simp [backA, c1]
    have eV : (if κ = 0 then v else w) = w := by simp [backA, c1]
    exact F.1 _ _ _ _ _ rfl rfl (dx dX6_back 13 rfl) kh2 (show some (vi (nI 1)) = some (vi (backA κ)) ∧ OwX h h2 (if κ = 0 then v else w) w g B z κ from by rw [eA, eV]; exact ⟨rfl, ⟨_, oh2⟩, fh2⟩)
  ·
    have c1 : κ = 0 := c1
    refine r_aload_n C (dx dX6_back 3 rfl) rfl ?_
    refine r_bipush (v := -5) C (dx dX6_back 4 rfl) rfl ?_
    refine r_cv (as := [vi (-5)]) (st := []) C X I_X6_refuse l_X6_76 (c_X6_refuse (-5)) (by decide) (Nat.le_of_ble_eq_true rfl) List.prefix_rfl List.prefix_rfl rfl rfl (Nat.le_of_ble_eq_true rfl) rfl (dx dX6_back 5 rfl) ?_
    intro rh3 h3 hph3 kkh3
    obtain ⟨rfl, gh3⟩ := hph3
    have oh3 : Ow h3 v u w g B z κ := o.ref gh3
    have fh3 : Fr 0 63 h h3 := gh3.mono (by omega) (by omega)
    have kh3 : xK h3 = xK h := kkh3
    have eA : backA κ = -5 := by simp [backA, c1]
    have eV : (if κ = 0 then v else w) = v := by simp [backA, c1]
    exact F.1 _ _ _ _ _ rfl rfl (dx dX6_back 6 rfl) kh3 (show some (vi (-5)) = some (vi (backA κ)) ∧ OwX h h3 (if κ = 0 then v else w) w g B z κ from by rw [eA, eV]; exact ⟨rfl, ⟨_, oh3⟩, fh3⟩)
set_option maxHeartbeats 4000000 in
theorem x_status {l : Launch} {h : Hp} {v u w : Vg} {g : Sg} {B : Nat → Int32} {z : Nat} {κ : Int32} (o : Ow h v u w g B z κ) (hg : GOk g) (x : Int32) : Ms l yX6_status cX6_status 2 (some .int) 20 [vr 6 0, vi x] h (xK h) (fun r h' => PI r ∧ OwX h h' v w g B z κ) := by
  refine Ms.of (by decide) (Nat.le_of_ble_eq_true rfl) (fun G C X F => ?_)
  have C : Cx G cX6_status 2 RX6 := C
  show Rr G 0 [(0, vr 6 0), (1, vi x)] [] h
  have bP := o.pv.bP
  have bM := o.pv.bM
  have bN := o.pv.bN
  have bz := o.pt.2.2
  have hcr := Nat.lt_of_lt_of_le (bitsN_lt (fun o => decide (¬ vF v 6 o = 0)) (vN v)) (pow8 bN).2
  have hcr : crN v < 256 := hcr
  refine r_iload_n C (dx dX6_status 0 rfl) rfl ?_
  rcases sw_c 10 x with ⟨j9, hj9, e9⟩ | e9
  · rcases (show j9 = 0 ∨ j9 = 1 ∨ j9 = 2 ∨ j9 = 3 ∨ j9 = 4 ∨ j9 = 5 ∨ j9 = 6 ∨ j9 = 7 ∨ j9 = 8 ∨ j9 = 9 by omega) with e8 | e8 | e8 | e8 | e8 | e8 | e8 | e8 | e8 | e8
    ·
      rw [e8] at e9; subst e9
      refine r_tabIn (off := 55) (tgt := 56) C (dx dX6_status 1 rfl) (by decide) (by decide) (by decide) (by decide) ?_
      refine r_aload_n C (dx dX6_status 2 rfl) rfl ?_
      refine g_X6_10 C (dx dX6_status 3 rfl) ?_
      refine g_X6_138 (x := nI (vP v)) C (dx dX6_status 4 rfl) o.pv.eP ?_
      exact F.1 _ _ _ _ _ rfl rfl (dx dX6_status 5 rfl) rfl ⟨⟨_, rfl⟩, (show OwX h h v w g B z κ from by exact ⟨⟨_, o⟩, Fr.rf⟩)⟩
    ·
      rw [e8] at e9; subst e9
      refine r_tabIn (off := 63) (tgt := 64) C (dx dX6_status 1 rfl) (by decide) (by decide) (by decide) (by decide) ?_
      refine r_aload_n C (dx dX6_status 6 rfl) rfl ?_
      refine g_X6_10 C (dx dX6_status 7 rfl) ?_
      refine g_X6_147 (x := nI (vM v)) C (dx dX6_status 8 rfl) o.pv.eM ?_
      exact F.1 _ _ _ _ _ rfl rfl (dx dX6_status 9 rfl) rfl ⟨⟨_, rfl⟩, (show OwX h h v w g B z κ from by exact ⟨⟨_, o⟩, Fr.rf⟩)⟩
    ·
      rw [e8] at e9; subst e9
      refine r_tabIn (off := 71) (tgt := 72) C (dx dX6_status 1 rfl) (by decide) (by decide) (by decide) (by decide) ?_
      refine r_aload_n C (dx dX6_status 10 rfl) rfl ?_
      refine g_X6_10 C (dx dX6_status 11 rfl) ?_
      refine g_X6_154 (x := nI (vN v)) C (dx dX6_status 12 rfl) o.pv.eN ?_
      exact F.1 _ _ _ _ _ rfl rfl (dx dX6_status 13 rfl) rfl ⟨⟨_, rfl⟩, (show OwX h h v w g B z κ from by exact ⟨⟨_, o⟩, Fr.rf⟩)⟩
    ·
      rw [e8] at e9; subst e9
      refine r_tabIn (off := 79) (tgt := 80) C (dx dX6_status 1 rfl) (by decide) (by decide) (by decide) (by decide) ?_
      refine r_aload_n C (dx dX6_status 14 rfl) rfl ?_
      refine g_X6_10 C (dx dX6_status 15 rfl) ?_
      refine r_cvP (as := []) (st := []) (v := vi (nI (crN v))) C X I_X5_crossPeople l_X6_337 (c_crN o.pv) (by decide) (Nat.le_of_ble_eq_true rfl) List.prefix_rfl rfl rfl (Nat.le_of_ble_eq_true rfl) rfl (dx dX6_status 16 rfl) ?_
      have bc1 := pcn_12 (a := crN v) (by omega)
      refine r_csP (as := [vi (nI (crN v))]) (st := []) (v := vi (nI (pcn (crN v)))) C X I_J6_bitCount_0f7a4 l_X6_285 (c_J6_bitCount_0f7a4 (a := crN v) (by omega)) (by decide) (Nat.le_of_ble_eq_true rfl) List.prefix_rfl (Nat.le_of_ble_eq_true rfl) rfl (dx dX6_status 17 rfl) ?_
      exact F.1 _ _ _ _ _ rfl rfl (dx dX6_status 18 rfl) rfl ⟨⟨_, rfl⟩, (show OwX h h v w g B z κ from by exact ⟨⟨_, o⟩, Fr.rf⟩)⟩
    ·
      rw [e8] at e9; subst e9
      refine r_tabIn (off := 90) (tgt := 91) C (dx dX6_status 1 rfl) (by decide) (by decide) (by decide) (by decide) ?_
      refine r_aload_n C (dx dX6_status 19 rfl) rfl ?_
      refine g_X6_10 C (dx dX6_status 20 rfl) ?_
      refine r_cvP (as := []) (st := []) (v := vi (nI (cnt (fun p => decide (¬ vF v 0 p = -1)) (vP v)))) C X I_X5_holderCount l_X6_135 (c_X5_holderCount o.pv) (by decide) (Nat.le_of_ble_eq_true rfl) List.prefix_rfl rfl rfl (Nat.le_of_ble_eq_true rfl) rfl (dx dX6_status 21 rfl) ?_
      refine r_aload_n C (dx dX6_status 22 rfl) rfl ?_
      refine g_X6_10 C (dx dX6_status 23 rfl) ?_
      refine r_cvP (as := []) (st := [vi (nI (cnt (fun p => decide (¬ vF v 0 p = -1)) (vP v)))]) (v := vi (nI (cnt (fun p => decide (¬ vF v 1 p = -1)) (vP v)))) C X I_X5_secondCount l_X6_131 (c_X5_secondCount o.pv) (by decide) (Nat.le_of_ble_eq_true rfl) List.prefix_rfl rfl rfl (Nat.le_of_ble_eq_true rfl) rfl (dx dX6_status 24 rfl) ?_
      refine rn_iadd (a := cnt (fun p => decide (¬ vF v 0 p = -1)) (vP v)) (b := cnt (fun p => decide (¬ vF v 1 p = -1)) (vP v)) C (dx dX6_status 25 rfl) ?_
      exact F.1 _ _ _ _ _ rfl rfl (dx dX6_status 26 rfl) rfl ⟨⟨_, rfl⟩, (show OwX h h v w g B z κ from by exact ⟨⟨_, o⟩, Fr.rf⟩)⟩
    ·
      rw [e8] at e9; subst e9
      refine r_tabIn (off := 106) (tgt := 107) C (dx dX6_status 1 rfl) (by decide) (by decide) (by decide) (by decide) ?_
      refine r_aload_n C (dx dX6_status 27 rfl) rfl ?_
      refine g_X6_65 (x := xI h 0 10) C (dx dX6_status 28 rfl) rfl ?_
      exact F.1 _ _ _ _ _ rfl rfl (dx dX6_status 29 rfl) rfl ⟨⟨_, rfl⟩, (show OwX h h v w g B z κ from by exact ⟨⟨_, o⟩, Fr.rf⟩)⟩
    ·
      rw [e8] at e9; subst e9
      refine r_tabIn (off := 111) (tgt := 112) C (dx dX6_status 1 rfl) (by decide) (by decide) (by decide) (by decide) ?_
      refine r_aload_n C (dx dX6_status 30 rfl) rfl ?_
      refine g_X6_69 (x := xI h 0 11) C (dx dX6_status 31 rfl) rfl ?_
      exact F.1 _ _ _ _ _ rfl rfl (dx dX6_status 32 rfl) rfl ⟨⟨_, rfl⟩, (show OwX h h v w g B z κ from by exact ⟨⟨_, o⟩, Fr.rf⟩)⟩
    ·
      rw [e8] at e9; subst e9
      refine r_tabIn (off := 116) (tgt := 117) C (dx dX6_status 1 rfl) (by decide) (by decide) (by decide) (by decide) ?_
      refine r_aload_n C (dx dX6_status 33 rfl) rfl ?_
      refine g_X6_50 C (dx dX6_status 34 rfl) ?_
      refine r_cvP (as := []) (st := []) (v := vi (nI z)) C X I_X3_length l_X6_182 (c_X3_length o.pt) (by decide) (Nat.le_of_ble_eq_true rfl) List.prefix_rfl rfl rfl (Nat.le_of_ble_eq_true rfl) rfl (dx dX6_status 35 rfl) ?_
      exact F.1 _ _ _ _ _ rfl rfl (dx dX6_status 36 rfl) rfl ⟨⟨_, rfl⟩, (show OwX h h v w g B z κ from by exact ⟨⟨_, o⟩, Fr.rf⟩)⟩
    ·
      rw [e8] at e9; subst e9
      refine r_tabIn (off := 124) (tgt := 125) C (dx dX6_status 1 rfl) (by decide) (by decide) (by decide) (by decide) ?_
      refine r_aload_n C (dx dX6_status 37 rfl) rfl ?_
      refine g_X6_10 C (dx dX6_status 38 rfl) ?_
      refine g_X6_334 (x := vS v) C (dx dX6_status 39 rfl) o.pv.eS ?_
      exact F.1 _ _ _ _ _ rfl rfl (dx dX6_status 40 rfl) rfl ⟨⟨_, rfl⟩, (show OwX h h v w g B z κ from by exact ⟨⟨_, o⟩, Fr.rf⟩)⟩
    ·
      rw [e8] at e9; subst e9
      refine r_tabIn (off := 132) (tgt := 133) C (dx dX6_status 1 rfl) (by decide) (by decide) (by decide) (by decide) ?_
      refine r_aload_n C (dx dX6_status 41 rfl) rfl ?_
      refine g_X6_57 C (dx dX6_status 42 rfl) ?_
      refine r_cvP (as := []) (st := []) (v := vi (nI (fullS g 8))) C X I_X2_fullCount l_X6_340 (c_X2_fullCount o.pg) (by decide) (Nat.le_of_ble_eq_true rfl) List.prefix_rfl rfl rfl (Nat.le_of_ble_eq_true rfl) rfl (dx dX6_status 43 rfl) ?_
      exact F.1 _ _ _ _ _ rfl rfl (dx dX6_status 44 rfl) rfl ⟨⟨_, rfl⟩, (show OwX h h v w g B z κ from by exact ⟨⟨_, o⟩, Fr.rf⟩)⟩
  ·
    refine r_tabOut (tgt := 141) C (dx dX6_status 1 rfl) (by omega) (by decide) ?_
    refine r_iload_n C (dx dX6_status 45 rfl) rfl ?_
    refine r_bipush (v := nI 12) C (dx dX6_status 46 rfl) rfl ?_
    refine r_icmp_lt (tgt := 165) C (dx dX6_status 47 rfl) (by decide) (fun c2 => ?_) (fun c2 => ?_)
    ·
      have c2 : x < nI 12 := c2
      refine r_iconst (v := -1) C (dx dX6_status 58 rfl) rfl ?_
      exact F.1 _ _ _ _ _ rfl rfl (dx dX6_status 59 rfl) rfl ⟨⟨_, rfl⟩, (show OwX h h v w g B z κ from by exact ⟨⟨_, o⟩, Fr.rf⟩)⟩
    ·
      have c2 : ¬ x < nI 12 := c2
      refine r_iload_n C (dx dX6_status 48 rfl) rfl ?_
      refine r_bipush (v := nI 16) C (dx dX6_status 49 rfl) rfl ?_
      refine r_icmp_gt (tgt := 165) C (dx dX6_status 50 rfl) (by decide) (fun c3 => ?_) (fun c3 => ?_)
      ·
        have c3 : nI 16 < x := c3
        refine r_iconst (v := -1) C (dx dX6_status 58 rfl) rfl ?_
        exact F.1 _ _ _ _ _ rfl rfl (dx dX6_status 59 rfl) rfl ⟨⟨_, rfl⟩, (show OwX h h v w g B z κ from by exact ⟨⟨_, o⟩, Fr.rf⟩)⟩
      ·
        have c3 : ¬ nI 16 < x := c3
        obtain ⟨x9, hx9, hx92, rfl⟩ := btw (a := 12) (b := 16) (by omega) (by omega) c2 c3
        refine r_aload_n C (dx dX6_status 51 rfl) rfl ?_
        refine g_X6_61 C (dx dX6_status 52 rfl) ?_
        refine r_iload_n C (dx dX6_status 53 rfl) rfl ?_
        refine r_bipush (v := nI 12) C (dx dX6_status 54 rfl) rfl ?_
        refine rn_isub (a := x9) (b := 12) C (by omega) (dx dX6_status 55 rfl) ?_
        refine r_iald (j := x9 - 12) (x := xI h 62 (x9 - 12)) C rfl rfl (by decide) rfl (by omega) (dx dX6_status 56 rfl) rfl ?_
        refine r_goto (tgt := 166) C (dx dX6_status 57 rfl) (by decide) ?_
        exact F.1 _ _ _ _ _ rfl rfl (dx dX6_status 59 rfl) rfl ⟨⟨_, rfl⟩, (show OwX h h v w g B z κ from by exact ⟨⟨_, o⟩, Fr.rf⟩)⟩

