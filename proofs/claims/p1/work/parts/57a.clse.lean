/-! PART 57a: the class: what it answers, by functions of the village -/
def prtB (v : Vg) (p x : Int32) : Bool := inR p (vP v) && (!decide (x < 0) && !decide (nI 1 < x))
def prtA (v : Vg) (p x : Int32) : Int32 := if prtB v p x = true then (if x = 0 then vF v 0 p.toNatClampNeg else vF v 1 p.toNatClampNeg) else -2
def mcoB (v : Vg) (m x : Int32) : Bool := inR m (vM v) && (!decide (x < 0) && !decide (nI 1 < x))
def mcoA (v : Vg) (m x : Int32) : Int32 := if mcoB v m x = true then (if x = 0 then vF v 2 m.toNatClampNeg else vF v 3 m.toNatClampNeg) else -2
def onoA (v : Vg) (o x : Int32) : Int32 := if inR o (vN v) = true then (if x = nI 0 then vF v 4 o.toNatClampNeg else if x = nI 1 then vF v 5 o.toNatClampNeg else if x = nI 2 then (if vF v 6 o.toNatClampNeg = 0 then nI 0 else nI 1) else if x = nI 3 then nI (pcs v o (vP v)) else if x = nI 4 then vF v 7 o.toNatClampNeg else -2) else -2
def hasA (v : Vg) (s : Int32) : Int32 := if inR s (2 ^ vN v) = true then hasP v s else -2
def wrkA (v : Vg) (m s : Int32) : Int32 := if (inR m (vM v) && inR s (2 ^ vN v)) = true then (if wkW v m (hasP v s) = true then nI 1 else nI 0) else -2
def nevA (v : Vg) (b : Bool) : Int32 := if b = true then full (vM v) &&& (macW v (hasP v (full (vN v))) ^^^ -1) else full (vP v) &&& (hasP v (full (vN v)) ^^^ -1)
def aloA (v : Vg) (o : Int32) : Int32 := if inR o (vN v) = true then macW v (ownP v o) else -2
def botA (v : Vg) (m n s : Int32) : Int32 := if (pairV v m n && inR s (2 ^ vN v)) = true then (if bothW v m.toNatClampNeg n.toNatClampNeg s = true then nI 1 else nI 0) else -2
def odaA (v : Vg) (m : Int32) : Int64 := if inR m (vM v) = true then oddsC v m.toNatClampNeg else (-2 : Int32).toInt64
def atoA (v : Vg) (m n : Int32) : Int64 := if pairV v m n = true then oddsPC v m.toNatClampNeg n.toNatClampNeg else (-2 : Int32).toInt64
def romS (v : Vg) : Nat → Int32
  | 0 => nI 0
  | n + 1 => romS v n + (vF v 4 n - nI (pcs v (nI n) (vP v)))
set_option maxHeartbeats 4000000 in
theorem x2_partOf {l : Launch} {h : Hp} {v u w : Vg} {g : Sg} {B : Nat → Int32} {z : Nat} {κ : Int32} (o : Ow h v u w g B z κ) (hg : GOk g) (p x : Int32) : Ms l yX6_partOf cX6_partOf 3 (some .int) 20 [vr 6 0, vi p, vi x] h (xK h) (fun r h' => r = some (vi (prtA v p x)) ∧ OwX h h' v w g B z κ) := by
  refine Ms.of (by decide) (Nat.le_of_ble_eq_true rfl) (fun G C X F => ?_)
  have C : Cx G cX6_partOf 3 RX6 := C
  show Rr G 0 [(0, vr 6 0), (1, vi p), (2, vi x)] [] h
  have bP := o.pv.bP
  have bM := o.pv.bM
  have bN := o.pv.bN
  have bz := o.pt.2.2
  refine r_aload_n C (dx dX6_partOf 0 rfl) rfl ?_
  refine g_X6_10 C (dx dX6_partOf 1 rfl) ?_
  refine r_iload_n C (dx dX6_partOf 2 rfl) rfl ?_
  refine r_cvP (as := [vi p]) (st := []) (v := vi (b2i (inR p (vP v)))) C X I_X5_isPart l_X6_170 (c_X5_isPart o.pv _) (by decide) (Nat.le_of_ble_eq_true rfl) List.prefix_rfl rfl rfl (Nat.le_of_ble_eq_true rfl) rfl (dx dX6_partOf 3 rfl) ?_
  refine rb_eq (b := inR p (vP v)) (tgt := 20) C (dx dX6_partOf 4 rfl) (by decide) (fun c1 => ?_) (fun c1 => ?_)
  ·
    have c1 : (inR p (vP v)) = false := c1
    refine r_aload_n C (dx dX6_partOf 10 rfl) rfl ?_
    refine r_bipush (v := -2) C (dx dX6_partOf 11 rfl) rfl ?_
    refine r_cv (as := [vi (-2)]) (st := []) C X I_X6_refuse l_X6_76 (c_X6_refuse (-2)) (by decide) (Nat.le_of_ble_eq_true rfl) List.prefix_rfl List.prefix_rfl rfl rfl (Nat.le_of_ble_eq_true rfl) rfl (dx dX6_partOf 12 rfl) ?_
    intro rh2 h2 hph2 kkh2
    obtain ⟨rfl, gh2⟩ := hph2
    have oh2 : Ow h2 v u w g B z κ := o.ref gh2
    have fh2 : Fr 0 63 h h2 := gh2.mono (by omega) (by omega)
    have kh2 : xK h2 = xK h := kkh2
    have eA : prtA v p x = -2 := by simp [prtA, prtB, show ¬ nI 1 < 0 by decide, c1]
    exact F.1 _ _ _ _ _ rfl rfl (dx dX6_partOf 13 rfl) kh2 (show some (vi (-2)) = some (vi (prtA v p x)) ∧ OwX h h2 v w g B z κ from by rw [eA]; exact ⟨rfl, ⟨_, oh2⟩, fh2⟩)
  ·
    have c1 : (inR p (vP v)) = true := c1
    obtain ⟨π, hπ, rfl⟩ := inR_ex (n := (vP v)) (by omega) c1
    refine r_iload_n C (dx dX6_partOf 5 rfl) rfl ?_
    refine r_if_lt (tgt := 20) C (dx dX6_partOf 6 rfl) (by decide) (fun c3 => ?_) (fun c3 => ?_)
    ·
      have c3 : x < 0 := c3
      refine r_aload_n C (dx dX6_partOf 10 rfl) rfl ?_
      refine r_bipush (v := -2) C (dx dX6_partOf 11 rfl) rfl ?_
      refine r_cv (as := [vi (-2)]) (st := []) C X I_X6_refuse l_X6_76 (c_X6_refuse (-2)) (by decide) (Nat.le_of_ble_eq_true rfl) List.prefix_rfl List.prefix_rfl rfl rfl (Nat.le_of_ble_eq_true rfl) rfl (dx dX6_partOf 12 rfl) ?_
      intro rh4 h4 hph4 kkh4
      obtain ⟨rfl, gh4⟩ := hph4
      have oh4 : Ow h4 v u w g B z κ := o.ref gh4
      have fh4 : Fr 0 63 h h4 := gh4.mono (by omega) (by omega)
      have kh4 : xK h4 = xK h := kkh4
      have eA : prtA v (nI π) x = -2 := by simp [prtA, prtB, show ¬ nI 1 < 0 by decide, clN (show π < 2 ^ 31 by omega), c1, (fun n9 => inR_neg (n := n9) c3 : ∀ n9, inR x n9 = false), c3]
      exact F.1 _ _ _ _ _ rfl rfl (dx dX6_partOf 13 rfl) kh4 (show some (vi (-2)) = some (vi (prtA v (nI π) x)) ∧ OwX h h4 v w g B z κ from by rw [eA]; exact ⟨rfl, ⟨_, oh4⟩, fh4⟩)
    ·
      have c3 : ¬ x < 0 := c3
      refine r_iload_n C (dx dX6_partOf 7 rfl) rfl ?_
      refine r_iconst (v := nI 1) C (dx dX6_partOf 8 rfl) rfl ?_
      refine r_icmp_le (tgt := 27) C (dx dX6_partOf 9 rfl) (by decide) (fun c5 => ?_) (fun c5 => ?_)
      ·
        have c5 : x ≤ nI 1 := c5
        refine r_iload_n C (dx dX6_partOf 14 rfl) rfl ?_
        refine r_if_ne (tgt := 43) C (dx dX6_partOf 15 rfl) (by decide) (fun c6 => ?_) (fun c6 => ?_)
        ·
          have c6 : ¬ x = 0 := c6
          refine r_aload_n C (dx dX6_partOf 22 rfl) rfl ?_
          refine g_X6_10 C (dx dX6_partOf 23 rfl) ?_
          refine g_X6_173 C (dx dX6_partOf 24 rfl) ?_
          refine r_iload_n C (dx dX6_partOf 25 rfl) rfl ?_
          refine r_iald (j := π) (x := vF v 1 π) C rfl rfl (by decide) rfl (by omega) (dx dX6_partOf 26 rfl) (o.pv.e1 (by omega)) ?_
          have eA : prtA v (nI π) x = vF v 1 π := by simp [prtA, prtB, show ¬ nI 1 < 0 by decide, clN (show π < 2 ^ 31 by omega), c1, c3, c5, (Int32.not_lt.mpr c5), c6]
          exact F.1 _ _ _ _ _ rfl rfl (dx dX6_partOf 27 rfl) rfl (show some (vi (vF v 1 π)) = some (vi (prtA v (nI π) x)) ∧ OwX h h v w g B z κ from by rw [eA]; exact ⟨rfl, ⟨_, o⟩, Fr.rf⟩)
        ·
          have c6 : x = 0 := c6
          refine r_aload_n C (dx dX6_partOf 16 rfl) rfl ?_
          refine g_X6_10 C (dx dX6_partOf 17 rfl) ?_
          refine g_X6_176 C (dx dX6_partOf 18 rfl) ?_
          refine r_iload_n C (dx dX6_partOf 19 rfl) rfl ?_
          refine r_iald (j := π) (x := vF v 0 π) C rfl rfl (by decide) rfl (by omega) (dx dX6_partOf 20 rfl) (o.pv.e0 (by omega)) ?_
          refine r_goto (tgt := 52) C (dx dX6_partOf 21 rfl) (by decide) ?_
          have eA : prtA v (nI π) x = vF v 0 π := by simp [prtA, prtB, show ¬ nI 1 < 0 by decide, clN (show π < 2 ^ 31 by omega), c1, c3, c5, (Int32.not_lt.mpr c5), c6]
          exact F.1 _ _ _ _ _ rfl rfl (dx dX6_partOf 27 rfl) rfl (show some (vi (vF v 0 π)) = some (vi (prtA v (nI π) x)) ∧ OwX h h v w g B z κ from by rw [eA]; exact ⟨rfl, ⟨_, o⟩, Fr.rf⟩)
      ·
        have c5 : ¬ x ≤ nI 1 := c5
        refine r_aload_n C (dx dX6_partOf 10 rfl) rfl ?_
        refine r_bipush (v := -2) C (dx dX6_partOf 11 rfl) rfl ?_
        refine r_cv (as := [vi (-2)]) (st := []) C X I_X6_refuse l_X6_76 (c_X6_refuse (-2)) (by decide) (Nat.le_of_ble_eq_true rfl) List.prefix_rfl List.prefix_rfl rfl rfl (Nat.le_of_ble_eq_true rfl) rfl (dx dX6_partOf 12 rfl) ?_
        intro rh7 h7 hph7 kkh7
        obtain ⟨rfl, gh7⟩ := hph7
        have oh7 : Ow h7 v u w g B z κ := o.ref gh7
        have fh7 : Fr 0 63 h h7 := gh7.mono (by omega) (by omega)
        have kh7 : xK h7 = xK h := kkh7
        have eA : prtA v (nI π) x = -2 := by simp [prtA, prtB, show ¬ nI 1 < 0 by decide, clN (show π < 2 ^ 31 by omega), c1, c3, c5, (inR_gt (n := 1) (by omega) (Int32.not_le.mp c5) : inR x 2 = false), (Int32.not_le.mp c5)]
        exact F.1 _ _ _ _ _ rfl rfl (dx dX6_partOf 13 rfl) kh7 (show some (vi (-2)) = some (vi (prtA v (nI π) x)) ∧ OwX h h7 v w g B z κ from by rw [eA]; exact ⟨rfl, ⟨_, oh7⟩, fh7⟩)
set_option maxHeartbeats 4000000 in
theorem x2_machineOf {l : Launch} {h : Hp} {v u w : Vg} {g : Sg} {B : Nat → Int32} {z : Nat} {κ : Int32} (o : Ow h v u w g B z κ) (hg : GOk g) (m x : Int32) : Ms l yX6_machineOf cX6_machineOf 3 (some .int) 20 [vr 6 0, vi m, vi x] h (xK h) (fun r h' => r = some (vi (mcoA v m x)) ∧ OwX h h' v w g B z κ) := by
  refine Ms.of (by decide) (Nat.le_of_ble_eq_true rfl) (fun G C X F => ?_)
  have C : Cx G cX6_machineOf 3 RX6 := C
  show Rr G 0 [(0, vr 6 0), (1, vi m), (2, vi x)] [] h
  have bP := o.pv.bP
  have bM := o.pv.bM
  have bN := o.pv.bN
  have bz := o.pt.2.2
  refine r_aload_n C (dx dX6_machineOf 0 rfl) rfl ?_
  refine g_X6_10 C (dx dX6_machineOf 1 rfl) ?_
  refine r_iload_n C (dx dX6_machineOf 2 rfl) rfl ?_
  refine r_cvP (as := [vi m]) (st := []) (v := vi (b2i (inR m (vM v)))) C X I_X5_isMachine l_X6_202 (c_X5_isMachine o.pv _) (by decide) (Nat.le_of_ble_eq_true rfl) List.prefix_rfl rfl rfl (Nat.le_of_ble_eq_true rfl) rfl (dx dX6_machineOf 3 rfl) ?_
  refine rb_eq (b := inR m (vM v)) (tgt := 20) C (dx dX6_machineOf 4 rfl) (by decide) (fun c1 => ?_) (fun c1 => ?_)
  ·
    have c1 : (inR m (vM v)) = false := c1
    refine r_aload_n C (dx dX6_machineOf 10 rfl) rfl ?_
    refine r_bipush (v := -2) C (dx dX6_machineOf 11 rfl) rfl ?_
    refine r_cv (as := [vi (-2)]) (st := []) C X I_X6_refuse l_X6_76 (c_X6_refuse (-2)) (by decide) (Nat.le_of_ble_eq_true rfl) List.prefix_rfl List.prefix_rfl rfl rfl (Nat.le_of_ble_eq_true rfl) rfl (dx dX6_machineOf 12 rfl) ?_
    intro rh2 h2 hph2 kkh2
    obtain ⟨rfl, gh2⟩ := hph2
    have oh2 : Ow h2 v u w g B z κ := o.ref gh2
    have fh2 : Fr 0 63 h h2 := gh2.mono (by omega) (by omega)
    have kh2 : xK h2 = xK h := kkh2
    have eA : mcoA v m x = -2 := by simp [mcoA, mcoB, show ¬ nI 1 < 0 by decide, c1]
    exact F.1 _ _ _ _ _ rfl rfl (dx dX6_machineOf 13 rfl) kh2 (show some (vi (-2)) = some (vi (mcoA v m x)) ∧ OwX h h2 v w g B z κ from by rw [eA]; exact ⟨rfl, ⟨_, oh2⟩, fh2⟩)
  ·
    have c1 : (inR m (vM v)) = true := c1
    obtain ⟨μ, hμ, rfl⟩ := inR_ex (n := (vM v)) (by omega) c1
    refine r_iload_n C (dx dX6_machineOf 5 rfl) rfl ?_
    refine r_if_lt (tgt := 20) C (dx dX6_machineOf 6 rfl) (by decide) (fun c3 => ?_) (fun c3 => ?_)
    ·
      have c3 : x < 0 := c3
      refine r_aload_n C (dx dX6_machineOf 10 rfl) rfl ?_
      refine r_bipush (v := -2) C (dx dX6_machineOf 11 rfl) rfl ?_
      refine r_cv (as := [vi (-2)]) (st := []) C X I_X6_refuse l_X6_76 (c_X6_refuse (-2)) (by decide) (Nat.le_of_ble_eq_true rfl) List.prefix_rfl List.prefix_rfl rfl rfl (Nat.le_of_ble_eq_true rfl) rfl (dx dX6_machineOf 12 rfl) ?_
      intro rh4 h4 hph4 kkh4
      obtain ⟨rfl, gh4⟩ := hph4
      have oh4 : Ow h4 v u w g B z κ := o.ref gh4
      have fh4 : Fr 0 63 h h4 := gh4.mono (by omega) (by omega)
      have kh4 : xK h4 = xK h := kkh4
      have eA : mcoA v (nI μ) x = -2 := by simp [mcoA, mcoB, show ¬ nI 1 < 0 by decide, clN (show μ < 2 ^ 31 by omega), c1, (fun n9 => inR_neg (n := n9) c3 : ∀ n9, inR x n9 = false), c3]
      exact F.1 _ _ _ _ _ rfl rfl (dx dX6_machineOf 13 rfl) kh4 (show some (vi (-2)) = some (vi (mcoA v (nI μ) x)) ∧ OwX h h4 v w g B z κ from by rw [eA]; exact ⟨rfl, ⟨_, oh4⟩, fh4⟩)
    ·
      have c3 : ¬ x < 0 := c3
      refine r_iload_n C (dx dX6_machineOf 7 rfl) rfl ?_
      refine r_iconst (v := nI 1) C (dx dX6_machineOf 8 rfl) rfl ?_
      refine r_icmp_le (tgt := 27) C (dx dX6_machineOf 9 rfl) (by decide) (fun c5 => ?_) (fun c5 => ?_)
      ·
        have c5 : x ≤ nI 1 := c5
        refine r_iload_n C (dx dX6_machineOf 14 rfl) rfl ?_
        refine r_if_ne (tgt := 43) C (dx dX6_machineOf 15 rfl) (by decide) (fun c6 => ?_) (fun c6 => ?_)
        ·
          have c6 : ¬ x = 0 := c6
          refine r_aload_n C (dx dX6_machineOf 22 rfl) rfl ?_
          refine g_X6_10 C (dx dX6_machineOf 23 rfl) ?_
          refine g_X6_208 C (dx dX6_machineOf 24 rfl) ?_
          refine r_iload_n C (dx dX6_machineOf 25 rfl) rfl ?_
          refine r_iald (j := μ) (x := vF v 3 μ) C rfl rfl (by decide) rfl (by omega) (dx dX6_machineOf 26 rfl) (o.pv.e3 (by omega)) ?_
          have eA : mcoA v (nI μ) x = vF v 3 μ := by simp [mcoA, mcoB, show ¬ nI 1 < 0 by decide, clN (show μ < 2 ^ 31 by omega), c1, c3, c5, (Int32.not_lt.mpr c5), c6]
          exact F.1 _ _ _ _ _ rfl rfl (dx dX6_machineOf 27 rfl) rfl (show some (vi (vF v 3 μ)) = some (vi (mcoA v (nI μ) x)) ∧ OwX h h v w g B z κ from by rw [eA]; exact ⟨rfl, ⟨_, o⟩, Fr.rf⟩)
        ·
          have c6 : x = 0 := c6
          refine r_aload_n C (dx dX6_machineOf 16 rfl) rfl ?_
          refine g_X6_10 C (dx dX6_machineOf 17 rfl) ?_
          refine g_X6_205 C (dx dX6_machineOf 18 rfl) ?_
          refine r_iload_n C (dx dX6_machineOf 19 rfl) rfl ?_
          refine r_iald (j := μ) (x := vF v 2 μ) C rfl rfl (by decide) rfl (by omega) (dx dX6_machineOf 20 rfl) (o.pv.e2 (by omega)) ?_
          refine r_goto (tgt := 52) C (dx dX6_machineOf 21 rfl) (by decide) ?_
          have eA : mcoA v (nI μ) x = vF v 2 μ := by simp [mcoA, mcoB, show ¬ nI 1 < 0 by decide, clN (show μ < 2 ^ 31 by omega), c1, c3, c5, (Int32.not_lt.mpr c5), c6]
          exact F.1 _ _ _ _ _ rfl rfl (dx dX6_machineOf 27 rfl) rfl (show some (vi (vF v 2 μ)) = some (vi (mcoA v (nI μ) x)) ∧ OwX h h v w g B z κ from by rw [eA]; exact ⟨rfl, ⟨_, o⟩, Fr.rf⟩)
      ·
        have c5 : ¬ x ≤ nI 1 := c5
        refine r_aload_n C (dx dX6_machineOf 10 rfl) rfl ?_
        refine r_bipush (v := -2) C (dx dX6_machineOf 11 rfl) rfl ?_
        refine r_cv (as := [vi (-2)]) (st := []) C X I_X6_refuse l_X6_76 (c_X6_refuse (-2)) (by decide) (Nat.le_of_ble_eq_true rfl) List.prefix_rfl List.prefix_rfl rfl rfl (Nat.le_of_ble_eq_true rfl) rfl (dx dX6_machineOf 12 rfl) ?_
        intro rh7 h7 hph7 kkh7
        obtain ⟨rfl, gh7⟩ := hph7
        have oh7 : Ow h7 v u w g B z κ := o.ref gh7
        have fh7 : Fr 0 63 h h7 := gh7.mono (by omega) (by omega)
        have kh7 : xK h7 = xK h := kkh7
        have eA : mcoA v (nI μ) x = -2 := by simp [mcoA, mcoB, show ¬ nI 1 < 0 by decide, clN (show μ < 2 ^ 31 by omega), c1, c3, c5, (inR_gt (n := 1) (by omega) (Int32.not_le.mp c5) : inR x 2 = false), (Int32.not_le.mp c5)]
        exact F.1 _ _ _ _ _ rfl rfl (dx dX6_machineOf 13 rfl) kh7 (show some (vi (-2)) = some (vi (mcoA v (nI μ) x)) ∧ OwX h h7 v w g B z κ from by rw [eA]; exact ⟨rfl, ⟨_, oh7⟩, fh7⟩)
set_option maxHeartbeats 4000000 in
theorem x2_oneOf {l : Launch} {h : Hp} {v u w : Vg} {g : Sg} {B : Nat → Int32} {z : Nat} {κ : Int32} (o : Ow h v u w g B z κ) (hg : GOk g) (o1 x : Int32) : Ms l yX6_oneOf cX6_oneOf 3 (some .int) 20 [vr 6 0, vi o1, vi x] h (xK h) (fun r h' => r = some (vi (onoA v o1 x)) ∧ OwX h h' v w g B z κ) := by
  refine Ms.of (by decide) (Nat.le_of_ble_eq_true rfl) (fun G C X F => ?_)
  have C : Cx G cX6_oneOf 3 RX6 := C
  show Rr G 0 [(0, vr 6 0), (1, vi o1), (2, vi x)] [] h
  have bP := o.pv.bP
  have bM := o.pv.bM
  have bN := o.pv.bN
  have bz := o.pt.2.2
  refine r_aload_n C (dx dX6_oneOf 0 rfl) rfl ?_
  refine g_X6_10 C (dx dX6_oneOf 1 rfl) ?_
  refine r_iload_n C (dx dX6_oneOf 2 rfl) rfl ?_
  refine r_cvP (as := [vi o1]) (st := []) (v := vi (b2i (inR o1 (vN v)))) C X I_X5_isOne l_X6_160 (c_X5_isOne o.pv _) (by decide) (Nat.le_of_ble_eq_true rfl) List.prefix_rfl rfl rfl (Nat.le_of_ble_eq_true rfl) rfl (dx dX6_oneOf 3 rfl) ?_
  refine rb_ne (b := inR o1 (vN v)) (tgt := 18) C (dx dX6_oneOf 4 rfl) (by decide) (fun c1 => ?_) (fun c1 => ?_)
  ·
    have c1 : (inR o1 (vN v)) = true := c1
    obtain ⟨o19, ho19, rfl⟩ := inR_ex (n := (vN v)) (by omega) c1
    refine r_iload_n C (dx dX6_oneOf 9 rfl) rfl ?_
    rcases sw_c 5 x with ⟨j9, hj9, e9⟩ | e9
    · rcases (show j9 = 0 ∨ j9 = 1 ∨ j9 = 2 ∨ j9 = 3 ∨ j9 = 4 by omega) with e8 | e8 | e8 | e8 | e8
      ·
        rw [e8] at e9; subst e9
        refine r_tabIn (off := 33) (tgt := 52) C (dx dX6_oneOf 10 rfl) (by decide) (by decide) (by decide) (by decide) ?_
        refine r_aload_n C (dx dX6_oneOf 11 rfl) rfl ?_
        refine g_X6_10 C (dx dX6_oneOf 12 rfl) ?_
        refine g_X6_211 C (dx dX6_oneOf 13 rfl) ?_
        refine r_iload_n C (dx dX6_oneOf 14 rfl) rfl ?_
        refine r_iald (j := o19) (x := vF v 4 o19) C rfl rfl (by decide) rfl (by omega) (dx dX6_oneOf 15 rfl) (o.pv.e4 (by omega)) ?_
        have eA : onoA v (nI o19) (nI 0) = vF v 4 o19 := by simp [onoA, clN (show o19 < 2 ^ 31 by omega), clN (show 0 < 2 ^ 31 by omega), c1, show ¬ nI 0 = nI 1 by decide, show ¬ nI 0 = nI 2 by decide, show ¬ nI 0 = nI 3 by decide, show ¬ nI 0 = nI 4 by decide, show ¬ nI 1 = nI 0 by decide, show ¬ nI 1 = nI 2 by decide, show ¬ nI 1 = nI 3 by decide, show ¬ nI 1 = nI 4 by decide, show ¬ nI 2 = nI 0 by decide, show ¬ nI 2 = nI 1 by decide, show ¬ nI 2 = nI 3 by decide, show ¬ nI 2 = nI 4 by decide, show ¬ nI 3 = nI 0 by decide, show ¬ nI 3 = nI 1 by decide, show ¬ nI 3 = nI 2 by decide, show ¬ nI 3 = nI 4 by decide, show ¬ nI 4 = nI 0 by decide, show ¬ nI 4 = nI 1 by decide, show ¬ nI 4 = nI 2 by decide, show ¬ nI 4 = nI 3 by decide]
        exact F.1 _ _ _ _ _ rfl rfl (dx dX6_oneOf 16 rfl) rfl (show some (vi (vF v 4 o19)) = some (vi (onoA v (nI o19) (nI 0))) ∧ OwX h h v w g B z κ from by rw [eA]; exact ⟨rfl, ⟨_, o⟩, Fr.rf⟩)
      ·
        rw [e8] at e9; subst e9
        refine r_tabIn (off := 43) (tgt := 62) C (dx dX6_oneOf 10 rfl) (by decide) (by decide) (by decide) (by decide) ?_
        refine r_aload_n C (dx dX6_oneOf 17 rfl) rfl ?_
        refine g_X6_10 C (dx dX6_oneOf 18 rfl) ?_
        refine g_X6_163 C (dx dX6_oneOf 19 rfl) ?_
        refine r_iload_n C (dx dX6_oneOf 20 rfl) rfl ?_
        refine r_iald (j := o19) (x := vF v 5 o19) C rfl rfl (by decide) rfl (by omega) (dx dX6_oneOf 21 rfl) (o.pv.e5 (by omega)) ?_
        have eA : onoA v (nI o19) (nI 1) = vF v 5 o19 := by simp [onoA, clN (show o19 < 2 ^ 31 by omega), clN (show 1 < 2 ^ 31 by omega), c1, show ¬ nI 0 = nI 1 by decide, show ¬ nI 0 = nI 2 by decide, show ¬ nI 0 = nI 3 by decide, show ¬ nI 0 = nI 4 by decide, show ¬ nI 1 = nI 0 by decide, show ¬ nI 1 = nI 2 by decide, show ¬ nI 1 = nI 3 by decide, show ¬ nI 1 = nI 4 by decide, show ¬ nI 2 = nI 0 by decide, show ¬ nI 2 = nI 1 by decide, show ¬ nI 2 = nI 3 by decide, show ¬ nI 2 = nI 4 by decide, show ¬ nI 3 = nI 0 by decide, show ¬ nI 3 = nI 1 by decide, show ¬ nI 3 = nI 2 by decide, show ¬ nI 3 = nI 4 by decide, show ¬ nI 4 = nI 0 by decide, show ¬ nI 4 = nI 1 by decide, show ¬ nI 4 = nI 2 by decide, show ¬ nI 4 = nI 3 by decide]
        exact F.1 _ _ _ _ _ rfl rfl (dx dX6_oneOf 22 rfl) rfl (show some (vi (vF v 5 o19)) = some (vi (onoA v (nI o19) (nI 1))) ∧ OwX h h v w g B z κ from by rw [eA]; exact ⟨rfl, ⟨_, o⟩, Fr.rf⟩)
      ·
        rw [e8] at e9; subst e9
        refine r_tabIn (off := 53) (tgt := 72) C (dx dX6_oneOf 10 rfl) (by decide) (by decide) (by decide) (by decide) ?_
        refine r_aload_n C (dx dX6_oneOf 23 rfl) rfl ?_
        refine g_X6_10 C (dx dX6_oneOf 24 rfl) ?_
        refine g_X6_166 C (dx dX6_oneOf 25 rfl) ?_
        refine r_iload_n C (dx dX6_oneOf 26 rfl) rfl ?_
        refine r_zald (j := o19) (x := vF v 6 o19) C rfl rfl (by decide) rfl (by omega) (dx dX6_oneOf 27 rfl) (o.pv.e6 (by omega)) ?_
        refine r_if_eq (tgt := 88) C (dx dX6_oneOf 28 rfl) (by decide) (fun c2 => ?_) (fun c2 => ?_)
        ·
          have c2 : vF v 6 o19 = 0 := c2
          refine r_iconst (v := nI 0) C (dx dX6_oneOf 31 rfl) rfl ?_
          have eA : onoA v (nI o19) (nI 2) = nI 0 := by simp [onoA, clN (show o19 < 2 ^ 31 by omega), clN (show 2 < 2 ^ 31 by omega), c1, c2, show ¬ nI 0 = nI 1 by decide, show ¬ nI 0 = nI 2 by decide, show ¬ nI 0 = nI 3 by decide, show ¬ nI 0 = nI 4 by decide, show ¬ nI 1 = nI 0 by decide, show ¬ nI 1 = nI 2 by decide, show ¬ nI 1 = nI 3 by decide, show ¬ nI 1 = nI 4 by decide, show ¬ nI 2 = nI 0 by decide, show ¬ nI 2 = nI 1 by decide, show ¬ nI 2 = nI 3 by decide, show ¬ nI 2 = nI 4 by decide, show ¬ nI 3 = nI 0 by decide, show ¬ nI 3 = nI 1 by decide, show ¬ nI 3 = nI 2 by decide, show ¬ nI 3 = nI 4 by decide, show ¬ nI 4 = nI 0 by decide, show ¬ nI 4 = nI 1 by decide, show ¬ nI 4 = nI 2 by decide, show ¬ nI 4 = nI 3 by decide]
          exact F.1 _ _ _ _ _ rfl rfl (dx dX6_oneOf 32 rfl) rfl (show some (vi (nI 0)) = some (vi (onoA v (nI o19) (nI 2))) ∧ OwX h h v w g B z κ from by rw [eA]; exact ⟨rfl, ⟨_, o⟩, Fr.rf⟩)
        ·
          have c2 : ¬ vF v 6 o19 = 0 := c2
          refine r_iconst (v := nI 1) C (dx dX6_oneOf 29 rfl) rfl ?_
          refine r_goto (tgt := 89) C (dx dX6_oneOf 30 rfl) (by decide) ?_
          have eA : onoA v (nI o19) (nI 2) = nI 1 := by simp [onoA, clN (show o19 < 2 ^ 31 by omega), clN (show 2 < 2 ^ 31 by omega), c1, c2, show ¬ nI 0 = nI 1 by decide, show ¬ nI 0 = nI 2 by decide, show ¬ nI 0 = nI 3 by decide, show ¬ nI 0 = nI 4 by decide, show ¬ nI 1 = nI 0 by decide, show ¬ nI 1 = nI 2 by decide, show ¬ nI 1 = nI 3 by decide, show ¬ nI 1 = nI 4 by decide, show ¬ nI 2 = nI 0 by decide, show ¬ nI 2 = nI 1 by decide, show ¬ nI 2 = nI 3 by decide, show ¬ nI 2 = nI 4 by decide, show ¬ nI 3 = nI 0 by decide, show ¬ nI 3 = nI 1 by decide, show ¬ nI 3 = nI 2 by decide, show ¬ nI 3 = nI 4 by decide, show ¬ nI 4 = nI 0 by decide, show ¬ nI 4 = nI 1 by decide, show ¬ nI 4 = nI 2 by decide, show ¬ nI 4 = nI 3 by decide]
          exact F.1 _ _ _ _ _ rfl rfl (dx dX6_oneOf 32 rfl) rfl (show some (vi (nI 1)) = some (vi (onoA v (nI o19) (nI 2))) ∧ OwX h h v w g B z κ from by rw [eA]; exact ⟨rfl, ⟨_, o⟩, Fr.rf⟩)
      ·
        rw [e8] at e9; subst e9
        refine r_tabIn (off := 71) (tgt := 90) C (dx dX6_oneOf 10 rfl) (by decide) (by decide) (by decide) (by decide) ?_
        refine r_aload_n C (dx dX6_oneOf 33 rfl) rfl ?_
        refine g_X6_10 C (dx dX6_oneOf 34 rfl) ?_
        refine r_iload_n C (dx dX6_oneOf 35 rfl) rfl ?_
        refine r_cvP (as := [vi (nI o19)]) (st := []) (v := vi (nI (pcs v (nI o19) (vP v)))) C X I_X5_piecesOf l_X6_214 (c_X5_piecesOf o.pv _) (by decide) (Nat.le_of_ble_eq_true rfl) List.prefix_rfl rfl rfl (Nat.le_of_ble_eq_true rfl) rfl (dx dX6_oneOf 36 rfl) ?_
        have eA : onoA v (nI o19) (nI 3) = nI (pcs v (nI o19) (vP v)) := by simp [onoA, clN (show o19 < 2 ^ 31 by omega), clN (show 3 < 2 ^ 31 by omega), c1, show ¬ nI 0 = nI 1 by decide, show ¬ nI 0 = nI 2 by decide, show ¬ nI 0 = nI 3 by decide, show ¬ nI 0 = nI 4 by decide, show ¬ nI 1 = nI 0 by decide, show ¬ nI 1 = nI 2 by decide, show ¬ nI 1 = nI 3 by decide, show ¬ nI 1 = nI 4 by decide, show ¬ nI 2 = nI 0 by decide, show ¬ nI 2 = nI 1 by decide, show ¬ nI 2 = nI 3 by decide, show ¬ nI 2 = nI 4 by decide, show ¬ nI 3 = nI 0 by decide, show ¬ nI 3 = nI 1 by decide, show ¬ nI 3 = nI 2 by decide, show ¬ nI 3 = nI 4 by decide, show ¬ nI 4 = nI 0 by decide, show ¬ nI 4 = nI 1 by decide, show ¬ nI 4 = nI 2 by decide, show ¬ nI 4 = nI 3 by decide]
        exact F.1 _ _ _ _ _ rfl rfl (dx dX6_oneOf 37 rfl) rfl (show some (vi (nI (pcs v (nI o19) (vP v)))) = some (vi (onoA v (nI o19) (nI 3))) ∧ OwX h h v w g B z κ from by rw [eA]; exact ⟨rfl, ⟨_, o⟩, Fr.rf⟩)
      ·
        rw [e8] at e9; subst e9
        refine r_tabIn (off := 80) (tgt := 99) C (dx dX6_oneOf 10 rfl) (by decide) (by decide) (by decide) (by decide) ?_
        refine r_aload_n C (dx dX6_oneOf 38 rfl) rfl ?_
        refine g_X6_10 C (dx dX6_oneOf 39 rfl) ?_
        refine g_X6_217 C (dx dX6_oneOf 40 rfl) ?_
        refine r_iload_n C (dx dX6_oneOf 41 rfl) rfl ?_
        refine r_iald (j := o19) (x := vF v 7 o19) C rfl rfl (by decide) rfl (by omega) (dx dX6_oneOf 42 rfl) (o.pv.e7 (by omega)) ?_
        have eA : onoA v (nI o19) (nI 4) = vF v 7 o19 := by simp [onoA, clN (show o19 < 2 ^ 31 by omega), clN (show 4 < 2 ^ 31 by omega), c1, show ¬ nI 0 = nI 1 by decide, show ¬ nI 0 = nI 2 by decide, show ¬ nI 0 = nI 3 by decide, show ¬ nI 0 = nI 4 by decide, show ¬ nI 1 = nI 0 by decide, show ¬ nI 1 = nI 2 by decide, show ¬ nI 1 = nI 3 by decide, show ¬ nI 1 = nI 4 by decide, show ¬ nI 2 = nI 0 by decide, show ¬ nI 2 = nI 1 by decide, show ¬ nI 2 = nI 3 by decide, show ¬ nI 2 = nI 4 by decide, show ¬ nI 3 = nI 0 by decide, show ¬ nI 3 = nI 1 by decide, show ¬ nI 3 = nI 2 by decide, show ¬ nI 3 = nI 4 by decide, show ¬ nI 4 = nI 0 by decide, show ¬ nI 4 = nI 1 by decide, show ¬ nI 4 = nI 2 by decide, show ¬ nI 4 = nI 3 by decide]
        exact F.1 _ _ _ _ _ rfl rfl (dx dX6_oneOf 43 rfl) rfl (show some (vi (vF v 7 o19)) = some (vi (onoA v (nI o19) (nI 4))) ∧ OwX h h v w g B z κ from by rw [eA]; exact ⟨rfl, ⟨_, o⟩, Fr.rf⟩)
    ·
      refine r_tabOut (tgt := 109) C (dx dX6_oneOf 10 rfl) (by omega) (by decide) ?_
      refine r_aload_n C (dx dX6_oneOf 44 rfl) rfl ?_
      refine r_bipush (v := -2) C (dx dX6_oneOf 45 rfl) rfl ?_
      refine r_cv (as := [vi (-2)]) (st := []) C X I_X6_refuse l_X6_76 (c_X6_refuse (-2)) (by decide) (Nat.le_of_ble_eq_true rfl) List.prefix_rfl List.prefix_rfl rfl rfl (Nat.le_of_ble_eq_true rfl) rfl (dx dX6_oneOf 46 rfl) ?_
      intro rh3 h3 hph3 kkh3
      obtain ⟨rfl, gh3⟩ := hph3
      have oh3 : Ow h3 v u w g B z κ := o.ref gh3
      have fh3 : Fr 0 63 h h3 := gh3.mono (by omega) (by omega)
      have kh3 : xK h3 = xK h := kkh3
      have eA : onoA v (nI o19) x = -2 := by (have n9 : ∀ k, k < 5 → ¬ x = nI k := fun k hk q => (by rw [q, nI_toInt (by omega)] at e9; omega); simp [onoA, clN (show o19 < 2 ^ 31 by omega), c1, n9 0 (by decide), n9 1 (by decide), n9 2 (by decide), n9 3 (by decide), n9 4 (by decide)])
      exact F.1 _ _ _ _ _ rfl rfl (dx dX6_oneOf 47 rfl) kh3 (show some (vi (-2)) = some (vi (onoA v (nI o19) x)) ∧ OwX h h3 v w g B z κ from by rw [eA]; exact ⟨rfl, ⟨_, oh3⟩, fh3⟩)
  ·
    have c1 : (inR o1 (vN v)) = false := c1
    refine r_aload_n C (dx dX6_oneOf 5 rfl) rfl ?_
    refine r_bipush (v := -2) C (dx dX6_oneOf 6 rfl) rfl ?_
    refine r_cv (as := [vi (-2)]) (st := []) C X I_X6_refuse l_X6_76 (c_X6_refuse (-2)) (by decide) (Nat.le_of_ble_eq_true rfl) List.prefix_rfl List.prefix_rfl rfl rfl (Nat.le_of_ble_eq_true rfl) rfl (dx dX6_oneOf 7 rfl) ?_
    intro rh4 h4 hph4 kkh4
    obtain ⟨rfl, gh4⟩ := hph4
    have oh4 : Ow h4 v u w g B z κ := o.ref gh4
    have fh4 : Fr 0 63 h h4 := gh4.mono (by omega) (by omega)
    have kh4 : xK h4 = xK h := kkh4
    have eA : onoA v o1 x = -2 := by simp [onoA, c1, show ¬ nI 0 = nI 1 by decide, show ¬ nI 0 = nI 2 by decide, show ¬ nI 0 = nI 3 by decide, show ¬ nI 0 = nI 4 by decide, show ¬ nI 1 = nI 0 by decide, show ¬ nI 1 = nI 2 by decide, show ¬ nI 1 = nI 3 by decide, show ¬ nI 1 = nI 4 by decide, show ¬ nI 2 = nI 0 by decide, show ¬ nI 2 = nI 1 by decide, show ¬ nI 2 = nI 3 by decide, show ¬ nI 2 = nI 4 by decide, show ¬ nI 3 = nI 0 by decide, show ¬ nI 3 = nI 1 by decide, show ¬ nI 3 = nI 2 by decide, show ¬ nI 3 = nI 4 by decide, show ¬ nI 4 = nI 0 by decide, show ¬ nI 4 = nI 1 by decide, show ¬ nI 4 = nI 2 by decide, show ¬ nI 4 = nI 3 by decide]
    exact F.1 _ _ _ _ _ rfl rfl (dx dX6_oneOf 8 rfl) kh4 (show some (vi (-2)) = some (vi (onoA v o1 x)) ∧ OwX h h4 v w g B z κ from by rw [eA]; exact ⟨rfl, ⟨_, oh4⟩, fh4⟩)
set_option maxHeartbeats 4000000 in
theorem x2_has {l : Launch} {h : Hp} {v u w : Vg} {g : Sg} {B : Nat → Int32} {z : Nat} {κ : Int32} (o : Ow h v u w g B z κ) (hg : GOk g) (x : Int32) : Ms l yX6_has cX6_has 2 (some .int) 20 [vr 6 0, vi x] h (xK h) (fun r h' => r = some (vi (hasA v x)) ∧ OwX h h' v w g B z κ) := by
  refine Ms.of (by decide) (Nat.le_of_ble_eq_true rfl) (fun G C X F => ?_)
  have C : Cx G cX6_has 2 RX6 := C
  show Rr G 0 [(0, vr 6 0), (1, vi x)] [] h
  have bP := o.pv.bP
  have bM := o.pv.bM
  have bN := o.pv.bN
  have bz := o.pt.2.2
  refine r_aload_n C (dx dX6_has 0 rfl) rfl ?_
  refine g_X6_10 C (dx dX6_has 1 rfl) ?_
  refine r_iload_n C (dx dX6_has 2 rfl) rfl ?_
  refine r_cvP (as := [vi x]) (st := []) (v := vi (b2i (inR x (2 ^ vN v)))) C X I_X5_isSetOfPeople l_X6_220 (c_X5_isSetOfPeople o.pv _) (by decide) (Nat.le_of_ble_eq_true rfl) List.prefix_rfl rfl rfl (Nat.le_of_ble_eq_true rfl) rfl (dx dX6_has 3 rfl) ?_
  refine rb_ne (b := inR x (2 ^ vN v)) (tgt := 18) C (dx dX6_has 4 rfl) (by decide) (fun c1 => ?_) (fun c1 => ?_)
  ·
    have c1 : (inR x (2 ^ vN v)) = true := c1
    refine r_aload_n C (dx dX6_has 9 rfl) rfl ?_
    refine g_X6_10 C (dx dX6_has 10 rfl) ?_
    refine r_iload_n C (dx dX6_has 11 rfl) rfl ?_
    refine r_cvP (as := [vi x]) (st := []) (v := vi (hasP v x)) C X I_X5_partsWith l_X6_223 (c_X5_partsWith o.pv _) (by decide) (Nat.le_of_ble_eq_true rfl) List.prefix_rfl rfl rfl (Nat.le_of_ble_eq_true rfl) rfl (dx dX6_has 12 rfl) ?_
    have eA : hasA v x = hasP v x := by simp [hasA, c1]
    exact F.1 _ _ _ _ _ rfl rfl (dx dX6_has 13 rfl) rfl (show some (vi (hasP v x)) = some (vi (hasA v x)) ∧ OwX h h v w g B z κ from by rw [eA]; exact ⟨rfl, ⟨_, o⟩, Fr.rf⟩)
  ·
    have c1 : (inR x (2 ^ vN v)) = false := c1
    refine r_aload_n C (dx dX6_has 5 rfl) rfl ?_
    refine r_bipush (v := -2) C (dx dX6_has 6 rfl) rfl ?_
    refine r_cv (as := [vi (-2)]) (st := []) C X I_X6_refuse l_X6_76 (c_X6_refuse (-2)) (by decide) (Nat.le_of_ble_eq_true rfl) List.prefix_rfl List.prefix_rfl rfl rfl (Nat.le_of_ble_eq_true rfl) rfl (dx dX6_has 7 rfl) ?_
    intro rh2 h2 hph2 kkh2
    obtain ⟨rfl, gh2⟩ := hph2
    have oh2 : Ow h2 v u w g B z κ := o.ref gh2
    have fh2 : Fr 0 63 h h2 := gh2.mono (by omega) (by omega)
    have kh2 : xK h2 = xK h := kkh2
    have eA : hasA v x = -2 := by simp [hasA, c1]
    exact F.1 _ _ _ _ _ rfl rfl (dx dX6_has 8 rfl) kh2 (show some (vi (-2)) = some (vi (hasA v x)) ∧ OwX h h2 v w g B z κ from by rw [eA]; exact ⟨rfl, ⟨_, oh2⟩, fh2⟩)
set_option maxHeartbeats 4000000 in
theorem x2_works {l : Launch} {h : Hp} {v u w : Vg} {g : Sg} {B : Nat → Int32} {z : Nat} {κ : Int32} (o : Ow h v u w g B z κ) (hg : GOk g) (m x : Int32) : Ms l yX6_works cX6_works 3 (some .int) 20 [vr 6 0, vi m, vi x] h (xK h) (fun r h' => r = some (vi (wrkA v m x)) ∧ OwX h h' v w g B z κ) := by
  refine Ms.of (by decide) (Nat.le_of_ble_eq_true rfl) (fun G C X F => ?_)
  have C : Cx G cX6_works 3 RX6 := C
  show Rr G 0 [(0, vr 6 0), (1, vi m), (2, vi x)] [] h
  have bP := o.pv.bP
  have bM := o.pv.bM
  have bN := o.pv.bN
  have bz := o.pt.2.2
  refine r_aload_n C (dx dX6_works 0 rfl) rfl ?_
  refine g_X6_10 C (dx dX6_works 1 rfl) ?_
  refine r_iload_n C (dx dX6_works 2 rfl) rfl ?_
  refine r_cvP (as := [vi m]) (st := []) (v := vi (b2i (inR m (vM v)))) C X I_X5_isMachine l_X6_202 (c_X5_isMachine o.pv _) (by decide) (Nat.le_of_ble_eq_true rfl) List.prefix_rfl rfl rfl (Nat.le_of_ble_eq_true rfl) rfl (dx dX6_works 3 rfl) ?_
  refine rb_eq (b := inR m (vM v)) (tgt := 22) C (dx dX6_works 4 rfl) (by decide) (fun c1 => ?_) (fun c1 => ?_)
  ·
    have c1 : (inR m (vM v)) = false := c1
    refine r_aload_n C (dx dX6_works 10 rfl) rfl ?_
    refine r_bipush (v := -2) C (dx dX6_works 11 rfl) rfl ?_
    refine r_cv (as := [vi (-2)]) (st := []) C X I_X6_refuse l_X6_76 (c_X6_refuse (-2)) (by decide) (Nat.le_of_ble_eq_true rfl) List.prefix_rfl List.prefix_rfl rfl rfl (Nat.le_of_ble_eq_true rfl) rfl (dx dX6_works 12 rfl) ?_
    intro rh2 h2 hph2 kkh2
    obtain ⟨rfl, gh2⟩ := hph2
    have oh2 : Ow h2 v u w g B z κ := o.ref gh2
    have fh2 : Fr 0 63 h h2 := gh2.mono (by omega) (by omega)
    have kh2 : xK h2 = xK h := kkh2
    have eA : wrkA v m x = -2 := by simp [wrkA, c1]
    exact F.1 _ _ _ _ _ rfl rfl (dx dX6_works 13 rfl) kh2 (show some (vi (-2)) = some (vi (wrkA v m x)) ∧ OwX h h2 v w g B z κ from by rw [eA]; exact ⟨rfl, ⟨_, oh2⟩, fh2⟩)
  ·
    have c1 : (inR m (vM v)) = true := c1
    refine r_aload_n C (dx dX6_works 5 rfl) rfl ?_
    refine g_X6_10 C (dx dX6_works 6 rfl) ?_
    refine r_iload_n C (dx dX6_works 7 rfl) rfl ?_
    refine r_cvP (as := [vi x]) (st := []) (v := vi (b2i (inR x (2 ^ vN v)))) C X I_X5_isSetOfPeople l_X6_220 (c_X5_isSetOfPeople o.pv _) (by decide) (Nat.le_of_ble_eq_true rfl) List.prefix_rfl rfl rfl (Nat.le_of_ble_eq_true rfl) rfl (dx dX6_works 8 rfl) ?_
    refine rb_ne (b := inR x (2 ^ vN v)) (tgt := 29) C (dx dX6_works 9 rfl) (by decide) (fun c3 => ?_) (fun c3 => ?_)
    ·
      have c3 : (inR x (2 ^ vN v)) = true := c3
      refine r_aload_n C (dx dX6_works 14 rfl) rfl ?_
      refine g_X6_10 C (dx dX6_works 15 rfl) ?_
      refine r_iload_n C (dx dX6_works 16 rfl) rfl ?_
      refine r_aload_n C (dx dX6_works 17 rfl) rfl ?_
      refine g_X6_10 C (dx dX6_works 18 rfl) ?_
      refine r_iload_n C (dx dX6_works 19 rfl) rfl ?_
      refine r_cvP (as := [vi x]) (st := [vi m, vr 5 1]) (v := vi (hasP v x)) C X I_X5_partsWith l_X6_223 (c_X5_partsWith o.pv _) (by decide) (Nat.le_of_ble_eq_true rfl) List.prefix_rfl rfl rfl (Nat.le_of_ble_eq_true rfl) rfl (dx dX6_works 20 rfl) ?_
      refine r_cvP (as := [vi m, vi (hasP v x)]) (st := []) (v := vi (b2i (wkW v m (hasP v x)))) C X I_X5_isWorkedWith l_X6_226 (c_X5_isWorkedWith o.pv _ _) (by decide) (Nat.le_of_ble_eq_true rfl) List.prefix_rfl rfl rfl (Nat.le_of_ble_eq_true rfl) rfl (dx dX6_works 21 rfl) ?_
      refine rb_eq (b := wkW v m (hasP v x)) (tgt := 52) C (dx dX6_works 22 rfl) (by decide) (fun c4 => ?_) (fun c4 => ?_)
      ·
        have c4 : (wkW v m (hasP v x)) = false := c4
        refine r_iconst (v := nI 0) C (dx dX6_works 25 rfl) rfl ?_
        have eA : wrkA v m x = nI 0 := by simp [wrkA, c1, c3, c4]
        exact F.1 _ _ _ _ _ rfl rfl (dx dX6_works 26 rfl) rfl (show some (vi (nI 0)) = some (vi (wrkA v m x)) ∧ OwX h h v w g B z κ from by rw [eA]; exact ⟨rfl, ⟨_, o⟩, Fr.rf⟩)
      ·
        have c4 : (wkW v m (hasP v x)) = true := c4
        refine r_iconst (v := nI 1) C (dx dX6_works 23 rfl) rfl ?_
        refine r_goto (tgt := 53) C (dx dX6_works 24 rfl) (by decide) ?_
        have eA : wrkA v m x = nI 1 := by simp [wrkA, c1, c3, c4]
        exact F.1 _ _ _ _ _ rfl rfl (dx dX6_works 26 rfl) rfl (show some (vi (nI 1)) = some (vi (wrkA v m x)) ∧ OwX h h v w g B z κ from by rw [eA]; exact ⟨rfl, ⟨_, o⟩, Fr.rf⟩)
    ·
      have c3 : (inR x (2 ^ vN v)) = false := c3
      refine r_aload_n C (dx dX6_works 10 rfl) rfl ?_
      refine r_bipush (v := -2) C (dx dX6_works 11 rfl) rfl ?_
      refine r_cv (as := [vi (-2)]) (st := []) C X I_X6_refuse l_X6_76 (c_X6_refuse (-2)) (by decide) (Nat.le_of_ble_eq_true rfl) List.prefix_rfl List.prefix_rfl rfl rfl (Nat.le_of_ble_eq_true rfl) rfl (dx dX6_works 12 rfl) ?_
      intro rh5 h5 hph5 kkh5
      obtain ⟨rfl, gh5⟩ := hph5
      have oh5 : Ow h5 v u w g B z κ := o.ref gh5
      have fh5 : Fr 0 63 h h5 := gh5.mono (by omega) (by omega)
      have kh5 : xK h5 = xK h := kkh5
      have eA : wrkA v m x = -2 := by simp [wrkA, c1, c3]
      exact F.1 _ _ _ _ _ rfl rfl (dx dX6_works 13 rfl) kh5 (show some (vi (-2)) = some (vi (wrkA v m x)) ∧ OwX h h5 v w g B z κ from by rw [eA]; exact ⟨rfl, ⟨_, oh5⟩, fh5⟩)
set_option maxHeartbeats 4000000 in
theorem x2_odds {l : Launch} {h : Hp} {v u w : Vg} {g : Sg} {B : Nat → Int32} {z : Nat} {κ : Int32} (o : Ow h v u w g B z κ) (hg : GOk g) (m : Int32) : Ms l yX6_odds cX6_odds 2 (some .long) 20 [vr 6 0, vi m] h (xK h) (fun r h' => r = some (vl (odaA v m)) ∧ OwX h h' v w g B z κ) := by
  refine Ms.of (by decide) (Nat.le_of_ble_eq_true rfl) (fun G C X F => ?_)
  have C : Cx G cX6_odds 2 RX6 := C
  show Rr G 0 [(0, vr 6 0), (1, vi m)] [] h
  have bP := o.pv.bP
  have bM := o.pv.bM
  have bN := o.pv.bN
  have bz := o.pt.2.2
  refine r_aload_n C (dx dX6_odds 0 rfl) rfl ?_
  refine g_X6_10 C (dx dX6_odds 1 rfl) ?_
  refine r_iload_n C (dx dX6_odds 2 rfl) rfl ?_
  refine r_cvP (as := [vi m]) (st := []) (v := vi (b2i (inR m (vM v)))) C X I_X5_isMachine l_X6_202 (c_X5_isMachine o.pv _) (by decide) (Nat.le_of_ble_eq_true rfl) List.prefix_rfl rfl rfl (Nat.le_of_ble_eq_true rfl) rfl (dx dX6_odds 3 rfl) ?_
  refine rb_ne (b := inR m (vM v)) (tgt := 19) C (dx dX6_odds 4 rfl) (by decide) (fun c1 => ?_) (fun c1 => ?_)
  ·
    have c1 : (inR m (vM v)) = true := c1
    obtain ⟨μ, hμ, rfl⟩ := inR_ex (n := (vM v)) (by omega) c1
    refine r_aload_n C (dx dX6_odds 10 rfl) rfl ?_
    refine g_X6_29 C (dx dX6_odds 11 rfl) ?_
    refine r_aload_n C (dx dX6_odds 12 rfl) rfl ?_
    refine g_X6_10 C (dx dX6_odds 13 rfl) ?_
    refine r_iload_n C (dx dX6_odds 14 rfl) rfl ?_
    refine r_cv (as := [vr 5 1, vi (nI μ)]) (st := []) C X I_X4_oddsOf l_X6_236 (c_X4_oddsOf o.pv (by omega) μ (by omega)) (by decide) (Nat.le_of_ble_eq_true rfl) List.prefix_rfl List.prefix_rfl rfl rfl (Nat.le_of_ble_eq_true rfl) rfl (dx dX6_odds 15 rfl) ?_
    intro rh2 h2 hph2 kkh2
    obtain ⟨rfl, gh2⟩ := hph2
    have oh2 : Ow h2 v u w g B z κ := o.tm (gh2.mono (by omega) (by omega))
    have fh2 : Fr 0 63 h h2 := gh2.mono (by omega) (by omega)
    have kh2 : xK h2 = xK h := kkh2
    have eA : odaA v (nI μ) = oddsC v μ := by simp [odaA, clN (show μ < 2 ^ 31 by omega), c1]
    exact F.2.1 _ _ _ _ rfl (dx dX6_odds 16 rfl) kh2 (show some (vl (oddsC v μ)) = some (vl (odaA v (nI μ))) ∧ OwX h h2 v w g B z κ from by rw [eA]; exact ⟨rfl, ⟨_, oh2⟩, fh2⟩)
  ·
    have c1 : (inR m (vM v)) = false := c1
    refine r_aload_n C (dx dX6_odds 5 rfl) rfl ?_
    refine r_bipush (v := -2) C (dx dX6_odds 6 rfl) rfl ?_
    refine r_cv (as := [vi (-2)]) (st := []) C X I_X6_refuse l_X6_76 (c_X6_refuse (-2)) (by decide) (Nat.le_of_ble_eq_true rfl) List.prefix_rfl List.prefix_rfl rfl rfl (Nat.le_of_ble_eq_true rfl) rfl (dx dX6_odds 7 rfl) ?_
    intro rh3 h3 hph3 kkh3
    obtain ⟨rfl, gh3⟩ := hph3
    have oh3 : Ow h3 v u w g B z κ := o.ref gh3
    have fh3 : Fr 0 63 h h3 := gh3.mono (by omega) (by omega)
    have kh3 : xK h3 = xK h := kkh3
    refine r_i2l C (dx dX6_odds 8 rfl) ?_
    have eA : odaA v m = (-2).toInt64 := by simp [odaA, c1]
    exact F.2.1 _ _ _ _ rfl (dx dX6_odds 9 rfl) kh3 (show some (vl ((-2).toInt64)) = some (vl (odaA v m)) ∧ OwX h h3 v w g B z κ from by rw [eA]; exact ⟨rfl, ⟨_, oh3⟩, fh3⟩)
set_option maxHeartbeats 4000000 in
theorem x2_day {l : Launch} {h : Hp} {v u w : Vg} {g : Sg} {B : Nat → Int32} {z : Nat} {κ : Int32} (o : Ow h v u w g B z κ) (hg : GOk g)  : Ms l yX6_day cX6_day 1 (some .long) 20 [vr 6 0] h (xK h) (fun r h' => r = some (vl (dayC v)) ∧ OwX h h' v w g B z κ) := by
  refine Ms.of (by decide) (Nat.le_of_ble_eq_true rfl) (fun G C X F => ?_)
  have C : Cx G cX6_day 1 RX6 := C
  show Rr G 0 [(0, vr 6 0)] [] h
  have bP := o.pv.bP
  have bM := o.pv.bM
  have bN := o.pv.bN
  have bz := o.pt.2.2
  refine r_aload_n C (dx dX6_day 0 rfl) rfl ?_
  refine g_X6_29 C (dx dX6_day 1 rfl) ?_
  refine r_aload_n C (dx dX6_day 2 rfl) rfl ?_
  refine g_X6_10 C (dx dX6_day 3 rfl) ?_
  refine r_cv (as := [vr 5 1]) (st := []) C X I_X4_worthOfDay l_X6_244 (c_X4_worthOfDay o.pv (by omega)) (by decide) (Nat.le_of_ble_eq_true rfl) List.prefix_rfl List.prefix_rfl rfl rfl (Nat.le_of_ble_eq_true rfl) rfl (dx dX6_day 4 rfl) ?_
  intro rh1 h1 hph1 kkh1
  obtain ⟨rfl, gh1⟩ := hph1
  have oh1 : Ow h1 v u w g B z κ := o.tm (gh1.mono (by omega) (by omega))
  have fh1 : Fr 0 63 h h1 := gh1.mono (by omega) (by omega)
  have kh1 : xK h1 = xK h := kkh1
  exact F.2.1 _ _ _ _ rfl (dx dX6_day 5 rfl) kh1 (show some (vl (dayC v)) = some (vl (dayC v)) ∧ OwX h h1 v w g B z κ from by exact ⟨rfl, ⟨_, oh1⟩, fh1⟩)
set_option maxHeartbeats 4000000 in
theorem x2_never {l : Launch} {h : Hp} {v u w : Vg} {g : Sg} {B : Nat → Int32} {z : Nat} {κ : Int32} (o : Ow h v u w g B z κ) (hg : GOk g) (b : Bool) : Ms l yX6_never cX6_never 3 (some .int) 20 [vr 6 0, vi (b2i b)] h (xK h) (fun r h' => r = some (vi (nevA v b)) ∧ OwX h h' v w g B z κ) := by
  refine Ms.of (by decide) (Nat.le_of_ble_eq_true rfl) (fun G C X F => ?_)
  have C : Cx G cX6_never 3 RX6 := C
  show Rr G 0 [(0, vr 6 0), (1, vi (b2i b))] [] h
  have bP := o.pv.bP
  have bM := o.pv.bM
  have bN := o.pv.bN
  have bz := o.pt.2.2
  refine r_aload_n C (dx dX6_never 0 rfl) rfl ?_
  refine g_X6_10 C (dx dX6_never 1 rfl) ?_
  refine r_aload_n C (dx dX6_never 2 rfl) rfl ?_
  refine g_X6_10 C (dx dX6_never 3 rfl) ?_
  refine r_cvP (as := []) (st := [vr 5 1]) (v := vi (full (vN v))) C X I_X5_allPeople l_X6_282 (c_X5_allPeople o.pv) (by decide) (Nat.le_of_ble_eq_true rfl) List.prefix_rfl rfl rfl (Nat.le_of_ble_eq_true rfl) rfl (dx dX6_never 4 rfl) ?_
  refine r_cvP (as := [vi (full (vN v))]) (st := []) (v := vi (hasP v (full (vN v)))) C X I_X5_partsWith l_X6_223 (c_X5_partsWith o.pv _) (by decide) (Nat.le_of_ble_eq_true rfl) List.prefix_rfl rfl rfl (Nat.le_of_ble_eq_true rfl) rfl (dx dX6_never 5 rfl) ?_
  refine r_istore_n (ls' := [(0, vr 6 0), (1, vi (b2i b)), (2, vi (hasP v (full (vN v))))]) C (dx dX6_never 6 rfl) (by decide) [1, 2, 0] rfl ?_
  refine r_iload_n C (dx dX6_never 7 rfl) rfl ?_
  refine rb_ne (b := b) (tgt := 31) C (dx dX6_never 8 rfl) (by decide) (fun c1 => ?_) (fun c1 => ?_)
  ·
    have c1 : b = true := c1
    refine r_aload_n C (dx dX6_never 17 rfl) rfl ?_
    refine g_X6_10 C (dx dX6_never 18 rfl) ?_
    refine r_cvP (as := []) (st := []) (v := vi (full (vM v))) C X I_X5_allMachines l_X6_306 (c_X5_allMachines o.pv) (by decide) (Nat.le_of_ble_eq_true rfl) List.prefix_rfl rfl rfl (Nat.le_of_ble_eq_true rfl) rfl (dx dX6_never 19 rfl) ?_
    refine r_aload_n C (dx dX6_never 20 rfl) rfl ?_
    refine g_X6_10 C (dx dX6_never 21 rfl) ?_
    refine r_iload_n C (dx dX6_never 22 rfl) rfl ?_
    refine r_cvP (as := [vi (hasP v (full (vN v)))]) (st := [vi (full (vM v))]) (v := vi (macW v (hasP v (full (vN v))))) C X I_X5_machinesWith l_X6_309 (c_X5_machinesWith o.pv _) (by decide) (Nat.le_of_ble_eq_true rfl) List.prefix_rfl rfl rfl (Nat.le_of_ble_eq_true rfl) rfl (dx dX6_never 23 rfl) ?_
    refine r_iconst (v := -1) C (dx dX6_never 24 rfl) rfl ?_
    refine r_ixor C (dx dX6_never 25 rfl) ?_
    refine r_iand C (dx dX6_never 26 rfl) ?_
    have eA : nevA v b = (full (vM v)) &&& ((macW v (hasP v (full (vN v)))) ^^^ (-1)) := by simp [nevA, c1]
    exact F.1 _ _ _ _ _ rfl rfl (dx dX6_never 27 rfl) rfl (show some (vi ((full (vM v)) &&& ((macW v (hasP v (full (vN v)))) ^^^ (-1)))) = some (vi (nevA v b)) ∧ OwX h h v w g B z κ from by rw [eA]; exact ⟨rfl, ⟨_, o⟩, Fr.rf⟩)
  ·
    have c1 : b = false := c1
    refine r_aload_n C (dx dX6_never 9 rfl) rfl ?_
    refine g_X6_10 C (dx dX6_never 10 rfl) ?_
    refine r_cvP (as := []) (st := []) (v := vi (full (vP v))) C X I_X5_allParts l_X6_296 (c_X5_allParts o.pv) (by decide) (Nat.le_of_ble_eq_true rfl) List.prefix_rfl rfl rfl (Nat.le_of_ble_eq_true rfl) rfl (dx dX6_never 11 rfl) ?_
    refine r_iload_n C (dx dX6_never 12 rfl) rfl ?_
    refine r_iconst (v := -1) C (dx dX6_never 13 rfl) rfl ?_
    refine r_ixor C (dx dX6_never 14 rfl) ?_
    refine r_iand C (dx dX6_never 15 rfl) ?_
    have eA : nevA v b = (full (vP v)) &&& ((hasP v (full (vN v))) ^^^ (-1)) := by simp [nevA, c1]
    exact F.1 _ _ _ _ _ rfl rfl (dx dX6_never 16 rfl) rfl (show some (vi ((full (vP v)) &&& ((hasP v (full (vN v))) ^^^ (-1)))) = some (vi (nevA v b)) ∧ OwX h h v w g B z κ from by rw [eA]; exact ⟨rfl, ⟨_, o⟩, Fr.rf⟩)
set_option maxHeartbeats 4000000 in
theorem x2_alone {l : Launch} {h : Hp} {v u w : Vg} {g : Sg} {B : Nat → Int32} {z : Nat} {κ : Int32} (o : Ow h v u w g B z κ) (hg : GOk g) (o1 : Int32) : Ms l yX6_alone cX6_alone 2 (some .int) 20 [vr 6 0, vi o1] h (xK h) (fun r h' => r = some (vi (aloA v o1)) ∧ OwX h h' v w g B z κ) := by
  refine Ms.of (by decide) (Nat.le_of_ble_eq_true rfl) (fun G C X F => ?_)
  have C : Cx G cX6_alone 2 RX6 := C
  show Rr G 0 [(0, vr 6 0), (1, vi o1)] [] h
  have bP := o.pv.bP
  have bM := o.pv.bM
  have bN := o.pv.bN
  have bz := o.pt.2.2
  refine r_aload_n C (dx dX6_alone 0 rfl) rfl ?_
  refine g_X6_10 C (dx dX6_alone 1 rfl) ?_
  refine r_iload_n C (dx dX6_alone 2 rfl) rfl ?_
  refine r_cvP (as := [vi o1]) (st := []) (v := vi (b2i (inR o1 (vN v)))) C X I_X5_isOne l_X6_160 (c_X5_isOne o.pv _) (by decide) (Nat.le_of_ble_eq_true rfl) List.prefix_rfl rfl rfl (Nat.le_of_ble_eq_true rfl) rfl (dx dX6_alone 3 rfl) ?_
  refine rb_ne (b := inR o1 (vN v)) (tgt := 18) C (dx dX6_alone 4 rfl) (by decide) (fun c1 => ?_) (fun c1 => ?_)
  ·
    have c1 : (inR o1 (vN v)) = true := c1
    refine r_aload_n C (dx dX6_alone 9 rfl) rfl ?_
    refine g_X6_10 C (dx dX6_alone 10 rfl) ?_
    refine r_aload_n C (dx dX6_alone 11 rfl) rfl ?_
    refine g_X6_10 C (dx dX6_alone 12 rfl) ?_
    refine r_iload_n C (dx dX6_alone 13 rfl) rfl ?_
    refine r_cvP (as := [vi o1]) (st := [vr 5 1]) (v := vi (ownP v o1)) C X I_X5_partsOfOne l_X6_312 (c_X5_partsOfOne o.pv _) (by decide) (Nat.le_of_ble_eq_true rfl) List.prefix_rfl rfl rfl (Nat.le_of_ble_eq_true rfl) rfl (dx dX6_alone 14 rfl) ?_
    refine r_cvP (as := [vi (ownP v o1)]) (st := []) (v := vi (macW v (ownP v o1))) C X I_X5_machinesWith l_X6_309 (c_X5_machinesWith o.pv _) (by decide) (Nat.le_of_ble_eq_true rfl) List.prefix_rfl rfl rfl (Nat.le_of_ble_eq_true rfl) rfl (dx dX6_alone 15 rfl) ?_
    have eA : aloA v o1 = macW v (ownP v o1) := by simp [aloA, c1]
    exact F.1 _ _ _ _ _ rfl rfl (dx dX6_alone 16 rfl) rfl (show some (vi (macW v (ownP v o1))) = some (vi (aloA v o1)) ∧ OwX h h v w g B z κ from by rw [eA]; exact ⟨rfl, ⟨_, o⟩, Fr.rf⟩)
  ·
    have c1 : (inR o1 (vN v)) = false := c1
    refine r_aload_n C (dx dX6_alone 5 rfl) rfl ?_
    refine r_bipush (v := -2) C (dx dX6_alone 6 rfl) rfl ?_
    refine r_cv (as := [vi (-2)]) (st := []) C X I_X6_refuse l_X6_76 (c_X6_refuse (-2)) (by decide) (Nat.le_of_ble_eq_true rfl) List.prefix_rfl List.prefix_rfl rfl rfl (Nat.le_of_ble_eq_true rfl) rfl (dx dX6_alone 7 rfl) ?_
    intro rh2 h2 hph2 kkh2
    obtain ⟨rfl, gh2⟩ := hph2
    have oh2 : Ow h2 v u w g B z κ := o.ref gh2
    have fh2 : Fr 0 63 h h2 := gh2.mono (by omega) (by omega)
    have kh2 : xK h2 = xK h := kkh2
    have eA : aloA v o1 = -2 := by simp [aloA, c1]
    exact F.1 _ _ _ _ _ rfl rfl (dx dX6_alone 8 rfl) kh2 (show some (vi (-2)) = some (vi (aloA v o1)) ∧ OwX h h2 v w g B z κ from by rw [eA]; exact ⟨rfl, ⟨_, oh2⟩, fh2⟩)
set_option maxHeartbeats 4000000 in
theorem x2_room {l : Launch} {h : Hp} {v u w : Vg} {g : Sg} {B : Nat → Int32} {z : Nat} {κ : Int32} (o : Ow h v u w g B z κ) (hg : GOk g)  : Ms l yX6_room cX6_room 3 (some .int) 20 [vr 6 0] h (xK h) (fun r h' => r = some (vi (romS v (vN v))) ∧ OwX h h' v w g B z κ) := by
  refine Ms.of (by decide) (Nat.le_of_ble_eq_true rfl) (fun G C X F => ?_)
  have C : Cx G cX6_room 3 RX6 := C
  show Rr G 0 [(0, vr 6 0)] [] h
  have bP := o.pv.bP
  have bM := o.pv.bM
  have bN := o.pv.bN
  have bz := o.pt.2.2
  refine r_iconst (v := nI 0) C (dx dX6_room 0 rfl) rfl ?_
  refine r_istore_n (ls' := [(0, vr 6 0), (1, vi (nI 0))]) C (dx dX6_room 1 rfl) (by decide) [1, 0] rfl ?_
  refine r_iconst (v := nI 0) C (dx dX6_room 2 rfl) rfl ?_
  refine r_istore_n (ls' := [(0, vr 6 0), (1, vi (nI 0)), (2, vi (nI 0))]) C (dx dX6_room 3 rfl) (by decide) [1, 2, 0] rfl ?_
  refine loopU (Φ := fun p => Rr G 4 [(0, vr 6 0), (1, vi (romS v p)), (2, vi (nI p))] [] h) (N := vN v) ?_ ?_ 0 (Nat.zero_le _)
  ·
    skip
    refine r_iload_n C (dx dX6_room 4 rfl) rfl ?_
    refine r_aload_n C (dx dX6_room 5 rfl) rfl ?_
    refine g_X6_10 C (dx dX6_room 6 rfl) ?_
    refine g_X6_154 (x := nI (vN v)) C (dx dX6_room 7 rfl) o.pv.eN ?_
    refine rn_ge (a := vN v) (b := vN v) (tgt := 42) C (by omega) (by omega) (dx dX6_room 8 rfl) (by decide) (fun c1 => ?_) (fun c1 => ?_)
    · first
      | (omega; done)
      | (
          have c1 : vN v ≤ vN v := c1
          refine r_iload_n C (dx dX6_room 24 rfl) rfl ?_
          exact F.1 _ _ _ _ _ rfl rfl (dx dX6_room 25 rfl) rfl (show some (vi (romS v (vN v))) = some (vi (romS v (vN v))) ∧ OwX h h v w g B z κ from by exact ⟨rfl, ⟨_, o⟩, Fr.rf⟩))
    · first
      | (omega; done)
  ·
    intro p hp ih
    refine r_iload_n C (dx dX6_room 4 rfl) rfl ?_
    refine r_aload_n C (dx dX6_room 5 rfl) rfl ?_
    refine g_X6_10 C (dx dX6_room 6 rfl) ?_
    refine g_X6_154 (x := nI (vN v)) C (dx dX6_room 7 rfl) o.pv.eN ?_
    refine rn_ge (a := p) (b := vN v) (tgt := 42) C (by omega) (by omega) (dx dX6_room 8 rfl) (by decide) (fun c2 => ?_) (fun c2 => ?_)
    · first
      | (omega; done)
      | (
          have c2 : vN v ≤ p := c2
          refine r_iload_n C (dx dX6_room 24 rfl) rfl ?_
          have eA : romS v (vN v) = romS v p := by (first | rfl | (congr 1; omega))
          exact F.1 _ _ _ _ _ rfl rfl (dx dX6_room 25 rfl) rfl (show some (vi (romS v p)) = some (vi (romS v (vN v))) ∧ OwX h h v w g B z κ from by rw [eA]; exact ⟨rfl, ⟨_, o⟩, Fr.rf⟩))
    · first
      | (omega; done)
      | (
          have c2 : p < vN v := c2
          refine r_iload_n C (dx dX6_room 9 rfl) rfl ?_
          refine r_aload_n C (dx dX6_room 10 rfl) rfl ?_
          refine g_X6_10 C (dx dX6_room 11 rfl) ?_
          refine g_X6_211 C (dx dX6_room 12 rfl) ?_
          refine r_iload_n C (dx dX6_room 13 rfl) rfl ?_
          refine r_iald (j := p) (x := vF v 4 p) C rfl rfl (by decide) rfl (by omega) (dx dX6_room 14 rfl) (o.pv.e4 (by omega)) ?_
          refine r_aload_n C (dx dX6_room 15 rfl) rfl ?_
          refine g_X6_10 C (dx dX6_room 16 rfl) ?_
          refine r_iload_n C (dx dX6_room 17 rfl) rfl ?_
          refine r_cvP (as := [vi (nI p)]) (st := [vi (vF v 4 p), vi (romS v p)]) (v := vi (nI (pcs v (nI p) (vP v)))) C X I_X5_piecesOf l_X6_214 (c_X5_piecesOf o.pv _) (by decide) (Nat.le_of_ble_eq_true rfl) List.prefix_rfl rfl rfl (Nat.le_of_ble_eq_true rfl) rfl (dx dX6_room 18 rfl) ?_
          refine r_isub C (dx dX6_room 19 rfl) ?_
          refine r_iadd C (dx dX6_room 20 rfl) ?_
          refine r_istore_n (ls' := [(0, vr 6 0), (1, vi ((romS v p) + ((vF v 4 p) - (nI (pcs v (nI p) (vP v)))))), (2, vi (nI p))]) C (dx dX6_room 21 rfl) (by decide) [1, 0, 2] rfl ?_
          refine rn_iinc (a := p) (k := 1) (ls' := [(0, vr 6 0), (1, vi ((romS v p) + ((vF v 4 p) - (nI (pcs v (nI p) (vP v)))))), (2, vi (nI (p + 1)))]) C (dx dX6_room 22 rfl) rfl rfl (by decide) [1, 2, 0] rfl ?_
          refine r_goto (tgt := 4) C (dx dX6_room 23 rfl) (by decide) ?_
          have e9 : (romS v p) + ((vF v 4 p) - (nI (pcs v (nI p) (vP v)))) = romS v (p + 1) := by first | rfl | simp [romS]
          rw [e9]
          exact ih)
set_option maxHeartbeats 4000000 in
theorem x2_both {l : Launch} {h : Hp} {v u w : Vg} {g : Sg} {B : Nat → Int32} {z : Nat} {κ : Int32} (o : Ow h v u w g B z κ) (hg : GOk g) (m n x : Int32) : Ms l yX6_both cX6_both 4 (some .int) 20 [vr 6 0, vi m, vi n, vi x] h (xK h) (fun r h' => r = some (vi (botA v m n x)) ∧ OwX h h' v w g B z κ) := by
  refine Ms.of (by decide) (Nat.le_of_ble_eq_true rfl) (fun G C X F => ?_)
  have C : Cx G cX6_both 4 RX6 := C
  show Rr G 0 [(0, vr 6 0), (1, vi m), (2, vi n), (3, vi x)] [] h
  have bP := o.pv.bP
  have bM := o.pv.bM
  have bN := o.pv.bN
  have bz := o.pt.2.2
  refine r_aload_n C (dx dX6_both 0 rfl) rfl ?_
  refine g_X6_10 C (dx dX6_both 1 rfl) ?_
  refine r_iload_n C (dx dX6_both 2 rfl) rfl ?_
  refine r_iload_n C (dx dX6_both 3 rfl) rfl ?_
  refine r_cvP (as := [vi m, vi n]) (st := []) (v := vi (b2i (pairV v m n))) C X I_X5_isPair l_X6_229 (c_X5_isPair o.pv _ _) (by decide) (Nat.le_of_ble_eq_true rfl) List.prefix_rfl rfl rfl (Nat.le_of_ble_eq_true rfl) rfl (dx dX6_both 4 rfl) ?_
  refine rb_eq (b := pairV v m n) (tgt := 23) C (dx dX6_both 5 rfl) (by decide) (fun c1 => ?_) (fun c1 => ?_)
  ·
    have c1 : (pairV v m n) = false := c1
    refine r_aload_n C (dx dX6_both 11 rfl) rfl ?_
    refine r_bipush (v := -2) C (dx dX6_both 12 rfl) rfl ?_
    refine r_cv (as := [vi (-2)]) (st := []) C X I_X6_refuse l_X6_76 (c_X6_refuse (-2)) (by decide) (Nat.le_of_ble_eq_true rfl) List.prefix_rfl List.prefix_rfl rfl rfl (Nat.le_of_ble_eq_true rfl) rfl (dx dX6_both 13 rfl) ?_
    intro rh2 h2 hph2 kkh2
    obtain ⟨rfl, gh2⟩ := hph2
    have oh2 : Ow h2 v u w g B z κ := o.ref gh2
    have fh2 : Fr 0 63 h h2 := gh2.mono (by omega) (by omega)
    have kh2 : xK h2 = xK h := kkh2
    have eA : botA v m n x = -2 := by simp [botA, c1]
    exact F.1 _ _ _ _ _ rfl rfl (dx dX6_both 14 rfl) kh2 (show some (vi (-2)) = some (vi (botA v m n x)) ∧ OwX h h2 v w g B z κ from by rw [eA]; exact ⟨rfl, ⟨_, oh2⟩, fh2⟩)
  ·
    have c1 : (pairV v m n) = true := c1
    obtain ⟨μ, hμ, ξ, hξ, hne, rfl, rfl⟩ := pair_ex c1
    refine r_aload_n C (dx dX6_both 6 rfl) rfl ?_
    refine g_X6_10 C (dx dX6_both 7 rfl) ?_
    refine r_iload_n C (dx dX6_both 8 rfl) rfl ?_
    refine r_cvP (as := [vi x]) (st := []) (v := vi (b2i (inR x (2 ^ vN v)))) C X I_X5_isSetOfPeople l_X6_220 (c_X5_isSetOfPeople o.pv _) (by decide) (Nat.le_of_ble_eq_true rfl) List.prefix_rfl rfl rfl (Nat.le_of_ble_eq_true rfl) rfl (dx dX6_both 9 rfl) ?_
    refine rb_ne (b := inR x (2 ^ vN v)) (tgt := 30) C (dx dX6_both 10 rfl) (by decide) (fun c3 => ?_) (fun c3 => ?_)
    ·
      have c3 : (inR x (2 ^ vN v)) = true := c3
      refine r_aload_n C (dx dX6_both 15 rfl) rfl ?_
      refine g_X6_10 C (dx dX6_both 16 rfl) ?_
      refine r_iload_n C (dx dX6_both 17 rfl) rfl ?_
      refine r_iload_n C (dx dX6_both 18 rfl) rfl ?_
      refine r_iload_n C (dx dX6_both 19 rfl) rfl ?_
      refine r_cvP (as := [vi (nI μ), vi (nI ξ), vi x]) (st := []) (v := vi (b2i (bothW v μ ξ x))) C X I_X5_areBothWorked l_X6_232 (c_X5_areBothWorked o.pv _ _ _ (by omega) (by omega) (by omega)) (by decide) (Nat.le_of_ble_eq_true rfl) List.prefix_rfl rfl rfl (Nat.le_of_ble_eq_true rfl) rfl (dx dX6_both 20 rfl) ?_
      refine rb_eq (b := bothW v μ ξ x) (tgt := 47) C (dx dX6_both 21 rfl) (by decide) (fun c4 => ?_) (fun c4 => ?_)
      ·
        have c4 : (bothW v μ ξ x) = false := c4
        refine r_iconst (v := nI 0) C (dx dX6_both 24 rfl) rfl ?_
        have eA : botA v (nI μ) (nI ξ) x = nI 0 := by simp [botA, clN (show μ < 2 ^ 31 by omega), clN (show ξ < 2 ^ 31 by omega), c1, c3, c4]
        exact F.1 _ _ _ _ _ rfl rfl (dx dX6_both 25 rfl) rfl (show some (vi (nI 0)) = some (vi (botA v (nI μ) (nI ξ) x)) ∧ OwX h h v w g B z κ from by rw [eA]; exact ⟨rfl, ⟨_, o⟩, Fr.rf⟩)
      ·
        have c4 : (bothW v μ ξ x) = true := c4
        refine r_iconst (v := nI 1) C (dx dX6_both 22 rfl) rfl ?_
        refine r_goto (tgt := 48) C (dx dX6_both 23 rfl) (by decide) ?_
        have eA : botA v (nI μ) (nI ξ) x = nI 1 := by simp [botA, clN (show μ < 2 ^ 31 by omega), clN (show ξ < 2 ^ 31 by omega), c1, c3, c4]
        exact F.1 _ _ _ _ _ rfl rfl (dx dX6_both 25 rfl) rfl (show some (vi (nI 1)) = some (vi (botA v (nI μ) (nI ξ) x)) ∧ OwX h h v w g B z κ from by rw [eA]; exact ⟨rfl, ⟨_, o⟩, Fr.rf⟩)
    ·
      have c3 : (inR x (2 ^ vN v)) = false := c3
      refine r_aload_n C (dx dX6_both 11 rfl) rfl ?_
      refine r_bipush (v := -2) C (dx dX6_both 12 rfl) rfl ?_
      refine r_cv (as := [vi (-2)]) (st := []) C X I_X6_refuse l_X6_76 (c_X6_refuse (-2)) (by decide) (Nat.le_of_ble_eq_true rfl) List.prefix_rfl List.prefix_rfl rfl rfl (Nat.le_of_ble_eq_true rfl) rfl (dx dX6_both 13 rfl) ?_
      intro rh5 h5 hph5 kkh5
      obtain ⟨rfl, gh5⟩ := hph5
      have oh5 : Ow h5 v u w g B z κ := o.ref gh5
      have fh5 : Fr 0 63 h h5 := gh5.mono (by omega) (by omega)
      have kh5 : xK h5 = xK h := kkh5
      have eA : botA v (nI μ) (nI ξ) x = -2 := by simp [botA, clN (show μ < 2 ^ 31 by omega), clN (show ξ < 2 ^ 31 by omega), c1, c3]
      exact F.1 _ _ _ _ _ rfl rfl (dx dX6_both 14 rfl) kh5 (show some (vi (-2)) = some (vi (botA v (nI μ) (nI ξ) x)) ∧ OwX h h5 v w g B z κ from by rw [eA]; exact ⟨rfl, ⟨_, oh5⟩, fh5⟩)
set_option maxHeartbeats 4000000 in
theorem x2_atOnce {l : Launch} {h : Hp} {v u w : Vg} {g : Sg} {B : Nat → Int32} {z : Nat} {κ : Int32} (o : Ow h v u w g B z κ) (hg : GOk g) (m n : Int32) : Ms l yX6_atOnce cX6_atOnce 3 (some .long) 20 [vr 6 0, vi m, vi n] h (xK h) (fun r h' => r = some (vl (atoA v m n)) ∧ OwX h h' v w g B z κ) := by
  refine Ms.of (by decide) (Nat.le_of_ble_eq_true rfl) (fun G C X F => ?_)
  have C : Cx G cX6_atOnce 3 RX6 := C
  show Rr G 0 [(0, vr 6 0), (1, vi m), (2, vi n)] [] h
  have bP := o.pv.bP
  have bM := o.pv.bM
  have bN := o.pv.bN
  have bz := o.pt.2.2
  refine r_aload_n C (dx dX6_atOnce 0 rfl) rfl ?_
  refine g_X6_10 C (dx dX6_atOnce 1 rfl) ?_
  refine r_iload_n C (dx dX6_atOnce 2 rfl) rfl ?_
  refine r_iload_n C (dx dX6_atOnce 3 rfl) rfl ?_
  refine r_cvP (as := [vi m, vi n]) (st := []) (v := vi (b2i (pairV v m n))) C X I_X5_isPair l_X6_229 (c_X5_isPair o.pv _ _) (by decide) (Nat.le_of_ble_eq_true rfl) List.prefix_rfl rfl rfl (Nat.le_of_ble_eq_true rfl) rfl (dx dX6_atOnce 4 rfl) ?_
  refine rb_ne (b := pairV v m n) (tgt := 20) C (dx dX6_atOnce 5 rfl) (by decide) (fun c1 => ?_) (fun c1 => ?_)
  ·
    have c1 : (pairV v m n) = true := c1
    obtain ⟨μ, hμ, ξ, hξ, hne, rfl, rfl⟩ := pair_ex c1
    refine r_aload_n C (dx dX6_atOnce 11 rfl) rfl ?_
    refine g_X6_29 C (dx dX6_atOnce 12 rfl) ?_
    refine r_aload_n C (dx dX6_atOnce 13 rfl) rfl ?_
    refine g_X6_10 C (dx dX6_atOnce 14 rfl) ?_
    refine r_iload_n C (dx dX6_atOnce 15 rfl) rfl ?_
    refine r_iload_n C (dx dX6_atOnce 16 rfl) rfl ?_
    refine r_cv (as := [vr 5 1, vi (nI μ), vi (nI ξ)]) (st := []) C X I_X4_oddsOfPair l_X6_240 (c_X4_oddsOfPair o.pv (by omega) μ ξ (by omega) (by omega) hne) (by decide) (Nat.le_of_ble_eq_true rfl) List.prefix_rfl List.prefix_rfl rfl rfl (Nat.le_of_ble_eq_true rfl) rfl (dx dX6_atOnce 17 rfl) ?_
    intro rh2 h2 hph2 kkh2
    obtain ⟨rfl, gh2⟩ := hph2
    have oh2 : Ow h2 v u w g B z κ := o.tm (gh2.mono (by omega) (by omega))
    have fh2 : Fr 0 63 h h2 := gh2.mono (by omega) (by omega)
    have kh2 : xK h2 = xK h := kkh2
    have eA : atoA v (nI μ) (nI ξ) = oddsPC v μ ξ := by simp [atoA, clN (show μ < 2 ^ 31 by omega), clN (show ξ < 2 ^ 31 by omega), c1]
    exact F.2.1 _ _ _ _ rfl (dx dX6_atOnce 18 rfl) kh2 (show some (vl (oddsPC v μ ξ)) = some (vl (atoA v (nI μ) (nI ξ))) ∧ OwX h h2 v w g B z κ from by rw [eA]; exact ⟨rfl, ⟨_, oh2⟩, fh2⟩)
  ·
    have c1 : (pairV v m n) = false := c1
    refine r_aload_n C (dx dX6_atOnce 6 rfl) rfl ?_
    refine r_bipush (v := -2) C (dx dX6_atOnce 7 rfl) rfl ?_
    refine r_cv (as := [vi (-2)]) (st := []) C X I_X6_refuse l_X6_76 (c_X6_refuse (-2)) (by decide) (Nat.le_of_ble_eq_true rfl) List.prefix_rfl List.prefix_rfl rfl rfl (Nat.le_of_ble_eq_true rfl) rfl (dx dX6_atOnce 8 rfl) ?_
    intro rh3 h3 hph3 kkh3
    obtain ⟨rfl, gh3⟩ := hph3
    have oh3 : Ow h3 v u w g B z κ := o.ref gh3
    have fh3 : Fr 0 63 h h3 := gh3.mono (by omega) (by omega)
    have kh3 : xK h3 = xK h := kkh3
    refine r_i2l C (dx dX6_atOnce 9 rfl) ?_
    have eA : atoA v m n = (-2).toInt64 := by simp [atoA, c1]
    exact F.2.1 _ _ _ _ rfl (dx dX6_atOnce 10 rfl) kh3 (show some (vl ((-2).toInt64)) = some (vl (atoA v m n)) ∧ OwX h h3 v w g B z κ from by rw [eA]; exact ⟨rfl, ⟨_, oh3⟩, fh3⟩)

