/-! PART 57c: the class: more of what it answers, by functions of the village -/
def powA (v : Vg) (m o : Int32) : Int32 := if (inR m (vM v) && inR o (vN v)) = true then turnV v m.toNatClampNeg o.toNatClampNeg else -2
def beaA (v : Vg) (m : Int32) : Int32 := if inR m (vM v) = true then (if bornV v m.toNatClampNeg = -1 then -5 else bornV v m.toNatClampNeg) else -2
def safA (v : Vg) (k : Int32) : Int32 := if inR k 9 = true then bset (fun m => decide (k ≤ bornV v m)) (vM v) else -2
/-- the first of the smallest sets of which something is so; -1: of none -/
def wiF (P : Nat → Bool) : Nat → Int32
  | 0 => -1
  | n + 1 => if P n = true ∧ (wiF P n = -1 ∨ pcn n < pcn (wiF P n).toNatClampNeg) then nI n else wiF P n
theorem wiF_y {P : Nat → Bool} {n : Nat} (h : P n = true) (h2 : wiF P n = -1 ∨ pcn n < pcn (wiF P n).toNatClampNeg) : wiF P (n + 1) = nI n := by simp only [wiF]; rw [if_pos ⟨h, h2⟩]
theorem wiF_1 {P : Nat → Bool} {n : Nat} (h : P n = false) : wiF P (n + 1) = wiF P n := by simp only [wiF]; rw [if_neg (fun q => by rw [h] at q; exact absurd q.1 (by decide))]
theorem wiF_2 {P : Nat → Bool} {n : Nat} (h : ¬ wiF P n = -1) (h2 : pcn (wiF P n).toNatClampNeg ≤ pcn n) : wiF P (n + 1) = wiF P n := by simp only [wiF]; rw [if_neg (fun q => q.2.elim h (fun z => by omega))]
theorem wiF_m (P : Nat → Bool) : ∀ n, n ≤ 4096 → wiF P n = -1 ∨ ∃ a, a < 4096 ∧ wiF P n = nI a
  | 0, _ => Or.inl rfl
  | n + 1, h => by
    simp only [wiF]
    split
    · exact Or.inr ⟨n, by omega, rfl⟩
    · exact wiF_m P n (by omega)
def wtA (v : Vg) (m : Int32) : Int32 := if inR m (vM v) = true then (if wiF (fun s => wkW v m (gat v s (vN v))) (2 ^ vN v) = -1 then -5 else wiF (fun s => wkW v m (gat v s (vN v))) (2 ^ vN v)) else -2
/-- the first of the smallest sets below n of which something is so; z: of none -/
def lsF (P : Nat → Bool) (z : Nat) : Nat → Nat
  | 0 => z
  | n + 1 => if pcn n < pcn (lsF P z n) ∧ P n = true then n else lsF P z n
theorem lsF_y {P : Nat → Bool} {z n : Nat} (h : pcn n < pcn (lsF P z n)) (h2 : P n = true) : lsF P z (n + 1) = n := by simp only [lsF]; rw [if_pos ⟨h, h2⟩]
theorem lsF_1 {P : Nat → Bool} {z n : Nat} (h : pcn (lsF P z n) ≤ pcn n) : lsF P z (n + 1) = lsF P z n := by simp only [lsF]; rw [if_neg (fun q => by omega)]
theorem lsF_2 {P : Nat → Bool} {z n : Nat} (h : P n = false) : lsF P z (n + 1) = lsF P z n := by simp only [lsF]; rw [if_neg (fun q => by rw [h] at q; exact absurd q.2 (by decide))]
theorem lsF_lt (P : Nat → Bool) {z : Nat} (hz : z < 4096) : ∀ n, n ≤ 4096 → lsF P z n < 4096
  | 0, _ => hz
  | n + 1, h => by
    simp only [lsF]
    split
    · omega
    · exact lsF_lt P hz n (by omega)
def leaP (v : Vg) (s : Nat) : Bool := decide (macW v (gat v (dif (2 ^ vN v - 1) s) (vN v)) = 0)
def leaA (v : Vg) : Int32 := nI (lsF (leaP v) (2 ^ vN v - 1) (2 ^ vN v - 1))
def stoP (v : Vg) (s : Nat) : Bool := decide (macW v (hasP v (full (vN v)) &&& (nI s ^^^ -1)) = 0)
def stoA (v : Vg) : Int32 := nI (lsF (stoP v) (2 ^ vP v - 1) (2 ^ vP v - 1))
theorem leaP_y {v : Vg} {S s : Nat} (hS : S = 2 ^ vN v) (h : decide (¬ macW v (gat v (dif (S - 1) s) (vN v)) = 0) = false) : leaP v s = true := by subst hS; exact decide_eq_true (Classical.not_not.mp (of_decide_eq_false h))
theorem leaP_n {v : Vg} {S s : Nat} (hS : S = 2 ^ vN v) (h : decide (¬ macW v (gat v (dif (S - 1) s) (vN v)) = 0) = true) : leaP v s = false := by subst hS; exact decide_eq_false (of_decide_eq_true h)
theorem stoP_y {v : Vg} {s : Nat} (h : decide (¬ macW v (hasP v (full (vN v)) &&& (nI s ^^^ -1)) = 0) = false) : stoP v s = true := decide_eq_true (Classical.not_not.mp (of_decide_eq_false h))
theorem stoP_n {v : Vg} {s : Nat} (h : decide (¬ macW v (hasP v (full (vN v)) &&& (nI s ^^^ -1)) = 0) = true) : stoP v s = false := decide_eq_false (of_decide_eq_true h)
def kyC (v : Vg) : Nat → Int32 × Int32
  | 0 => (nI 0, -1)
  | n + 1 => if (kyC v n).2 < nI (touch v (ownP v (nI n))) then (nI n, nI (touch v (ownP v (nI n)))) else kyC v n
def keyA (v : Vg) : Int32 := if nI (vN v) = 0 then -5 else (kyC v (vN v)).1
/-- the first below n of which something isn't so -/
def jdF (P : Nat → Bool) : Nat → Int32
  | 0 => -1
  | n + 1 => if jdF P n = -1 then (if P n = true then -1 else nI n) else jdF P n
theorem jdF_no {P : Nat → Bool} : ∀ n, (∀ d, d < n → P d = true) → jdF P n = -1
  | 0, _ => rfl
  | n + 1, h => by simp only [jdF]; rw [if_pos (jdF_no n (fun d hd => h d (by omega))), if_pos (h n (by omega))]
theorem jdF_at {P : Nat → Bool} {p : Nat} (h : ∀ d, d < p → P d = true) (h2 : P p = false) (hp : p < 2 ^ 31) : ∀ n, p < n → jdF P n = nI p
  | 0, q => absurd q (by omega)
  | n + 1, q => by
    simp only [jdF]
    by_cases e : p = n
    · subst e; rw [if_pos (jdF_no p h), if_neg (by rw [h2]; decide)]
    · rw [jdF_at h h2 hp n (by omega), if_neg (nI_nm1 hp)]
theorem jd_s {P : Nat → Bool} {p : Nat} (h : ∀ d, d < p → P d = true) (h2 : P p = true) : ∀ d, d < p + 1 → P d = true := fun d hd => by
  by_cases e : d = p
  · subst e; exact h2
  · exact h d (by omega)
def judA (v : Vg) (g : Sg) (m s n : Int32) : Int32 := if inR m (vM v) = true then (if tfV g s n = 0 then jdF (fun d => wkW v m (tdP v g s (nI d))) n.toNatClampNeg else tfV g s n) else -2
def tdS (v : Vg) (g : Sg) (s : Int32) : Nat → Int32
  | 0 => nI 0
  | n + 1 => tdS v g s n + worthS v (tdP v g s (nI n))
def tolA (v : Vg) (g : Sg) (s n : Int32) : Int32 := if tfV g s n = 0 then tdS v g s n.toNatClampNeg else tfV g s n
def fiC (v : Vg) : Nat → Int32 × Int64
  | 0 => (nI 0, -1)
  | n + 1 => if worthT v n ≤ (fiC v n).2 then fiC v n else (nI n, worthT v n)
def firA (v : Vg) : Int32 := if nI (vN v) = 0 then -5 else (fiC v (vN v)).1
def idlA (v : Vg) : Int32 := bset (fun o => decide (worthT v o = 0)) (vN v)
set_option maxHeartbeats 4000000 in
theorem x2_power {l : Launch} {h : Hp} {v u w : Vg} {g : Sg} {B : Nat → Int32} {z : Nat} {κ : Int32} (o : Ow h v u w g B z κ) (hg : GOk g) (m o1 : Int32) : Ms l yX6_power cX6_power 3 (some .int) 20 [vr 6 0, vi m, vi o1] h (xK h) (fun r h' => r = some (vi (powA v m o1)) ∧ OwX h h' v w g B z κ) := by
  refine Ms.of (by decide) (Nat.le_of_ble_eq_true rfl) (fun G C X F => ?_)
  have C : Cx G cX6_power 3 RX6 := C
  show Rr G 0 [(0, vr 6 0), (1, vi m), (2, vi o1)] [] h
  have bP := o.pv.bP
  have bM := o.pv.bM
  have bN := o.pv.bN
  have bz := o.pt.2.2
  refine r_aload_n C (dx dX6_power 0 rfl) rfl ?_
  refine g_X6_10 C (dx dX6_power 1 rfl) ?_
  refine r_iload_n C (dx dX6_power 2 rfl) rfl ?_
  refine r_cvP (as := [vi m]) (st := []) (v := vi (b2i (inR m (vM v)))) C X I_X5_isMachine l_X6_202 (c_X5_isMachine o.pv _) (by decide) (Nat.le_of_ble_eq_true rfl) List.prefix_rfl rfl rfl (Nat.le_of_ble_eq_true rfl) rfl (dx dX6_power 3 rfl) ?_
  refine rb_eq (b := inR m (vM v)) (tgt := 22) C (dx dX6_power 4 rfl) (by decide) (fun c1 => ?_) (fun c1 => ?_)
  ·
    have c1 : (inR m (vM v)) = false := c1
    refine r_aload_n C (dx dX6_power 10 rfl) rfl ?_
    refine r_bipush (v := -2) C (dx dX6_power 11 rfl) rfl ?_
    refine r_cv (as := [vi (-2)]) (st := []) C X I_X6_refuse l_X6_76 (c_X6_refuse (-2)) (by decide) (Nat.le_of_ble_eq_true rfl) List.prefix_rfl List.prefix_rfl rfl rfl (Nat.le_of_ble_eq_true rfl) rfl (dx dX6_power 12 rfl) ?_
    intro rh2 h2 hph2 kkh2
    obtain ⟨rfl, gh2⟩ := hph2
    have oh2 : Ow h2 v u w g B z κ := o.ref gh2
    have fh2 : Fr 0 63 h h2 := gh2.mono (by omega) (by omega)
    have kh2 : xK h2 = xK h := kkh2
    have eA : powA v m o1 = -2 := by simp [powA, c1]
    exact F.1 _ _ _ _ _ rfl rfl (dx dX6_power 13 rfl) kh2 (show some (vi (-2)) = some (vi (powA v m o1)) ∧ OwX h h2 v w g B z κ from by rw [eA]; exact ⟨rfl, ⟨_, oh2⟩, fh2⟩)
  ·
    have c1 : (inR m (vM v)) = true := c1
    obtain ⟨μ, hμ, rfl⟩ := inR_ex (n := (vM v)) (by omega) c1
    refine r_aload_n C (dx dX6_power 5 rfl) rfl ?_
    refine g_X6_10 C (dx dX6_power 6 rfl) ?_
    refine r_iload_n C (dx dX6_power 7 rfl) rfl ?_
    refine r_cvP (as := [vi o1]) (st := []) (v := vi (b2i (inR o1 (vN v)))) C X I_X5_isOne l_X6_160 (c_X5_isOne o.pv _) (by decide) (Nat.le_of_ble_eq_true rfl) List.prefix_rfl rfl rfl (Nat.le_of_ble_eq_true rfl) rfl (dx dX6_power 8 rfl) ?_
    refine rb_ne (b := inR o1 (vN v)) (tgt := 29) C (dx dX6_power 9 rfl) (by decide) (fun c3 => ?_) (fun c3 => ?_)
    ·
      have c3 : (inR o1 (vN v)) = true := c3
      obtain ⟨o19, ho19, rfl⟩ := inR_ex (n := (vN v)) (by omega) c3
      refine r_aload_n C (dx dX6_power 14 rfl) rfl ?_
      refine g_X6_29 C (dx dX6_power 15 rfl) ?_
      refine r_aload_n C (dx dX6_power 16 rfl) rfl ?_
      refine g_X6_10 C (dx dX6_power 17 rfl) ?_
      refine r_cv (as := [vr 5 1]) (st := []) C X I_X4_gather l_X6_248 (c_X4_gather o.pv (by omega)) (by decide) (Nat.le_of_ble_eq_true rfl) List.prefix_rfl List.prefix_rfl rfl rfl (Nat.le_of_ble_eq_true rfl) rfl (dx dX6_power 18 rfl) ?_
      intro rh4 h4 hph4 kkh4
      obtain ⟨rfl, qh4, gh4⟩ := hph4
      have oh4 : Ow h4 v u w g B z κ := o.tm (gh4.mono (by omega) (by omega))
      have fh4 : Fr 0 63 h h4 := gh4.mono (by omega) (by omega)
      have kh4 : xK h4 = xK h := kkh4
      refine r_aload_n C (dx dX6_power 19 rfl) rfl ?_
      refine g_X6_29 C (dx dX6_power 20 rfl) ?_
      refine r_aload_n C (dx dX6_power 21 rfl) rfl ?_
      refine g_X6_10 C (dx dX6_power 22 rfl) ?_
      refine r_iload_n C (dx dX6_power 23 rfl) rfl ?_
      refine r_iload_n C (dx dX6_power 24 rfl) rfl ?_
      refine r_cvP (as := [vr 5 1, vi (nI μ), vi (nI o19)]) (st := []) (v := vi (turnV v μ o19)) C X I_X4_turnsOn l_X6_251 (c_X4_turnsOn oh4.pv (by omega) μ o19 (by omega) (by omega) qh4 oh4.po) (by decide) (Nat.le_of_ble_eq_true rfl) (pfx_eq kh4) rfl rfl (Nat.le_of_ble_eq_true rfl) rfl (dx dX6_power 25 rfl) ?_
      have eA : powA v (nI μ) (nI o19) = turnV v μ o19 := by simp [powA, clN (show μ < 2 ^ 31 by omega), clN (show o19 < 2 ^ 31 by omega), c1, c3]
      exact F.1 _ _ _ _ _ rfl rfl (dx dX6_power 26 rfl) kh4 (show some (vi (turnV v μ o19)) = some (vi (powA v (nI μ) (nI o19))) ∧ OwX h h4 v w g B z κ from by rw [eA]; exact ⟨rfl, ⟨_, oh4⟩, fh4⟩)
    ·
      have c3 : (inR o1 (vN v)) = false := c3
      refine r_aload_n C (dx dX6_power 10 rfl) rfl ?_
      refine r_bipush (v := -2) C (dx dX6_power 11 rfl) rfl ?_
      refine r_cv (as := [vi (-2)]) (st := []) C X I_X6_refuse l_X6_76 (c_X6_refuse (-2)) (by decide) (Nat.le_of_ble_eq_true rfl) List.prefix_rfl List.prefix_rfl rfl rfl (Nat.le_of_ble_eq_true rfl) rfl (dx dX6_power 12 rfl) ?_
      intro rh5 h5 hph5 kkh5
      obtain ⟨rfl, gh5⟩ := hph5
      have oh5 : Ow h5 v u w g B z κ := o.ref gh5
      have fh5 : Fr 0 63 h h5 := gh5.mono (by omega) (by omega)
      have kh5 : xK h5 = xK h := kkh5
      have eA : powA v (nI μ) o1 = -2 := by simp [powA, clN (show μ < 2 ^ 31 by omega), c1, c3]
      exact F.1 _ _ _ _ _ rfl rfl (dx dX6_power 13 rfl) kh5 (show some (vi (-2)) = some (vi (powA v (nI μ) o1)) ∧ OwX h h5 v w g B z κ from by rw [eA]; exact ⟨rfl, ⟨_, oh5⟩, fh5⟩)
set_option maxHeartbeats 4000000 in
theorem x2_first {l : Launch} {h : Hp} {v u w : Vg} {g : Sg} {B : Nat → Int32} {z : Nat} {κ : Int32} (o : Ow h v u w g B z κ) (hg : GOk g)  : Ms l yX6_first cX6_first 7 (some .int) 20 [vr 6 0] h (xK h) (fun r h' => r = some (vi (firA v)) ∧ OwX h h' v w g B z κ) := by
  refine Ms.of (by decide) (Nat.le_of_ble_eq_true rfl) (fun G C X F => ?_)
  have C : Cx G cX6_first 7 RX6 := C
  show Rr G 0 [(0, vr 6 0)] [] h
  have bP := o.pv.bP
  have bM := o.pv.bM
  have bN := o.pv.bN
  have bz := o.pt.2.2
  refine r_aload_n C (dx dX6_first 0 rfl) rfl ?_
  refine g_X6_10 C (dx dX6_first 1 rfl) ?_
  refine g_X6_154 (x := nI (vN v)) C (dx dX6_first 2 rfl) o.pv.eN ?_
  refine r_if_ne (tgt := 17) C (dx dX6_first 3 rfl) (by decide) (fun c1 => ?_) (fun c1 => ?_)
  ·
    have c1 : ¬ nI (vN v) = 0 := c1
    refine r_aload_n C (dx dX6_first 8 rfl) rfl ?_
    refine g_X6_29 C (dx dX6_first 9 rfl) ?_
    refine r_aload_n C (dx dX6_first 10 rfl) rfl ?_
    refine g_X6_10 C (dx dX6_first 11 rfl) ?_
    refine r_cv (as := [vr 5 1]) (st := []) C X I_X4_gather l_X6_248 (c_X4_gather o.pv (by omega)) (by decide) (Nat.le_of_ble_eq_true rfl) List.prefix_rfl List.prefix_rfl rfl rfl (Nat.le_of_ble_eq_true rfl) rfl (dx dX6_first 12 rfl) ?_
    intro rh2 h2 hph2 kkh2
    obtain ⟨rfl, qh2, gh2⟩ := hph2
    have oh2 : Ow h2 v u w g B z κ := o.tm (gh2.mono (by omega) (by omega))
    have fh2 : Fr 0 63 h h2 := gh2.mono (by omega) (by omega)
    have kh2 : xK h2 = xK h := kkh2
    refine r_iconst (v := nI 0) C (dx dX6_first 13 rfl) rfl ?_
    refine r_istore_n (ls' := [(0, vr 6 0), (1, vi (nI 0))]) C (dx dX6_first 14 rfl) (by decide) [1, 0] rfl ?_
    refine r_ldc2 C n_X6_255 (dx dX6_first 15 rfl) ?_
    refine r_lstore_n (ls' := [(0, vr 6 0), (1, vi (nI 0)), (2, vl (-1))]) C (dx dX6_first 16 rfl) (by decide) [1, 2, 0] rfl ?_
    refine r_iconst (v := nI 0) C (dx dX6_first 17 rfl) rfl ?_
    refine r_istore (ls' := [(0, vr 6 0), (1, vi (nI 0)), (2, vl (-1)), (4, vi (nI 0))]) C (dx dX6_first 18 rfl) (by decide) [1, 2, 3, 0] rfl ?_
    refine loopU (Φ := fun p => Rr G 37 [(0, vr 6 0), (1, vi ((fiC v p).1)), (2, vl ((fiC v p).2)), (4, vi (nI p))] [] h2) (N := vN v) ?_ ?_ 0 (Nat.zero_le _)
    ·
      skip
      refine r_iload C (dx dX6_first 19 rfl) rfl ?_
      refine r_aload_n C (dx dX6_first 20 rfl) rfl ?_
      refine g_X6_10 C (dx dX6_first 21 rfl) ?_
      refine g_X6_154 (x := nI (vN v)) C (dx dX6_first 22 rfl) oh2.pv.eN ?_
      refine rn_ge (a := (vN v)) (b := vN v) (tgt := 83) C (by omega) (by omega) (dx dX6_first 23 rfl) (by decide) (fun c3 => ?_) (fun c3 => ?_)
      · first
        | (omega; done)
        | (
            have c3 : vN v ≤ (vN v) := c3
            refine r_iload_n C (dx dX6_first 41 rfl) rfl ?_
            have eA : firA v = (fiC v (vN v)).1 := by simp [firA, c1, c3]
            exact F.1 _ _ _ _ _ rfl rfl (dx dX6_first 42 rfl) kh2 (show some (vi ((fiC v (vN v)).1)) = some (vi (firA v)) ∧ OwX h h2 v w g B z κ from by rw [eA]; exact ⟨rfl, ⟨_, oh2⟩, fh2⟩))
      · first
        | (omega; done)
    ·
      intro p hp ih
      refine r_iload C (dx dX6_first 19 rfl) rfl ?_
      refine r_aload_n C (dx dX6_first 20 rfl) rfl ?_
      refine g_X6_10 C (dx dX6_first 21 rfl) ?_
      refine g_X6_154 (x := nI (vN v)) C (dx dX6_first 22 rfl) oh2.pv.eN ?_
      refine rn_ge (a := p) (b := vN v) (tgt := 83) C (by omega) (by omega) (dx dX6_first 23 rfl) (by decide) (fun c5 => ?_) (fun c5 => ?_)
      · first
        | (omega; done)
        | (
            have c5 : vN v ≤ p := c5
            refine r_iload_n C (dx dX6_first 41 rfl) rfl ?_
            have eA : firA v = (fiC v p).1 := by simp [firA, c1, c5]
            exact F.1 _ _ _ _ _ rfl rfl (dx dX6_first 42 rfl) kh2 (show some (vi ((fiC v p).1)) = some (vi (firA v)) ∧ OwX h h2 v w g B z κ from by rw [eA]; exact ⟨rfl, ⟨_, oh2⟩, fh2⟩))
      · first
        | (omega; done)
        | (
            have c5 : p < vN v := c5
            refine r_aload_n C (dx dX6_first 24 rfl) rfl ?_
            refine g_X6_29 C (dx dX6_first 25 rfl) ?_
            refine r_aload_n C (dx dX6_first 26 rfl) rfl ?_
            refine g_X6_10 C (dx dX6_first 27 rfl) ?_
            refine r_iload C (dx dX6_first 28 rfl) rfl ?_
            refine r_cvP (as := [vr 5 1, vi (nI p)]) (st := []) (v := vl (worthT v p)) C X I_X4_worthOfTurnsOn l_X6_257 (c_X4_worthOfTurnsOn oh2.pv (by omega) p (by omega) qh2 oh2.po) (by decide) (Nat.le_of_ble_eq_true rfl) (pfx_eq kh2) rfl rfl (Nat.le_of_ble_eq_true rfl) rfl (dx dX6_first 29 rfl) ?_
            refine r_lstore (ls' := [(0, vr 6 0), (1, vi ((fiC v p).1)), (2, vl ((fiC v p).2)), (4, vi (nI p)), (5, vl (worthT v p))]) C (dx dX6_first 30 rfl) (by decide) [1, 2, 3, 4, 0] rfl ?_
            refine r_lload C (dx dX6_first 31 rfl) rfl ?_
            refine r_lload_n C (dx dX6_first 32 rfl) rfl ?_
            refine r_lcmp C (dx dX6_first 33 rfl) ?_
            refine r_if_le (tgt := 77) C (dx dX6_first 34 rfl) (by decide) (fun c6 => ?_) (fun c6 => ?_)
            ·
              have c6 : worthT v p ≤ (fiC v p).2 := (lg_cmp_le _ _).mp c6
              refine rn_iinc (a := p) (k := 1) (ls' := [(0, vr 6 0), (1, vi ((fiC v p).1)), (2, vl ((fiC v p).2)), (4, vi (nI (p + 1))), (5, vl (worthT v p))]) C (dx dX6_first 39 rfl) rfl rfl (by decide) [1, 2, 3, 0, 4] rfl ?_
              refine r_goto (tgt := 37) C (dx dX6_first 40 rfl) (by decide) ?_
              have e91 : ((fiC v p).1) = ((fiC v (p + 1)).1) := by (simp only [fiC]; rw [if_pos c6])
              have e92 : ((fiC v p).2) = ((fiC v (p + 1)).2) := by (simp only [fiC]; rw [if_pos c6])
              refine r_weak C [0, 1, 2, 3] rfl ?_
              rw [e92, e91]
              exact ih
            ·
              have c6 : ¬ (worthT v p ≤ (fiC v p).2) := fun q => c6 ((lg_cmp_le _ _).mpr q)
              refine r_lload C (dx dX6_first 35 rfl) rfl ?_
              refine r_lstore_n (ls' := [(0, vr 6 0), (1, vi ((fiC v p).1)), (2, vl (worthT v p)), (4, vi (nI p)), (5, vl (worthT v p))]) C (dx dX6_first 36 rfl) (by decide) [1, 2, 0, 3, 4] rfl ?_
              refine r_iload C (dx dX6_first 37 rfl) rfl ?_
              refine r_istore_n (ls' := [(0, vr 6 0), (1, vi (nI p)), (2, vl (worthT v p)), (4, vi (nI p)), (5, vl (worthT v p))]) C (dx dX6_first 38 rfl) (by decide) [1, 0, 2, 3, 4] rfl ?_
              refine rn_iinc (a := p) (k := 1) (ls' := [(0, vr 6 0), (1, vi (nI p)), (2, vl (worthT v p)), (4, vi (nI (p + 1))), (5, vl (worthT v p))]) C (dx dX6_first 39 rfl) rfl rfl (by decide) [1, 2, 3, 0, 4] rfl ?_
              refine r_goto (tgt := 37) C (dx dX6_first 40 rfl) (by decide) ?_
              have e91 : (nI p) = ((fiC v (p + 1)).1) := by (simp only [fiC]; rw [if_neg c6])
              have e92 : (worthT v p) = ((fiC v (p + 1)).2) := by (simp only [fiC]; rw [if_neg c6])
              refine r_weak C [0, 1, 2, 3] rfl ?_
              rw [e92, e91]
              exact ih)
  ·
    have c1 : nI (vN v) = 0 := c1
    refine r_aload_n C (dx dX6_first 4 rfl) rfl ?_
    refine r_bipush (v := -5) C (dx dX6_first 5 rfl) rfl ?_
    refine r_cv (as := [vi (-5)]) (st := []) C X I_X6_refuse l_X6_76 (c_X6_refuse (-5)) (by decide) (Nat.le_of_ble_eq_true rfl) List.prefix_rfl List.prefix_rfl rfl rfl (Nat.le_of_ble_eq_true rfl) rfl (dx dX6_first 6 rfl) ?_
    intro rh7 h7 hph7 kkh7
    obtain ⟨rfl, gh7⟩ := hph7
    have oh7 : Ow h7 v u w g B z κ := o.ref gh7
    have fh7 : Fr 0 63 h h7 := gh7.mono (by omega) (by omega)
    have kh7 : xK h7 = xK h := kkh7
    have eA : firA v = -5 := by simp [firA, c1]
    exact F.1 _ _ _ _ _ rfl rfl (dx dX6_first 7 rfl) kh7 (show some (vi (-5)) = some (vi (firA v)) ∧ OwX h h7 v w g B z κ from by rw [eA]; exact ⟨rfl, ⟨_, oh7⟩, fh7⟩)
set_option maxHeartbeats 4000000 in
theorem x2_bears {l : Launch} {h : Hp} {v u w : Vg} {g : Sg} {B : Nat → Int32} {z : Nat} {κ : Int32} (o : Ow h v u w g B z κ) (hg : GOk g) (m : Int32) : Ms l yX6_bears cX6_bears 3 (some .int) 20 [vr 6 0, vi m] h (xK h) (fun r h' => r = some (vi (beaA v m)) ∧ OwX h h' v w g B z κ) := by
  refine Ms.of (by decide) (Nat.le_of_ble_eq_true rfl) (fun G C X F => ?_)
  have C : Cx G cX6_bears 3 RX6 := C
  show Rr G 0 [(0, vr 6 0), (1, vi m)] [] h
  have bP := o.pv.bP
  have bM := o.pv.bM
  have bN := o.pv.bN
  have bz := o.pt.2.2
  refine r_aload_n C (dx dX6_bears 0 rfl) rfl ?_
  refine g_X6_10 C (dx dX6_bears 1 rfl) ?_
  refine r_iload_n C (dx dX6_bears 2 rfl) rfl ?_
  refine r_cvP (as := [vi m]) (st := []) (v := vi (b2i (inR m (vM v)))) C X I_X5_isMachine l_X6_202 (c_X5_isMachine o.pv _) (by decide) (Nat.le_of_ble_eq_true rfl) List.prefix_rfl rfl rfl (Nat.le_of_ble_eq_true rfl) rfl (dx dX6_bears 3 rfl) ?_
  refine rb_ne (b := inR m (vM v)) (tgt := 18) C (dx dX6_bears 4 rfl) (by decide) (fun c1 => ?_) (fun c1 => ?_)
  ·
    have c1 : (inR m (vM v)) = true := c1
    obtain ⟨μ, hμ, rfl⟩ := inR_ex (n := (vM v)) (by omega) c1
    refine r_aload_n C (dx dX6_bears 9 rfl) rfl ?_
    refine g_X6_29 C (dx dX6_bears 10 rfl) ?_
    refine r_aload_n C (dx dX6_bears 11 rfl) rfl ?_
    refine g_X6_10 C (dx dX6_bears 12 rfl) ?_
    refine r_cv (as := [vr 5 1]) (st := []) C X I_X4_gather l_X6_248 (c_X4_gather o.pv (by omega)) (by decide) (Nat.le_of_ble_eq_true rfl) List.prefix_rfl List.prefix_rfl rfl rfl (Nat.le_of_ble_eq_true rfl) rfl (dx dX6_bears 13 rfl) ?_
    intro rh2 h2 hph2 kkh2
    obtain ⟨rfl, qh2, gh2⟩ := hph2
    have oh2 : Ow h2 v u w g B z κ := o.tm (gh2.mono (by omega) (by omega))
    have fh2 : Fr 0 63 h h2 := gh2.mono (by omega) (by omega)
    have kh2 : xK h2 = xK h := kkh2
    refine r_aload_n C (dx dX6_bears 14 rfl) rfl ?_
    refine g_X6_29 C (dx dX6_bears 15 rfl) ?_
    refine r_aload_n C (dx dX6_bears 16 rfl) rfl ?_
    refine g_X6_10 C (dx dX6_bears 17 rfl) ?_
    refine r_iload_n C (dx dX6_bears 18 rfl) rfl ?_
    refine r_cvP (as := [vr 5 1, vi (nI μ)]) (st := []) (v := vi (bornV v μ)) C X I_X4_bornBy l_X6_278 (c_X4_bornBy oh2.pv (by omega) μ qh2) (by decide) (Nat.le_of_ble_eq_true rfl) (pfx_eq kh2) rfl rfl (Nat.le_of_ble_eq_true rfl) rfl (dx dX6_bears 19 rfl) ?_
    refine r_istore_n (ls' := [(0, vr 6 0), (1, vi (nI μ)), (2, vi (bornV v μ))]) C (dx dX6_bears 20 rfl) (by decide) [1, 2, 0] rfl ?_
    refine r_iload_n C (dx dX6_bears 21 rfl) rfl ?_
    refine r_iconst (v := -1) C (dx dX6_bears 22 rfl) rfl ?_
    refine r_icmp_ne (tgt := 56) C (dx dX6_bears 23 rfl) (by decide) (fun c3 => ?_) (fun c3 => ?_)
    ·
      have c3 : ¬ bornV v μ = -1 := c3
      refine r_iload_n C (dx dX6_bears 28 rfl) rfl ?_
      have eA : beaA v (nI μ) = bornV v μ := by simp [beaA, clN (show μ < 2 ^ 31 by omega), c1, c3]
      exact F.1 _ _ _ _ _ rfl rfl (dx dX6_bears 29 rfl) kh2 (show some (vi (bornV v μ)) = some (vi (beaA v (nI μ))) ∧ OwX h h2 v w g B z κ from by rw [eA]; exact ⟨rfl, ⟨_, oh2⟩, fh2⟩)
    ·
      have c3 : bornV v μ = -1 := c3
      refine r_aload_n C (dx dX6_bears 24 rfl) rfl ?_
      refine r_bipush (v := -5) C (dx dX6_bears 25 rfl) rfl ?_
      refine r_cv (as := [vi (-5)]) (st := []) C X I_X6_refuse l_X6_76 (c_X6_refuse (-5)) (by decide) (Nat.le_of_ble_eq_true rfl) List.prefix_rfl (pfx_eq kh2) rfl rfl (Nat.le_of_ble_eq_true rfl) rfl (dx dX6_bears 26 rfl) ?_
      intro rh4 h4 hph4 kkh4
      obtain ⟨rfl, gh4⟩ := hph4
      have oh4 : Ow h4 v u w g B z κ := oh2.ref gh4
      have fh4 : Fr 0 63 h h4 := fh2.tr (gh4.mono (by omega) (by omega))
      have kh4 : xK h4 = xK h := (kkh4).trans kh2
      refine r_goto (tgt := 57) C (dx dX6_bears 27 rfl) (by decide) ?_
      have eA : beaA v (nI μ) = -5 := by simp [beaA, clN (show μ < 2 ^ 31 by omega), c1, c3]
      exact F.1 _ _ _ _ _ rfl rfl (dx dX6_bears 29 rfl) kh4 (show some (vi (-5)) = some (vi (beaA v (nI μ))) ∧ OwX h h4 v w g B z κ from by rw [eA]; exact ⟨rfl, ⟨_, oh4⟩, fh4⟩)
  ·
    have c1 : (inR m (vM v)) = false := c1
    refine r_aload_n C (dx dX6_bears 5 rfl) rfl ?_
    refine r_bipush (v := -2) C (dx dX6_bears 6 rfl) rfl ?_
    refine r_cv (as := [vi (-2)]) (st := []) C X I_X6_refuse l_X6_76 (c_X6_refuse (-2)) (by decide) (Nat.le_of_ble_eq_true rfl) List.prefix_rfl List.prefix_rfl rfl rfl (Nat.le_of_ble_eq_true rfl) rfl (dx dX6_bears 7 rfl) ?_
    intro rh5 h5 hph5 kkh5
    obtain ⟨rfl, gh5⟩ := hph5
    have oh5 : Ow h5 v u w g B z κ := o.ref gh5
    have fh5 : Fr 0 63 h h5 := gh5.mono (by omega) (by omega)
    have kh5 : xK h5 = xK h := kkh5
    have eA : beaA v m = -2 := by simp [beaA, c1]
    exact F.1 _ _ _ _ _ rfl rfl (dx dX6_bears 8 rfl) kh5 (show some (vi (-2)) = some (vi (beaA v m)) ∧ OwX h h5 v w g B z κ from by rw [eA]; exact ⟨rfl, ⟨_, oh5⟩, fh5⟩)
set_option maxHeartbeats 4000000 in
theorem x2_least {l : Launch} {h : Hp} {v u w : Vg} {g : Sg} {B : Nat → Int32} {z : Nat} {κ : Int32} (o : Ow h v u w g B z κ) (hg : GOk g)  : Ms l yX6_least cX6_least 4 (some .int) 20 [vr 6 0] h (xK h) (fun r h' => r = some (vi (leaA v)) ∧ OwX h h' v w g B z κ) := by
  refine Ms.of (by decide) (Nat.le_of_ble_eq_true rfl) (fun G C X F => ?_)
  have C : Cx G cX6_least 4 RX6 := C
  show Rr G 0 [(0, vr 6 0)] [] h
  have bP := o.pv.bP
  have bM := o.pv.bM
  have bN := o.pv.bN
  have bz := o.pt.2.2
  obtain ⟨S, hS⟩ : ∃ S, S = 2 ^ vN v := ⟨_, rfl⟩
  have p8 := pow8 bN
  rw [← hS] at p8
  refine r_aload_n C (dx dX6_least 0 rfl) rfl ?_
  refine g_X6_29 C (dx dX6_least 1 rfl) ?_
  refine r_aload_n C (dx dX6_least 2 rfl) rfl ?_
  refine g_X6_10 C (dx dX6_least 3 rfl) ?_
  refine r_cv (as := [vr 5 1]) (st := []) C X I_X4_gather l_X6_248 (c_X4_gather o.pv (by omega)) (by decide) (Nat.le_of_ble_eq_true rfl) List.prefix_rfl List.prefix_rfl rfl rfl (Nat.le_of_ble_eq_true rfl) rfl (dx dX6_least 4 rfl) ?_
  intro rh1 h1 hph1 kkh1
  obtain ⟨rfl, qh1, gh1⟩ := hph1
  have oh1 : Ow h1 v u w g B z κ := o.tm (gh1.mono (by omega) (by omega))
  have fh1 : Fr 0 63 h h1 := gh1.mono (by omega) (by omega)
  have kh1 : xK h1 = xK h := kkh1
  rw [← hS] at qh1
  refine r_aload_n C (dx dX6_least 5 rfl) rfl ?_
  refine g_X6_10 C (dx dX6_least 6 rfl) ?_
  refine r_cvP (as := []) (st := []) (v := vi (nI (S - 1))) C X I_X5_allPeople l_X6_282 (c_allS oh1.pv hS) (by decide) (Nat.le_of_ble_eq_true rfl) (pfx_eq kh1) rfl rfl (Nat.le_of_ble_eq_true rfl) rfl (dx dX6_least 7 rfl) ?_
  refine r_istore_n (ls' := [(0, vr 6 0), (1, vi (nI (S - 1)))]) C (dx dX6_least 8 rfl) (by decide) [1, 0] rfl ?_
  refine r_iload_n C (dx dX6_least 9 rfl) rfl ?_
  refine r_istore_n (ls' := [(0, vr 6 0), (1, vi (nI (S - 1))), (2, vi (nI (S - 1)))]) C (dx dX6_least 10 rfl) (by decide) [1, 2, 0] rfl ?_
  refine r_iconst (v := nI 0) C (dx dX6_least 11 rfl) rfl ?_
  refine r_istore_n (ls' := [(0, vr 6 0), (1, vi (nI (S - 1))), (2, vi (nI (S - 1))), (3, vi (nI 0))]) C (dx dX6_least 12 rfl) (by decide) [1, 2, 3, 0] rfl ?_
  refine loopU (Φ := fun p => Rr G 23 [(0, vr 6 0), (1, vi (nI (S - 1))), (2, vi (nI (lsF (leaP v) (S - 1) p))), (3, vi (nI p))] [] h1) (N := (S - 1)) ?_ ?_ 0 (Nat.zero_le _)
  ·
    skip
    refine r_iload_n C (dx dX6_least 13 rfl) rfl ?_
    refine r_iload_n C (dx dX6_least 14 rfl) rfl ?_
    refine rn_ge (a := (S - 1)) (b := S - 1) (tgt := 69) C (by omega) (by omega) (dx dX6_least 15 rfl) (by decide) (fun c2 => ?_) (fun c2 => ?_)
    · first
      | (omega; done)
      | (
          have c2 : S - 1 ≤ (S - 1) := c2
          refine r_iload_n C (dx dX6_least 37 rfl) rfl ?_
          have eA : leaA v = nI (lsF (leaP v) (S - 1) (S - 1)) := by (unfold leaA; rw [hS])
          exact F.1 _ _ _ _ _ rfl rfl (dx dX6_least 38 rfl) kh1 (show some (vi (nI (lsF (leaP v) (S - 1) (S - 1)))) = some (vi (leaA v)) ∧ OwX h h1 v w g B z κ from by rw [eA]; exact ⟨rfl, ⟨_, oh1⟩, fh1⟩))
    · first
      | (omega; done)
      | (
          have c2 : (S - 1) < S - 1 := c2
          refine r_iload_n C (dx dX6_least 16 rfl) rfl ?_
          have bc3 := pcn_12 (a := (S - 1)) (by omega)
          refine r_csP (as := [vi (nI (S - 1))]) (st := []) (v := vi (nI (pcn (S - 1)))) C X I_J6_bitCount_0f7a4 l_X6_285 (c_J6_bitCount_0f7a4 (a := (S - 1)) (by omega)) (by decide) (Nat.le_of_ble_eq_true rfl) (pfx_eq kh1) (Nat.le_of_ble_eq_true rfl) rfl (dx dX6_least 17 rfl) ?_
          refine r_iload_n C (dx dX6_least 18 rfl) rfl ?_
          have bl4 := lsF_lt (leaP v) (z := S - 1) (by omega) (S - 1) (by omega)
          have bc5 := pcn_12 (a := lsF (leaP v) (S - 1) (S - 1)) (by omega)
          refine r_csP (as := [vi (nI (lsF (leaP v) (S - 1) (S - 1)))]) (st := [vi (nI (pcn (S - 1)))]) (v := vi (nI (pcn (lsF (leaP v) (S - 1) (S - 1))))) C X I_J6_bitCount_0f7a4 l_X6_285 (c_J6_bitCount_0f7a4 (a := lsF (leaP v) (S - 1) (S - 1)) (by omega)) (by decide) (Nat.le_of_ble_eq_true rfl) (pfx_eq kh1) (Nat.le_of_ble_eq_true rfl) rfl (dx dX6_least 19 rfl) ?_
          refine rn_ge (a := pcn (S - 1)) (b := pcn (lsF (leaP v) (S - 1) (S - 1))) (tgt := 63) C (by omega) (by omega) (dx dX6_least 20 rfl) (by decide) (fun c6 => ?_) (fun c6 => ?_)
          · first
            | (omega; done)
          · first
            | (omega; done))
  ·
    intro p hp ih
    refine r_iload_n C (dx dX6_least 13 rfl) rfl ?_
    refine r_iload_n C (dx dX6_least 14 rfl) rfl ?_
    refine rn_ge (a := p) (b := S - 1) (tgt := 69) C (by omega) (by omega) (dx dX6_least 15 rfl) (by decide) (fun c8 => ?_) (fun c8 => ?_)
    · first
      | (omega; done)
      | (
          have c8 : S - 1 ≤ p := c8
          refine r_iload_n C (dx dX6_least 37 rfl) rfl ?_
          have eA : leaA v = nI (lsF (leaP v) (S - 1) p) := by (unfold leaA; rw [hS])
          exact F.1 _ _ _ _ _ rfl rfl (dx dX6_least 38 rfl) kh1 (show some (vi (nI (lsF (leaP v) (S - 1) p))) = some (vi (leaA v)) ∧ OwX h h1 v w g B z κ from by rw [eA]; exact ⟨rfl, ⟨_, oh1⟩, fh1⟩))
    · first
      | (omega; done)
      | (
          have c8 : p < S - 1 := c8
          refine r_iload_n C (dx dX6_least 16 rfl) rfl ?_
          have bc9 := pcn_12 (a := p) (by omega)
          refine r_csP (as := [vi (nI p)]) (st := []) (v := vi (nI (pcn p))) C X I_J6_bitCount_0f7a4 l_X6_285 (c_J6_bitCount_0f7a4 (a := p) (by omega)) (by decide) (Nat.le_of_ble_eq_true rfl) (pfx_eq kh1) (Nat.le_of_ble_eq_true rfl) rfl (dx dX6_least 17 rfl) ?_
          refine r_iload_n C (dx dX6_least 18 rfl) rfl ?_
          have bl10 := lsF_lt (leaP v) (z := S - 1) (by omega) p (by omega)
          have bc11 := pcn_12 (a := lsF (leaP v) (S - 1) p) (by omega)
          refine r_csP (as := [vi (nI (lsF (leaP v) (S - 1) p))]) (st := [vi (nI (pcn p))]) (v := vi (nI (pcn (lsF (leaP v) (S - 1) p)))) C X I_J6_bitCount_0f7a4 l_X6_285 (c_J6_bitCount_0f7a4 (a := lsF (leaP v) (S - 1) p) (by omega)) (by decide) (Nat.le_of_ble_eq_true rfl) (pfx_eq kh1) (Nat.le_of_ble_eq_true rfl) rfl (dx dX6_least 19 rfl) ?_
          refine rn_ge (a := pcn p) (b := pcn (lsF (leaP v) (S - 1) p)) (tgt := 63) C (by omega) (by omega) (dx dX6_least 20 rfl) (by decide) (fun c12 => ?_) (fun c12 => ?_)
          · first
            | (omega; done)
            | (
                have c12 : pcn (lsF (leaP v) (S - 1) p) ≤ pcn p := c12
                refine rn_iinc (a := p) (k := 1) (ls' := [(0, vr 6 0), (1, vi (nI (S - 1))), (2, vi (nI (lsF (leaP v) (S - 1) p))), (3, vi (nI (p + 1)))]) C (dx dX6_least 35 rfl) rfl rfl (by decide) [1, 2, 3, 0] rfl ?_
                refine r_goto (tgt := 23) C (dx dX6_least 36 rfl) (by decide) ?_
                have e92 : (nI (lsF (leaP v) (S - 1) p)) = (nI (lsF (leaP v) (S - 1) (p + 1))) := by rw [lsF_1 (by omega)]
                rw [e92]
                exact ih)
          · first
            | (omega; done)
            | (
                have c12 : pcn p < pcn (lsF (leaP v) (S - 1) p) := c12
                refine r_aload_n C (dx dX6_least 21 rfl) rfl ?_
                refine g_X6_10 C (dx dX6_least 22 rfl) ?_
                refine r_aload_n C (dx dX6_least 23 rfl) rfl ?_
                refine g_X6_29 C (dx dX6_least 24 rfl) ?_
                refine r_iload_n C (dx dX6_least 25 rfl) rfl ?_
                refine r_iload_n C (dx dX6_least 26 rfl) rfl ?_
                refine r_iconst (v := -1) C (dx dX6_least 27 rfl) rfl ?_
                refine r_ixor C (dx dX6_least 28 rfl) ?_
                refine r_iand C (dx dX6_least 29 rfl) ?_
                rw [nI_dif (by omega)]
                refine r_cvP (as := [vi (nI (dif (S - 1) p))]) (st := [vr 5 1]) (v := vi (gat v (dif (S - 1) p) (vN v))) C X I_X4_partsOf l_X6_290 (c_partsG qh1 (by omega) (a := dif (S - 1) p) (Nat.lt_of_le_of_lt (dif_le _ _) (by omega))) (by decide) (Nat.le_of_ble_eq_true rfl) (pfx_eq kh1) rfl rfl (Nat.le_of_ble_eq_true rfl) rfl (dx dX6_least 30 rfl) ?_
                refine r_cvP (as := [vi (gat v (dif (S - 1) p) (vN v))]) (st := []) (v := vi (b2i (decide (¬ macW v (gat v (dif (S - 1) p) (vN v)) = 0)))) C X I_X5_isAnyWorkedWith l_X6_293 (c_X5_isAnyWorkedWith oh1.pv _) (by decide) (Nat.le_of_ble_eq_true rfl) (pfx_eq kh1) rfl rfl (Nat.le_of_ble_eq_true rfl) rfl (dx dX6_least 31 rfl) ?_
                refine rb_ne (b := decide (¬ macW v (gat v (dif (S - 1) p) (vN v)) = 0)) (tgt := 63) C (dx dX6_least 32 rfl) (by decide) (fun c13 => ?_) (fun c13 => ?_)
                ·
                  have c13 : (decide (¬ macW v (gat v (dif (S - 1) p) (vN v)) = 0)) = true := c13
                  refine rn_iinc (a := p) (k := 1) (ls' := [(0, vr 6 0), (1, vi (nI (S - 1))), (2, vi (nI (lsF (leaP v) (S - 1) p))), (3, vi (nI (p + 1)))]) C (dx dX6_least 35 rfl) rfl rfl (by decide) [1, 2, 3, 0] rfl ?_
                  refine r_goto (tgt := 23) C (dx dX6_least 36 rfl) (by decide) ?_
                  have e92 : (nI (lsF (leaP v) (S - 1) p)) = (nI (lsF (leaP v) (S - 1) (p + 1))) := by rw [lsF_2 (leaP_n hS c13)]
                  rw [e92]
                  exact ih
                ·
                  have c13 : (decide (¬ macW v (gat v (dif (S - 1) p) (vN v)) = 0)) = false := c13
                  refine r_iload_n C (dx dX6_least 33 rfl) rfl ?_
                  refine r_istore_n (ls' := [(0, vr 6 0), (1, vi (nI (S - 1))), (2, vi (nI p)), (3, vi (nI p))]) C (dx dX6_least 34 rfl) (by decide) [1, 2, 0, 3] rfl ?_
                  refine rn_iinc (a := p) (k := 1) (ls' := [(0, vr 6 0), (1, vi (nI (S - 1))), (2, vi (nI p)), (3, vi (nI (p + 1)))]) C (dx dX6_least 35 rfl) rfl rfl (by decide) [1, 2, 3, 0] rfl ?_
                  refine r_goto (tgt := 23) C (dx dX6_least 36 rfl) (by decide) ?_
                  have e92 : (nI p) = (nI (lsF (leaP v) (S - 1) (p + 1))) := by rw [lsF_y (by omega) (leaP_y hS c13)]
                  rw [e92]
                  exact ih))
set_option maxHeartbeats 4000000 in
theorem x2_with {l : Launch} {h : Hp} {v u w : Vg} {g : Sg} {B : Nat → Int32} {z : Nat} {κ : Int32} (o : Ow h v u w g B z κ) (hg : GOk g) (m : Int32) : Ms l yX6_with cX6_with 5 (some .int) 20 [vr 6 0, vi m] h (xK h) (fun r h' => r = some (vi (wtA v m)) ∧ OwX h h' v w g B z κ) := by
  refine Ms.of (by decide) (Nat.le_of_ble_eq_true rfl) (fun G C X F => ?_)
  have C : Cx G cX6_with 5 RX6 := C
  show Rr G 0 [(0, vr 6 0), (1, vi m)] [] h
  have bP := o.pv.bP
  have bM := o.pv.bM
  have bN := o.pv.bN
  have bz := o.pt.2.2
  obtain ⟨S, hS⟩ : ∃ S, S = 2 ^ vN v := ⟨_, rfl⟩
  have p8 := pow8 bN
  rw [← hS] at p8
  refine r_aload_n C (dx dX6_with 0 rfl) rfl ?_
  refine g_X6_10 C (dx dX6_with 1 rfl) ?_
  refine r_iload_n C (dx dX6_with 2 rfl) rfl ?_
  refine r_cvP (as := [vi m]) (st := []) (v := vi (b2i (inR m (vM v)))) C X I_X5_isMachine l_X6_202 (c_X5_isMachine o.pv _) (by decide) (Nat.le_of_ble_eq_true rfl) List.prefix_rfl rfl rfl (Nat.le_of_ble_eq_true rfl) rfl (dx dX6_with 3 rfl) ?_
  refine rb_ne (b := inR m (vM v)) (tgt := 18) C (dx dX6_with 4 rfl) (by decide) (fun c1 => ?_) (fun c1 => ?_)
  ·
    have c1 : (inR m (vM v)) = true := c1
    obtain ⟨μ, hμ, rfl⟩ := inR_ex (n := (vM v)) (by omega) c1
    refine r_aload_n C (dx dX6_with 9 rfl) rfl ?_
    refine g_X6_29 C (dx dX6_with 10 rfl) ?_
    refine r_aload_n C (dx dX6_with 11 rfl) rfl ?_
    refine g_X6_10 C (dx dX6_with 12 rfl) ?_
    refine r_cv (as := [vr 5 1]) (st := []) C X I_X4_gather l_X6_248 (c_X4_gather o.pv (by omega)) (by decide) (Nat.le_of_ble_eq_true rfl) List.prefix_rfl List.prefix_rfl rfl rfl (Nat.le_of_ble_eq_true rfl) rfl (dx dX6_with 13 rfl) ?_
    intro rh2 h2 hph2 kkh2
    obtain ⟨rfl, qh2, gh2⟩ := hph2
    have oh2 : Ow h2 v u w g B z κ := o.tm (gh2.mono (by omega) (by omega))
    have fh2 : Fr 0 63 h h2 := gh2.mono (by omega) (by omega)
    have kh2 : xK h2 = xK h := kkh2
    rw [← hS] at qh2
    refine r_iconst (v := -1) C (dx dX6_with 14 rfl) rfl ?_
    refine r_istore_n (ls' := [(0, vr 6 0), (1, vi (nI μ)), (2, vi (-1))]) C (dx dX6_with 15 rfl) (by decide) [1, 2, 0] rfl ?_
    refine r_iconst (v := nI 0) C (dx dX6_with 16 rfl) rfl ?_
    refine r_istore_n (ls' := [(0, vr 6 0), (1, vi (nI μ)), (2, vi (-1)), (3, vi (nI 0))]) C (dx dX6_with 17 rfl) (by decide) [1, 2, 3, 0] rfl ?_
    refine loopU (Φ := fun p => Rr G 33 [(0, vr 6 0), (1, vi (nI μ)), (2, vi (wiF (fun s => wkW v (nI μ) (gat v s (vN v))) p)), (3, vi (nI p))] [] h2) (N := S) ?_ ?_ 0 (Nat.zero_le _)
    ·
      skip
      refine r_iload_n C (dx dX6_with 18 rfl) rfl ?_
      refine r_aload_n C (dx dX6_with 19 rfl) rfl ?_
      refine g_X6_10 C (dx dX6_with 20 rfl) ?_
      refine r_cvP (as := []) (st := [vi (nI S)]) (v := vi (nI (S - 1))) C X I_X5_allPeople l_X6_282 (c_allS oh2.pv hS) (by decide) (Nat.le_of_ble_eq_true rfl) (pfx_eq kh2) rfl rfl (Nat.le_of_ble_eq_true rfl) rfl (dx dX6_with 21 rfl) ?_
      refine rn_gt (a := S) (b := S - 1) (tgt := 99) C (by omega) (by omega) (dx dX6_with 22 rfl) (by decide) (fun c3 => ?_) (fun c3 => ?_)
      · first
        | (omega; done)
        | (
            have c3 : S - 1 < S := c3
            refine r_iload_n C (dx dX6_with 50 rfl) rfl ?_
            refine r_iconst (v := -1) C (dx dX6_with 51 rfl) rfl ?_
            refine r_icmp_ne (tgt := 113) C (dx dX6_with 52 rfl) (by decide) (fun c4 => ?_) (fun c4 => ?_)
            ·
              have c4 : ¬ wiF (fun s => wkW v (nI μ) (gat v s (vN v))) S = -1 := c4
              refine r_iload_n C (dx dX6_with 57 rfl) rfl ?_
              have eA : wtA v (nI μ) = wiF (fun s => wkW v (nI μ) (gat v s (vN v))) S := by (unfold wtA; rw [inN (show μ < 2 ^ 31 by omega) hμ, if_pos rfl, ← hS, if_neg c4])
              exact F.1 _ _ _ _ _ rfl rfl (dx dX6_with 58 rfl) kh2 (show some (vi (wiF (fun s => wkW v (nI μ) (gat v s (vN v))) S)) = some (vi (wtA v (nI μ))) ∧ OwX h h2 v w g B z κ from by rw [eA]; exact ⟨rfl, ⟨_, oh2⟩, fh2⟩)
            ·
              have c4 : wiF (fun s => wkW v (nI μ) (gat v s (vN v))) S = -1 := c4
              refine r_aload_n C (dx dX6_with 53 rfl) rfl ?_
              refine r_bipush (v := -5) C (dx dX6_with 54 rfl) rfl ?_
              refine r_cv (as := [vi (-5)]) (st := []) C X I_X6_refuse l_X6_76 (c_X6_refuse (-5)) (by decide) (Nat.le_of_ble_eq_true rfl) List.prefix_rfl (pfx_eq kh2) rfl rfl (Nat.le_of_ble_eq_true rfl) rfl (dx dX6_with 55 rfl) ?_
              intro rh5 h5 hph5 kkh5
              obtain ⟨rfl, gh5⟩ := hph5
              have oh5 : Ow h5 v u w g B z κ := oh2.ref gh5
              have fh5 : Fr 0 63 h h5 := fh2.tr (gh5.mono (by omega) (by omega))
              have kh5 : xK h5 = xK h := (kkh5).trans kh2
              refine r_goto (tgt := 114) C (dx dX6_with 56 rfl) (by decide) ?_
              have eA : wtA v (nI μ) = -5 := by (unfold wtA; rw [inN (show μ < 2 ^ 31 by omega) hμ, if_pos rfl, ← hS, if_pos c4])
              exact F.1 _ _ _ _ _ rfl rfl (dx dX6_with 58 rfl) kh5 (show some (vi (-5)) = some (vi (wtA v (nI μ))) ∧ OwX h h5 v w g B z κ from by rw [eA]; exact ⟨rfl, ⟨_, oh5⟩, fh5⟩))
      · first
        | (omega; done)
    ·
      intro p hp ih
      refine r_iload_n C (dx dX6_with 18 rfl) rfl ?_
      refine r_aload_n C (dx dX6_with 19 rfl) rfl ?_
      refine g_X6_10 C (dx dX6_with 20 rfl) ?_
      refine r_cvP (as := []) (st := [vi (nI p)]) (v := vi (nI (S - 1))) C X I_X5_allPeople l_X6_282 (c_allS oh2.pv hS) (by decide) (Nat.le_of_ble_eq_true rfl) (pfx_eq kh2) rfl rfl (Nat.le_of_ble_eq_true rfl) rfl (dx dX6_with 21 rfl) ?_
      refine rn_gt (a := p) (b := S - 1) (tgt := 99) C (by omega) (by omega) (dx dX6_with 22 rfl) (by decide) (fun c9 => ?_) (fun c9 => ?_)
      · first
        | (omega; done)
        | (
            have c9 : S - 1 < p := c9
            refine r_iload_n C (dx dX6_with 50 rfl) rfl ?_
            refine r_iconst (v := -1) C (dx dX6_with 51 rfl) rfl ?_
            refine r_icmp_ne (tgt := 113) C (dx dX6_with 52 rfl) (by decide) (fun c10 => ?_) (fun c10 => ?_)
            ·
              have c10 : ¬ wiF (fun s => wkW v (nI μ) (gat v s (vN v))) p = -1 := c10
              refine r_iload_n C (dx dX6_with 57 rfl) rfl ?_
              have eA : wtA v (nI μ) = wiF (fun s => wkW v (nI μ) (gat v s (vN v))) p := by (unfold wtA; rw [inN (show μ < 2 ^ 31 by omega) hμ, if_pos rfl, ← hS, if_neg c10])
              exact F.1 _ _ _ _ _ rfl rfl (dx dX6_with 58 rfl) kh2 (show some (vi (wiF (fun s => wkW v (nI μ) (gat v s (vN v))) p)) = some (vi (wtA v (nI μ))) ∧ OwX h h2 v w g B z κ from by rw [eA]; exact ⟨rfl, ⟨_, oh2⟩, fh2⟩)
            ·
              have c10 : wiF (fun s => wkW v (nI μ) (gat v s (vN v))) p = -1 := c10
              refine r_aload_n C (dx dX6_with 53 rfl) rfl ?_
              refine r_bipush (v := -5) C (dx dX6_with 54 rfl) rfl ?_
              refine r_cv (as := [vi (-5)]) (st := []) C X I_X6_refuse l_X6_76 (c_X6_refuse (-5)) (by decide) (Nat.le_of_ble_eq_true rfl) List.prefix_rfl (pfx_eq kh2) rfl rfl (Nat.le_of_ble_eq_true rfl) rfl (dx dX6_with 55 rfl) ?_
              intro rh11 h11 hph11 kkh11
              obtain ⟨rfl, gh11⟩ := hph11
              have oh11 : Ow h11 v u w g B z κ := oh2.ref gh11
              have fh11 : Fr 0 63 h h11 := fh2.tr (gh11.mono (by omega) (by omega))
              have kh11 : xK h11 = xK h := (kkh11).trans kh2
              refine r_goto (tgt := 114) C (dx dX6_with 56 rfl) (by decide) ?_
              have eA : wtA v (nI μ) = -5 := by (unfold wtA; rw [inN (show μ < 2 ^ 31 by omega) hμ, if_pos rfl, ← hS, if_pos c10])
              exact F.1 _ _ _ _ _ rfl rfl (dx dX6_with 58 rfl) kh11 (show some (vi (-5)) = some (vi (wtA v (nI μ))) ∧ OwX h h11 v w g B z κ from by rw [eA]; exact ⟨rfl, ⟨_, oh11⟩, fh11⟩))
      · first
        | (omega; done)
        | (
            have c9 : p ≤ S - 1 := c9
            refine r_iload_n C (dx dX6_with 23 rfl) rfl ?_
            refine r_iconst (v := -1) C (dx dX6_with 24 rfl) rfl ?_
            refine r_icmp_eq (tgt := 60) C (dx dX6_with 25 rfl) (by decide) (fun c12 => ?_) (fun c12 => ?_)
            ·
              have c12 : wiF (fun s => wkW v (nI μ) (gat v s (vN v))) p = -1 := c12
              refine r_iconst (v := nI 1) C (dx dX6_with 31 rfl) rfl ?_
              refine r_goto (tgt := 65) C (dx dX6_with 32 rfl) (by decide) ?_
              refine r_istore (ls' := [(0, vr 6 0), (1, vi (nI μ)), (2, vi (wiF (fun s => wkW v (nI μ) (gat v s (vN v))) p)), (3, vi (nI p)), (4, vi (nI 1))]) C (dx dX6_with 34 rfl) (by decide) [1, 2, 3, 4, 0] rfl ?_
              refine r_iload C (dx dX6_with 35 rfl) rfl ?_
              refine r_if_eq (tgt := 93) C (dx dX6_with 36 rfl) (by decide) (fun c13 => (show False from by revert c13; decide).elim) (fun _ => ?_)
              refine r_aload_n C (dx dX6_with 37 rfl) rfl ?_
              refine g_X6_10 C (dx dX6_with 38 rfl) ?_
              refine r_iload_n C (dx dX6_with 39 rfl) rfl ?_
              refine r_aload_n C (dx dX6_with 40 rfl) rfl ?_
              refine g_X6_29 C (dx dX6_with 41 rfl) ?_
              refine r_iload_n C (dx dX6_with 42 rfl) rfl ?_
              refine r_cvP (as := [vi (nI p)]) (st := [vi (nI μ), vr 5 1]) (v := vi (gat v p (vN v))) C X I_X4_partsOf l_X6_290 (c_partsG qh2 (by omega) (a := p) (by omega)) (by decide) (Nat.le_of_ble_eq_true rfl) (pfx_eq kh2) rfl rfl (Nat.le_of_ble_eq_true rfl) rfl (dx dX6_with 43 rfl) ?_
              refine r_cvP (as := [vi (nI μ), vi (gat v p (vN v))]) (st := []) (v := vi (b2i (wkW v (nI μ) (gat v p (vN v))))) C X I_X5_isWorkedWith l_X6_226 (c_X5_isWorkedWith oh2.pv _ _) (by decide) (Nat.le_of_ble_eq_true rfl) (pfx_eq kh2) rfl rfl (Nat.le_of_ble_eq_true rfl) rfl (dx dX6_with 44 rfl) ?_
              refine rb_eq (b := wkW v (nI μ) (gat v p (vN v))) (tgt := 93) C (dx dX6_with 45 rfl) (by decide) (fun c14 => ?_) (fun c14 => ?_)
              ·
                have c14 : (wkW v (nI μ) (gat v p (vN v))) = false := c14
                refine rn_iinc (a := p) (k := 1) (ls' := [(0, vr 6 0), (1, vi (nI μ)), (2, vi (wiF (fun s => wkW v (nI μ) (gat v s (vN v))) p)), (3, vi (nI (p + 1))), (4, vi (nI 1))]) C (dx dX6_with 48 rfl) rfl rfl (by decide) [1, 2, 3, 0, 4] rfl ?_
                refine r_goto (tgt := 33) C (dx dX6_with 49 rfl) (by decide) ?_
                have e92 : (wiF (fun s => wkW v (nI μ) (gat v s (vN v))) p) = (wiF (fun s => wkW v (nI μ) (gat v s (vN v))) (p + 1)) := by first | rfl | exact (wiF_y (by assumption) (Or.inl (by assumption))).symm | exact (wiF_y (by assumption) (Or.inr (by first | assumption | omega))).symm | exact (wiF_1 (by assumption)).symm | exact (wiF_2 (by assumption) (by first | assumption | omega)).symm
                refine r_weak C [0, 1, 2, 3] rfl ?_
                rw [e92]
                exact ih
              ·
                have c14 : (wkW v (nI μ) (gat v p (vN v))) = true := c14
                refine r_iload_n C (dx dX6_with 46 rfl) rfl ?_
                refine r_istore_n (ls' := [(0, vr 6 0), (1, vi (nI μ)), (2, vi (nI p)), (3, vi (nI p)), (4, vi (nI 1))]) C (dx dX6_with 47 rfl) (by decide) [1, 2, 0, 3, 4] rfl ?_
                refine rn_iinc (a := p) (k := 1) (ls' := [(0, vr 6 0), (1, vi (nI μ)), (2, vi (nI p)), (3, vi (nI (p + 1))), (4, vi (nI 1))]) C (dx dX6_with 48 rfl) rfl rfl (by decide) [1, 2, 3, 0, 4] rfl ?_
                refine r_goto (tgt := 33) C (dx dX6_with 49 rfl) (by decide) ?_
                have e92 : (nI p) = (wiF (fun s => wkW v (nI μ) (gat v s (vN v))) (p + 1)) := by first | rfl | exact (wiF_y (by assumption) (Or.inl (by assumption))).symm | exact (wiF_y (by assumption) (Or.inr (by first | assumption | omega))).symm | exact (wiF_1 (by assumption)).symm | exact (wiF_2 (by assumption) (by first | assumption | omega)).symm
                refine r_weak C [0, 1, 2, 3] rfl ?_
                rw [e92]
                exact ih
            ·
              have c12 : ¬ wiF (fun s => wkW v (nI μ) (gat v s (vN v))) p = -1 := c12
              refine r_iload_n C (dx dX6_with 26 rfl) rfl ?_
              have bc15 := pcn_12 (a := p) (by omega)
              refine r_csP (as := [vi (nI p)]) (st := []) (v := vi (nI (pcn p))) C X I_J6_bitCount_0f7a4 l_X6_285 (c_J6_bitCount_0f7a4 (a := p) (by omega)) (by decide) (Nat.le_of_ble_eq_true rfl) (pfx_eq kh2) (Nat.le_of_ble_eq_true rfl) rfl (dx dX6_with 27 rfl) ?_
              refine r_iload_n C (dx dX6_with 28 rfl) rfl ?_
              have bc16 := pcn_h (bc_hi (by omega) (wiF_m (fun s => wkW v (nI μ) (gat v s (vN v))) p (by omega)) c12)
              refine r_csP (as := [vi (wiF (fun s => wkW v (nI μ) (gat v s (vN v))) p)]) (st := [vi (nI (pcn p))]) (v := vi (nI (pcn (wiF (fun s => wkW v (nI μ) (gat v s (vN v))) p).toNatClampNeg))) C X I_J6_bitCount_0f7a4 l_X6_285 (c_bcE (bc_hi (by omega) (wiF_m (fun s => wkW v (nI μ) (gat v s (vN v))) p (by omega)) c12)) (by decide) (Nat.le_of_ble_eq_true rfl) (pfx_eq kh2) (Nat.le_of_ble_eq_true rfl) rfl (dx dX6_with 29 rfl) ?_
              refine rn_ge (a := pcn p) (b := pcn (wiF (fun s => wkW v (nI μ) (gat v s (vN v))) p).toNatClampNeg) (tgt := 64) C (by omega) (by omega) (dx dX6_with 30 rfl) (by decide) (fun c17 => ?_) (fun c17 => ?_)
              · first
                | (omega; done)
                | (
                    have c17 : pcn (wiF (fun s => wkW v (nI μ) (gat v s (vN v))) p).toNatClampNeg ≤ pcn p := c17
                    refine r_iconst (v := nI 0) C (dx dX6_with 33 rfl) rfl ?_
                    refine r_istore (ls' := [(0, vr 6 0), (1, vi (nI μ)), (2, vi (wiF (fun s => wkW v (nI μ) (gat v s (vN v))) p)), (3, vi (nI p)), (4, vi (nI 0))]) C (dx dX6_with 34 rfl) (by decide) [1, 2, 3, 4, 0] rfl ?_
                    refine r_iload C (dx dX6_with 35 rfl) rfl ?_
                    refine r_if_eq (tgt := 93) C (dx dX6_with 36 rfl) (by decide) (fun _ => ?_) (fun c18 => (show False from by revert c18; decide).elim)
                    refine rn_iinc (a := p) (k := 1) (ls' := [(0, vr 6 0), (1, vi (nI μ)), (2, vi (wiF (fun s => wkW v (nI μ) (gat v s (vN v))) p)), (3, vi (nI (p + 1))), (4, vi (nI 0))]) C (dx dX6_with 48 rfl) rfl rfl (by decide) [1, 2, 3, 0, 4] rfl ?_
                    refine r_goto (tgt := 33) C (dx dX6_with 49 rfl) (by decide) ?_
                    have e92 : (wiF (fun s => wkW v (nI μ) (gat v s (vN v))) p) = (wiF (fun s => wkW v (nI μ) (gat v s (vN v))) (p + 1)) := by first | rfl | exact (wiF_y (by assumption) (Or.inl (by assumption))).symm | exact (wiF_y (by assumption) (Or.inr (by first | assumption | omega))).symm | exact (wiF_1 (by assumption)).symm | exact (wiF_2 (by assumption) (by first | assumption | omega)).symm
                    refine r_weak C [0, 1, 2, 3] rfl ?_
                    rw [e92]
                    exact ih)
              · first
                | (omega; done)
                | (
                    have c17 : pcn p < pcn (wiF (fun s => wkW v (nI μ) (gat v s (vN v))) p).toNatClampNeg := c17
                    refine r_iconst (v := nI 1) C (dx dX6_with 31 rfl) rfl ?_
                    refine r_goto (tgt := 65) C (dx dX6_with 32 rfl) (by decide) ?_
                    refine r_istore (ls' := [(0, vr 6 0), (1, vi (nI μ)), (2, vi (wiF (fun s => wkW v (nI μ) (gat v s (vN v))) p)), (3, vi (nI p)), (4, vi (nI 1))]) C (dx dX6_with 34 rfl) (by decide) [1, 2, 3, 4, 0] rfl ?_
                    refine r_iload C (dx dX6_with 35 rfl) rfl ?_
                    refine r_if_eq (tgt := 93) C (dx dX6_with 36 rfl) (by decide) (fun c19 => (show False from by revert c19; decide).elim) (fun _ => ?_)
                    refine r_aload_n C (dx dX6_with 37 rfl) rfl ?_
                    refine g_X6_10 C (dx dX6_with 38 rfl) ?_
                    refine r_iload_n C (dx dX6_with 39 rfl) rfl ?_
                    refine r_aload_n C (dx dX6_with 40 rfl) rfl ?_
                    refine g_X6_29 C (dx dX6_with 41 rfl) ?_
                    refine r_iload_n C (dx dX6_with 42 rfl) rfl ?_
                    refine r_cvP (as := [vi (nI p)]) (st := [vi (nI μ), vr 5 1]) (v := vi (gat v p (vN v))) C X I_X4_partsOf l_X6_290 (c_partsG qh2 (by omega) (a := p) (by omega)) (by decide) (Nat.le_of_ble_eq_true rfl) (pfx_eq kh2) rfl rfl (Nat.le_of_ble_eq_true rfl) rfl (dx dX6_with 43 rfl) ?_
                    refine r_cvP (as := [vi (nI μ), vi (gat v p (vN v))]) (st := []) (v := vi (b2i (wkW v (nI μ) (gat v p (vN v))))) C X I_X5_isWorkedWith l_X6_226 (c_X5_isWorkedWith oh2.pv _ _) (by decide) (Nat.le_of_ble_eq_true rfl) (pfx_eq kh2) rfl rfl (Nat.le_of_ble_eq_true rfl) rfl (dx dX6_with 44 rfl) ?_
                    refine rb_eq (b := wkW v (nI μ) (gat v p (vN v))) (tgt := 93) C (dx dX6_with 45 rfl) (by decide) (fun c20 => ?_) (fun c20 => ?_)
                    ·
                      have c20 : (wkW v (nI μ) (gat v p (vN v))) = false := c20
                      refine rn_iinc (a := p) (k := 1) (ls' := [(0, vr 6 0), (1, vi (nI μ)), (2, vi (wiF (fun s => wkW v (nI μ) (gat v s (vN v))) p)), (3, vi (nI (p + 1))), (4, vi (nI 1))]) C (dx dX6_with 48 rfl) rfl rfl (by decide) [1, 2, 3, 0, 4] rfl ?_
                      refine r_goto (tgt := 33) C (dx dX6_with 49 rfl) (by decide) ?_
                      have e92 : (wiF (fun s => wkW v (nI μ) (gat v s (vN v))) p) = (wiF (fun s => wkW v (nI μ) (gat v s (vN v))) (p + 1)) := by first | rfl | exact (wiF_y (by assumption) (Or.inl (by assumption))).symm | exact (wiF_y (by assumption) (Or.inr (by first | assumption | omega))).symm | exact (wiF_1 (by assumption)).symm | exact (wiF_2 (by assumption) (by first | assumption | omega)).symm
                      refine r_weak C [0, 1, 2, 3] rfl ?_
                      rw [e92]
                      exact ih
                    ·
                      have c20 : (wkW v (nI μ) (gat v p (vN v))) = true := c20
                      refine r_iload_n C (dx dX6_with 46 rfl) rfl ?_
                      refine r_istore_n (ls' := [(0, vr 6 0), (1, vi (nI μ)), (2, vi (nI p)), (3, vi (nI p)), (4, vi (nI 1))]) C (dx dX6_with 47 rfl) (by decide) [1, 2, 0, 3, 4] rfl ?_
                      refine rn_iinc (a := p) (k := 1) (ls' := [(0, vr 6 0), (1, vi (nI μ)), (2, vi (nI p)), (3, vi (nI (p + 1))), (4, vi (nI 1))]) C (dx dX6_with 48 rfl) rfl rfl (by decide) [1, 2, 3, 0, 4] rfl ?_
                      refine r_goto (tgt := 33) C (dx dX6_with 49 rfl) (by decide) ?_
                      have e92 : (nI p) = (wiF (fun s => wkW v (nI μ) (gat v s (vN v))) (p + 1)) := by first | rfl | exact (wiF_y (by assumption) (Or.inl (by assumption))).symm | exact (wiF_y (by assumption) (Or.inr (by first | assumption | omega))).symm | exact (wiF_1 (by assumption)).symm | exact (wiF_2 (by assumption) (by first | assumption | omega)).symm
                      refine r_weak C [0, 1, 2, 3] rfl ?_
                      rw [e92]
                      exact ih))
  ·
    have c1 : (inR m (vM v)) = false := c1
    refine r_aload_n C (dx dX6_with 5 rfl) rfl ?_
    refine r_bipush (v := -2) C (dx dX6_with 6 rfl) rfl ?_
    refine r_cv (as := [vi (-2)]) (st := []) C X I_X6_refuse l_X6_76 (c_X6_refuse (-2)) (by decide) (Nat.le_of_ble_eq_true rfl) List.prefix_rfl List.prefix_rfl rfl rfl (Nat.le_of_ble_eq_true rfl) rfl (dx dX6_with 7 rfl) ?_
    intro rh21 h21 hph21 kkh21
    obtain ⟨rfl, gh21⟩ := hph21
    have oh21 : Ow h21 v u w g B z κ := o.ref gh21
    have fh21 : Fr 0 63 h h21 := gh21.mono (by omega) (by omega)
    have kh21 : xK h21 = xK h := kkh21
    have eA : wtA v m = -2 := by simp [wtA, c1]
    exact F.1 _ _ _ _ _ rfl rfl (dx dX6_with 8 rfl) kh21 (show some (vi (-2)) = some (vi (wtA v m)) ∧ OwX h h21 v w g B z κ from by rw [eA]; exact ⟨rfl, ⟨_, oh21⟩, fh21⟩)
set_option maxHeartbeats 4000000 in
theorem x2_stolen {l : Launch} {h : Hp} {v u w : Vg} {g : Sg} {B : Nat → Int32} {z : Nat} {κ : Int32} (o : Ow h v u w g B z κ) (hg : GOk g)  : Ms l yX6_stolen cX6_stolen 5 (some .int) 20 [vr 6 0] h (xK h) (fun r h' => r = some (vi (stoA v)) ∧ OwX h h' v w g B z κ) := by
  refine Ms.of (by decide) (Nat.le_of_ble_eq_true rfl) (fun G C X F => ?_)
  have C : Cx G cX6_stolen 5 RX6 := C
  show Rr G 0 [(0, vr 6 0)] [] h
  have bP := o.pv.bP
  have bM := o.pv.bM
  have bN := o.pv.bN
  have bz := o.pt.2.2
  obtain ⟨S, hS⟩ : ∃ S, S = 2 ^ vP v := ⟨_, rfl⟩
  have p12 := pow12 bP
  rw [← hS] at p12
  refine r_aload_n C (dx dX6_stolen 0 rfl) rfl ?_
  refine g_X6_10 C (dx dX6_stolen 1 rfl) ?_
  refine r_aload_n C (dx dX6_stolen 2 rfl) rfl ?_
  refine g_X6_10 C (dx dX6_stolen 3 rfl) ?_
  refine r_cvP (as := []) (st := [vr 5 1]) (v := vi (full (vN v))) C X I_X5_allPeople l_X6_282 (c_X5_allPeople o.pv) (by decide) (Nat.le_of_ble_eq_true rfl) List.prefix_rfl rfl rfl (Nat.le_of_ble_eq_true rfl) rfl (dx dX6_stolen 4 rfl) ?_
  refine r_cvP (as := [vi (full (vN v))]) (st := []) (v := vi (hasP v (full (vN v)))) C X I_X5_partsWith l_X6_223 (c_X5_partsWith o.pv _) (by decide) (Nat.le_of_ble_eq_true rfl) List.prefix_rfl rfl rfl (Nat.le_of_ble_eq_true rfl) rfl (dx dX6_stolen 5 rfl) ?_
  refine r_istore_n (ls' := [(0, vr 6 0), (1, vi (hasP v (full (vN v))))]) C (dx dX6_stolen 6 rfl) (by decide) [1, 0] rfl ?_
  refine r_aload_n C (dx dX6_stolen 7 rfl) rfl ?_
  refine g_X6_10 C (dx dX6_stolen 8 rfl) ?_
  refine r_cvP (as := []) (st := []) (v := vi (nI (S - 1))) C X I_X5_allParts l_X6_296 (c_allPs o.pv hS) (by decide) (Nat.le_of_ble_eq_true rfl) List.prefix_rfl rfl rfl (Nat.le_of_ble_eq_true rfl) rfl (dx dX6_stolen 9 rfl) ?_
  refine r_istore_n (ls' := [(0, vr 6 0), (1, vi (hasP v (full (vN v)))), (2, vi (nI (S - 1)))]) C (dx dX6_stolen 10 rfl) (by decide) [1, 2, 0] rfl ?_
  refine r_iload_n C (dx dX6_stolen 11 rfl) rfl ?_
  refine r_istore_n (ls' := [(0, vr 6 0), (1, vi (hasP v (full (vN v)))), (2, vi (nI (S - 1))), (3, vi (nI (S - 1)))]) C (dx dX6_stolen 12 rfl) (by decide) [1, 2, 3, 0] rfl ?_
  refine r_iconst (v := nI 0) C (dx dX6_stolen 13 rfl) rfl ?_
  refine r_istore (ls' := [(0, vr 6 0), (1, vi (hasP v (full (vN v)))), (2, vi (nI (S - 1))), (3, vi (nI (S - 1))), (4, vi (nI 0))]) C (dx dX6_stolen 14 rfl) (by decide) [1, 2, 3, 4, 0] rfl ?_
  refine loopU (Φ := fun p => Rr G 28 [(0, vr 6 0), (1, vi (hasP v (full (vN v)))), (2, vi (nI (S - 1))), (3, vi (nI (lsF (stoP v) (S - 1) p))), (4, vi (nI p))] [] h) (N := (S - 1)) ?_ ?_ 0 (Nat.zero_le _)
  ·
    skip
    refine r_iload C (dx dX6_stolen 15 rfl) rfl ?_
    refine r_iload_n C (dx dX6_stolen 16 rfl) rfl ?_
    refine rn_ge (a := (S - 1)) (b := S - 1) (tgt := 71) C (by omega) (by omega) (dx dX6_stolen 17 rfl) (by decide) (fun c1 => ?_) (fun c1 => ?_)
    · first
      | (omega; done)
      | (
          have c1 : S - 1 ≤ (S - 1) := c1
          refine r_iload_n C (dx dX6_stolen 36 rfl) rfl ?_
          have eA : stoA v = nI (lsF (stoP v) (S - 1) (S - 1)) := by (unfold stoA; rw [hS])
          exact F.1 _ _ _ _ _ rfl rfl (dx dX6_stolen 37 rfl) rfl (show some (vi (nI (lsF (stoP v) (S - 1) (S - 1)))) = some (vi (stoA v)) ∧ OwX h h v w g B z κ from by rw [eA]; exact ⟨rfl, ⟨_, o⟩, Fr.rf⟩))
    · first
      | (omega; done)
      | (
          have c1 : (S - 1) < S - 1 := c1
          refine r_iload C (dx dX6_stolen 18 rfl) rfl ?_
          have bc2 := pcn_12 (a := (S - 1)) (by omega)
          refine r_csP (as := [vi (nI (S - 1))]) (st := []) (v := vi (nI (pcn (S - 1)))) C X I_J6_bitCount_0f7a4 l_X6_285 (c_J6_bitCount_0f7a4 (a := (S - 1)) (by omega)) (by decide) (Nat.le_of_ble_eq_true rfl) List.prefix_rfl (Nat.le_of_ble_eq_true rfl) rfl (dx dX6_stolen 19 rfl) ?_
          refine r_iload_n C (dx dX6_stolen 20 rfl) rfl ?_
          have bl3 := lsF_lt (stoP v) (z := S - 1) (by omega) (S - 1) (by omega)
          have bc4 := pcn_12 (a := lsF (stoP v) (S - 1) (S - 1)) (by omega)
          refine r_csP (as := [vi (nI (lsF (stoP v) (S - 1) (S - 1)))]) (st := [vi (nI (pcn (S - 1)))]) (v := vi (nI (pcn (lsF (stoP v) (S - 1) (S - 1))))) C X I_J6_bitCount_0f7a4 l_X6_285 (c_J6_bitCount_0f7a4 (a := lsF (stoP v) (S - 1) (S - 1)) (by omega)) (by decide) (Nat.le_of_ble_eq_true rfl) List.prefix_rfl (Nat.le_of_ble_eq_true rfl) rfl (dx dX6_stolen 21 rfl) ?_
          refine rn_ge (a := pcn (S - 1)) (b := pcn (lsF (stoP v) (S - 1) (S - 1))) (tgt := 65) C (by omega) (by omega) (dx dX6_stolen 22 rfl) (by decide) (fun c5 => ?_) (fun c5 => ?_)
          · first
            | (omega; done)
          · first
            | (omega; done))
  ·
    intro p hp ih
    refine r_iload C (dx dX6_stolen 15 rfl) rfl ?_
    refine r_iload_n C (dx dX6_stolen 16 rfl) rfl ?_
    refine rn_ge (a := p) (b := S - 1) (tgt := 71) C (by omega) (by omega) (dx dX6_stolen 17 rfl) (by decide) (fun c7 => ?_) (fun c7 => ?_)
    · first
      | (omega; done)
      | (
          have c7 : S - 1 ≤ p := c7
          refine r_iload_n C (dx dX6_stolen 36 rfl) rfl ?_
          have eA : stoA v = nI (lsF (stoP v) (S - 1) p) := by (unfold stoA; rw [hS])
          exact F.1 _ _ _ _ _ rfl rfl (dx dX6_stolen 37 rfl) rfl (show some (vi (nI (lsF (stoP v) (S - 1) p))) = some (vi (stoA v)) ∧ OwX h h v w g B z κ from by rw [eA]; exact ⟨rfl, ⟨_, o⟩, Fr.rf⟩))
    · first
      | (omega; done)
      | (
          have c7 : p < S - 1 := c7
          refine r_iload C (dx dX6_stolen 18 rfl) rfl ?_
          have bc8 := pcn_12 (a := p) (by omega)
          refine r_csP (as := [vi (nI p)]) (st := []) (v := vi (nI (pcn p))) C X I_J6_bitCount_0f7a4 l_X6_285 (c_J6_bitCount_0f7a4 (a := p) (by omega)) (by decide) (Nat.le_of_ble_eq_true rfl) List.prefix_rfl (Nat.le_of_ble_eq_true rfl) rfl (dx dX6_stolen 19 rfl) ?_
          refine r_iload_n C (dx dX6_stolen 20 rfl) rfl ?_
          have bl9 := lsF_lt (stoP v) (z := S - 1) (by omega) p (by omega)
          have bc10 := pcn_12 (a := lsF (stoP v) (S - 1) p) (by omega)
          refine r_csP (as := [vi (nI (lsF (stoP v) (S - 1) p))]) (st := [vi (nI (pcn p))]) (v := vi (nI (pcn (lsF (stoP v) (S - 1) p)))) C X I_J6_bitCount_0f7a4 l_X6_285 (c_J6_bitCount_0f7a4 (a := lsF (stoP v) (S - 1) p) (by omega)) (by decide) (Nat.le_of_ble_eq_true rfl) List.prefix_rfl (Nat.le_of_ble_eq_true rfl) rfl (dx dX6_stolen 21 rfl) ?_
          refine rn_ge (a := pcn p) (b := pcn (lsF (stoP v) (S - 1) p)) (tgt := 65) C (by omega) (by omega) (dx dX6_stolen 22 rfl) (by decide) (fun c11 => ?_) (fun c11 => ?_)
          · first
            | (omega; done)
            | (
                have c11 : pcn (lsF (stoP v) (S - 1) p) ≤ pcn p := c11
                refine rn_iinc (a := p) (k := 1) (ls' := [(0, vr 6 0), (1, vi (hasP v (full (vN v)))), (2, vi (nI (S - 1))), (3, vi (nI (lsF (stoP v) (S - 1) p))), (4, vi (nI (p + 1)))]) C (dx dX6_stolen 34 rfl) rfl rfl (by decide) [1, 2, 3, 4, 0] rfl ?_
                refine r_goto (tgt := 28) C (dx dX6_stolen 35 rfl) (by decide) ?_
                have e93 : (nI (lsF (stoP v) (S - 1) p)) = (nI (lsF (stoP v) (S - 1) (p + 1))) := by rw [lsF_1 (by omega)]
                rw [e93]
                exact ih)
          · first
            | (omega; done)
            | (
                have c11 : pcn p < pcn (lsF (stoP v) (S - 1) p) := c11
                refine r_aload_n C (dx dX6_stolen 23 rfl) rfl ?_
                refine g_X6_10 C (dx dX6_stolen 24 rfl) ?_
                refine r_iload_n C (dx dX6_stolen 25 rfl) rfl ?_
                refine r_iload C (dx dX6_stolen 26 rfl) rfl ?_
                refine r_iconst (v := -1) C (dx dX6_stolen 27 rfl) rfl ?_
                refine r_ixor C (dx dX6_stolen 28 rfl) ?_
                refine r_iand C (dx dX6_stolen 29 rfl) ?_
                refine r_cvP (as := [vi ((hasP v (full (vN v))) &&& ((nI p) ^^^ (-1)))]) (st := []) (v := vi (b2i (decide (¬ macW v ((hasP v (full (vN v))) &&& ((nI p) ^^^ (-1))) = 0)))) C X I_X5_isAnyWorkedWith l_X6_293 (c_X5_isAnyWorkedWith o.pv _) (by decide) (Nat.le_of_ble_eq_true rfl) List.prefix_rfl rfl rfl (Nat.le_of_ble_eq_true rfl) rfl (dx dX6_stolen 30 rfl) ?_
                refine rb_ne (b := decide (¬ macW v ((hasP v (full (vN v))) &&& ((nI p) ^^^ (-1))) = 0)) (tgt := 65) C (dx dX6_stolen 31 rfl) (by decide) (fun c12 => ?_) (fun c12 => ?_)
                ·
                  have c12 : (decide (¬ macW v ((hasP v (full (vN v))) &&& ((nI p) ^^^ (-1))) = 0)) = true := c12
                  refine rn_iinc (a := p) (k := 1) (ls' := [(0, vr 6 0), (1, vi (hasP v (full (vN v)))), (2, vi (nI (S - 1))), (3, vi (nI (lsF (stoP v) (S - 1) p))), (4, vi (nI (p + 1)))]) C (dx dX6_stolen 34 rfl) rfl rfl (by decide) [1, 2, 3, 4, 0] rfl ?_
                  refine r_goto (tgt := 28) C (dx dX6_stolen 35 rfl) (by decide) ?_
                  have e93 : (nI (lsF (stoP v) (S - 1) p)) = (nI (lsF (stoP v) (S - 1) (p + 1))) := by rw [lsF_2 (stoP_n c12)]
                  rw [e93]
                  exact ih
                ·
                  have c12 : (decide (¬ macW v ((hasP v (full (vN v))) &&& ((nI p) ^^^ (-1))) = 0)) = false := c12
                  refine r_iload C (dx dX6_stolen 32 rfl) rfl ?_
                  refine r_istore_n (ls' := [(0, vr 6 0), (1, vi (hasP v (full (vN v)))), (2, vi (nI (S - 1))), (3, vi (nI p)), (4, vi (nI p))]) C (dx dX6_stolen 33 rfl) (by decide) [1, 2, 3, 0, 4] rfl ?_
                  refine rn_iinc (a := p) (k := 1) (ls' := [(0, vr 6 0), (1, vi (hasP v (full (vN v)))), (2, vi (nI (S - 1))), (3, vi (nI p)), (4, vi (nI (p + 1)))]) C (dx dX6_stolen 34 rfl) rfl rfl (by decide) [1, 2, 3, 4, 0] rfl ?_
                  refine r_goto (tgt := 28) C (dx dX6_stolen 35 rfl) (by decide) ?_
                  have e93 : (nI p) = (nI (lsF (stoP v) (S - 1) (p + 1))) := by rw [lsF_y (by omega) (stoP_y c12)]
                  rw [e93]
                  exact ih))
set_option maxHeartbeats 4000000 in
theorem x2_safe {l : Launch} {h : Hp} {v u w : Vg} {g : Sg} {B : Nat → Int32} {z : Nat} {κ : Int32} (o : Ow h v u w g B z κ) (hg : GOk g) (k : Int32) : Ms l yX6_safe cX6_safe 4 (some .int) 20 [vr 6 0, vi k] h (xK h) (fun r h' => r = some (vi (safA v k)) ∧ OwX h h' v w g B z κ) := by
  refine Ms.of (by decide) (Nat.le_of_ble_eq_true rfl) (fun G C X F => ?_)
  have C : Cx G cX6_safe 4 RX6 := C
  show Rr G 0 [(0, vr 6 0), (1, vi k)] [] h
  have bP := o.pv.bP
  have bM := o.pv.bM
  have bN := o.pv.bN
  have bz := o.pt.2.2
  refine r_iload_n C (dx dX6_safe 0 rfl) rfl ?_
  refine r_if_lt (tgt := 10) C (dx dX6_safe 1 rfl) (by decide) (fun c1 => ?_) (fun c1 => ?_)
  ·
    have c1 : k < 0 := c1
    refine r_aload_n C (dx dX6_safe 5 rfl) rfl ?_
    refine r_bipush (v := -2) C (dx dX6_safe 6 rfl) rfl ?_
    refine r_cv (as := [vi (-2)]) (st := []) C X I_X6_refuse l_X6_76 (c_X6_refuse (-2)) (by decide) (Nat.le_of_ble_eq_true rfl) List.prefix_rfl List.prefix_rfl rfl rfl (Nat.le_of_ble_eq_true rfl) rfl (dx dX6_safe 7 rfl) ?_
    intro rh2 h2 hph2 kkh2
    obtain ⟨rfl, gh2⟩ := hph2
    have oh2 : Ow h2 v u w g B z κ := o.ref gh2
    have fh2 : Fr 0 63 h h2 := gh2.mono (by omega) (by omega)
    have kh2 : xK h2 = xK h := kkh2
    have eA : safA v k = -2 := by simp [safA, (fun n9 => inR_neg (n := n9) c1 : ∀ n9, inR k n9 = false), c1]
    exact F.1 _ _ _ _ _ rfl rfl (dx dX6_safe 8 rfl) kh2 (show some (vi (-2)) = some (vi (safA v k)) ∧ OwX h h2 v w g B z κ from by rw [eA]; exact ⟨rfl, ⟨_, oh2⟩, fh2⟩)
  ·
    have c1 : ¬ k < 0 := c1
    refine r_iload_n C (dx dX6_safe 2 rfl) rfl ?_
    refine r_bipush (v := nI 8) C (dx dX6_safe 3 rfl) rfl ?_
    refine r_icmp_le (tgt := 17) C (dx dX6_safe 4 rfl) (by decide) (fun c3 => ?_) (fun c3 => ?_)
    ·
      have c3 : k ≤ nI 8 := c3
      obtain ⟨η, hη, rfl⟩ := btw0 (b := 8) (by omega) c1 (Int32.not_lt.mpr c3)
      refine r_aload_n C (dx dX6_safe 9 rfl) rfl ?_
      refine g_X6_29 C (dx dX6_safe 10 rfl) ?_
      refine r_aload_n C (dx dX6_safe 11 rfl) rfl ?_
      refine g_X6_10 C (dx dX6_safe 12 rfl) ?_
      refine r_cv (as := [vr 5 1]) (st := []) C X I_X4_gather l_X6_248 (c_X4_gather o.pv (by omega)) (by decide) (Nat.le_of_ble_eq_true rfl) List.prefix_rfl List.prefix_rfl rfl rfl (Nat.le_of_ble_eq_true rfl) rfl (dx dX6_safe 13 rfl) ?_
      intro rh4 h4 hph4 kkh4
      obtain ⟨rfl, qh4, gh4⟩ := hph4
      have oh4 : Ow h4 v u w g B z κ := o.tm (gh4.mono (by omega) (by omega))
      have fh4 : Fr 0 63 h h4 := gh4.mono (by omega) (by omega)
      have kh4 : xK h4 = xK h := kkh4
      refine r_iconst (v := nI 0) C (dx dX6_safe 14 rfl) rfl ?_
      refine r_istore_n (ls' := [(0, vr 6 0), (1, vi (nI η)), (2, vi (nI 0))]) C (dx dX6_safe 15 rfl) (by decide) [1, 2, 0] rfl ?_
      refine r_iconst (v := nI 0) C (dx dX6_safe 16 rfl) rfl ?_
      refine r_istore_n (ls' := [(0, vr 6 0), (1, vi (nI η)), (2, vi (nI 0)), (3, vi (nI 0))]) C (dx dX6_safe 17 rfl) (by decide) [1, 2, 3, 0] rfl ?_
      refine loopU (Φ := fun p => Rr G 32 [(0, vr 6 0), (1, vi (nI η)), (2, vi (bset (fun m => decide (nI η ≤ bornV v m)) p)), (3, vi (nI p))] [] h4) (N := vM v) ?_ ?_ 0 (Nat.zero_le _)
      ·
        skip
        refine r_iload_n C (dx dX6_safe 18 rfl) rfl ?_
        refine r_aload_n C (dx dX6_safe 19 rfl) rfl ?_
        refine g_X6_10 C (dx dX6_safe 20 rfl) ?_
        refine g_X6_147 (x := nI (vM v)) C (dx dX6_safe 21 rfl) oh4.pv.eM ?_
        refine rn_ge (a := (vM v)) (b := vM v) (tgt := 71) C (by omega) (by omega) (dx dX6_safe 22 rfl) (by decide) (fun c5 => ?_) (fun c5 => ?_)
        · first
          | (omega; done)
          | (
              have c5 : vM v ≤ (vM v) := c5
              refine r_iload_n C (dx dX6_safe 39 rfl) rfl ?_
              have eA : safA v (nI η) = bset (fun m => decide (nI η ≤ bornV v m)) (vM v) := by (unfold safA; rw [if_pos (inN (show η < 2 ^ 31 by omega) (show η < 9 by omega))])
              exact F.1 _ _ _ _ _ rfl rfl (dx dX6_safe 40 rfl) kh4 (show some (vi (bset (fun m => decide (nI η ≤ bornV v m)) (vM v))) = some (vi (safA v (nI η))) ∧ OwX h h4 v w g B z κ from by rw [eA]; exact ⟨rfl, ⟨_, oh4⟩, fh4⟩))
        · first
          | (omega; done)
      ·
        intro p hp ih
        refine r_iload_n C (dx dX6_safe 18 rfl) rfl ?_
        refine r_aload_n C (dx dX6_safe 19 rfl) rfl ?_
        refine g_X6_10 C (dx dX6_safe 20 rfl) ?_
        refine g_X6_147 (x := nI (vM v)) C (dx dX6_safe 21 rfl) oh4.pv.eM ?_
        refine rn_ge (a := p) (b := vM v) (tgt := 71) C (by omega) (by omega) (dx dX6_safe 22 rfl) (by decide) (fun c7 => ?_) (fun c7 => ?_)
        · first
          | (omega; done)
          | (
              have c7 : vM v ≤ p := c7
              refine r_iload_n C (dx dX6_safe 39 rfl) rfl ?_
              have eA : safA v (nI η) = bset (fun m => decide (nI η ≤ bornV v m)) p := by (unfold safA; rw [if_pos (inN (show η < 2 ^ 31 by omega) (show η < 9 by omega))])
              exact F.1 _ _ _ _ _ rfl rfl (dx dX6_safe 40 rfl) kh4 (show some (vi (bset (fun m => decide (nI η ≤ bornV v m)) p)) = some (vi (safA v (nI η))) ∧ OwX h h4 v w g B z κ from by rw [eA]; exact ⟨rfl, ⟨_, oh4⟩, fh4⟩))
        · first
          | (omega; done)
          | (
              have c7 : p < vM v := c7
              refine r_aload_n C (dx dX6_safe 23 rfl) rfl ?_
              refine g_X6_29 C (dx dX6_safe 24 rfl) ?_
              refine r_aload_n C (dx dX6_safe 25 rfl) rfl ?_
              refine g_X6_10 C (dx dX6_safe 26 rfl) ?_
              refine r_iload_n C (dx dX6_safe 27 rfl) rfl ?_
              refine r_cvP (as := [vr 5 1, vi (nI p)]) (st := []) (v := vi (bornV v p)) C X I_X4_bornBy l_X6_278 (c_X4_bornBy oh4.pv (by omega) p qh4) (by decide) (Nat.le_of_ble_eq_true rfl) (pfx_eq kh4) rfl rfl (Nat.le_of_ble_eq_true rfl) rfl (dx dX6_safe 28 rfl) ?_
              refine r_iload_n C (dx dX6_safe 29 rfl) rfl ?_
              refine r_icmp_lt (tgt := 65) C (dx dX6_safe 30 rfl) (by decide) (fun c8 => ?_) (fun c8 => ?_)
              ·
                have c8 : bornV v p < nI η := c8
                refine rn_iinc (a := p) (k := 1) (ls' := [(0, vr 6 0), (1, vi (nI η)), (2, vi (bset (fun m => decide (nI η ≤ bornV v m)) p)), (3, vi (nI (p + 1)))]) C (dx dX6_safe 37 rfl) rfl rfl (by decide) [1, 2, 3, 0] rfl ?_
                refine r_goto (tgt := 32) C (dx dX6_safe 38 rfl) (by decide) ?_
                have e92 : (bset (fun m => decide (nI η ≤ bornV v m)) p) = (bset (fun m => decide (nI η ≤ bornV v m)) (p + 1)) := by (simp only [bset]; rw [if_neg (fun z => Int32.not_le.mpr c8 (of_decide_eq_true z))])
                rw [e92]
                exact ih
              ·
                have c8 : ¬ bornV v p < nI η := c8
                refine r_iload_n C (dx dX6_safe 31 rfl) rfl ?_
                refine r_iconst (v := nI 1) C (dx dX6_safe 32 rfl) rfl ?_
                refine r_iload_n C (dx dX6_safe 33 rfl) rfl ?_
                refine r_ishl C (dx dX6_safe 34 rfl) ?_
                refine r_ior C (dx dX6_safe 35 rfl) ?_
                refine r_istore_n (ls' := [(0, vr 6 0), (1, vi (nI η)), (2, vi ((bset (fun m => decide (nI η ≤ bornV v m)) p) ||| ((nI 1) <<< ((nI p) &&& 31)))), (3, vi (nI p))]) C (dx dX6_safe 36 rfl) (by decide) [1, 2, 0, 3] rfl ?_
                refine rn_iinc (a := p) (k := 1) (ls' := [(0, vr 6 0), (1, vi (nI η)), (2, vi ((bset (fun m => decide (nI η ≤ bornV v m)) p) ||| ((nI 1) <<< ((nI p) &&& 31)))), (3, vi (nI (p + 1)))]) C (dx dX6_safe 37 rfl) rfl rfl (by decide) [1, 2, 3, 0] rfl ?_
                refine r_goto (tgt := 32) C (dx dX6_safe 38 rfl) (by decide) ?_
                have e92 : ((bset (fun m => decide (nI η ≤ bornV v m)) p) ||| ((nI 1) <<< ((nI p) &&& 31))) = (bset (fun m => decide (nI η ≤ bornV v m)) (p + 1)) := by (simp only [bset]; rw [if_pos (decide_eq_true (Int32.not_lt.mp c8))])
                rw [e92]
                exact ih)
    ·
      have c3 : ¬ k ≤ nI 8 := c3
      refine r_aload_n C (dx dX6_safe 5 rfl) rfl ?_
      refine r_bipush (v := -2) C (dx dX6_safe 6 rfl) rfl ?_
      refine r_cv (as := [vi (-2)]) (st := []) C X I_X6_refuse l_X6_76 (c_X6_refuse (-2)) (by decide) (Nat.le_of_ble_eq_true rfl) List.prefix_rfl List.prefix_rfl rfl rfl (Nat.le_of_ble_eq_true rfl) rfl (dx dX6_safe 7 rfl) ?_
      intro rh9 h9 hph9 kkh9
      obtain ⟨rfl, gh9⟩ := hph9
      have oh9 : Ow h9 v u w g B z κ := o.ref gh9
      have fh9 : Fr 0 63 h h9 := gh9.mono (by omega) (by omega)
      have kh9 : xK h9 = xK h := kkh9
      have eA : safA v k = -2 := by simp [safA, c1, c3, (inR_gt (n := 8) (by omega) (Int32.not_le.mp c3) : inR k 9 = false), (Int32.not_le.mp c3)]
      exact F.1 _ _ _ _ _ rfl rfl (dx dX6_safe 8 rfl) kh9 (show some (vi (-2)) = some (vi (safA v k)) ∧ OwX h h9 v w g B z κ from by rw [eA]; exact ⟨rfl, ⟨_, oh9⟩, fh9⟩)
set_option maxHeartbeats 4000000 in
theorem x2_key {l : Launch} {h : Hp} {v u w : Vg} {g : Sg} {B : Nat → Int32} {z : Nat} {κ : Int32} (o : Ow h v u w g B z κ) (hg : GOk g)  : Ms l yX6_key cX6_key 5 (some .int) 20 [vr 6 0] h (xK h) (fun r h' => r = some (vi (keyA v)) ∧ OwX h h' v w g B z κ) := by
  refine Ms.of (by decide) (Nat.le_of_ble_eq_true rfl) (fun G C X F => ?_)
  have C : Cx G cX6_key 5 RX6 := C
  show Rr G 0 [(0, vr 6 0)] [] h
  have bP := o.pv.bP
  have bM := o.pv.bM
  have bN := o.pv.bN
  have bz := o.pt.2.2
  refine r_aload_n C (dx dX6_key 0 rfl) rfl ?_
  refine g_X6_10 C (dx dX6_key 1 rfl) ?_
  refine g_X6_154 (x := nI (vN v)) C (dx dX6_key 2 rfl) o.pv.eN ?_
  refine r_if_ne (tgt := 17) C (dx dX6_key 3 rfl) (by decide) (fun c1 => ?_) (fun c1 => ?_)
  ·
    have c1 : ¬ nI (vN v) = 0 := c1
    refine r_iconst (v := nI 0) C (dx dX6_key 8 rfl) rfl ?_
    refine r_istore_n (ls' := [(0, vr 6 0), (1, vi (nI 0))]) C (dx dX6_key 9 rfl) (by decide) [1, 0] rfl ?_
    refine r_iconst (v := -1) C (dx dX6_key 10 rfl) rfl ?_
    refine r_istore_n (ls' := [(0, vr 6 0), (1, vi (nI 0)), (2, vi (-1))]) C (dx dX6_key 11 rfl) (by decide) [1, 2, 0] rfl ?_
    refine r_iconst (v := nI 0) C (dx dX6_key 12 rfl) rfl ?_
    refine r_istore_n (ls' := [(0, vr 6 0), (1, vi (nI 0)), (2, vi (-1)), (3, vi (nI 0))]) C (dx dX6_key 13 rfl) (by decide) [1, 2, 3, 0] rfl ?_
    refine loopU (Φ := fun p => Rr G 23 [(0, vr 6 0), (1, vi ((kyC v p).1)), (2, vi ((kyC v p).2)), (3, vi (nI p))] [] h) (N := vN v) ?_ ?_ 0 (Nat.zero_le _)
    ·
      skip
      refine r_iload_n C (dx dX6_key 14 rfl) rfl ?_
      refine r_aload_n C (dx dX6_key 15 rfl) rfl ?_
      refine g_X6_10 C (dx dX6_key 16 rfl) ?_
      refine g_X6_154 (x := nI (vN v)) C (dx dX6_key 17 rfl) o.pv.eN ?_
      refine rn_ge (a := (vN v)) (b := vN v) (tgt := 68) C (by omega) (by omega) (dx dX6_key 18 rfl) (by decide) (fun c2 => ?_) (fun c2 => ?_)
      · first
        | (omega; done)
        | (
            have c2 : vN v ≤ (vN v) := c2
            refine r_iload_n C (dx dX6_key 36 rfl) rfl ?_
            have eA : keyA v = (kyC v (vN v)).1 := by simp [keyA, c1, c2]
            exact F.1 _ _ _ _ _ rfl rfl (dx dX6_key 37 rfl) rfl (show some (vi ((kyC v (vN v)).1)) = some (vi (keyA v)) ∧ OwX h h v w g B z κ from by rw [eA]; exact ⟨rfl, ⟨_, o⟩, Fr.rf⟩))
      · first
        | (omega; done)
    ·
      intro p hp ih
      refine r_iload_n C (dx dX6_key 14 rfl) rfl ?_
      refine r_aload_n C (dx dX6_key 15 rfl) rfl ?_
      refine g_X6_10 C (dx dX6_key 16 rfl) ?_
      refine g_X6_154 (x := nI (vN v)) C (dx dX6_key 17 rfl) o.pv.eN ?_
      refine rn_ge (a := p) (b := vN v) (tgt := 68) C (by omega) (by omega) (dx dX6_key 18 rfl) (by decide) (fun c4 => ?_) (fun c4 => ?_)
      · first
        | (omega; done)
        | (
            have c4 : vN v ≤ p := c4
            refine r_iload_n C (dx dX6_key 36 rfl) rfl ?_
            have eA : keyA v = (kyC v p).1 := by simp [keyA, c1, c4]
            exact F.1 _ _ _ _ _ rfl rfl (dx dX6_key 37 rfl) rfl (show some (vi ((kyC v p).1)) = some (vi (keyA v)) ∧ OwX h h v w g B z κ from by rw [eA]; exact ⟨rfl, ⟨_, o⟩, Fr.rf⟩))
      · first
        | (omega; done)
        | (
            have c4 : p < vN v := c4
            refine r_aload_n C (dx dX6_key 19 rfl) rfl ?_
            refine g_X6_10 C (dx dX6_key 20 rfl) ?_
            refine r_aload_n C (dx dX6_key 21 rfl) rfl ?_
            refine g_X6_10 C (dx dX6_key 22 rfl) ?_
            refine r_iload_n C (dx dX6_key 23 rfl) rfl ?_
            refine r_cvP (as := [vi (nI p)]) (st := [vr 5 1]) (v := vi (ownP v (nI p))) C X I_X5_partsOfOne l_X6_312 (c_X5_partsOfOne o.pv _) (by decide) (Nat.le_of_ble_eq_true rfl) List.prefix_rfl rfl rfl (Nat.le_of_ble_eq_true rfl) rfl (dx dX6_key 24 rfl) ?_
            refine r_cvP (as := [vi (ownP v (nI p))]) (st := []) (v := vi (nI (touch v (ownP v (nI p))))) C X I_X5_machinesTouchedBy l_X6_315 (c_X5_machinesTouchedBy o.pv _) (by decide) (Nat.le_of_ble_eq_true rfl) List.prefix_rfl rfl rfl (Nat.le_of_ble_eq_true rfl) rfl (dx dX6_key 25 rfl) ?_
            refine r_istore (ls' := [(0, vr 6 0), (1, vi ((kyC v p).1)), (2, vi ((kyC v p).2)), (3, vi (nI p)), (4, vi (nI (touch v (ownP v (nI p)))))]) C (dx dX6_key 26 rfl) (by decide) [1, 2, 3, 4, 0] rfl ?_
            refine r_iload C (dx dX6_key 27 rfl) rfl ?_
            refine r_iload_n C (dx dX6_key 28 rfl) rfl ?_
            refine r_icmp_le (tgt := 62) C (dx dX6_key 29 rfl) (by decide) (fun c5 => ?_) (fun c5 => ?_)
            ·
              have c5 : nI (touch v (ownP v (nI p))) ≤ (kyC v p).2 := c5
              refine rn_iinc (a := p) (k := 1) (ls' := [(0, vr 6 0), (1, vi ((kyC v p).1)), (2, vi ((kyC v p).2)), (3, vi (nI (p + 1))), (4, vi (nI (touch v (ownP v (nI p)))))]) C (dx dX6_key 34 rfl) rfl rfl (by decide) [1, 2, 3, 0, 4] rfl ?_
              refine r_goto (tgt := 23) C (dx dX6_key 35 rfl) (by decide) ?_
              have e91 : ((kyC v p).1) = ((kyC v (p + 1)).1) := by (simp only [kyC]; rw [if_neg (Int32.not_lt.mpr c5)])
              have e92 : ((kyC v p).2) = ((kyC v (p + 1)).2) := by (simp only [kyC]; rw [if_neg (Int32.not_lt.mpr c5)])
              refine r_weak C [0, 1, 2, 3] rfl ?_
              rw [e92, e91]
              exact ih
            ·
              have c5 : ¬ nI (touch v (ownP v (nI p))) ≤ (kyC v p).2 := c5
              refine r_iload C (dx dX6_key 30 rfl) rfl ?_
              refine r_istore_n (ls' := [(0, vr 6 0), (1, vi ((kyC v p).1)), (2, vi (nI (touch v (ownP v (nI p))))), (3, vi (nI p)), (4, vi (nI (touch v (ownP v (nI p)))))]) C (dx dX6_key 31 rfl) (by decide) [1, 2, 0, 3, 4] rfl ?_
              refine r_iload_n C (dx dX6_key 32 rfl) rfl ?_
              refine r_istore_n (ls' := [(0, vr 6 0), (1, vi (nI p)), (2, vi (nI (touch v (ownP v (nI p))))), (3, vi (nI p)), (4, vi (nI (touch v (ownP v (nI p)))))]) C (dx dX6_key 33 rfl) (by decide) [1, 0, 2, 3, 4] rfl ?_
              refine rn_iinc (a := p) (k := 1) (ls' := [(0, vr 6 0), (1, vi (nI p)), (2, vi (nI (touch v (ownP v (nI p))))), (3, vi (nI (p + 1))), (4, vi (nI (touch v (ownP v (nI p)))))]) C (dx dX6_key 34 rfl) rfl rfl (by decide) [1, 2, 3, 0, 4] rfl ?_
              refine r_goto (tgt := 23) C (dx dX6_key 35 rfl) (by decide) ?_
              have e91 : (nI p) = ((kyC v (p + 1)).1) := by (simp only [kyC]; rw [if_pos (Int32.not_le.mp c5)])
              have e92 : (nI (touch v (ownP v (nI p)))) = ((kyC v (p + 1)).2) := by (simp only [kyC]; rw [if_pos (Int32.not_le.mp c5)])
              refine r_weak C [0, 1, 2, 3] rfl ?_
              rw [e92, e91]
              exact ih)
  ·
    have c1 : nI (vN v) = 0 := c1
    refine r_aload_n C (dx dX6_key 4 rfl) rfl ?_
    refine r_bipush (v := -5) C (dx dX6_key 5 rfl) rfl ?_
    refine r_cv (as := [vi (-5)]) (st := []) C X I_X6_refuse l_X6_76 (c_X6_refuse (-5)) (by decide) (Nat.le_of_ble_eq_true rfl) List.prefix_rfl List.prefix_rfl rfl rfl (Nat.le_of_ble_eq_true rfl) rfl (dx dX6_key 6 rfl) ?_
    intro rh6 h6 hph6 kkh6
    obtain ⟨rfl, gh6⟩ := hph6
    have oh6 : Ow h6 v u w g B z κ := o.ref gh6
    have fh6 : Fr 0 63 h h6 := gh6.mono (by omega) (by omega)
    have kh6 : xK h6 = xK h := kkh6
    have eA : keyA v = -5 := by simp [keyA, c1]
    exact F.1 _ _ _ _ _ rfl rfl (dx dX6_key 7 rfl) kh6 (show some (vi (-5)) = some (vi (keyA v)) ∧ OwX h h6 v w g B z κ from by rw [eA]; exact ⟨rfl, ⟨_, oh6⟩, fh6⟩)
set_option maxHeartbeats 4000000 in
theorem x2_idle {l : Launch} {h : Hp} {v u w : Vg} {g : Sg} {B : Nat → Int32} {z : Nat} {κ : Int32} (o : Ow h v u w g B z κ) (hg : GOk g)  : Ms l yX6_idle cX6_idle 3 (some .int) 20 [vr 6 0] h (xK h) (fun r h' => r = some (vi (idlA v)) ∧ OwX h h' v w g B z κ) := by
  refine Ms.of (by decide) (Nat.le_of_ble_eq_true rfl) (fun G C X F => ?_)
  have C : Cx G cX6_idle 3 RX6 := C
  show Rr G 0 [(0, vr 6 0)] [] h
  have bP := o.pv.bP
  have bM := o.pv.bM
  have bN := o.pv.bN
  have bz := o.pt.2.2
  refine r_aload_n C (dx dX6_idle 0 rfl) rfl ?_
  refine g_X6_29 C (dx dX6_idle 1 rfl) ?_
  refine r_aload_n C (dx dX6_idle 2 rfl) rfl ?_
  refine g_X6_10 C (dx dX6_idle 3 rfl) ?_
  refine r_cv (as := [vr 5 1]) (st := []) C X I_X4_gather l_X6_248 (c_X4_gather o.pv (by omega)) (by decide) (Nat.le_of_ble_eq_true rfl) List.prefix_rfl List.prefix_rfl rfl rfl (Nat.le_of_ble_eq_true rfl) rfl (dx dX6_idle 4 rfl) ?_
  intro rh1 h1 hph1 kkh1
  obtain ⟨rfl, qh1, gh1⟩ := hph1
  have oh1 : Ow h1 v u w g B z κ := o.tm (gh1.mono (by omega) (by omega))
  have fh1 : Fr 0 63 h h1 := gh1.mono (by omega) (by omega)
  have kh1 : xK h1 = xK h := kkh1
  refine r_iconst (v := nI 0) C (dx dX6_idle 5 rfl) rfl ?_
  refine r_istore_n (ls' := [(0, vr 6 0), (1, vi (nI 0))]) C (dx dX6_idle 6 rfl) (by decide) [1, 0] rfl ?_
  refine r_iconst (v := nI 0) C (dx dX6_idle 7 rfl) rfl ?_
  refine r_istore_n (ls' := [(0, vr 6 0), (1, vi (nI 0)), (2, vi (nI 0))]) C (dx dX6_idle 8 rfl) (by decide) [1, 2, 0] rfl ?_
  refine loopU (Φ := fun p => Rr G 15 [(0, vr 6 0), (1, vi (bset (fun o => decide (worthT v o = 0)) p)), (2, vi (nI p))] [] h1) (N := vN v) ?_ ?_ 0 (Nat.zero_le _)
  ·
    skip
    refine r_iload_n C (dx dX6_idle 9 rfl) rfl ?_
    refine r_aload_n C (dx dX6_idle 10 rfl) rfl ?_
    refine g_X6_10 C (dx dX6_idle 11 rfl) ?_
    refine g_X6_154 (x := nI (vN v)) C (dx dX6_idle 12 rfl) oh1.pv.eN ?_
    refine rn_ge (a := (vN v)) (b := vN v) (tgt := 55) C (by omega) (by omega) (dx dX6_idle 13 rfl) (by decide) (fun c2 => ?_) (fun c2 => ?_)
    · first
      | (omega; done)
      | (
          have c2 : vN v ≤ (vN v) := c2
          refine r_iload_n C (dx dX6_idle 31 rfl) rfl ?_
          have eA : idlA v = bset (fun o => decide (worthT v o = 0)) (vN v) := by rfl
          exact F.1 _ _ _ _ _ rfl rfl (dx dX6_idle 32 rfl) kh1 (show some (vi (bset (fun o => decide (worthT v o = 0)) (vN v))) = some (vi (idlA v)) ∧ OwX h h1 v w g B z κ from by rw [eA]; exact ⟨rfl, ⟨_, oh1⟩, fh1⟩))
    · first
      | (omega; done)
  ·
    intro p hp ih
    refine r_iload_n C (dx dX6_idle 9 rfl) rfl ?_
    refine r_aload_n C (dx dX6_idle 10 rfl) rfl ?_
    refine g_X6_10 C (dx dX6_idle 11 rfl) ?_
    refine g_X6_154 (x := nI (vN v)) C (dx dX6_idle 12 rfl) oh1.pv.eN ?_
    refine rn_ge (a := p) (b := vN v) (tgt := 55) C (by omega) (by omega) (dx dX6_idle 13 rfl) (by decide) (fun c4 => ?_) (fun c4 => ?_)
    · first
      | (omega; done)
      | (
          have c4 : vN v ≤ p := c4
          refine r_iload_n C (dx dX6_idle 31 rfl) rfl ?_
          have eA : idlA v = bset (fun o => decide (worthT v o = 0)) p := by rfl
          exact F.1 _ _ _ _ _ rfl rfl (dx dX6_idle 32 rfl) kh1 (show some (vi (bset (fun o => decide (worthT v o = 0)) p)) = some (vi (idlA v)) ∧ OwX h h1 v w g B z κ from by rw [eA]; exact ⟨rfl, ⟨_, oh1⟩, fh1⟩))
    · first
      | (omega; done)
      | (
          have c4 : p < vN v := c4
          refine r_aload_n C (dx dX6_idle 14 rfl) rfl ?_
          refine g_X6_29 C (dx dX6_idle 15 rfl) ?_
          refine r_aload_n C (dx dX6_idle 16 rfl) rfl ?_
          refine g_X6_10 C (dx dX6_idle 17 rfl) ?_
          refine r_iload_n C (dx dX6_idle 18 rfl) rfl ?_
          refine r_cvP (as := [vr 5 1, vi (nI p)]) (st := []) (v := vl (worthT v p)) C X I_X4_worthOfTurnsOn l_X6_257 (c_X4_worthOfTurnsOn oh1.pv (by omega) p (by omega) qh1 oh1.po) (by decide) (Nat.le_of_ble_eq_true rfl) (pfx_eq kh1) rfl rfl (Nat.le_of_ble_eq_true rfl) rfl (dx dX6_idle 19 rfl) ?_
          refine r_lconst (v := 0) C (dx dX6_idle 20 rfl) rfl ?_
          refine r_lcmp C (dx dX6_idle 21 rfl) ?_
          refine r_if_ne (tgt := 49) C (dx dX6_idle 22 rfl) (by decide) (fun c5 => ?_) (fun c5 => ?_)
          ·
            have c5 : ¬ (worthT v p = 0) := fun q => c5 ((lg_cmp_eq _ _).mpr q)
            refine rn_iinc (a := p) (k := 1) (ls' := [(0, vr 6 0), (1, vi (bset (fun o => decide (worthT v o = 0)) p)), (2, vi (nI (p + 1)))]) C (dx dX6_idle 29 rfl) rfl rfl (by decide) [1, 2, 0] rfl ?_
            refine r_goto (tgt := 15) C (dx dX6_idle 30 rfl) (by decide) ?_
            have e91 : (bset (fun o => decide (worthT v o = 0)) p) = (bset (fun o => decide (worthT v o = 0)) (p + 1)) := by simp [bset, c5]
            rw [e91]
            exact ih
          ·
            have c5 : worthT v p = 0 := (lg_cmp_eq _ _).mp c5
            refine r_iload_n C (dx dX6_idle 23 rfl) rfl ?_
            refine r_iconst (v := nI 1) C (dx dX6_idle 24 rfl) rfl ?_
            refine r_iload_n C (dx dX6_idle 25 rfl) rfl ?_
            refine r_ishl C (dx dX6_idle 26 rfl) ?_
            refine r_ior C (dx dX6_idle 27 rfl) ?_
            refine r_istore_n (ls' := [(0, vr 6 0), (1, vi ((bset (fun o => decide (worthT v o = 0)) p) ||| ((nI 1) <<< ((nI p) &&& 31)))), (2, vi (nI p))]) C (dx dX6_idle 28 rfl) (by decide) [1, 0, 2] rfl ?_
            refine rn_iinc (a := p) (k := 1) (ls' := [(0, vr 6 0), (1, vi ((bset (fun o => decide (worthT v o = 0)) p) ||| ((nI 1) <<< ((nI p) &&& 31)))), (2, vi (nI (p + 1)))]) C (dx dX6_idle 29 rfl) rfl rfl (by decide) [1, 2, 0] rfl ?_
            refine r_goto (tgt := 15) C (dx dX6_idle 30 rfl) (by decide) ?_
            have e91 : ((bset (fun o => decide (worthT v o = 0)) p) ||| ((nI 1) <<< ((nI p) &&& 31))) = (bset (fun o => decide (worthT v o = 0)) (p + 1)) := by simp [bset, c5]
            rw [e91]
            exact ih)
set_option maxHeartbeats 4000000 in
theorem x2_judge {l : Launch} {h : Hp} {v u w : Vg} {g : Sg} {B : Nat → Int32} {z : Nat} {κ : Int32} (o : Ow h v u w g B z κ) (hg : GOk g) (m s n : Int32) : Ms l yX6_judge cX6_judge 6 (some .int) 20 [vr 6 0, vi m, vi s, vi n] h (xK h) (fun r h' => r = some (vi (judA v g m s n)) ∧ OwX h h' v w g B z κ) := by
  refine Ms.of (by decide) (Nat.le_of_ble_eq_true rfl) (fun G C X F => ?_)
  have C : Cx G cX6_judge 6 RX6 := C
  show Rr G 0 [(0, vr 6 0), (1, vi m), (2, vi s), (3, vi n)] [] h
  have bP := o.pv.bP
  have bM := o.pv.bM
  have bN := o.pv.bN
  have bz := o.pt.2.2
  refine r_aload_n C (dx dX6_judge 0 rfl) rfl ?_
  refine g_X6_10 C (dx dX6_judge 1 rfl) ?_
  refine r_iload_n C (dx dX6_judge 2 rfl) rfl ?_
  refine r_cvP (as := [vi m]) (st := []) (v := vi (b2i (inR m (vM v)))) C X I_X5_isMachine l_X6_202 (c_X5_isMachine o.pv _) (by decide) (Nat.le_of_ble_eq_true rfl) List.prefix_rfl rfl rfl (Nat.le_of_ble_eq_true rfl) rfl (dx dX6_judge 3 rfl) ?_
  refine rb_ne (b := inR m (vM v)) (tgt := 18) C (dx dX6_judge 4 rfl) (by decide) (fun c1 => ?_) (fun c1 => ?_)
  ·
    have c1 : (inR m (vM v)) = true := c1
    refine r_aload_n C (dx dX6_judge 9 rfl) rfl ?_
    refine r_iload_n C (dx dX6_judge 10 rfl) rfl ?_
    refine r_iload_n C (dx dX6_judge 11 rfl) rfl ?_
    refine r_cvP (as := [vi s, vi n]) (st := []) (v := vi (tfV g s n)) C X I_X6_toldFault l_X6_322 (c_X6_toldFault o hg _ _) (by decide) (Nat.le_of_ble_eq_true rfl) List.prefix_rfl rfl rfl (Nat.le_of_ble_eq_true rfl) rfl (dx dX6_judge 12 rfl) ?_
    refine r_istore (ls' := [(0, vr 6 0), (1, vi m), (2, vi s), (3, vi n), (4, vi (tfV g s n))]) C (dx dX6_judge 13 rfl) (by decide) [1, 2, 3, 4, 0] rfl ?_
    refine r_iload C (dx dX6_judge 14 rfl) rfl ?_
    refine r_if_eq (tgt := 38) C (dx dX6_judge 15 rfl) (by decide) (fun c2 => ?_) (fun c2 => ?_)
    ·
      have c2 : tfV g s n = 0 := c2
      obtain ⟨ν, hν, rfl⟩ := tf_ok c2
      refine r_iconst (v := nI 0) C (dx dX6_judge 20 rfl) rfl ?_
      refine r_istore (ls' := [(0, vr 6 0), (1, vi m), (2, vi s), (3, vi (nI ν)), (4, vi (tfV g s (nI ν))), (5, vi (nI 0))]) C (dx dX6_judge 21 rfl) (by decide) [1, 2, 3, 4, 5, 0] rfl ?_
      refine loopU (Φ := fun p => (∀ d, d < p → (fun d => wkW v m (tdP v g s (nI d))) d = true) → Rr G 41 [(0, vr 6 0), (1, vi m), (2, vi s), (3, vi (nI ν)), (4, vi (tfV g s (nI ν))), (5, vi (nI p))] [] h) (N := ν) ?_ ?_ 0 (Nat.zero_le _) (fun d hd => absurd hd (by omega))
      ·
        intro q9
        refine r_iload C (dx dX6_judge 22 rfl) rfl ?_
        refine r_iload_n C (dx dX6_judge 23 rfl) rfl ?_
        refine rn_ge (a := ν) (b := ν) (tgt := 74) C (by omega) (by omega) (dx dX6_judge 24 rfl) (by decide) (fun c3 => ?_) (fun c3 => ?_)
        · first
          | (omega; done)
          | (
              have c3 : ν ≤ ν := c3
              refine r_iconst (v := -1) C (dx dX6_judge 38 rfl) rfl ?_
              have eA : judA v g m s (nI ν) = -1 := by (unfold judA; rw [if_pos c1, if_pos c2, clN (show ν < 2 ^ 31 by omega), jdF_no ν q9])
              exact F.1 _ _ _ _ _ rfl rfl (dx dX6_judge 39 rfl) rfl (show some (vi (-1)) = some (vi (judA v g m s (nI ν))) ∧ OwX h h v w g B z κ from by rw [eA]; exact ⟨rfl, ⟨_, o⟩, Fr.rf⟩))
        · first
          | (omega; done)
      ·
        intro p hp ih q9
        refine r_iload C (dx dX6_judge 22 rfl) rfl ?_
        refine r_iload_n C (dx dX6_judge 23 rfl) rfl ?_
        refine rn_ge (a := p) (b := ν) (tgt := 74) C (by omega) (by omega) (dx dX6_judge 24 rfl) (by decide) (fun c5 => ?_) (fun c5 => ?_)
        · first
          | (omega; done)
          | (
              have c5 : ν ≤ p := c5
              refine r_iconst (v := -1) C (dx dX6_judge 38 rfl) rfl ?_
              have eA : judA v g m s (nI ν) = -1 := by (unfold judA; rw [if_pos c1, if_pos c2, clN (show ν < 2 ^ 31 by omega), jdF_no ν q9])
              exact F.1 _ _ _ _ _ rfl rfl (dx dX6_judge 39 rfl) rfl (show some (vi (-1)) = some (vi (judA v g m s (nI ν))) ∧ OwX h h v w g B z κ from by rw [eA]; exact ⟨rfl, ⟨_, o⟩, Fr.rf⟩))
        · first
          | (omega; done)
          | (
              have c5 : p < ν := c5
              refine r_aload_n C (dx dX6_judge 25 rfl) rfl ?_
              refine g_X6_10 C (dx dX6_judge 26 rfl) ?_
              refine r_iload_n C (dx dX6_judge 27 rfl) rfl ?_
              refine r_aload_n C (dx dX6_judge 28 rfl) rfl ?_
              refine r_iload_n C (dx dX6_judge 29 rfl) rfl ?_
              refine r_iload C (dx dX6_judge 30 rfl) rfl ?_
              refine r_cvP (as := [vi s, vi (nI p)]) (st := [vi m, vr 5 1]) (v := vi (tdP v g s (nI p))) C X I_X6_partsOnToldDay l_X6_325 (c_X6_partsOnToldDay o hg _ _) (by decide) (Nat.le_of_ble_eq_true rfl) List.prefix_rfl rfl rfl (Nat.le_of_ble_eq_true rfl) rfl (dx dX6_judge 31 rfl) ?_
              refine r_cvP (as := [vi m, vi (tdP v g s (nI p))]) (st := []) (v := vi (b2i (wkW v m (tdP v g s (nI p))))) C X I_X5_isWorkedWith l_X6_226 (c_X5_isWorkedWith o.pv _ _) (by decide) (Nat.le_of_ble_eq_true rfl) List.prefix_rfl rfl rfl (Nat.le_of_ble_eq_true rfl) rfl (dx dX6_judge 32 rfl) ?_
              refine rb_ne (b := wkW v m (tdP v g s (nI p))) (tgt := 68) C (dx dX6_judge 33 rfl) (by decide) (fun c6 => ?_) (fun c6 => ?_)
              ·
                have c6 : (wkW v m (tdP v g s (nI p))) = true := c6
                refine rn_iinc (a := p) (k := 1) (ls' := [(0, vr 6 0), (1, vi m), (2, vi s), (3, vi (nI ν)), (4, vi (tfV g s (nI ν))), (5, vi (nI (p + 1)))]) C (dx dX6_judge 36 rfl) rfl rfl (by decide) [1, 2, 3, 4, 5, 0] rfl ?_
                refine r_goto (tgt := 41) C (dx dX6_judge 37 rfl) (by decide) ?_
                exact ih (jd_s q9 c6)
              ·
                have c6 : (wkW v m (tdP v g s (nI p))) = false := c6
                refine r_iload C (dx dX6_judge 34 rfl) rfl ?_
                have eA : judA v g m s (nI ν) = nI p := by (unfold judA; rw [if_pos c1, if_pos c2, clN (show ν < 2 ^ 31 by omega), jdF_at q9 c6 (by omega) ν (by omega)])
                exact F.1 _ _ _ _ _ rfl rfl (dx dX6_judge 35 rfl) rfl (show some (vi (nI p)) = some (vi (judA v g m s (nI ν))) ∧ OwX h h v w g B z κ from by rw [eA]; exact ⟨rfl, ⟨_, o⟩, Fr.rf⟩))
    ·
      have c2 : ¬ tfV g s n = 0 := c2
      refine r_aload_n C (dx dX6_judge 16 rfl) rfl ?_
      refine r_iload C (dx dX6_judge 17 rfl) rfl ?_
      refine r_cv (as := [vi (tfV g s n)]) (st := []) C X I_X6_refuse l_X6_76 (c_X6_refuse (tfV g s n)) (by decide) (Nat.le_of_ble_eq_true rfl) List.prefix_rfl List.prefix_rfl rfl rfl (Nat.le_of_ble_eq_true rfl) rfl (dx dX6_judge 18 rfl) ?_
      intro rh7 h7 hph7 kkh7
      obtain ⟨rfl, gh7⟩ := hph7
      have oh7 : Ow h7 v u w g B z κ := o.ref gh7
      have fh7 : Fr 0 63 h h7 := gh7.mono (by omega) (by omega)
      have kh7 : xK h7 = xK h := kkh7
      have eA : judA v g m s n = tfV g s n := by simp [judA, c1, c2]
      exact F.1 _ _ _ _ _ rfl rfl (dx dX6_judge 19 rfl) kh7 (show some (vi (tfV g s n)) = some (vi (judA v g m s n)) ∧ OwX h h7 v w g B z κ from by rw [eA]; exact ⟨rfl, ⟨_, oh7⟩, fh7⟩)
  ·
    have c1 : (inR m (vM v)) = false := c1
    refine r_aload_n C (dx dX6_judge 5 rfl) rfl ?_
    refine r_bipush (v := -2) C (dx dX6_judge 6 rfl) rfl ?_
    refine r_cv (as := [vi (-2)]) (st := []) C X I_X6_refuse l_X6_76 (c_X6_refuse (-2)) (by decide) (Nat.le_of_ble_eq_true rfl) List.prefix_rfl List.prefix_rfl rfl rfl (Nat.le_of_ble_eq_true rfl) rfl (dx dX6_judge 7 rfl) ?_
    intro rh8 h8 hph8 kkh8
    obtain ⟨rfl, gh8⟩ := hph8
    have oh8 : Ow h8 v u w g B z κ := o.ref gh8
    have fh8 : Fr 0 63 h h8 := gh8.mono (by omega) (by omega)
    have kh8 : xK h8 = xK h := kkh8
    have eA : judA v g m s n = -2 := by simp [judA, c1]
    exact F.1 _ _ _ _ _ rfl rfl (dx dX6_judge 8 rfl) kh8 (show some (vi (-2)) = some (vi (judA v g m s n)) ∧ OwX h h8 v w g B z κ from by rw [eA]; exact ⟨rfl, ⟨_, oh8⟩, fh8⟩)
set_option maxHeartbeats 4000000 in
theorem x2_told {l : Launch} {h : Hp} {v u w : Vg} {g : Sg} {B : Nat → Int32} {z : Nat} {κ : Int32} (o : Ow h v u w g B z κ) (hg : GOk g) (s n : Int32) : Ms l yX6_told cX6_told 6 (some .int) 20 [vr 6 0, vi s, vi n] h (xK h) (fun r h' => r = some (vi (tolA v g s n)) ∧ OwX h h' v w g B z κ) := by
  refine Ms.of (by decide) (Nat.le_of_ble_eq_true rfl) (fun G C X F => ?_)
  have C : Cx G cX6_told 6 RX6 := C
  show Rr G 0 [(0, vr 6 0), (1, vi s), (2, vi n)] [] h
  have bP := o.pv.bP
  have bM := o.pv.bM
  have bN := o.pv.bN
  have bz := o.pt.2.2
  refine r_aload_n C (dx dX6_told 0 rfl) rfl ?_
  refine r_iload_n C (dx dX6_told 1 rfl) rfl ?_
  refine r_iload_n C (dx dX6_told 2 rfl) rfl ?_
  refine r_cvP (as := [vi s, vi n]) (st := []) (v := vi (tfV g s n)) C X I_X6_toldFault l_X6_322 (c_X6_toldFault o hg _ _) (by decide) (Nat.le_of_ble_eq_true rfl) List.prefix_rfl rfl rfl (Nat.le_of_ble_eq_true rfl) rfl (dx dX6_told 3 rfl) ?_
  refine r_istore_n (ls' := [(0, vr 6 0), (1, vi s), (2, vi n), (3, vi (tfV g s n))]) C (dx dX6_told 4 rfl) (by decide) [1, 2, 3, 0] rfl ?_
  refine r_iload_n C (dx dX6_told 5 rfl) rfl ?_
  refine r_if_eq (tgt := 17) C (dx dX6_told 6 rfl) (by decide) (fun c1 => ?_) (fun c1 => ?_)
  ·
    have c1 : tfV g s n = 0 := c1
    obtain ⟨ν, hν, rfl⟩ := tf_ok c1
    refine r_iconst (v := nI 0) C (dx dX6_told 11 rfl) rfl ?_
    refine r_istore (ls' := [(0, vr 6 0), (1, vi s), (2, vi (nI ν)), (3, vi (tfV g s (nI ν))), (4, vi (nI 0))]) C (dx dX6_told 12 rfl) (by decide) [1, 2, 3, 4, 0] rfl ?_
    refine r_iconst (v := nI 0) C (dx dX6_told 13 rfl) rfl ?_
    refine r_istore (ls' := [(0, vr 6 0), (1, vi s), (2, vi (nI ν)), (3, vi (tfV g s (nI ν))), (4, vi (nI 0)), (5, vi (nI 0))]) C (dx dX6_told 14 rfl) (by decide) [1, 2, 3, 4, 5, 0] rfl ?_
    refine loopU (Φ := fun p => Rr G 23 [(0, vr 6 0), (1, vi s), (2, vi (nI ν)), (3, vi (tfV g s (nI ν))), (4, vi (tdS v g s p)), (5, vi (nI p))] [] h) (N := ν) ?_ ?_ 0 (Nat.zero_le _)
    ·
      skip
      refine r_iload C (dx dX6_told 15 rfl) rfl ?_
      refine r_iload_n C (dx dX6_told 16 rfl) rfl ?_
      refine rn_ge (a := ν) (b := ν) (tgt := 54) C (by omega) (by omega) (dx dX6_told 17 rfl) (by decide) (fun c2 => ?_) (fun c2 => ?_)
      · first
        | (omega; done)
        | (
            have c2 : ν ≤ ν := c2
            refine r_iload C (dx dX6_told 30 rfl) rfl ?_
            have eA : tolA v g s (nI ν) = tdS v g s ν := by simp [tolA, clN (show ν < 2 ^ 31 by omega), c1, c2]
            exact F.1 _ _ _ _ _ rfl rfl (dx dX6_told 31 rfl) rfl (show some (vi (tdS v g s ν)) = some (vi (tolA v g s (nI ν))) ∧ OwX h h v w g B z κ from by rw [eA]; exact ⟨rfl, ⟨_, o⟩, Fr.rf⟩))
      · first
        | (omega; done)
    ·
      intro p hp ih
      refine r_iload C (dx dX6_told 15 rfl) rfl ?_
      refine r_iload_n C (dx dX6_told 16 rfl) rfl ?_
      refine rn_ge (a := p) (b := ν) (tgt := 54) C (by omega) (by omega) (dx dX6_told 17 rfl) (by decide) (fun c3 => ?_) (fun c3 => ?_)
      · first
        | (omega; done)
        | (
            have c3 : ν ≤ p := c3
            refine r_iload C (dx dX6_told 30 rfl) rfl ?_
            have eA : tolA v g s (nI ν) = tdS v g s p := by simp [tolA, clN (show ν < 2 ^ 31 by omega), c1, c3]
            exact F.1 _ _ _ _ _ rfl rfl (dx dX6_told 31 rfl) rfl (show some (vi (tdS v g s p)) = some (vi (tolA v g s (nI ν))) ∧ OwX h h v w g B z κ from by rw [eA]; exact ⟨rfl, ⟨_, o⟩, Fr.rf⟩))
      · first
        | (omega; done)
        | (
            have c3 : p < ν := c3
            refine r_iload C (dx dX6_told 18 rfl) rfl ?_
            refine r_aload_n C (dx dX6_told 19 rfl) rfl ?_
            refine g_X6_10 C (dx dX6_told 20 rfl) ?_
            refine r_aload_n C (dx dX6_told 21 rfl) rfl ?_
            refine r_iload_n C (dx dX6_told 22 rfl) rfl ?_
            refine r_iload C (dx dX6_told 23 rfl) rfl ?_
            refine r_cvP (as := [vi s, vi (nI p)]) (st := [vr 5 1, vi (tdS v g s p)]) (v := vi (tdP v g s (nI p))) C X I_X6_partsOnToldDay l_X6_325 (c_X6_partsOnToldDay o hg _ _) (by decide) (Nat.le_of_ble_eq_true rfl) List.prefix_rfl rfl rfl (Nat.le_of_ble_eq_true rfl) rfl (dx dX6_told 24 rfl) ?_
            refine r_cvP (as := [vi (tdP v g s (nI p))]) (st := [vi (tdS v g s p)]) (v := vi (worthS v (tdP v g s (nI p)))) C X I_X5_worthWith l_X6_328 (c_X5_worthWith o.pv _) (by decide) (Nat.le_of_ble_eq_true rfl) List.prefix_rfl rfl rfl (Nat.le_of_ble_eq_true rfl) rfl (dx dX6_told 25 rfl) ?_
            refine r_iadd C (dx dX6_told 26 rfl) ?_
            refine r_istore (ls' := [(0, vr 6 0), (1, vi s), (2, vi (nI ν)), (3, vi (tfV g s (nI ν))), (4, vi ((tdS v g s p) + (worthS v (tdP v g s (nI p))))), (5, vi (nI p))]) C (dx dX6_told 27 rfl) (by decide) [1, 2, 3, 4, 0, 5] rfl ?_
            refine rn_iinc (a := p) (k := 1) (ls' := [(0, vr 6 0), (1, vi s), (2, vi (nI ν)), (3, vi (tfV g s (nI ν))), (4, vi ((tdS v g s p) + (worthS v (tdP v g s (nI p))))), (5, vi (nI (p + 1)))]) C (dx dX6_told 28 rfl) rfl rfl (by decide) [1, 2, 3, 4, 5, 0] rfl ?_
            refine r_goto (tgt := 23) C (dx dX6_told 29 rfl) (by decide) ?_
            have e94 : ((tdS v g s p) + (worthS v (tdP v g s (nI p)))) = (tdS v g s (p + 1)) := by rfl
            rw [e94]
            exact ih)
  ·
    have c1 : ¬ tfV g s n = 0 := c1
    refine r_aload_n C (dx dX6_told 7 rfl) rfl ?_
    refine r_iload_n C (dx dX6_told 8 rfl) rfl ?_
    refine r_cv (as := [vi (tfV g s n)]) (st := []) C X I_X6_refuse l_X6_76 (c_X6_refuse (tfV g s n)) (by decide) (Nat.le_of_ble_eq_true rfl) List.prefix_rfl List.prefix_rfl rfl rfl (Nat.le_of_ble_eq_true rfl) rfl (dx dX6_told 9 rfl) ?_
    intro rh4 h4 hph4 kkh4
    obtain ⟨rfl, gh4⟩ := hph4
    have oh4 : Ow h4 v u w g B z κ := o.ref gh4
    have fh4 : Fr 0 63 h h4 := gh4.mono (by omega) (by omega)
    have kh4 : xK h4 = xK h := kkh4
    have eA : tolA v g s n = tfV g s n := by simp [tolA, c1]
    exact F.1 _ _ _ _ _ rfl rfl (dx dX6_told 10 rfl) kh4 (show some (vi (tfV g s n)) = some (vi (tolA v g s n)) ∧ OwX h h4 v w g B z κ from by rw [eA]; exact ⟨rfl, ⟨_, oh4⟩, fh4⟩)

