/-! PART 28: the reference: shelves -/
/-- the shelves in the reference's cells, as the class has them -/
def MsR (h : Hp) (k : Nat) (g : Sg) (s : Nat) : Prop := ∃ t n, t < 5 ∧ n ≤ 40 ∧ xI h (k + 1) s = nI 1 ∧ xI h (k + 2) s = nI t ∧ xI h (k + 3) s = nI n ∧ gT g s = nI t ∧ gZ g s = nI n ∧ ∀ i, i < 40 → xL h (k + 5 + s) i = gE g s i
def MsH (h : Hp) (k : Nat) (g : Sg) (s : Nat) : Prop := ∃ κ b, 1 ≤ κ ∧ κ ≤ 5 ∧ b < 100 ∧ xI h (k + 1) s = nI 2 ∧ xI h (k + 14) s = nI κ ∧ xI h (k + 15) s = nI b ∧ gT g s = nI (10 + κ) ∧ gY g s = nI b
def Ms1 (h : Hp) (k : Nat) (g : Sg) (s : Nat) : Prop := (xI h (k + 1) s = nI 0 ∧ gT g s = -1) ∨ MsR h k g s ∨ MsH h k g s
def MshAt (h : Hp) (k : Nat) (g : Sg) : Prop := ∀ s, s < 8 → Ms1 h k g s
def Ks (k : Nat) (h h' : Hp) : Prop := xI h' k 8 = xI h k 8 ∧ xN h' k = xN h k ∧ Fr k (k + 32) h h'
theorem Ks.rf {k : Nat} {h : Hp} : Ks k h h := ⟨rfl, rfl, Fr.rf⟩
theorem Ks.tr {k : Nat} {h h1 h2 : Hp} (a : Ks k h h1) (b : Ks k h1 h2) : Ks k h h2 := ⟨b.1.trans a.1, b.2.1.trans a.2.1, a.2.2.tr b.2.2⟩
theorem Kp.ks {k : Nat} {h h1 : Hp} (a : Kp k h h1) : Ks k h h1 := ⟨a.1, a.2.1, a.2.2.to (fun b q => by unfold VC at q; omega)⟩
theorem Ks.fr {k lo hi : Nat} {h h1 : Hp} (f : Fr lo hi h h1) (h1' : k < lo) (h2 : hi ≤ k + 32) : Ks k h h1 :=
  ⟨by rw [(f k (by omega)).1], (f k (by omega)).2.2, f.mono (by omega) (by omega)⟩
section MS
variable {h h1 : Hp} {k s : Nat} {g g' : Sg} {P : Nat → Prop}
theorem Ms1.ag (a : Ms1 h k g s) (hs : s < 8) (f : Fs P h h1) (q : un P (k + 1) (k + 16)) (e : gT g' s = gT g s ∧ gZ g' s = gZ g s ∧ gY g' s = gY g s ∧ gE g' s = gE g s) : Ms1 h1 k g' s := by
  obtain ⟨e1, e2, e3, e4⟩ := e
  have f1 : ∀ b, k + 1 ≤ b → b < k + 16 → xI h1 b = xI h b ∧ xL h1 b = xL h b := fun b p1 p2 => ⟨(f b (q b p1 p2)).1, (f b (q b p1 p2)).2.1⟩
  rcases a with ⟨a1, a2⟩ | ⟨t, n, a1, a2, a3, a4, a5, a6, a7, a8⟩ | ⟨κ, b, a1, a2, a3, a4, a5, a6, a7, a8⟩
  · exact Or.inl ⟨by rw [(f1 _ (by omega) (by omega)).1]; exact a1, e1.trans a2⟩
  · exact Or.inr (Or.inl ⟨t, n, a1, a2, by rw [(f1 _ (by omega) (by omega)).1]; exact a3, by rw [(f1 _ (by omega) (by omega)).1]; exact a4, by rw [(f1 _ (by omega) (by omega)).1]; exact a5, e1.trans a6, e2.trans a7, fun i hi => by rw [(f1 _ (by omega) (by omega)).2, e4]; exact a8 i hi⟩)
  · exact Or.inr (Or.inr ⟨κ, b, a1, a2, a3, by rw [(f1 _ (by omega) (by omega)).1]; exact a4, by rw [(f1 _ (by omega) (by omega)).1]; exact a5, by rw [(f1 _ (by omega) (by omega)).1]; exact a6, e1.trans a7, e3.trans a8⟩)
theorem MshAt.ag (a : MshAt h k g) (f : Fs P h h1) (q : un P (k + 1) (k + 16)) : MshAt h1 k g := fun s hs => (a s hs).ag hs f q ⟨rfl, rfl, rfl, rfl⟩
theorem MshAt.kp (a : MshAt h k g) (f : Kp k h h1) : MshAt h1 k g := a.ag f.2.2 (fun b _ _ q => by unfold VC at q; omega)
theorem MshAt.fr {lo hi : Nat} (a : MshAt h k g) (f : Fr lo hi h h1) (q : k + 16 ≤ lo ∨ hi ≤ k + 1) : MshAt h1 k g := a.ag f.fs (fun b _ _ q => by omega)
/-- one shelf changed: the others' cells stay -/
theorem MshAt.one (a : MshAt h k g) (hs : s < 8) (n : Ms1 h1 k g' s) (c : ∀ s', s' ≠ s → gT g' s' = gT g s' ∧ gZ g' s' = gZ g s' ∧ gY g' s' = gY g s' ∧ gE g' s' = gE g s')
    (f : ∀ s', s' ≠ s → s' < 8 → xI h1 (k + 1) s' = xI h (k + 1) s' ∧ xI h1 (k + 2) s' = xI h (k + 2) s' ∧ xI h1 (k + 3) s' = xI h (k + 3) s' ∧ xI h1 (k + 14) s' = xI h (k + 14) s' ∧ xI h1 (k + 15) s' = xI h (k + 15) s' ∧ xL h1 (k + 5 + s') = xL h (k + 5 + s')) : MshAt h1 k g' := fun s' hs' => by
  by_cases q : s' = s
  · subst q; exact n
  · obtain ⟨e1, e2, e3, e4⟩ := c s' q
    obtain ⟨f1, f2, f3, f4, f5, f6⟩ := f s' q hs'
    rcases a s' hs' with ⟨a1, a2⟩ | ⟨t, n, a1, a2, a3, a4, a5, a6, a7, a8⟩ | ⟨κ, b, a1, a2, a3, a4, a5, a6, a7, a8⟩
    · exact Or.inl ⟨f1.trans a1, e1.trans a2⟩
    · exact Or.inr (Or.inl ⟨t, n, a1, a2, f1.trans a3, f2.trans a4, f3.trans a5, e1.trans a6, e2.trans a7, fun i hi => by rw [f6, e4]; exact a8 i hi⟩)
    · exact Or.inr (Or.inr ⟨κ, b, a1, a2, a3, f1.trans a4, f4.trans a5, f5.trans a6, e1.trans a7, e3.trans a8⟩)
theorem sf_ne {f : Nat → Int32} {i j : Nat} {x : Int32} (h : j ≠ i) : sf f i x j = f j := if_neg h
theorem sf_at {f : Nat → Int32} {i : Nat} {x : Int32} : sf f i x i = x := if_pos rfl
theorem rowE_ne {E : Nat → Nat → Int64} {i j : Nat} {f : Nat → Int64} (h : j ≠ i) : rowE E i f j = E j := by funext x; exact if_neg h
theorem rowE_at {E : Nat → Nat → Int64} {i : Nat} {f : Nat → Int64} : rowE E i f i = f := by funext x; exact if_pos rfl
theorem msh_row {t n : Nat} (a : MshAt h k g) (hs : s < 8) (ht : t < 5) (hn : n ≤ 40) (f : Fr (k + 5 + s) (k + 5 + s + 1) (sI (sI (sI h (k + 1) s (nI 1)) (k + 2) s (nI t)) (k + 3) s (nI n)) h1) (z : ∀ i, i < 40 → xL h1 (k + 5 + s) i = 0) : MshAt h1 k (pRow g s (nI t) n) := by
  have e1 : ∀ j, xI h1 (k + 1) j = if j = s then nI 1 else xI h (k + 1) j := fun j => by rw [f.I (by omega), sI_ne (by omega), sI_ne (by omega), sI_at]
  have e2 : ∀ j, xI h1 (k + 2) j = if j = s then nI t else xI h (k + 2) j := fun j => by rw [f.I (by omega), sI_ne (by omega), sI_at]; rw [sI_ne (by omega)]
  have e3 : ∀ j, xI h1 (k + 3) j = if j = s then nI n else xI h (k + 3) j := fun j => by rw [f.I (by omega), sI_at]; rw [sI_ne (by omega), sI_ne (by omega)]
  refine a.one hs (Or.inr (Or.inl ⟨t, n, ht, hn, (e1 s).trans (if_pos rfl), (e2 s).trans (if_pos rfl), (e3 s).trans (if_pos rfl), sf_at, sf_at, fun i hi => by rw [z i hi]; show (0 : Int64) = rowE (gE g) s (fun _ => 0) s i; rw [rowE_at]⟩)) (fun s' q => ⟨sf_ne q, sf_ne q, rfl, rowE_ne q⟩) (fun s' q hs' => ⟨(e1 s').trans (if_neg q), (e2 s').trans (if_neg q), (e3 s').trans (if_neg q), ?_, ?_, ?_⟩)
  · rw [f.I (by omega), sI_ne (by omega), sI_ne (by omega), sI_ne (by omega)]
  · rw [f.I (by omega), sI_ne (by omega), sI_ne (by omega), sI_ne (by omega)]
  · rw [(f _ (by omega)).2.1]; rfl
theorem msh_hold {κ b : Nat} (a : MshAt h k g) (hs : s < 8) (h1' : 1 ≤ κ ∧ κ ≤ 5) (hb : b < 100) : MshAt (sI (sI (sI h (k + 1) s (nI 2)) (k + 14) s (nI κ)) (k + 15) s (nI b)) k (pHold g s κ b) := by
  refine a.one hs (Or.inr (Or.inr ⟨κ, b, h1'.1, h1'.2, hb, ?_, ?_, ?_, sf_at, sf_at⟩)) (fun s' q => ⟨sf_ne q, sf_ne q, sf_ne q, rfl⟩) (fun s' q hs' => ⟨?_, ?_, ?_, ?_, ?_, rfl⟩)
  · rw [sI_ne (by omega), sI_ne (by omega), sI_at, if_pos rfl]
  · rw [sI_ne (by omega), sI_at, if_pos rfl]
  · rw [sI_at, if_pos rfl]
  · rw [sI_ne (by omega), sI_ne (by omega), sI_at, if_neg q]
  · rw [sI_ne (by omega), sI_ne (by omega), sI_ne (by omega)]
  · rw [sI_ne (by omega), sI_ne (by omega), sI_ne (by omega)]
  · rw [sI_ne (by omega), sI_at, if_neg q, sI_ne (by omega)]
  · rw [sI_at, if_neg q, sI_ne (by omega), sI_ne (by omega)]
/-- a row's elements changed -/
theorem msh_els {F : Nat → Int64} (a : MshAt h k g) (hs : s < 8) (r : MsR h k g s) (f : Fr (k + 5 + s) (k + 5 + s + 1) h h1) (z : ∀ i, i < 40 → xL h1 (k + 5 + s) i = F i) : MshAt h1 k (gT g, gZ g, gY g, rowE (gE g) s F) := by
  obtain ⟨t, n, a1, a2, a3, a4, a5, a6, a7, a8⟩ := r
  exact a.one hs (Or.inr (Or.inl ⟨t, n, a1, a2, (f.I (by omega) _).trans a3, (f.I (by omega) _).trans a4, (f.I (by omega) _).trans a5, a6, a7, fun i hi => (z i hi).trans (congrFun rowE_at i).symm⟩)) (fun s' q => ⟨rfl, rfl, rfl, rowE_ne q⟩)
    (fun s' q hs' => ⟨f.I (by omega) _, f.I (by omega) _, f.I (by omega) _, f.I (by omega) _, f.I (by omega) _, (f _ (by omega)).2.1⟩)
theorem sh_bare {σ : Nat} (hσ : σ < 8) (e : gT g σ = -1) : bareB g (nI σ) = true ∧ holdB g (nI σ) = false ∧ rowB g (nI σ) = false ∧ szV g (nI σ) = nI 0 ∧ tOn g (nI σ) = -1 ∧ rfV g (nI σ) = -4 ∧ hfV g (nI σ) = -4 := by
  have t : tOn g (nI σ) = -1 := by unfold tOn; rw [if_pos (inN (by omega) hσ), clN (by omega), e]
  have b : bareB g (nI σ) = true := by unfold bareB; rw [t]; rfl
  have h : holdB g (nI σ) = false := by unfold holdB; rw [t]; decide
  have r : rowB g (nI σ) = false := by unfold rowB; rw [b, h]; rfl
  exact ⟨b, h, r, by unfold szV; rw [r]; rfl, t, by unfold rfV; rw [h, b]; rfl, by unfold hfV; rw [r, b]; rfl⟩
theorem sh_row {σ t n : Nat} (hσ : σ < 8) (ht : t < 5) (e : gT g σ = nI t) (ez : gZ g σ = nI n) : bareB g (nI σ) = false ∧ holdB g (nI σ) = false ∧ rowB g (nI σ) = true ∧ szV g (nI σ) = nI n ∧ tOn g (nI σ) = nI t ∧ rfV g (nI σ) = nI 0 ∧ hfV g (nI σ) = -3 := by
  have tt : tOn g (nI σ) = nI t := by unfold tOn; rw [if_pos (inN (by omega) hσ), clN (by omega), e]
  have b : bareB g (nI σ) = false := by unfold bareB; rw [tt]; exact decide_eq_false (nI_nm1 (by omega))
  have h : holdB g (nI σ) = false := by unfold holdB; rw [tt]; exact decide_eq_false (fun z => z ((nI_ltI (by omega) (by omega)).mpr (by omega)))
  have r : rowB g (nI σ) = true := by unfold rowB; rw [b, h]; rfl
  exact ⟨b, h, r, by unfold szV; rw [if_pos r, clN (by omega), ez], tt, by unfold rfV; rw [h, b]; rfl, by unfold hfV; rw [r]; rfl⟩
theorem sh_hold {σ κ b : Nat} (hσ : σ < 8) (hκ : κ ≤ 5) (e : gT g σ = nI (10 + κ)) (ey : gY g σ = nI b) : bareB g (nI σ) = false ∧ holdB g (nI σ) = true ∧ rowB g (nI σ) = false ∧ szV g (nI σ) = nI 0 ∧ tOn g (nI σ) = nI (10 + κ) ∧ rfV g (nI σ) = -3 ∧ hfV g (nI σ) = nI 0 ∧ byV g (nI σ) = nI b := by
  have tt : tOn g (nI σ) = nI (10 + κ) := by unfold tOn; rw [if_pos (inN (by omega) hσ), clN (by omega), e]
  have bb : bareB g (nI σ) = false := by unfold bareB; rw [tt]; exact decide_eq_false (nI_nm1 (by omega))
  have h : holdB g (nI σ) = true := by unfold holdB; rw [tt]; exact decide_eq_true (fun z => by have := (nI_ltI (by omega) (by omega)).mp z; omega)
  have r : rowB g (nI σ) = false := by unfold rowB; rw [bb, h]; rfl
  exact ⟨bb, h, r, by unfold szV; rw [r]; rfl, tt, by unfold rfV; rw [h]; rfl, by unfold hfV; rw [r, bb]; rfl, by unfold byV; rw [if_pos h, clN (by omega), ey]⟩
end MS
def nrA (g : Sg) (s : Int32) : Int32 := if inR s 8 = true then rfV g s else -2
def nhA (g : Sg) (s : Int32) : Int32 := if inR s 8 = true then hfV g s else -2
theorem nr_ok {h : Hp} {k : Nat} {g : Sg} {s : Int32} (a : MshAt h k g) (c : nrA g s = 0) : ∃ σ, σ < 8 ∧ s = nI σ ∧ MsR h k g σ := by
  unfold nrA at c
  split at c
  · next q =>
    obtain ⟨σ, hσ, rfl⟩ := inR_ex (by omega) q
    refine ⟨σ, hσ, rfl, ?_⟩
    rcases a σ hσ with ⟨a1, a2⟩ | r | ⟨κ, b, a1, a2, a3, a4, a5, a6, a7, a8⟩
    · rw [(sh_bare hσ a2).2.2.2.2.2.1] at c; exact absurd c (by decide)
    · exact r
    · rw [(sh_hold hσ a2 a7 a8).2.2.2.2.2.1] at c; exact absurd c (by decide)
  · exact absurd c (by decide)
theorem nh_ok {h : Hp} {k : Nat} {g : Sg} {s : Int32} (a : MshAt h k g) (c : nhA g s = 0) : ∃ σ, σ < 8 ∧ s = nI σ ∧ MsH h k g σ := by
  unfold nhA at c
  split at c
  · next q =>
    obtain ⟨σ, hσ, rfl⟩ := inR_ex (by omega) q
    refine ⟨σ, hσ, rfl, ?_⟩
    rcases a σ hσ with ⟨a1, a2⟩ | ⟨t, n, a1, a2, a3, a4, a5, a6, a7, a8⟩ | r
    · rw [(sh_bare hσ a2).2.2.2.2.2.2] at c; exact absurd c (by decide)
    · rw [(sh_row hσ a1 a6 a7).2.2.2.2.2.2] at c; exact absurd c (by decide)
    · exact r
  · exact absurd c (by decide)
theorem inR_iff {x : Int32} {n : Nat} (hn : n < 2 ^ 31) : inR x n = true ↔ (¬ x < 0 ∧ x < nI n) := by
  constructor
  · intro q
    obtain ⟨j, hj, rfl⟩ := inR_ex hn q
    exact ⟨nI_pos (by omega), (nI_ltI (by omega) hn).mpr hj⟩
  · rintro ⟨a, b⟩
    exact inR_ok hn a (Int32.not_le.mpr b)
theorem setB_row {g : Sg} {σ n : Nat} {i : Int32} (hσ : σ < 8) (e : rfV g (nI σ) = nI 0) (ez : szV g (nI σ) = nI n) (hn : n ≤ 40) : setB g (nI σ) i = inR i n := by
  rw [Bool.eq_iff_iff, inR_iff (by omega)]
  unfold setB
  rw [inN (by omega) hσ, e, ez]
  simp [show nI 0 = (0 : Int32) from rfl]
theorem set_row {g : Sg} {σ n : Nat} {i : Int32} {x : Int64} (hσ : σ < 8) (e : rfV g (nI σ) = nI 0) (ez : szV g (nI σ) = nI n) (hn : n ≤ 40) : setA g (nI σ) i = (if inR i n = true then nI 1 else -2) ∧ setG g (nI σ) i x = (if inR i n = true then pEl g σ i x else g) := by
  unfold setA setG
  rw [setB_row hσ e ez hn, inN (by omega) hσ, e, clN (by omega)]
  exact ⟨rfl, rfl⟩
theorem set_no {g : Sg} {s i : Int32} {x : Int64} (c : ¬ nrA g s = 0) : setA g s i = nrA g s ∧ setG g s i x = g := by
  unfold nrA at c ⊢
  unfold setA setG setB
  by_cases h : inR s 8 = true
  · rw [if_pos h] at c ⊢
    rw [if_pos h, if_neg c]
    exact ⟨rfl, by rw [h, show decide (rfV g s = 0) = false from decide_eq_false c]; rfl⟩
  · rw [if_neg h, if_neg h]
    exact ⟨rfl, by rw [Bool.eq_false_iff.mpr h]; rfl⟩
theorem pEl_row {g : Sg} {σ i n : Nat} {x : Int64} (ez : szV g (nI σ) = nI n) (hi : i < n) (hn : n ≤ 40) : pEl g σ (nI i) x = rowPut g σ i (lowB (gT g σ) x) := by
  unfold pEl
  rw [ez, if_neg (fun z => z.elim (fun q => nI_pos (by omega) q) (fun q => by have := (nI_leI (by omega) (by omega)).mp q; omega)), clN (by omega)]
theorem el_0 {g : Sg} {s i : Int32} (e : szV g s = nI 0) : elV g s i = 0 := by
  unfold elV
  rw [e]
  by_cases h : i < 0
  · rw [if_pos (Or.inl h)]
  · rw [if_pos (Or.inr (show nI 0 ≤ i from Int32.not_lt.mp h))]
theorem sz_out {g : Sg} {s : Int32} (h : inR s 8 = false) : szV g s = nI 0 := by
  unfold szV
  rw [if_neg (fun z => by rw [row_in z] at h; cases h)]
theorem el_row {g : Sg} {σ n : Nat} {i : Int32} (hσ : σ < 8) (ez : szV g (nI σ) = nI n) (hn : n ≤ 40) : elV g (nI σ) i = if inR i n = true then gE g σ i.toNatClampNeg else 0 := by
  unfold elV
  rw [ez, clN (by omega)]
  by_cases h : inR i n = true
  · obtain ⟨a, b⟩ := (inR_iff (by omega)).mp h
    rw [if_pos h, if_neg (fun z => z.elim a (fun q => Int32.not_lt.mpr q b))]
  · rw [if_neg h, if_pos (by
      by_cases a : i < 0
      · exact Or.inl a
      · exact Or.inr (Int32.not_lt.mp (fun b => h ((inR_iff (by omega)).mpr ⟨a, b⟩))))]
theorem hld_b {k : Int32} : decide (¬ k < nI 1 ∧ ¬ nI 5 < k) = btwB k 1 5 := by
  unfold btwB; rw [← Bool.decide_and]
theorem hldB_eq {s k a : Int32} : hldB s k a = (inR s 8 && (btwB k 1 5 && inR a 100)) := by unfold hldB; rw [hld_b]
theorem msh_set {h : Hp} {k σ i t : Nat} {g : Sg} {x : Int64} (a : MshAt h k g) (hσ : σ < 8) (r : MsR h k g σ) (e : gT g σ = nI t) : MshAt (sL h (k + 5 + σ) i (lowB (nI t) x)) k (rowPut g σ i (lowB (gT g σ) x)) := by
  refine msh_els a hσ r (Fr.sL (by omega) (by omega)) (fun j hj => ?_)
  obtain ⟨t', n, a1, a2, a3, a4, a5, a6, a7, a8⟩ := r
  rw [sL_at, a8 j hj, e]
set_option maxHeartbeats 4000000 in
theorem c_X7_fit {l : Launch} {h : Hp} (x : Int32) (v : Int64) : Mp l yX7_fit cX7_fit 3 (some .long) 1 [vi x, vl v] h (vl (lowB x v)) := by
  refine Ms.of (by decide) (Nat.le_of_ble_eq_true rfl) (fun G C X F => ?_)
  have C : Cx G cX7_fit 3 RX7 := C
  show Rr G 0 [(0, vi x), (1, vl v)] [] h
  refine r_iload_n C (dx dX7_fit 0 rfl) rfl ?_
  rcases sw4 x with e9 | e9 | e9 | e9 | ⟨e9, e8⟩
  ·
    subst e9
    refine r_tabIn (off := 31) (tgt := 32) C (dx dX7_fit 1 rfl) (by decide) (by decide) (by decide) (by decide) ?_
    refine r_lload_n C (dx dX7_fit 2 rfl) rfl ?_
    refine r_l2i C (dx dX7_fit 3 rfl) ?_
    refine r_i2b C (dx dX7_fit 4 rfl) ?_
    refine r_i2l C (dx dX7_fit 5 rfl) ?_
    exact F.2.1 _ _ _ _ rfl (dx dX7_fit 6 rfl) rfl ⟨congrArg (fun x => some (vl x)) (show v.toInt32.toInt8.toInt32.toInt64 = lowB (nI 0) v by rfl), rfl⟩
  ·
    subst e9
    refine r_tabIn (off := 36) (tgt := 37) C (dx dX7_fit 1 rfl) (by decide) (by decide) (by decide) (by decide) ?_
    refine r_lload_n C (dx dX7_fit 7 rfl) rfl ?_
    refine r_l2i C (dx dX7_fit 8 rfl) ?_
    refine r_i2s C (dx dX7_fit 9 rfl) ?_
    refine r_i2l C (dx dX7_fit 10 rfl) ?_
    exact F.2.1 _ _ _ _ rfl (dx dX7_fit 11 rfl) rfl ⟨congrArg (fun x => some (vl x)) (show v.toInt32.toInt16.toInt32.toInt64 = lowB (nI 1) v by rfl), rfl⟩
  ·
    subst e9
    refine r_tabIn (off := 41) (tgt := 42) C (dx dX7_fit 1 rfl) (by decide) (by decide) (by decide) (by decide) ?_
    refine r_lload_n C (dx dX7_fit 12 rfl) rfl ?_
    refine r_l2i C (dx dX7_fit 13 rfl) ?_
    refine r_i2l C (dx dX7_fit 14 rfl) ?_
    exact F.2.1 _ _ _ _ rfl (dx dX7_fit 15 rfl) rfl ⟨congrArg (fun x => some (vl x)) (show v.toInt32.toInt64 = lowB (nI 2) v by rfl), rfl⟩
  ·
    subst e9
    refine r_tabIn (off := 45) (tgt := 46) C (dx dX7_fit 1 rfl) (by decide) (by decide) (by decide) (by decide) ?_
    refine r_lload_n C (dx dX7_fit 16 rfl) rfl ?_
    exact F.2.1 _ _ _ _ rfl (dx dX7_fit 17 rfl) rfl ⟨congrArg (fun x => some (vl x)) (show v = lowB (nI 3) v by rfl), rfl⟩
  ·
    refine r_tabOut (tgt := 48) C (dx dX7_fit 1 rfl) e9 (by decide) ?_
    refine r_lload_n C (dx dX7_fit 18 rfl) rfl ?_
    refine r_lconst (v := 0) C (dx dX7_fit 19 rfl) rfl ?_
    refine r_lcmp C (dx dX7_fit 20 rfl) ?_
    refine r_if_eq (tgt := 58) C (dx dX7_fit 21 rfl) (by decide) (fun c1 => ?_) (fun c1 => ?_)
    ·
      have c1 : v = 0 := (lg_cmp_eq _ _).mp c1
      refine r_lconst (v := 0) C (dx dX7_fit 24 rfl) rfl ?_
      exact F.2.1 _ _ _ _ rfl (dx dX7_fit 25 rfl) rfl ⟨congrArg (fun x => some (vl x)) (show 0 = lowB x v by rw [e8]; simp [c1]), rfl⟩
    ·
      have c1 : ¬ (v = 0) := fun q => c1 ((lg_cmp_eq _ _).mpr q)
      refine r_lconst (v := 1) C (dx dX7_fit 22 rfl) rfl ?_
      refine r_goto (tgt := 59) C (dx dX7_fit 23 rfl) (by decide) ?_
      exact F.2.1 _ _ _ _ rfl (dx dX7_fit 25 rfl) rfl ⟨congrArg (fun x => some (vl x)) (show 1 = lowB x v by rw [e8]; simp [c1]), rfl⟩
set_option maxHeartbeats 4000000 in
theorem c_X7_isUnder {l : Launch} {h : Hp} (x y : Int32) : Mp l yX7_isUnder cX7_isUnder 2 (some .boolean) 1 [vi x, vi y] h (vi (b2i (undV x y))) := by
  refine Ms.of (by decide) (Nat.le_of_ble_eq_true rfl) (fun G C X F => ?_)
  have C : Cx G cX7_isUnder 2 RX7 := C
  show Rr G 0 [(0, vi x), (1, vi y)] [] h
  refine r_iload_n C (dx dX7_isUnder 0 rfl) rfl ?_
  refine r_if_eq (tgt := 34) C (dx dX7_isUnder 1 rfl) (by decide) (fun c1 => ?_) (fun c1 => ?_)
  ·
    have c1 : y = 0 := c1
    refine r_iconst (v := nI 1) C (dx dX7_isUnder 20 rfl) rfl ?_
    refine r_goto (tgt := 39) C (dx dX7_isUnder 21 rfl) (by decide) ?_
    exact F.1 _ _ _ _ _ rfl rfl (dx dX7_isUnder 23 rfl) rfl ⟨congrArg (fun x => some (vi x)) (show nI 1 = b2i _ by rw [show (undV x y) = true by (simp_all [undV] <;> exact absurd ‹nI 2 = nI 1› (by decide))]; rfl), rfl⟩
  ·
    have c1 : ¬ y = 0 := c1
    refine r_iload_n C (dx dX7_isUnder 2 rfl) rfl ?_
    refine r_iload_n C (dx dX7_isUnder 3 rfl) rfl ?_
    refine r_icmp_eq (tgt := 34) C (dx dX7_isUnder 4 rfl) (by decide) (fun c2 => ?_) (fun c2 => ?_)
    ·
      have c2 : x = y := c2
      refine r_iconst (v := nI 1) C (dx dX7_isUnder 20 rfl) rfl ?_
      refine r_goto (tgt := 39) C (dx dX7_isUnder 21 rfl) (by decide) ?_
      exact F.1 _ _ _ _ _ rfl rfl (dx dX7_isUnder 23 rfl) rfl ⟨congrArg (fun x => some (vi x)) (show nI 1 = b2i _ by rw [show (undV x y) = true by (simp_all [undV] <;> exact absurd ‹nI 2 = nI 1› (by decide))]; rfl), rfl⟩
    ·
      have c2 : ¬ x = y := c2
      refine r_iload_n C (dx dX7_isUnder 5 rfl) rfl ?_
      refine r_iconst (v := nI 1) C (dx dX7_isUnder 6 rfl) rfl ?_
      refine r_icmp_ne (tgt := 19) C (dx dX7_isUnder 7 rfl) (by decide) (fun c3 => ?_) (fun c3 => ?_)
      ·
        have c3 : ¬ y = nI 1 := c3
        refine r_iload_n C (dx dX7_isUnder 11 rfl) rfl ?_
        refine r_iconst (v := nI 2) C (dx dX7_isUnder 12 rfl) rfl ?_
        refine r_icmp_ne (tgt := 38) C (dx dX7_isUnder 13 rfl) (by decide) (fun c4 => ?_) (fun c4 => ?_)
        ·
          have c4 : ¬ y = nI 2 := c4
          refine r_iconst (v := nI 0) C (dx dX7_isUnder 22 rfl) rfl ?_
          exact F.1 _ _ _ _ _ rfl rfl (dx dX7_isUnder 23 rfl) rfl ⟨congrArg (fun x => some (vi x)) (show nI 0 = b2i _ by rw [show (undV x y) = false by (simp_all [undV] <;> exact absurd ‹nI 2 = nI 1› (by decide))]; rfl), rfl⟩
        ·
          have c4 : y = nI 2 := c4
          refine r_iload_n C (dx dX7_isUnder 14 rfl) rfl ?_
          refine r_iconst (v := nI 3) C (dx dX7_isUnder 15 rfl) rfl ?_
          refine r_icmp_eq (tgt := 34) C (dx dX7_isUnder 16 rfl) (by decide) (fun c5 => ?_) (fun c5 => ?_)
          ·
            have c5 : x = nI 3 := c5
            refine r_iconst (v := nI 1) C (dx dX7_isUnder 20 rfl) rfl ?_
            refine r_goto (tgt := 39) C (dx dX7_isUnder 21 rfl) (by decide) ?_
            exact F.1 _ _ _ _ _ rfl rfl (dx dX7_isUnder 23 rfl) rfl ⟨congrArg (fun x => some (vi x)) (show nI 1 = b2i _ by rw [show (undV x y) = true by (simp_all [undV] <;> exact absurd ‹nI 2 = nI 1› (by decide))]; rfl), rfl⟩
          ·
            have c5 : ¬ x = nI 3 := c5
            refine r_iload_n C (dx dX7_isUnder 17 rfl) rfl ?_
            refine r_iconst (v := nI 4) C (dx dX7_isUnder 18 rfl) rfl ?_
            refine r_icmp_ne (tgt := 38) C (dx dX7_isUnder 19 rfl) (by decide) (fun c6 => ?_) (fun c6 => ?_)
            ·
              have c6 : ¬ x = nI 4 := c6
              refine r_iconst (v := nI 0) C (dx dX7_isUnder 22 rfl) rfl ?_
              exact F.1 _ _ _ _ _ rfl rfl (dx dX7_isUnder 23 rfl) rfl ⟨congrArg (fun x => some (vi x)) (show nI 0 = b2i _ by rw [show (undV x y) = false by (simp_all [undV] <;> exact absurd ‹nI 2 = nI 1› (by decide))]; rfl), rfl⟩
            ·
              have c6 : x = nI 4 := c6
              refine r_iconst (v := nI 1) C (dx dX7_isUnder 20 rfl) rfl ?_
              refine r_goto (tgt := 39) C (dx dX7_isUnder 21 rfl) (by decide) ?_
              exact F.1 _ _ _ _ _ rfl rfl (dx dX7_isUnder 23 rfl) rfl ⟨congrArg (fun x => some (vi x)) (show nI 1 = b2i _ by rw [show (undV x y) = true by (simp_all [undV] <;> exact absurd ‹nI 2 = nI 1› (by decide))]; rfl), rfl⟩
      ·
        have c3 : y = nI 1 := c3
        refine r_iload_n C (dx dX7_isUnder 8 rfl) rfl ?_
        refine r_iconst (v := nI 5) C (dx dX7_isUnder 9 rfl) rfl ?_
        refine r_icmp_eq (tgt := 34) C (dx dX7_isUnder 10 rfl) (by decide) (fun c7 => ?_) (fun c7 => ?_)
        ·
          have c7 : x = nI 5 := c7
          refine r_iconst (v := nI 1) C (dx dX7_isUnder 20 rfl) rfl ?_
          refine r_goto (tgt := 39) C (dx dX7_isUnder 21 rfl) (by decide) ?_
          exact F.1 _ _ _ _ _ rfl rfl (dx dX7_isUnder 23 rfl) rfl ⟨congrArg (fun x => some (vi x)) (show nI 1 = b2i _ by rw [show (undV x y) = true by (simp_all [undV] <;> exact absurd ‹nI 2 = nI 1› (by decide))]; rfl), rfl⟩
        ·
          have c7 : ¬ x = nI 5 := c7
          refine r_iload_n C (dx dX7_isUnder 11 rfl) rfl ?_
          refine r_iconst (v := nI 2) C (dx dX7_isUnder 12 rfl) rfl ?_
          refine r_icmp_ne (tgt := 38) C (dx dX7_isUnder 13 rfl) (by decide) (fun c8 => ?_) (fun c8 => ?_)
          ·
            have c8 : ¬ y = nI 2 := c8
            refine r_iconst (v := nI 0) C (dx dX7_isUnder 22 rfl) rfl ?_
            exact F.1 _ _ _ _ _ rfl rfl (dx dX7_isUnder 23 rfl) rfl ⟨congrArg (fun x => some (vi x)) (show nI 0 = b2i _ by rw [show (undV x y) = false by (simp_all [undV] <;> exact absurd ‹nI 2 = nI 1› (by decide))]; rfl), rfl⟩
          ·
            have c8 : y = nI 2 := c8
            refine r_iload_n C (dx dX7_isUnder 14 rfl) rfl ?_
            refine r_iconst (v := nI 3) C (dx dX7_isUnder 15 rfl) rfl ?_
            refine r_icmp_eq (tgt := 34) C (dx dX7_isUnder 16 rfl) (by decide) (fun c9 => ?_) (fun c9 => ?_)
            ·
              have c9 : x = nI 3 := c9
              refine r_iconst (v := nI 1) C (dx dX7_isUnder 20 rfl) rfl ?_
              refine r_goto (tgt := 39) C (dx dX7_isUnder 21 rfl) (by decide) ?_
              exact F.1 _ _ _ _ _ rfl rfl (dx dX7_isUnder 23 rfl) rfl ⟨congrArg (fun x => some (vi x)) (show nI 1 = b2i _ by rw [show (undV x y) = true by (simp_all [undV] <;> exact absurd ‹nI 2 = nI 1› (by decide))]; rfl), rfl⟩
            ·
              have c9 : ¬ x = nI 3 := c9
              refine r_iload_n C (dx dX7_isUnder 17 rfl) rfl ?_
              refine r_iconst (v := nI 4) C (dx dX7_isUnder 18 rfl) rfl ?_
              refine r_icmp_ne (tgt := 38) C (dx dX7_isUnder 19 rfl) (by decide) (fun c10 => ?_) (fun c10 => ?_)
              ·
                have c10 : ¬ x = nI 4 := c10
                refine r_iconst (v := nI 0) C (dx dX7_isUnder 22 rfl) rfl ?_
                exact F.1 _ _ _ _ _ rfl rfl (dx dX7_isUnder 23 rfl) rfl ⟨congrArg (fun x => some (vi x)) (show nI 0 = b2i _ by rw [show (undV x y) = false by (simp_all [undV] <;> exact absurd ‹nI 2 = nI 1› (by decide))]; rfl), rfl⟩
              ·
                have c10 : x = nI 4 := c10
                refine r_iconst (v := nI 1) C (dx dX7_isUnder 20 rfl) rfl ?_
                refine r_goto (tgt := 39) C (dx dX7_isUnder 21 rfl) (by decide) ?_
                exact F.1 _ _ _ _ _ rfl rfl (dx dX7_isUnder 23 rfl) rfl ⟨congrArg (fun x => some (vi x)) (show nI 1 = b2i _ by rw [show (undV x y) = true by (simp_all [undV] <;> exact absurd ‹nI 2 = nI 1› (by decide))]; rfl), rfl⟩
