/-! PART 28: the reference: shelves -/
/-- the shelves in the reference's cells, as the class has them -/
def MsR (h : Hp) (k : Nat) (g : Sg) (s : Nat) : Prop := ∃ t n, t < 5 ∧ n ≤ 40 ∧ xI h (k + 1) s = nI 1 ∧ xI h (k + 2) s = nI t ∧ xI h (k + 3) s = nI n ∧ gT g s = nI t ∧ gZ g s = nI n ∧ ∀ i, i < 40 → xL h (k + 5 + s) i = gE g s i
def MsH (h : Hp) (k : Nat) (g : Sg) (s : Nat) : Prop := ∃ κ b, 1 ≤ κ ∧ κ ≤ 5 ∧ b < 100 ∧ xI h (k + 1) s = nI 2 ∧ xI h (k + 14) s = nI κ ∧ xI h (k + 15) s = nI b ∧ gT g s = nI (10 + κ) ∧ gY g s = nI b
def Ms1 (h : Hp) (k : Nat) (g : Sg) (s : Nat) : Prop := (xI h (k + 1) s = nI 0 ∧ gT g s = -1) ∨ MsR h k g s ∨ MsH h k g s
def MshAt (h : Hp) (k : Nat) (g : Sg) : Prop := ∀ s, s < 8 → Ms1 h k g s
def Ks (k : Nat) (h h' : Hp) : Prop := xI h' k 8 = xI h k 8 ∧ xN h' k = xN h k ∧ Fr k (k + 32) h h'
theorem Ks.rf {k : Nat} {h : Hp} : Ks k h h := ⟨rfl, rfl, Fr.rf⟩
theorem Ks.tr {k : Nat} {h h1 h2 : Hp} (a : Ks k h h1) (b : Ks k h1 h2) : Ks k h h2 := ⟨b.1.trans a.1, b.2.1.trans a.2.1, a.2.2.tr b.2.2⟩
theorem Kp.ks {k : Nat} {h h1 : Hp} (a : Kp k h h1) : Ks k h h1 := ⟨a.1, a.2.1, a.2.2.to (fun b q => by unfold VC at q; omega)⟩
theorem Ks.fr {k lo hi : Nat} {h h1 : Hp} (f : Fr lo hi h h1) (h1' : k < lo) (h2 : hi ≤ k + 32) : Ks k h h1 :=
  ⟨by rw [(f k (by omega)).1], (f k (by omega)).2.2, f.mono (by omega) (by omega)⟩
section MS
variable {h h1 : Hp} {k s : Nat} {g g' : Sg} {P : Nat → Prop}
theorem Ms1.ag (a : Ms1 h k g s) (hs : s < 8) (f : Fs P h h1) (q : un P (k + 1) (k + 16)) (e : gT g' s = gT g s ∧ gZ g' s = gZ g s ∧ gY g' s = gY g s ∧ gE g' s = gE g s) : Ms1 h1 k g' s := by
  obtain ⟨e1, e2, e3, e4⟩ := e
  have f1 : ∀ b, k + 1 ≤ b → b < k + 16 → xI h1 b = xI h b ∧ xL h1 b = xL h b := fun b p1 p2 => ⟨(f b (q b p1 p2)).1, (f b (q b p1 p2)).2.1⟩
  rcases a with ⟨a1, a2⟩ | ⟨t, n, a1, a2, a3, a4, a5, a6, a7, a8⟩ | ⟨κ, b, a1, a2, a3, a4, a5, a6, a7, a8⟩
  · exact Or.inl ⟨by rw [(f1 _ (by omega) (by omega)).1]; exact a1, e1.trans a2⟩
  · exact Or.inr (Or.inl ⟨t, n, a1, a2, by rw [(f1 _ (by omega) (by omega)).1]; exact a3, by rw [(f1 _ (by omega) (by omega)).1]; exact a4, by rw [(f1 _ (by omega) (by omega)).1]; exact a5, e1.trans a6, e2.trans a7, fun i hi => by rw [(f1 _ (by omega) (by omega)).2, e4]; exact a8 i hi⟩)
  · exact Or.inr (Or.inr ⟨κ, b, a1, a2, a3, by rw [(f1 _ (by omega) (by omega)).1]; exact a4, by rw [(f1 _ (by omega) (by omega)).1]; exact a5, by rw [(f1 _ (by omega) (by omega)).1]; exact a6, e1.trans a7, e3.trans a8⟩)
theorem MshAt.ag (a : MshAt h k g) (f : Fs P h h1) (q : un P (k + 1) (k + 16)) : MshAt h1 k g := fun s hs => (a s hs).ag hs f q ⟨rfl, rfl, rfl, rfl⟩
theorem MshAt.kp (a : MshAt h k g) (f : Kp k h h1) : MshAt h1 k g := a.ag f.2.2 (fun b _ _ q => by unfold VC at q; omega)
theorem MshAt.fr {lo hi : Nat} (a : MshAt h k g) (f : Fr lo hi h h1) (q : k + 16 ≤ lo ∨ hi ≤ k + 1) : MshAt h1 k g := a.ag f.fs (fun b _ _ q => by omega)
/-- one shelf changed: the others' cells stay -/
theorem MshAt.one (a : MshAt h k g) (hs : s < 8) (n : Ms1 h1 k g' s) (c : ∀ s', s' ≠ s → gT g' s' = gT g s' ∧ gZ g' s' = gZ g s' ∧ gY g' s' = gY g s' ∧ gE g' s' = gE g s')
    (f : ∀ s', s' ≠ s → s' < 8 → xI h1 (k + 1) s' = xI h (k + 1) s' ∧ xI h1 (k + 2) s' = xI h (k + 2) s' ∧ xI h1 (k + 3) s' = xI h (k + 3) s' ∧ xI h1 (k + 14) s' = xI h (k + 14) s' ∧ xI h1 (k + 15) s' = xI h (k + 15) s' ∧ xL h1 (k + 5 + s') = xL h (k + 5 + s')) : MshAt h1 k g' := fun s' hs' => by
  by_cases q : s' = s
  · subst q; exact n
  · obtain ⟨e1, e2, e3, e4⟩ := c s' q
    obtain ⟨f1, f2, f3, f4, f5, f6⟩ := f s' q hs'
    rcases a s' hs' with ⟨a1, a2⟩ | ⟨t, n, a1, a2, a3, a4, a5, a6, a7, a8⟩ | ⟨κ, b, a1, a2, a3, a4, a5, a6, a7, a8⟩
    · exact Or.inl ⟨f1.trans a1, e1.trans a2⟩
    · exact Or.inr (Or.inl ⟨t, n, a1, a2, f1.trans a3, f2.trans a4, f3.trans a5, e1.trans a6, e2.trans a7, fun i hi => by rw [f6, e4]; exact a8 i hi⟩)
    · exact Or.inr (Or.inr ⟨κ, b, a1, a2, a3, f1.trans a4, f4.trans a5, f5.trans a6, e1.trans a7, e3.trans a8⟩)
theorem sf_ne {f : Nat → Int32} {i j : Nat} {x : Int32} (h : j ≠ i) : sf f i x j = f j := if_neg h
theorem sf_at {f : Nat → Int32} {i : Nat} {x : Int32} : sf f i x i = x := if_pos rfl
theorem rowE_ne {E : Nat → Nat → Int64} {i j : Nat} {f : Nat → Int64} (h : j ≠ i) : rowE E i f j = E j := by funext x; exact if_neg h
theorem rowE_at {E : Nat → Nat → Int64} {i : Nat} {f : Nat → Int64} : rowE E i f i = f := by funext x; exact if_pos rfl
theorem msh_row {t n : Nat} (a : MshAt h k g) (hs : s < 8) (ht : t < 5) (hn : n ≤ 40) (f : Fr (k + 5 + s) (k + 5 + s + 1) (sI (sI (sI h (k + 1) s (nI 1)) (k + 2) s (nI t)) (k + 3) s (nI n)) h1) (z : ∀ i, i < 40 → xL h1 (k + 5 + s) i = 0) : MshAt h1 k (pRow g s (nI t) n) := by
  have e1 : ∀ j, xI h1 (k + 1) j = if j = s then nI 1 else xI h (k + 1) j := fun j => by rw [f.I (by omega), sI_ne (by omega), sI_ne (by omega), sI_at]
  have e2 : ∀ j, xI h1 (k + 2) j = if j = s then nI t else xI h (k + 2) j := fun j => by rw [f.I (by omega), sI_ne (by omega), sI_at]; rw [sI_ne (by omega)]
  have e3 : ∀ j, xI h1 (k + 3) j = if j = s then nI n else xI h (k + 3) j := fun j => by rw [f.I (by omega), sI_at]; rw [sI_ne (by omega), sI_ne (by omega)]
  refine a.one hs (Or.inr (Or.inl ⟨t, n, ht, hn, (e1 s).trans (if_pos rfl), (e2 s).trans (if_pos rfl), (e3 s).trans (if_pos rfl), sf_at, sf_at, fun i hi => by rw [z i hi]; show (0 : Int64) = rowE (gE g) s (fun _ => 0) s i; rw [rowE_at]⟩)) (fun s' q => ⟨sf_ne q, sf_ne q, rfl, rowE_ne q⟩) (fun s' q hs' => ⟨(e1 s').trans (if_neg q), (e2 s').trans (if_neg q), (e3 s').trans (if_neg q), ?_, ?_, ?_⟩)
  · rw [f.I (by omega), sI_ne (by omega), sI_ne (by omega), sI_ne (by omega)]
  · rw [f.I (by omega), sI_ne (by omega), sI_ne (by omega), sI_ne (by omega)]
  · rw [(f _ (by omega)).2.1]; rfl
theorem msh_hold {κ b : Nat} (a : MshAt h k g) (hs : s < 8) (h1' : 1 ≤ κ ∧ κ ≤ 5) (hb : b < 100) : MshAt (sI (sI (sI h (k + 1) s (nI 2)) (k + 14) s (nI κ)) (k + 15) s (nI b)) k (pHold g s κ b) := by
  refine a.one hs (Or.inr (Or.inr ⟨κ, b, h1'.1, h1'.2, hb, ?_, ?_, ?_, sf_at, sf_at⟩)) (fun s' q => ⟨sf_ne q, sf_ne q, sf_ne q, rfl⟩) (fun s' q hs' => ⟨?_, ?_, ?_, ?_, ?_, rfl⟩)
  · rw [sI_ne (by omega), sI_ne (by omega), sI_at, if_pos rfl]
  · rw [sI_ne (by omega), sI_at, if_pos rfl]
  · rw [sI_at, if_pos rfl]
  · rw [sI_ne (by omega), sI_ne (by omega), sI_at, if_neg q]
  · rw [sI_ne (by omega), sI_ne (by omega), sI_ne (by omega)]
  · rw [sI_ne (by omega), sI_ne (by omega), sI_ne (by omega)]
  · rw [sI_ne (by omega), sI_at, if_neg q, sI_ne (by omega)]
  · rw [sI_at, if_neg q, sI_ne (by omega), sI_ne (by omega)]
/-- a row's elements changed -/
theorem msh_els {F : Nat → Int64} (a : MshAt h k g) (hs : s < 8) (r : MsR h k g s) (f : Fr (k + 5 + s) (k + 5 + s + 1) h h1) (z : ∀ i, i < 40 → xL h1 (k + 5 + s) i = F i) : MshAt h1 k (gT g, gZ g, gY g, rowE (gE g) s F) := by
  obtain ⟨t, n, a1, a2, a3, a4, a5, a6, a7, a8⟩ := r
  exact a.one hs (Or.inr (Or.inl ⟨t, n, a1, a2, (f.I (by omega) _).trans a3, (f.I (by omega) _).trans a4, (f.I (by omega) _).trans a5, a6, a7, fun i hi => (z i hi).trans (congrFun rowE_at i).symm⟩)) (fun s' q => ⟨rfl, rfl, rfl, rowE_ne q⟩)
    (fun s' q hs' => ⟨f.I (by omega) _, f.I (by omega) _, f.I (by omega) _, f.I (by omega) _, f.I (by omega) _, (f _ (by omega)).2.1⟩)
theorem sh_bare {σ : Nat} (hσ : σ < 8) (e : gT g σ = -1) : bareB g (nI σ) = true ∧ holdB g (nI σ) = false ∧ rowB g (nI σ) = false ∧ szV g (nI σ) = nI 0 ∧ tOn g (nI σ) = -1 ∧ rfV g (nI σ) = -4 ∧ hfV g (nI σ) = -4 := by
  have t : tOn g (nI σ) = -1 := by unfold tOn; rw [if_pos (inN (by omega) hσ), clN (by omega), e]
  have b : bareB g (nI σ) = true := by unfold bareB; rw [t]; rfl
  have h : holdB g (nI σ) = false := by unfold holdB; rw [t]; decide
  have r : rowB g (nI σ) = false := by unfold rowB; rw [b, h]; rfl
  exact ⟨b, h, r, by unfold szV; rw [r]; rfl, t, by unfold rfV; rw [h, b]; rfl, by unfold hfV; rw [r, b]; rfl⟩
theorem sh_row {σ t n : Nat} (hσ : σ < 8) (ht : t < 5) (e : gT g σ = nI t) (ez : gZ g σ = nI n) : bareB g (nI σ) = false ∧ holdB g (nI σ) = false ∧ rowB g (nI σ) = true ∧ szV g (nI σ) = nI n ∧ tOn g (nI σ) = nI t ∧ rfV g (nI σ) = nI 0 ∧ hfV g (nI σ) = -3 := by
  have tt : tOn g (nI σ) = nI t := by unfold tOn; rw [if_pos (inN (by omega) hσ), clN (by omega), e]
  have b : bareB g (nI σ) = false := by unfold bareB; rw [tt]; exact decide_eq_false (nI_nm1 (by omega))
  have h : holdB g (nI σ) = false := by unfold holdB; rw [tt]; exact decide_eq_false (fun z => z ((nI_ltI (by omega) (by omega)).mpr (by omega)))
  have r : rowB g (nI σ) = true := by unfold rowB; rw [b, h]; rfl
  exact ⟨b, h, r, by unfold szV; rw [if_pos r, clN (by omega), ez], tt, by unfold rfV; rw [h, b]; rfl, by unfold hfV; rw [r]; rfl⟩
theorem sh_hold {σ κ b : Nat} (hσ : σ < 8) (hκ : κ ≤ 5) (e : gT g σ = nI (10 + κ)) (ey : gY g σ = nI b) : bareB g (nI σ) = false ∧ holdB g (nI σ) = true ∧ rowB g (nI σ) = false ∧ szV g (nI σ) = nI 0 ∧ tOn g (nI σ) = nI (10 + κ) ∧ rfV g (nI σ) = -3 ∧ hfV g (nI σ) = nI 0 ∧ byV g (nI σ) = nI b := by
  have tt : tOn g (nI σ) = nI (10 + κ) := by unfold tOn; rw [if_pos (inN (by omega) hσ), clN (by omega), e]
  have bb : bareB g (nI σ) = false := by unfold bareB; rw [tt]; exact decide_eq_false (nI_nm1 (by omega))
  have h : holdB g (nI σ) = true := by unfold holdB; rw [tt]; exact decide_eq_true (fun z => by have := (nI_ltI (by omega) (by omega)).mp z; omega)
  have r : rowB g (nI σ) = false := by unfold rowB; rw [bb, h]; rfl
  exact ⟨bb, h, r, by unfold szV; rw [r]; rfl, tt, by unfold rfV; rw [h]; rfl, by unfold hfV; rw [r, bb]; rfl, by unfold byV; rw [if_pos h, clN (by omega), ey]⟩
end MS
def nrA (g : Sg) (s : Int32) : Int32 := if inR s 8 = true then rfV g s else -2
def nhA (g : Sg) (s : Int32) : Int32 := if inR s 8 = true then hfV g s else -2
theorem nr_ok {h : Hp} {k : Nat} {g : Sg} {s : Int32} (a : MshAt h k g) (c : nrA g s = 0) : ∃ σ, σ < 8 ∧ s = nI σ ∧ MsR h k g σ := by
  unfold nrA at c
  split at c
  · next q =>
    obtain ⟨σ, hσ, rfl⟩ := inR_ex (by omega) q
    refine ⟨σ, hσ, rfl, ?_⟩
    rcases a σ hσ with ⟨a1, a2⟩ | r | ⟨κ, b, a1, a2, a3, a4, a5, a6, a7, a8⟩
    · rw [(sh_bare hσ a2).2.2.2.2.2.1] at c; exact absurd c (by decide)
    · exact r
    · rw [(sh_hold hσ a2 a7 a8).2.2.2.2.2.1] at c; exact absurd c (by decide)
  · exact absurd c (by decide)
theorem nh_ok {h : Hp} {k : Nat} {g : Sg} {s : Int32} (a : MshAt h k g) (c : nhA g s = 0) : ∃ σ, σ < 8 ∧ s = nI σ ∧ MsH h k g σ := by
  unfold nhA at c
  split at c
  · next q =>
    obtain ⟨σ, hσ, rfl⟩ := inR_ex (by omega) q
    refine ⟨σ, hσ, rfl, ?_⟩
    rcases a σ hσ with ⟨a1, a2⟩ | ⟨t, n, a1, a2, a3, a4, a5, a6, a7, a8⟩ | r
    · rw [(sh_bare hσ a2).2.2.2.2.2.2] at c; exact absurd c (by decide)
    · rw [(sh_row hσ a1 a6 a7).2.2.2.2.2.2] at c; exact absurd c (by decide)
    · exact r
  · exact absurd c (by decide)
theorem inR_iff {x : Int32} {n : Nat} (hn : n < 2 ^ 31) : inR x n = true ↔ (¬ x < 0 ∧ x < nI n) := by
  constructor
  · intro q
    obtain ⟨j, hj, rfl⟩ := inR_ex hn q
    exact ⟨nI_pos (by omega), (nI_ltI (by omega) hn).mpr hj⟩
  · rintro ⟨a, b⟩
    exact inR_ok hn a (Int32.not_le.mpr b)
theorem setB_row {g : Sg} {σ n : Nat} {i : Int32} (hσ : σ < 8) (e : rfV g (nI σ) = nI 0) (ez : szV g (nI σ) = nI n) (hn : n ≤ 40) : setB g (nI σ) i = inR i n := by
  rw [Bool.eq_iff_iff, inR_iff (by omega)]
  unfold setB
  rw [inN (by omega) hσ, e, ez]
  simp [show nI 0 = (0 : Int32) from rfl]
theorem set_row {g : Sg} {σ n : Nat} {i : Int32} {x : Int64} (hσ : σ < 8) (e : rfV g (nI σ) = nI 0) (ez : szV g (nI σ) = nI n) (hn : n ≤ 40) : setA g (nI σ) i = (if inR i n = true then nI 1 else -2) ∧ setG g (nI σ) i x = (if inR i n = true then pEl g σ i x else g) := by
  unfold setA setG
  rw [setB_row hσ e ez hn, inN (by omega) hσ, e, clN (by omega)]
  exact ⟨rfl, rfl⟩
theorem set_no {g : Sg} {s i : Int32} {x : Int64} (c : ¬ nrA g s = 0) : setA g s i = nrA g s ∧ setG g s i x = g := by
  unfold nrA at c ⊢
  unfold setA setG setB
  by_cases h : inR s 8 = true
  · rw [if_pos h] at c ⊢
    rw [if_pos h, if_neg c]
    exact ⟨rfl, by rw [h, show decide (rfV g s = 0) = false from decide_eq_false c]; rfl⟩
  · rw [if_neg h, if_neg h]
    exact ⟨rfl, by rw [Bool.eq_false_iff.mpr h]; rfl⟩
theorem pEl_row {g : Sg} {σ i n : Nat} {x : Int64} (ez : szV g (nI σ) = nI n) (hi : i < n) (hn : n ≤ 40) : pEl g σ (nI i) x = rowPut g σ i (lowB (gT g σ) x) := by
  unfold pEl
  rw [ez, if_neg (fun z => z.elim (fun q => nI_pos (by omega) q) (fun q => by have := (nI_leI (by omega) (by omega)).mp q; omega)), clN (by omega)]
theorem el_0 {g : Sg} {s i : Int32} (e : szV g s = nI 0) : elV g s i = 0 := by
  unfold elV
  rw [e]
  by_cases h : i < 0
  · rw [if_pos (Or.inl h)]
  · rw [if_pos (Or.inr (show nI 0 ≤ i from Int32.not_lt.mp h))]
theorem sz_out {g : Sg} {s : Int32} (h : inR s 8 = false) : szV g s = nI 0 := by
  unfold szV
  rw [if_neg (fun z => by rw [row_in z] at h; cases h)]
theorem el_row {g : Sg} {σ n : Nat} {i : Int32} (hσ : σ < 8) (ez : szV g (nI σ) = nI n) (hn : n ≤ 40) : elV g (nI σ) i = if inR i n = true then gE g σ i.toNatClampNeg else 0 := by
  unfold elV
  rw [ez, clN (by omega)]
  by_cases h : inR i n = true
  · obtain ⟨a, b⟩ := (inR_iff (by omega)).mp h
    rw [if_pos h, if_neg (fun z => z.elim a (fun q => Int32.not_lt.mpr q b))]
  · rw [if_neg h, if_pos (by
      by_cases a : i < 0
      · exact Or.inl a
      · exact Or.inr (Int32.not_lt.mp (fun b => h ((inR_iff (by omega)).mpr ⟨a, b⟩))))]
theorem hld_b {k : Int32} : decide (¬ k < nI 1 ∧ ¬ nI 5 < k) = btwB k 1 5 := by
  unfold btwB; rw [← Bool.decide_and]
theorem hldB_eq {s k a : Int32} : hldB s k a = (inR s 8 && (btwB k 1 5 && inR a 100)) := by unfold hldB; rw [hld_b]
theorem msh_set {h : Hp} {k σ i t : Nat} {g : Sg} {x : Int64} (a : MshAt h k g) (hσ : σ < 8) (r : MsR h k g σ) (e : gT g σ = nI t) : MshAt (sL h (k + 5 + σ) i (lowB (nI t) x)) k (rowPut g σ i (lowB (gT g σ) x)) := by
  refine msh_els a hσ r (Fr.sL (by omega) (by omega)) (fun j hj => ?_)
  obtain ⟨t', n, a1, a2, a3, a4, a5, a6, a7, a8⟩ := r
  rw [sL_at, a8 j hj, e]
set_option maxHeartbeats 4000000 in
theorem c_X7_noRow {l : Launch} {h : Hp} {k : Nat} {v : Vg} {g : Sg} (hm : MilAt h k v) (hs : MshAt h k g) (s : Int32) : Ms l yX7_noRow cX7_noRow 2 (some .int) 4 [vr 7 k, vi s] h (xK h) (fun r h' => r = some (vi (nrA g s)) ∧ (∃ v', MilAt h' k v' ∧ Sz v v') ∧ Kp k h h') := by
  refine Ms.of (by decide) (Nat.le_of_ble_eq_true rfl) (fun G C X F => ?_)
  have C : Cx G cX7_noRow 2 RX7 := C
  show Rr G 0 [(0, vr 7 k), (1, vi s)] [] h
  have bP := hm.bP
  have bM := hm.bM
  have bN := hm.bN
  refine r_iload_n C (dx dX7_noRow 0 rfl) rfl ?_
  refine r_i2l C (dx dX7_noRow 1 rfl) ?_
  refine r_lconst (v := 0) C (dx dX7_noRow 2 rfl) rfl ?_
  refine r_ldc2 C n_X7_77 (dx dX7_noRow 3 rfl) ?_
  refine r_csP (as := [vl s.toInt64, vl 0, vl 7]) (st := []) (v := vi (b2i (inR s 8))) C X I_X7_in l_X7_67 (c_inR (b := 7) (by decide) (by decide)) (by decide) (Nat.le_of_ble_eq_true rfl) List.prefix_rfl (Nat.le_of_ble_eq_true rfl) rfl (dx dX7_noRow 4 rfl) ?_
  refine rb_ne (b := inR s 8) (tgt := 19) C (dx dX7_noRow 5 rfl) (by decide) (fun c1 => ?_) (fun c1 => ?_)
  ·
    have c1 : (inR s 8) = true := c1
    obtain ⟨σ, hσ, rfl⟩ := inR_ex (n := 8) (by omega) c1
    rcases hs σ hσ with ⟨a11, a21⟩ | ⟨τ1, ν1, a11, a21, a31, a41, a51, a61, a71, a81⟩ | ⟨κ1, b1, a11, a21, a31, a41, a51, a61, a71, a81⟩
    ·
      obtain ⟨e01, e11, e21, e31, e41, e51, e61⟩ := sh_bare hσ a21
      refine r_aload_n C (dx dX7_noRow 10 rfl) rfl ?_
      refine g_X7_7 C (dx dX7_noRow 11 rfl) ?_
      refine r_iload_n C (dx dX7_noRow 12 rfl) rfl ?_
      refine r_iald (j := σ) (x := nI 0) C rfl rfl (by decide) rfl (by omega) (dx dX7_noRow 13 rfl) a11 ?_
      refine r_iconst (v := nI 2) C (dx dX7_noRow 14 rfl) rfl ?_
      refine rn_ne (a := 0) (b := 2) (tgt := 36) C (by omega) (by omega) (dx dX7_noRow 15 rfl) (by decide) (fun c2 => ?_) (fun c2 => ?_)
      · first
        | (omega; done)
        | (
            have c2 : ¬ 0 = 2 := c2
            refine r_aload_n C (dx dX7_noRow 20 rfl) rfl ?_
            refine g_X7_7 C (dx dX7_noRow 21 rfl) ?_
            refine r_iload_n C (dx dX7_noRow 22 rfl) rfl ?_
            refine r_iald (j := σ) (x := nI 0) C rfl rfl (by decide) rfl (by omega) (dx dX7_noRow 23 rfl) a11 ?_
            refine r_if_ne (tgt := 54) C (dx dX7_noRow 24 rfl) (by decide) (fun c3 => (show False from by revert c3; decide).elim) (fun _ => ?_)
            refine r_aload_n C (dx dX7_noRow 25 rfl) rfl ?_
            refine r_bipush (v := -4) C (dx dX7_noRow 26 rfl) rfl ?_
            refine r_cv (as := [vi (-4)]) (st := []) C X I_X7_refuse l_X7_83 (c_X7_refuse hm (x := -4) (j := 4) (by decide) (by decide)) (by decide) (Nat.le_of_ble_eq_true rfl) List.prefix_rfl List.prefix_rfl rfl rfl (Nat.le_of_ble_eq_true rfl) rfl (dx dX7_noRow 27 rfl) ?_
            rintro _ h4 ⟨rfl, ⟨wh4, m9h4, s9h4⟩, qh4⟩ kkh4
            obtain ⟨vh4, mh4, zh4⟩ : ∃ v9, MilAt h4 k v9 ∧ Sz v v9 := ⟨_, m9h4, s9h4⟩
            have ph4 : Kp k h h4 := qh4
            have kh4 : xK h4 = xK h := kkh4
            obtain ⟨ah4, bh4, ch4⟩ := zh4
            refine r_goto (tgt := 55) C (dx dX7_noRow 28 rfl) (by decide) ?_
            have eA : nrA g (nI σ) = -4 := by simp [nrA, c1, c2, e01, e11, e21, e31, e41, e51, e61, inR_nI (show σ < 2 ^ 31 by omega), show σ < 8 by omega]
            exact F.1 _ _ _ _ _ rfl rfl (dx dX7_noRow 30 rfl) kh4 (show some (vi (-4)) = some (vi (nrA g (nI σ))) ∧ (∃ v', MilAt h4 k v' ∧ Sz v v') ∧ Kp k h h4 from by rw [eA]; exact ⟨rfl, ⟨_, mh4, ⟨by omega, by omega, by omega⟩⟩, ph4⟩))
      · first
        | (omega; done)
        | (
            have c2 : 0 = 2 := c2
            refine r_aload_n C (dx dX7_noRow 16 rfl) rfl ?_
            refine r_bipush (v := -3) C (dx dX7_noRow 17 rfl) rfl ?_
            refine r_cv (as := [vi (-3)]) (st := []) C X I_X7_refuse l_X7_83 (c_X7_refuse hm (x := -3) (j := 3) (by decide) (by decide)) (by decide) (Nat.le_of_ble_eq_true rfl) List.prefix_rfl List.prefix_rfl rfl rfl (Nat.le_of_ble_eq_true rfl) rfl (dx dX7_noRow 18 rfl) ?_
            rintro _ h5 ⟨rfl, ⟨wh5, m9h5, s9h5⟩, qh5⟩ kkh5
            obtain ⟨vh5, mh5, zh5⟩ : ∃ v9, MilAt h5 k v9 ∧ Sz v v9 := ⟨_, m9h5, s9h5⟩
            have ph5 : Kp k h h5 := qh5
            have kh5 : xK h5 = xK h := kkh5
            obtain ⟨ah5, bh5, ch5⟩ := zh5
            have eA : nrA g (nI σ) = -3 := by simp [nrA, c1, c2, e01, e11, e21, e31, e41, e51, e61, inR_nI (show σ < 2 ^ 31 by omega), show σ < 8 by omega]
            exact F.1 _ _ _ _ _ rfl rfl (dx dX7_noRow 19 rfl) kh5 (show some (vi (-3)) = some (vi (nrA g (nI σ))) ∧ (∃ v', MilAt h5 k v' ∧ Sz v v') ∧ Kp k h h5 from by rw [eA]; exact ⟨rfl, ⟨_, mh5, ⟨by omega, by omega, by omega⟩⟩, ph5⟩))
    ·
      obtain ⟨e01, e11, e21, e31, e41, e51, e61⟩ := sh_row hσ a11 a61 a71
      refine r_aload_n C (dx dX7_noRow 10 rfl) rfl ?_
      refine g_X7_7 C (dx dX7_noRow 11 rfl) ?_
      refine r_iload_n C (dx dX7_noRow 12 rfl) rfl ?_
      refine r_iald (j := σ) (x := nI 1) C rfl rfl (by decide) rfl (by omega) (dx dX7_noRow 13 rfl) a31 ?_
      refine r_iconst (v := nI 2) C (dx dX7_noRow 14 rfl) rfl ?_
      refine rn_ne (a := 1) (b := 2) (tgt := 36) C (by omega) (by omega) (dx dX7_noRow 15 rfl) (by decide) (fun c6 => ?_) (fun c6 => ?_)
      · first
        | (omega; done)
        | (
            have c6 : ¬ 1 = 2 := c6
            refine r_aload_n C (dx dX7_noRow 20 rfl) rfl ?_
            refine g_X7_7 C (dx dX7_noRow 21 rfl) ?_
            refine r_iload_n C (dx dX7_noRow 22 rfl) rfl ?_
            refine r_iald (j := σ) (x := nI 1) C rfl rfl (by decide) rfl (by omega) (dx dX7_noRow 23 rfl) a31 ?_
            refine r_if_ne (tgt := 54) C (dx dX7_noRow 24 rfl) (by decide) (fun _ => ?_) (fun c7 => (show False from by revert c7; decide).elim)
            refine r_iconst (v := nI 0) C (dx dX7_noRow 29 rfl) rfl ?_
            have eA : nrA g (nI σ) = nI 0 := by simp [nrA, c1, c6, e01, e11, e21, e31, e41, e51, e61, inR_nI (show σ < 2 ^ 31 by omega), show σ < 8 by omega]
            exact F.1 _ _ _ _ _ rfl rfl (dx dX7_noRow 30 rfl) rfl (show some (vi (nI 0)) = some (vi (nrA g (nI σ))) ∧ (∃ v', MilAt h k v' ∧ Sz v v') ∧ Kp k h h from by rw [eA]; exact ⟨rfl, ⟨_, hm, ⟨by omega, by omega, by omega⟩⟩, Kp.rf⟩))
      · first
        | (omega; done)
        | (
            have c6 : 1 = 2 := c6
            refine r_aload_n C (dx dX7_noRow 16 rfl) rfl ?_
            refine r_bipush (v := -3) C (dx dX7_noRow 17 rfl) rfl ?_
            refine r_cv (as := [vi (-3)]) (st := []) C X I_X7_refuse l_X7_83 (c_X7_refuse hm (x := -3) (j := 3) (by decide) (by decide)) (by decide) (Nat.le_of_ble_eq_true rfl) List.prefix_rfl List.prefix_rfl rfl rfl (Nat.le_of_ble_eq_true rfl) rfl (dx dX7_noRow 18 rfl) ?_
            rintro _ h8 ⟨rfl, ⟨wh8, m9h8, s9h8⟩, qh8⟩ kkh8
            obtain ⟨vh8, mh8, zh8⟩ : ∃ v9, MilAt h8 k v9 ∧ Sz v v9 := ⟨_, m9h8, s9h8⟩
            have ph8 : Kp k h h8 := qh8
            have kh8 : xK h8 = xK h := kkh8
            obtain ⟨ah8, bh8, ch8⟩ := zh8
            have eA : nrA g (nI σ) = -3 := by simp [nrA, c1, c6, e01, e11, e21, e31, e41, e51, e61, inR_nI (show σ < 2 ^ 31 by omega), show σ < 8 by omega]
            exact F.1 _ _ _ _ _ rfl rfl (dx dX7_noRow 19 rfl) kh8 (show some (vi (-3)) = some (vi (nrA g (nI σ))) ∧ (∃ v', MilAt h8 k v' ∧ Sz v v') ∧ Kp k h h8 from by rw [eA]; exact ⟨rfl, ⟨_, mh8, ⟨by omega, by omega, by omega⟩⟩, ph8⟩))
    ·
      obtain ⟨e01, e11, e21, e31, e41, e51, e61, e71⟩ := sh_hold hσ a21 a71 a81
      refine r_aload_n C (dx dX7_noRow 10 rfl) rfl ?_
      refine g_X7_7 C (dx dX7_noRow 11 rfl) ?_
      refine r_iload_n C (dx dX7_noRow 12 rfl) rfl ?_
      refine r_iald (j := σ) (x := nI 2) C rfl rfl (by decide) rfl (by omega) (dx dX7_noRow 13 rfl) a41 ?_
      refine r_iconst (v := nI 2) C (dx dX7_noRow 14 rfl) rfl ?_
      refine rn_ne (a := 2) (b := 2) (tgt := 36) C (by omega) (by omega) (dx dX7_noRow 15 rfl) (by decide) (fun c9 => ?_) (fun c9 => ?_)
      · first
        | (omega; done)
        | (
            have c9 : ¬ 2 = 2 := c9
            refine r_aload_n C (dx dX7_noRow 20 rfl) rfl ?_
            refine g_X7_7 C (dx dX7_noRow 21 rfl) ?_
            refine r_iload_n C (dx dX7_noRow 22 rfl) rfl ?_
            refine r_iald (j := σ) (x := nI 2) C rfl rfl (by decide) rfl (by omega) (dx dX7_noRow 23 rfl) a41 ?_
            refine r_if_ne (tgt := 54) C (dx dX7_noRow 24 rfl) (by decide) (fun _ => ?_) (fun c10 => (show False from by revert c10; decide).elim)
            refine r_iconst (v := nI 0) C (dx dX7_noRow 29 rfl) rfl ?_
            have eA : nrA g (nI σ) = nI 0 := by simp [nrA, c1, c9, e01, e11, e21, e31, e41, e51, e61, e71, inR_nI (show σ < 2 ^ 31 by omega), show σ < 8 by omega]
            exact F.1 _ _ _ _ _ rfl rfl (dx dX7_noRow 30 rfl) rfl (show some (vi (nI 0)) = some (vi (nrA g (nI σ))) ∧ (∃ v', MilAt h k v' ∧ Sz v v') ∧ Kp k h h from by rw [eA]; exact ⟨rfl, ⟨_, hm, ⟨by omega, by omega, by omega⟩⟩, Kp.rf⟩))
      · first
        | (omega; done)
        | (
            have c9 : 2 = 2 := c9
            refine r_aload_n C (dx dX7_noRow 16 rfl) rfl ?_
            refine r_bipush (v := -3) C (dx dX7_noRow 17 rfl) rfl ?_
            refine r_cv (as := [vi (-3)]) (st := []) C X I_X7_refuse l_X7_83 (c_X7_refuse hm (x := -3) (j := 3) (by decide) (by decide)) (by decide) (Nat.le_of_ble_eq_true rfl) List.prefix_rfl List.prefix_rfl rfl rfl (Nat.le_of_ble_eq_true rfl) rfl (dx dX7_noRow 18 rfl) ?_
            rintro _ h11 ⟨rfl, ⟨wh11, m9h11, s9h11⟩, qh11⟩ kkh11
            obtain ⟨vh11, mh11, zh11⟩ : ∃ v9, MilAt h11 k v9 ∧ Sz v v9 := ⟨_, m9h11, s9h11⟩
            have ph11 : Kp k h h11 := qh11
            have kh11 : xK h11 = xK h := kkh11
            obtain ⟨ah11, bh11, ch11⟩ := zh11
            have eA : nrA g (nI σ) = -3 := by simp [nrA, c1, c9, e01, e11, e21, e31, e41, e51, e61, e71, inR_nI (show σ < 2 ^ 31 by omega), show σ < 8 by omega]
            exact F.1 _ _ _ _ _ rfl rfl (dx dX7_noRow 19 rfl) kh11 (show some (vi (-3)) = some (vi (nrA g (nI σ))) ∧ (∃ v', MilAt h11 k v' ∧ Sz v v') ∧ Kp k h h11 from by rw [eA]; exact ⟨rfl, ⟨_, mh11, ⟨by omega, by omega, by omega⟩⟩, ph11⟩))
  ·
    have c1 : (inR s 8) = false := c1
    refine r_aload_n C (dx dX7_noRow 6 rfl) rfl ?_
    refine r_bipush (v := -2) C (dx dX7_noRow 7 rfl) rfl ?_
    refine r_cv (as := [vi (-2)]) (st := []) C X I_X7_refuse l_X7_83 (c_X7_refuse hm (x := -2) (j := 2) (by decide) (by decide)) (by decide) (Nat.le_of_ble_eq_true rfl) List.prefix_rfl List.prefix_rfl rfl rfl (Nat.le_of_ble_eq_true rfl) rfl (dx dX7_noRow 8 rfl) ?_
    rintro _ h12 ⟨rfl, ⟨wh12, m9h12, s9h12⟩, qh12⟩ kkh12
    obtain ⟨vh12, mh12, zh12⟩ : ∃ v9, MilAt h12 k v9 ∧ Sz v v9 := ⟨_, m9h12, s9h12⟩
    have ph12 : Kp k h h12 := qh12
    have kh12 : xK h12 = xK h := kkh12
    obtain ⟨ah12, bh12, ch12⟩ := zh12
    have eA : nrA g s = -2 := by simp [nrA, c1]
    exact F.1 _ _ _ _ _ rfl rfl (dx dX7_noRow 9 rfl) kh12 (show some (vi (-2)) = some (vi (nrA g s)) ∧ (∃ v', MilAt h12 k v' ∧ Sz v v') ∧ Kp k h h12 from by rw [eA]; exact ⟨rfl, ⟨_, mh12, ⟨by omega, by omega, by omega⟩⟩, ph12⟩)
set_option maxHeartbeats 4000000 in
theorem c_X7_noHolding {l : Launch} {h : Hp} {k : Nat} {v : Vg} {g : Sg} (hm : MilAt h k v) (hs : MshAt h k g) (s : Int32) : Ms l yX7_noHolding cX7_noHolding 2 (some .int) 4 [vr 7 k, vi s] h (xK h) (fun r h' => r = some (vi (nhA g s)) ∧ (∃ v', MilAt h' k v' ∧ Sz v v') ∧ Kp k h h') := by
  refine Ms.of (by decide) (Nat.le_of_ble_eq_true rfl) (fun G C X F => ?_)
  have C : Cx G cX7_noHolding 2 RX7 := C
  show Rr G 0 [(0, vr 7 k), (1, vi s)] [] h
  have bP := hm.bP
  have bM := hm.bM
  have bN := hm.bN
  refine r_iload_n C (dx dX7_noHolding 0 rfl) rfl ?_
  refine r_i2l C (dx dX7_noHolding 1 rfl) ?_
  refine r_lconst (v := 0) C (dx dX7_noHolding 2 rfl) rfl ?_
  refine r_ldc2 C n_X7_77 (dx dX7_noHolding 3 rfl) ?_
  refine r_csP (as := [vl s.toInt64, vl 0, vl 7]) (st := []) (v := vi (b2i (inR s 8))) C X I_X7_in l_X7_67 (c_inR (b := 7) (by decide) (by decide)) (by decide) (Nat.le_of_ble_eq_true rfl) List.prefix_rfl (Nat.le_of_ble_eq_true rfl) rfl (dx dX7_noHolding 4 rfl) ?_
  refine rb_ne (b := inR s 8) (tgt := 19) C (dx dX7_noHolding 5 rfl) (by decide) (fun c1 => ?_) (fun c1 => ?_)
  ·
    have c1 : (inR s 8) = true := c1
    obtain ⟨σ, hσ, rfl⟩ := inR_ex (n := 8) (by omega) c1
    rcases hs σ hσ with ⟨a11, a21⟩ | ⟨τ1, ν1, a11, a21, a31, a41, a51, a61, a71, a81⟩ | ⟨κ1, b1, a11, a21, a31, a41, a51, a61, a71, a81⟩
    ·
      obtain ⟨e01, e11, e21, e31, e41, e51, e61⟩ := sh_bare hσ a21
      refine r_aload_n C (dx dX7_noHolding 10 rfl) rfl ?_
      refine g_X7_7 C (dx dX7_noHolding 11 rfl) ?_
      refine r_iload_n C (dx dX7_noHolding 12 rfl) rfl ?_
      refine r_iald (j := σ) (x := nI 0) C rfl rfl (by decide) rfl (by omega) (dx dX7_noHolding 13 rfl) a11 ?_
      refine r_iconst (v := nI 1) C (dx dX7_noHolding 14 rfl) rfl ?_
      refine rn_ne (a := 0) (b := 1) (tgt := 36) C (by omega) (by omega) (dx dX7_noHolding 15 rfl) (by decide) (fun c2 => ?_) (fun c2 => ?_)
      · first
        | (omega; done)
        | (
            have c2 : ¬ 0 = 1 := c2
            refine r_aload_n C (dx dX7_noHolding 20 rfl) rfl ?_
            refine g_X7_7 C (dx dX7_noHolding 21 rfl) ?_
            refine r_iload_n C (dx dX7_noHolding 22 rfl) rfl ?_
            refine r_iald (j := σ) (x := nI 0) C rfl rfl (by decide) rfl (by omega) (dx dX7_noHolding 23 rfl) a11 ?_
            refine r_if_ne (tgt := 54) C (dx dX7_noHolding 24 rfl) (by decide) (fun c3 => (show False from by revert c3; decide).elim) (fun _ => ?_)
            refine r_aload_n C (dx dX7_noHolding 25 rfl) rfl ?_
            refine r_bipush (v := -4) C (dx dX7_noHolding 26 rfl) rfl ?_
            refine r_cv (as := [vi (-4)]) (st := []) C X I_X7_refuse l_X7_83 (c_X7_refuse hm (x := -4) (j := 4) (by decide) (by decide)) (by decide) (Nat.le_of_ble_eq_true rfl) List.prefix_rfl List.prefix_rfl rfl rfl (Nat.le_of_ble_eq_true rfl) rfl (dx dX7_noHolding 27 rfl) ?_
            rintro _ h4 ⟨rfl, ⟨wh4, m9h4, s9h4⟩, qh4⟩ kkh4
            obtain ⟨vh4, mh4, zh4⟩ : ∃ v9, MilAt h4 k v9 ∧ Sz v v9 := ⟨_, m9h4, s9h4⟩
            have ph4 : Kp k h h4 := qh4
            have kh4 : xK h4 = xK h := kkh4
            obtain ⟨ah4, bh4, ch4⟩ := zh4
            refine r_goto (tgt := 55) C (dx dX7_noHolding 28 rfl) (by decide) ?_
            have eA : nhA g (nI σ) = -4 := by simp [nhA, c1, c2, e01, e11, e21, e31, e41, e51, e61, inR_nI (show σ < 2 ^ 31 by omega), show σ < 8 by omega]
            exact F.1 _ _ _ _ _ rfl rfl (dx dX7_noHolding 30 rfl) kh4 (show some (vi (-4)) = some (vi (nhA g (nI σ))) ∧ (∃ v', MilAt h4 k v' ∧ Sz v v') ∧ Kp k h h4 from by rw [eA]; exact ⟨rfl, ⟨_, mh4, ⟨by omega, by omega, by omega⟩⟩, ph4⟩))
      · first
        | (omega; done)
        | (
            have c2 : 0 = 1 := c2
            refine r_aload_n C (dx dX7_noHolding 16 rfl) rfl ?_
            refine r_bipush (v := -3) C (dx dX7_noHolding 17 rfl) rfl ?_
            refine r_cv (as := [vi (-3)]) (st := []) C X I_X7_refuse l_X7_83 (c_X7_refuse hm (x := -3) (j := 3) (by decide) (by decide)) (by decide) (Nat.le_of_ble_eq_true rfl) List.prefix_rfl List.prefix_rfl rfl rfl (Nat.le_of_ble_eq_true rfl) rfl (dx dX7_noHolding 18 rfl) ?_
            rintro _ h5 ⟨rfl, ⟨wh5, m9h5, s9h5⟩, qh5⟩ kkh5
            obtain ⟨vh5, mh5, zh5⟩ : ∃ v9, MilAt h5 k v9 ∧ Sz v v9 := ⟨_, m9h5, s9h5⟩
            have ph5 : Kp k h h5 := qh5
            have kh5 : xK h5 = xK h := kkh5
            obtain ⟨ah5, bh5, ch5⟩ := zh5
            have eA : nhA g (nI σ) = -3 := by simp [nhA, c1, c2, e01, e11, e21, e31, e41, e51, e61, inR_nI (show σ < 2 ^ 31 by omega), show σ < 8 by omega]
            exact F.1 _ _ _ _ _ rfl rfl (dx dX7_noHolding 19 rfl) kh5 (show some (vi (-3)) = some (vi (nhA g (nI σ))) ∧ (∃ v', MilAt h5 k v' ∧ Sz v v') ∧ Kp k h h5 from by rw [eA]; exact ⟨rfl, ⟨_, mh5, ⟨by omega, by omega, by omega⟩⟩, ph5⟩))
    ·
      obtain ⟨e01, e11, e21, e31, e41, e51, e61⟩ := sh_row hσ a11 a61 a71
      refine r_aload_n C (dx dX7_noHolding 10 rfl) rfl ?_
      refine g_X7_7 C (dx dX7_noHolding 11 rfl) ?_
      refine r_iload_n C (dx dX7_noHolding 12 rfl) rfl ?_
      refine r_iald (j := σ) (x := nI 1) C rfl rfl (by decide) rfl (by omega) (dx dX7_noHolding 13 rfl) a31 ?_
      refine r_iconst (v := nI 1) C (dx dX7_noHolding 14 rfl) rfl ?_
      refine rn_ne (a := 1) (b := 1) (tgt := 36) C (by omega) (by omega) (dx dX7_noHolding 15 rfl) (by decide) (fun c6 => ?_) (fun c6 => ?_)
      · first
        | (omega; done)
        | (
            have c6 : ¬ 1 = 1 := c6
            refine r_aload_n C (dx dX7_noHolding 20 rfl) rfl ?_
            refine g_X7_7 C (dx dX7_noHolding 21 rfl) ?_
            refine r_iload_n C (dx dX7_noHolding 22 rfl) rfl ?_
            refine r_iald (j := σ) (x := nI 1) C rfl rfl (by decide) rfl (by omega) (dx dX7_noHolding 23 rfl) a31 ?_
            refine r_if_ne (tgt := 54) C (dx dX7_noHolding 24 rfl) (by decide) (fun _ => ?_) (fun c7 => (show False from by revert c7; decide).elim)
            refine r_iconst (v := nI 0) C (dx dX7_noHolding 29 rfl) rfl ?_
            have eA : nhA g (nI σ) = nI 0 := by simp [nhA, c1, c6, e01, e11, e21, e31, e41, e51, e61, inR_nI (show σ < 2 ^ 31 by omega), show σ < 8 by omega]
            exact F.1 _ _ _ _ _ rfl rfl (dx dX7_noHolding 30 rfl) rfl (show some (vi (nI 0)) = some (vi (nhA g (nI σ))) ∧ (∃ v', MilAt h k v' ∧ Sz v v') ∧ Kp k h h from by rw [eA]; exact ⟨rfl, ⟨_, hm, ⟨by omega, by omega, by omega⟩⟩, Kp.rf⟩))
      · first
        | (omega; done)
        | (
            have c6 : 1 = 1 := c6
            refine r_aload_n C (dx dX7_noHolding 16 rfl) rfl ?_
            refine r_bipush (v := -3) C (dx dX7_noHolding 17 rfl) rfl ?_
            refine r_cv (as := [vi (-3)]) (st := []) C X I_X7_refuse l_X7_83 (c_X7_refuse hm (x := -3) (j := 3) (by decide) (by decide)) (by decide) (Nat.le_of_ble_eq_true rfl) List.prefix_rfl List.prefix_rfl rfl rfl (Nat.le_of_ble_eq_true rfl) rfl (dx dX7_noHolding 18 rfl) ?_
            rintro _ h8 ⟨rfl, ⟨wh8, m9h8, s9h8⟩, qh8⟩ kkh8
            obtain ⟨vh8, mh8, zh8⟩ : ∃ v9, MilAt h8 k v9 ∧ Sz v v9 := ⟨_, m9h8, s9h8⟩
            have ph8 : Kp k h h8 := qh8
            have kh8 : xK h8 = xK h := kkh8
            obtain ⟨ah8, bh8, ch8⟩ := zh8
            have eA : nhA g (nI σ) = -3 := by simp [nhA, c1, c6, e01, e11, e21, e31, e41, e51, e61, inR_nI (show σ < 2 ^ 31 by omega), show σ < 8 by omega]
            exact F.1 _ _ _ _ _ rfl rfl (dx dX7_noHolding 19 rfl) kh8 (show some (vi (-3)) = some (vi (nhA g (nI σ))) ∧ (∃ v', MilAt h8 k v' ∧ Sz v v') ∧ Kp k h h8 from by rw [eA]; exact ⟨rfl, ⟨_, mh8, ⟨by omega, by omega, by omega⟩⟩, ph8⟩))
    ·
      obtain ⟨e01, e11, e21, e31, e41, e51, e61, e71⟩ := sh_hold hσ a21 a71 a81
      refine r_aload_n C (dx dX7_noHolding 10 rfl) rfl ?_
      refine g_X7_7 C (dx dX7_noHolding 11 rfl) ?_
      refine r_iload_n C (dx dX7_noHolding 12 rfl) rfl ?_
      refine r_iald (j := σ) (x := nI 2) C rfl rfl (by decide) rfl (by omega) (dx dX7_noHolding 13 rfl) a41 ?_
      refine r_iconst (v := nI 1) C (dx dX7_noHolding 14 rfl) rfl ?_
      refine rn_ne (a := 2) (b := 1) (tgt := 36) C (by omega) (by omega) (dx dX7_noHolding 15 rfl) (by decide) (fun c9 => ?_) (fun c9 => ?_)
      · first
        | (omega; done)
        | (
            have c9 : ¬ 2 = 1 := c9
            refine r_aload_n C (dx dX7_noHolding 20 rfl) rfl ?_
            refine g_X7_7 C (dx dX7_noHolding 21 rfl) ?_
            refine r_iload_n C (dx dX7_noHolding 22 rfl) rfl ?_
            refine r_iald (j := σ) (x := nI 2) C rfl rfl (by decide) rfl (by omega) (dx dX7_noHolding 23 rfl) a41 ?_
            refine r_if_ne (tgt := 54) C (dx dX7_noHolding 24 rfl) (by decide) (fun _ => ?_) (fun c10 => (show False from by revert c10; decide).elim)
            refine r_iconst (v := nI 0) C (dx dX7_noHolding 29 rfl) rfl ?_
            have eA : nhA g (nI σ) = nI 0 := by simp [nhA, c1, c9, e01, e11, e21, e31, e41, e51, e61, e71, inR_nI (show σ < 2 ^ 31 by omega), show σ < 8 by omega]
            exact F.1 _ _ _ _ _ rfl rfl (dx dX7_noHolding 30 rfl) rfl (show some (vi (nI 0)) = some (vi (nhA g (nI σ))) ∧ (∃ v', MilAt h k v' ∧ Sz v v') ∧ Kp k h h from by rw [eA]; exact ⟨rfl, ⟨_, hm, ⟨by omega, by omega, by omega⟩⟩, Kp.rf⟩))
      · first
        | (omega; done)
        | (
            have c9 : 2 = 1 := c9
            refine r_aload_n C (dx dX7_noHolding 16 rfl) rfl ?_
            refine r_bipush (v := -3) C (dx dX7_noHolding 17 rfl) rfl ?_
            refine r_cv (as := [vi (-3)]) (st := []) C X I_X7_refuse l_X7_83 (c_X7_refuse hm (x := -3) (j := 3) (by decide) (by decide)) (by decide) (Nat.le_of_ble_eq_true rfl) List.prefix_rfl List.prefix_rfl rfl rfl (Nat.le_of_ble_eq_true rfl) rfl (dx dX7_noHolding 18 rfl) ?_
            rintro _ h11 ⟨rfl, ⟨wh11, m9h11, s9h11⟩, qh11⟩ kkh11
            obtain ⟨vh11, mh11, zh11⟩ : ∃ v9, MilAt h11 k v9 ∧ Sz v v9 := ⟨_, m9h11, s9h11⟩
            have ph11 : Kp k h h11 := qh11
            have kh11 : xK h11 = xK h := kkh11
            obtain ⟨ah11, bh11, ch11⟩ := zh11
            have eA : nhA g (nI σ) = -3 := by simp [nhA, c1, c9, e01, e11, e21, e31, e41, e51, e61, e71, inR_nI (show σ < 2 ^ 31 by omega), show σ < 8 by omega]
            exact F.1 _ _ _ _ _ rfl rfl (dx dX7_noHolding 19 rfl) kh11 (show some (vi (-3)) = some (vi (nhA g (nI σ))) ∧ (∃ v', MilAt h11 k v' ∧ Sz v v') ∧ Kp k h h11 from by rw [eA]; exact ⟨rfl, ⟨_, mh11, ⟨by omega, by omega, by omega⟩⟩, ph11⟩))
  ·
    have c1 : (inR s 8) = false := c1
    refine r_aload_n C (dx dX7_noHolding 6 rfl) rfl ?_
    refine r_bipush (v := -2) C (dx dX7_noHolding 7 rfl) rfl ?_
    refine r_cv (as := [vi (-2)]) (st := []) C X I_X7_refuse l_X7_83 (c_X7_refuse hm (x := -2) (j := 2) (by decide) (by decide)) (by decide) (Nat.le_of_ble_eq_true rfl) List.prefix_rfl List.prefix_rfl rfl rfl (Nat.le_of_ble_eq_true rfl) rfl (dx dX7_noHolding 8 rfl) ?_
    rintro _ h12 ⟨rfl, ⟨wh12, m9h12, s9h12⟩, qh12⟩ kkh12
    obtain ⟨vh12, mh12, zh12⟩ : ∃ v9, MilAt h12 k v9 ∧ Sz v v9 := ⟨_, m9h12, s9h12⟩
    have ph12 : Kp k h h12 := qh12
    have kh12 : xK h12 = xK h := kkh12
    obtain ⟨ah12, bh12, ch12⟩ := zh12
    have eA : nhA g s = -2 := by simp [nhA, c1]
    exact F.1 _ _ _ _ _ rfl rfl (dx dX7_noHolding 9 rfl) kh12 (show some (vi (-2)) = some (vi (nhA g s)) ∧ (∃ v', MilAt h12 k v' ∧ Sz v v') ∧ Kp k h h12 from by rw [eA]; exact ⟨rfl, ⟨_, mh12, ⟨by omega, by omega, by omega⟩⟩, ph12⟩)
set_option maxHeartbeats 4000000 in
theorem c_X7_fit {l : Launch} {h : Hp} (x : Int32) (v : Int64) : Mp l yX7_fit cX7_fit 3 (some .long) 1 [vi x, vl v] h (vl (lowB x v)) := by
  refine Ms.of (by decide) (Nat.le_of_ble_eq_true rfl) (fun G C X F => ?_)
  have C : Cx G cX7_fit 3 RX7 := C
  show Rr G 0 [(0, vi x), (1, vl v)] [] h
  refine r_iload_n C (dx dX7_fit 0 rfl) rfl ?_
  rcases sw4 x with e9 | e9 | e9 | e9 | ⟨e9, e8⟩
  ·
    subst e9
    refine r_tabIn (off := 31) (tgt := 32) C (dx dX7_fit 1 rfl) (by decide) (by decide) (by decide) (by decide) ?_
    refine r_lload_n C (dx dX7_fit 2 rfl) rfl ?_
    refine r_l2i C (dx dX7_fit 3 rfl) ?_
    refine r_i2b C (dx dX7_fit 4 rfl) ?_
    refine r_i2l C (dx dX7_fit 5 rfl) ?_
    exact F.2.1 _ _ _ _ rfl (dx dX7_fit 6 rfl) rfl ⟨congrArg (fun x => some (vl x)) (show v.toInt32.toInt8.toInt32.toInt64 = lowB (nI 0) v by rfl), rfl⟩
  ·
    subst e9
    refine r_tabIn (off := 36) (tgt := 37) C (dx dX7_fit 1 rfl) (by decide) (by decide) (by decide) (by decide) ?_
    refine r_lload_n C (dx dX7_fit 7 rfl) rfl ?_
    refine r_l2i C (dx dX7_fit 8 rfl) ?_
    refine r_i2s C (dx dX7_fit 9 rfl) ?_
    refine r_i2l C (dx dX7_fit 10 rfl) ?_
    exact F.2.1 _ _ _ _ rfl (dx dX7_fit 11 rfl) rfl ⟨congrArg (fun x => some (vl x)) (show v.toInt32.toInt16.toInt32.toInt64 = lowB (nI 1) v by rfl), rfl⟩
  ·
    subst e9
    refine r_tabIn (off := 41) (tgt := 42) C (dx dX7_fit 1 rfl) (by decide) (by decide) (by decide) (by decide) ?_
    refine r_lload_n C (dx dX7_fit 12 rfl) rfl ?_
    refine r_l2i C (dx dX7_fit 13 rfl) ?_
    refine r_i2l C (dx dX7_fit 14 rfl) ?_
    exact F.2.1 _ _ _ _ rfl (dx dX7_fit 15 rfl) rfl ⟨congrArg (fun x => some (vl x)) (show v.toInt32.toInt64 = lowB (nI 2) v by rfl), rfl⟩
  ·
    subst e9
    refine r_tabIn (off := 45) (tgt := 46) C (dx dX7_fit 1 rfl) (by decide) (by decide) (by decide) (by decide) ?_
    refine r_lload_n C (dx dX7_fit 16 rfl) rfl ?_
    exact F.2.1 _ _ _ _ rfl (dx dX7_fit 17 rfl) rfl ⟨congrArg (fun x => some (vl x)) (show v = lowB (nI 3) v by rfl), rfl⟩
  ·
    refine r_tabOut (tgt := 48) C (dx dX7_fit 1 rfl) e9 (by decide) ?_
    refine r_lload_n C (dx dX7_fit 18 rfl) rfl ?_
    refine r_lconst (v := 0) C (dx dX7_fit 19 rfl) rfl ?_
    refine r_lcmp C (dx dX7_fit 20 rfl) ?_
    refine r_if_eq (tgt := 58) C (dx dX7_fit 21 rfl) (by decide) (fun c1 => ?_) (fun c1 => ?_)
    ·
      have c1 : v = 0 := (lg_cmp_eq _ _).mp c1
      refine r_lconst (v := 0) C (dx dX7_fit 24 rfl) rfl ?_
      exact F.2.1 _ _ _ _ rfl (dx dX7_fit 25 rfl) rfl ⟨congrArg (fun x => some (vl x)) (show 0 = lowB x v by rw [e8]; simp [c1]), rfl⟩
    ·
      have c1 : ¬ (v = 0) := fun q => c1 ((lg_cmp_eq _ _).mpr q)
      refine r_lconst (v := 1) C (dx dX7_fit 22 rfl) rfl ?_
      refine r_goto (tgt := 59) C (dx dX7_fit 23 rfl) (by decide) ?_
      exact F.2.1 _ _ _ _ rfl (dx dX7_fit 25 rfl) rfl ⟨congrArg (fun x => some (vl x)) (show 1 = lowB x v by rw [e8]; simp [c1]), rfl⟩
set_option maxHeartbeats 4000000 in
theorem c_X7_isUnder {l : Launch} {h : Hp} (x y : Int32) : Mp l yX7_isUnder cX7_isUnder 2 (some .boolean) 1 [vi x, vi y] h (vi (b2i (undV x y))) := by
  refine Ms.of (by decide) (Nat.le_of_ble_eq_true rfl) (fun G C X F => ?_)
  have C : Cx G cX7_isUnder 2 RX7 := C
  show Rr G 0 [(0, vi x), (1, vi y)] [] h
  refine r_iload_n C (dx dX7_isUnder 0 rfl) rfl ?_
  refine r_if_eq (tgt := 34) C (dx dX7_isUnder 1 rfl) (by decide) (fun c1 => ?_) (fun c1 => ?_)
  ·
    have c1 : y = 0 := c1
    refine r_iconst (v := nI 1) C (dx dX7_isUnder 20 rfl) rfl ?_
    refine r_goto (tgt := 39) C (dx dX7_isUnder 21 rfl) (by decide) ?_
    exact F.1 _ _ _ _ _ rfl rfl (dx dX7_isUnder 23 rfl) rfl ⟨congrArg (fun x => some (vi x)) (show nI 1 = b2i _ by rw [show (undV x y) = true by (simp_all [undV] <;> exact absurd ‹nI 2 = nI 1› (by decide))]; rfl), rfl⟩
  ·
    have c1 : ¬ y = 0 := c1
    refine r_iload_n C (dx dX7_isUnder 2 rfl) rfl ?_
    refine r_iload_n C (dx dX7_isUnder 3 rfl) rfl ?_
    refine r_icmp_eq (tgt := 34) C (dx dX7_isUnder 4 rfl) (by decide) (fun c2 => ?_) (fun c2 => ?_)
    ·
      have c2 : x = y := c2
      refine r_iconst (v := nI 1) C (dx dX7_isUnder 20 rfl) rfl ?_
      refine r_goto (tgt := 39) C (dx dX7_isUnder 21 rfl) (by decide) ?_
      exact F.1 _ _ _ _ _ rfl rfl (dx dX7_isUnder 23 rfl) rfl ⟨congrArg (fun x => some (vi x)) (show nI 1 = b2i _ by rw [show (undV x y) = true by (simp_all [undV] <;> exact absurd ‹nI 2 = nI 1› (by decide))]; rfl), rfl⟩
    ·
      have c2 : ¬ x = y := c2
      refine r_iload_n C (dx dX7_isUnder 5 rfl) rfl ?_
      refine r_iconst (v := nI 1) C (dx dX7_isUnder 6 rfl) rfl ?_
      refine r_icmp_ne (tgt := 19) C (dx dX7_isUnder 7 rfl) (by decide) (fun c3 => ?_) (fun c3 => ?_)
      ·
        have c3 : ¬ y = nI 1 := c3
        refine r_iload_n C (dx dX7_isUnder 11 rfl) rfl ?_
        refine r_iconst (v := nI 2) C (dx dX7_isUnder 12 rfl) rfl ?_
        refine r_icmp_ne (tgt := 38) C (dx dX7_isUnder 13 rfl) (by decide) (fun c4 => ?_) (fun c4 => ?_)
        ·
          have c4 : ¬ y = nI 2 := c4
          refine r_iconst (v := nI 0) C (dx dX7_isUnder 22 rfl) rfl ?_
          exact F.1 _ _ _ _ _ rfl rfl (dx dX7_isUnder 23 rfl) rfl ⟨congrArg (fun x => some (vi x)) (show nI 0 = b2i _ by rw [show (undV x y) = false by (simp_all [undV] <;> exact absurd ‹nI 2 = nI 1› (by decide))]; rfl), rfl⟩
        ·
          have c4 : y = nI 2 := c4
          refine r_iload_n C (dx dX7_isUnder 14 rfl) rfl ?_
          refine r_iconst (v := nI 3) C (dx dX7_isUnder 15 rfl) rfl ?_
          refine r_icmp_eq (tgt := 34) C (dx dX7_isUnder 16 rfl) (by decide) (fun c5 => ?_) (fun c5 => ?_)
          ·
            have c5 : x = nI 3 := c5
            refine r_iconst (v := nI 1) C (dx dX7_isUnder 20 rfl) rfl ?_
            refine r_goto (tgt := 39) C (dx dX7_isUnder 21 rfl) (by decide) ?_
            exact F.1 _ _ _ _ _ rfl rfl (dx dX7_isUnder 23 rfl) rfl ⟨congrArg (fun x => some (vi x)) (show nI 1 = b2i _ by rw [show (undV x y) = true by (simp_all [undV] <;> exact absurd ‹nI 2 = nI 1› (by decide))]; rfl), rfl⟩
          ·
            have c5 : ¬ x = nI 3 := c5
            refine r_iload_n C (dx dX7_isUnder 17 rfl) rfl ?_
            refine r_iconst (v := nI 4) C (dx dX7_isUnder 18 rfl) rfl ?_
            refine r_icmp_ne (tgt := 38) C (dx dX7_isUnder 19 rfl) (by decide) (fun c6 => ?_) (fun c6 => ?_)
            ·
              have c6 : ¬ x = nI 4 := c6
              refine r_iconst (v := nI 0) C (dx dX7_isUnder 22 rfl) rfl ?_
              exact F.1 _ _ _ _ _ rfl rfl (dx dX7_isUnder 23 rfl) rfl ⟨congrArg (fun x => some (vi x)) (show nI 0 = b2i _ by rw [show (undV x y) = false by (simp_all [undV] <;> exact absurd ‹nI 2 = nI 1› (by decide))]; rfl), rfl⟩
            ·
              have c6 : x = nI 4 := c6
              refine r_iconst (v := nI 1) C (dx dX7_isUnder 20 rfl) rfl ?_
              refine r_goto (tgt := 39) C (dx dX7_isUnder 21 rfl) (by decide) ?_
              exact F.1 _ _ _ _ _ rfl rfl (dx dX7_isUnder 23 rfl) rfl ⟨congrArg (fun x => some (vi x)) (show nI 1 = b2i _ by rw [show (undV x y) = true by (simp_all [undV] <;> exact absurd ‹nI 2 = nI 1› (by decide))]; rfl), rfl⟩
      ·
        have c3 : y = nI 1 := c3
        refine r_iload_n C (dx dX7_isUnder 8 rfl) rfl ?_
        refine r_iconst (v := nI 5) C (dx dX7_isUnder 9 rfl) rfl ?_
        refine r_icmp_eq (tgt := 34) C (dx dX7_isUnder 10 rfl) (by decide) (fun c7 => ?_) (fun c7 => ?_)
        ·
          have c7 : x = nI 5 := c7
          refine r_iconst (v := nI 1) C (dx dX7_isUnder 20 rfl) rfl ?_
          refine r_goto (tgt := 39) C (dx dX7_isUnder 21 rfl) (by decide) ?_
          exact F.1 _ _ _ _ _ rfl rfl (dx dX7_isUnder 23 rfl) rfl ⟨congrArg (fun x => some (vi x)) (show nI 1 = b2i _ by rw [show (undV x y) = true by (simp_all [undV] <;> exact absurd ‹nI 2 = nI 1› (by decide))]; rfl), rfl⟩
        ·
          have c7 : ¬ x = nI 5 := c7
          refine r_iload_n C (dx dX7_isUnder 11 rfl) rfl ?_
          refine r_iconst (v := nI 2) C (dx dX7_isUnder 12 rfl) rfl ?_
          refine r_icmp_ne (tgt := 38) C (dx dX7_isUnder 13 rfl) (by decide) (fun c8 => ?_) (fun c8 => ?_)
          ·
            have c8 : ¬ y = nI 2 := c8
            refine r_iconst (v := nI 0) C (dx dX7_isUnder 22 rfl) rfl ?_
            exact F.1 _ _ _ _ _ rfl rfl (dx dX7_isUnder 23 rfl) rfl ⟨congrArg (fun x => some (vi x)) (show nI 0 = b2i _ by rw [show (undV x y) = false by (simp_all [undV] <;> exact absurd ‹nI 2 = nI 1› (by decide))]; rfl), rfl⟩
          ·
            have c8 : y = nI 2 := c8
            refine r_iload_n C (dx dX7_isUnder 14 rfl) rfl ?_
            refine r_iconst (v := nI 3) C (dx dX7_isUnder 15 rfl) rfl ?_
            refine r_icmp_eq (tgt := 34) C (dx dX7_isUnder 16 rfl) (by decide) (fun c9 => ?_) (fun c9 => ?_)
            ·
              have c9 : x = nI 3 := c9
              refine r_iconst (v := nI 1) C (dx dX7_isUnder 20 rfl) rfl ?_
              refine r_goto (tgt := 39) C (dx dX7_isUnder 21 rfl) (by decide) ?_
              exact F.1 _ _ _ _ _ rfl rfl (dx dX7_isUnder 23 rfl) rfl ⟨congrArg (fun x => some (vi x)) (show nI 1 = b2i _ by rw [show (undV x y) = true by (simp_all [undV] <;> exact absurd ‹nI 2 = nI 1› (by decide))]; rfl), rfl⟩
            ·
              have c9 : ¬ x = nI 3 := c9
              refine r_iload_n C (dx dX7_isUnder 17 rfl) rfl ?_
              refine r_iconst (v := nI 4) C (dx dX7_isUnder 18 rfl) rfl ?_
              refine r_icmp_ne (tgt := 38) C (dx dX7_isUnder 19 rfl) (by decide) (fun c10 => ?_) (fun c10 => ?_)
              ·
                have c10 : ¬ x = nI 4 := c10
                refine r_iconst (v := nI 0) C (dx dX7_isUnder 22 rfl) rfl ?_
                exact F.1 _ _ _ _ _ rfl rfl (dx dX7_isUnder 23 rfl) rfl ⟨congrArg (fun x => some (vi x)) (show nI 0 = b2i _ by rw [show (undV x y) = false by (simp_all [undV] <;> exact absurd ‹nI 2 = nI 1› (by decide))]; rfl), rfl⟩
              ·
                have c10 : x = nI 4 := c10
                refine r_iconst (v := nI 1) C (dx dX7_isUnder 20 rfl) rfl ?_
                refine r_goto (tgt := 39) C (dx dX7_isUnder 21 rfl) (by decide) ?_
                exact F.1 _ _ _ _ _ rfl rfl (dx dX7_isUnder 23 rfl) rfl ⟨congrArg (fun x => some (vi x)) (show nI 1 = b2i _ by rw [show (undV x y) = true by (simp_all [undV] <;> exact absurd ‹nI 2 = nI 1› (by decide))]; rfl), rfl⟩
set_option maxHeartbeats 4000000 in
theorem c_X7_element {l : Launch} {h : Hp} {k : Nat} {v : Vg} {g : Sg} (hm : MilAt h k v) (hs : MshAt h k g) (s i : Int32) : Ms l yX7_element cX7_element 3 (some .long) 5 [vr 7 k, vi s, vi i] h (xK h) (fun r h' => r = some (vl (elV g s i)) ∧ (∃ v', MilAt h' k v') ∧ MshAt h' k g ∧ Ks k h h') := by
  refine Ms.of (by decide) (Nat.le_of_ble_eq_true rfl) (fun G C X F => ?_)
  have C : Cx G cX7_element 3 RX7 := C
  show Rr G 0 [(0, vr 7 k), (1, vi s), (2, vi i)] [] h
  have bP := hm.bP
  have bM := hm.bM
  have bN := hm.bN
  refine r_iload_n C (dx dX7_element 0 rfl) rfl ?_
  refine r_i2l C (dx dX7_element 1 rfl) ?_
  refine r_lconst (v := 0) C (dx dX7_element 2 rfl) rfl ?_
  refine r_ldc2 C n_X7_77 (dx dX7_element 3 rfl) ?_
  refine r_csP (as := [vl s.toInt64, vl 0, vl 7]) (st := []) (v := vi (b2i (inR s 8))) C X I_X7_in l_X7_67 (c_inR (b := 7) (by decide) (by decide)) (by decide) (Nat.le_of_ble_eq_true rfl) List.prefix_rfl (Nat.le_of_ble_eq_true rfl) rfl (dx dX7_element 4 rfl) ?_
  refine rb_eq (b := inR s 8) (tgt := 51) C (dx dX7_element 5 rfl) (by decide) (fun c1 => ?_) (fun c1 => ?_)
  ·
    have c1 : (inR s 8) = false := c1
    refine r_lconst (v := 0) C (dx dX7_element 31 rfl) rfl ?_
    have eA : elV g s i = 0 := by exact el_0 (sz_out c1)
    exact F.2.1 _ _ _ _ rfl (dx dX7_element 32 rfl) rfl (show some (vl 0) = some (vl (elV g s i)) ∧ (∃ v', MilAt h k v') ∧ MshAt h k g ∧ Ks k h h from by rw [eA]; exact ⟨rfl, ⟨_, hm⟩, hs, Ks.rf⟩)
  ·
    have c1 : (inR s 8) = true := c1
    obtain ⟨σ, hσ, rfl⟩ := inR_ex (n := 8) (by omega) c1
    rcases hs σ hσ with ⟨a11, a21⟩ | ⟨τ1, ν1, a11, a21, a31, a41, a51, a61, a71, a81⟩ | ⟨κ1, b1, a11, a21, a31, a41, a51, a61, a71, a81⟩
    ·
      obtain ⟨e01, e11, e21, e31, e41, e51, e61⟩ := sh_bare hσ a21
      refine r_aload_n C (dx dX7_element 6 rfl) rfl ?_
      refine g_X7_7 C (dx dX7_element 7 rfl) ?_
      refine r_iload_n C (dx dX7_element 8 rfl) rfl ?_
      refine r_iald (j := σ) (x := nI 0) C rfl rfl (by decide) rfl (by omega) (dx dX7_element 9 rfl) a11 ?_
      refine r_iconst (v := nI 1) C (dx dX7_element 10 rfl) rfl ?_
      refine rn_ne (a := 0) (b := 1) (tgt := 51) C (by omega) (by omega) (dx dX7_element 11 rfl) (by decide) (fun c2 => ?_) (fun c2 => ?_)
      · first
        | (omega; done)
        | (
            have c2 : ¬ 0 = 1 := c2
            refine r_lconst (v := 0) C (dx dX7_element 31 rfl) rfl ?_
            have eA : elV g (nI σ) i = 0 := by exact el_0 e31
            exact F.2.1 _ _ _ _ rfl (dx dX7_element 32 rfl) rfl (show some (vl 0) = some (vl (elV g (nI σ) i)) ∧ (∃ v', MilAt h k v') ∧ MshAt h k g ∧ Ks k h h from by rw [eA]; exact ⟨rfl, ⟨_, hm⟩, hs, Ks.rf⟩))
      · first
        | (omega; done)
    ·
      obtain ⟨e01, e11, e21, e31, e41, e51, e61⟩ := sh_row hσ a11 a61 a71
      refine r_aload_n C (dx dX7_element 6 rfl) rfl ?_
      refine g_X7_7 C (dx dX7_element 7 rfl) ?_
      refine r_iload_n C (dx dX7_element 8 rfl) rfl ?_
      refine r_iald (j := σ) (x := nI 1) C rfl rfl (by decide) rfl (by omega) (dx dX7_element 9 rfl) a31 ?_
      refine r_iconst (v := nI 1) C (dx dX7_element 10 rfl) rfl ?_
      refine rn_ne (a := 1) (b := 1) (tgt := 51) C (by omega) (by omega) (dx dX7_element 11 rfl) (by decide) (fun c4 => ?_) (fun c4 => ?_)
      · first
        | (omega; done)
        | (
            have c4 : ¬ 1 = 1 := c4
            refine r_lconst (v := 0) C (dx dX7_element 31 rfl) rfl ?_
            have eA : elV g (nI σ) i = 0 := by rw [el_row hσ e31 (by omega), if_pos (inN (by omega) hι), clN (by omega)]
            exact F.2.1 _ _ _ _ rfl (dx dX7_element 32 rfl) rfl (show some (vl 0) = some (vl (elV g (nI σ) i)) ∧ (∃ v', MilAt h k v') ∧ MshAt h k g ∧ Ks k h h from by rw [eA]; exact ⟨rfl, ⟨_, hm⟩, hs, Ks.rf⟩))
      · first
        | (omega; done)
        | (
            have c4 : 1 = 1 := c4
            refine r_iload_n C (dx dX7_element 12 rfl) rfl ?_
            refine r_i2l C (dx dX7_element 13 rfl) ?_
            refine r_lconst (v := 0) C (dx dX7_element 14 rfl) rfl ?_
            refine r_aload_n C (dx dX7_element 15 rfl) rfl ?_
            refine g_X7_16 C (dx dX7_element 16 rfl) ?_
            refine r_iload_n C (dx dX7_element 17 rfl) rfl ?_
            refine r_iald (j := σ) (x := nI ν1) C rfl rfl (by decide) rfl (by omega) (dx dX7_element 18 rfl) a51 ?_
            refine r_iconst (v := nI 1) C (dx dX7_element 19 rfl) rfl ?_
            refine r_isub C (dx dX7_element 20 rfl) ?_
            refine r_i2l C (dx dX7_element 21 rfl) ?_
            refine r_csP (as := [vl i.toInt64, vl 0, vl (((nI ν1) - (nI 1)).toInt64)]) (st := []) (v := vi (b2i (inR i ν1))) C X I_X7_in l_X7_67 (c_inN (by omega)) (by decide) (Nat.le_of_ble_eq_true rfl) List.prefix_rfl (Nat.le_of_ble_eq_true rfl) rfl (dx dX7_element 22 rfl) ?_
            refine rb_eq (b := inR i ν1) (tgt := 51) C (dx dX7_element 23 rfl) (by decide) (fun c5 => ?_) (fun c5 => ?_)
            ·
              have c5 : (inR i ν1) = false := c5
              refine r_lconst (v := 0) C (dx dX7_element 31 rfl) rfl ?_
              have eA : elV g (nI σ) i = 0 := by rw [el_row hσ e31 (by omega), if_neg (by simp [c5])]
              exact F.2.1 _ _ _ _ rfl (dx dX7_element 32 rfl) rfl (show some (vl 0) = some (vl (elV g (nI σ) i)) ∧ (∃ v', MilAt h k v') ∧ MshAt h k g ∧ Ks k h h from by rw [eA]; exact ⟨rfl, ⟨_, hm⟩, hs, Ks.rf⟩)
            ·
              have c5 : (inR i ν1) = true := c5
              obtain ⟨ι, hι, rfl⟩ := inR_ex (n := ν1) (by omega) c5
              refine r_aload_n C (dx dX7_element 24 rfl) rfl ?_
              refine g_X7_21 C (dx dX7_element 25 rfl) ?_
              refine r_iload_n C (dx dX7_element 26 rfl) rfl ?_
              refine r_aald5 (j := σ) C rfl rfl (by decide) rfl (by omega) (dx dX7_element 27 rfl) ?_
              refine r_iload_n C (dx dX7_element 28 rfl) rfl ?_
              refine r_lald (j := ι) (x := gE g σ ι) C rfl rfl (by decide) rfl (by omega) (dx dX7_element 29 rfl) (a81 _ (by omega)) ?_
              refine r_goto (tgt := 52) C (dx dX7_element 30 rfl) (by decide) ?_
              have eA : elV g (nI σ) (nI ι) = gE g σ ι := by rw [el_row hσ e31 (by omega), if_pos (inN (by omega) hι), clN (by omega)]
              exact F.2.1 _ _ _ _ rfl (dx dX7_element 32 rfl) rfl (show some (vl (gE g σ ι)) = some (vl (elV g (nI σ) (nI ι))) ∧ (∃ v', MilAt h k v') ∧ MshAt h k g ∧ Ks k h h from by rw [eA]; exact ⟨rfl, ⟨_, hm⟩, hs, Ks.rf⟩))
    ·
      obtain ⟨e01, e11, e21, e31, e41, e51, e61, e71⟩ := sh_hold hσ a21 a71 a81
      refine r_aload_n C (dx dX7_element 6 rfl) rfl ?_
      refine g_X7_7 C (dx dX7_element 7 rfl) ?_
      refine r_iload_n C (dx dX7_element 8 rfl) rfl ?_
      refine r_iald (j := σ) (x := nI 2) C rfl rfl (by decide) rfl (by omega) (dx dX7_element 9 rfl) a41 ?_
      refine r_iconst (v := nI 1) C (dx dX7_element 10 rfl) rfl ?_
      refine rn_ne (a := 2) (b := 1) (tgt := 51) C (by omega) (by omega) (dx dX7_element 11 rfl) (by decide) (fun c6 => ?_) (fun c6 => ?_)
      · first
        | (omega; done)
        | (
            have c6 : ¬ 2 = 1 := c6
            refine r_lconst (v := 0) C (dx dX7_element 31 rfl) rfl ?_
            have eA : elV g (nI σ) i = 0 := by exact el_0 e31
            exact F.2.1 _ _ _ _ rfl (dx dX7_element 32 rfl) rfl (show some (vl 0) = some (vl (elV g (nI σ) i)) ∧ (∃ v', MilAt h k v') ∧ MshAt h k g ∧ Ks k h h from by rw [eA]; exact ⟨rfl, ⟨_, hm⟩, hs, Ks.rf⟩))
      · first
        | (omega; done)
set_option maxHeartbeats 4000000 in
theorem c_X7_holds {l : Launch} {h : Hp} {k : Nat} {v : Vg} {g : Sg} (hm : MilAt h k v) (hs : MshAt h k g) (s : Int32) : Ms l yX7_holds cX7_holds 2 (some .int) 5 [vr 7 k, vi s] h (xK h) (fun r h' => r = some (vi (tOn g s)) ∧ (∃ v', MilAt h' k v') ∧ MshAt h' k g ∧ Ks k h h') := by
  refine Ms.of (by decide) (Nat.le_of_ble_eq_true rfl) (fun G C X F => ?_)
  have C : Cx G cX7_holds 2 RX7 := C
  show Rr G 0 [(0, vr 7 k), (1, vi s)] [] h
  have bP := hm.bP
  have bM := hm.bM
  have bN := hm.bN
  refine r_iload_n C (dx dX7_holds 0 rfl) rfl ?_
  refine r_i2l C (dx dX7_holds 1 rfl) ?_
  refine r_lconst (v := 0) C (dx dX7_holds 2 rfl) rfl ?_
  refine r_ldc2 C n_X7_77 (dx dX7_holds 3 rfl) ?_
  refine r_csP (as := [vl s.toInt64, vl 0, vl 7]) (st := []) (v := vi (b2i (inR s 8))) C X I_X7_in l_X7_67 (c_inR (b := 7) (by decide) (by decide)) (by decide) (Nat.le_of_ble_eq_true rfl) List.prefix_rfl (Nat.le_of_ble_eq_true rfl) rfl (dx dX7_holds 4 rfl) ?_
  refine rb_eq (b := inR s 8) (tgt := 21) C (dx dX7_holds 5 rfl) (by decide) (fun c1 => ?_) (fun c1 => ?_)
  ·
    have c1 : (inR s 8) = false := c1
    refine r_iconst (v := -1) C (dx dX7_holds 11 rfl) rfl ?_
    have eA : tOn g s = -1 := by exact tOn_no c1
    exact F.1 _ _ _ _ _ rfl rfl (dx dX7_holds 12 rfl) rfl (show some (vi (-1)) = some (vi (tOn g s)) ∧ (∃ v', MilAt h k v') ∧ MshAt h k g ∧ Ks k h h from by rw [eA]; exact ⟨rfl, ⟨_, hm⟩, hs, Ks.rf⟩)
  ·
    have c1 : (inR s 8) = true := c1
    obtain ⟨σ, hσ, rfl⟩ := inR_ex (n := 8) (by omega) c1
    rcases hs σ hσ with ⟨a11, a21⟩ | ⟨τ1, ν1, a11, a21, a31, a41, a51, a61, a71, a81⟩ | ⟨κ1, b1, a11, a21, a31, a41, a51, a61, a71, a81⟩
    ·
      obtain ⟨e01, e11, e21, e31, e41, e51, e61⟩ := sh_bare hσ a21
      refine r_aload_n C (dx dX7_holds 6 rfl) rfl ?_
      refine g_X7_7 C (dx dX7_holds 7 rfl) ?_
      refine r_iload_n C (dx dX7_holds 8 rfl) rfl ?_
      refine r_iald (j := σ) (x := nI 0) C rfl rfl (by decide) rfl (by omega) (dx dX7_holds 9 rfl) a11 ?_
      refine r_if_ne (tgt := 23) C (dx dX7_holds 10 rfl) (by decide) (fun c2 => (show False from by revert c2; decide).elim) (fun _ => ?_)
      refine r_iconst (v := -1) C (dx dX7_holds 11 rfl) rfl ?_
      have eA : tOn g (nI σ) = -1 := by exact e41
      exact F.1 _ _ _ _ _ rfl rfl (dx dX7_holds 12 rfl) rfl (show some (vi (-1)) = some (vi (tOn g (nI σ))) ∧ (∃ v', MilAt h k v') ∧ MshAt h k g ∧ Ks k h h from by rw [eA]; exact ⟨rfl, ⟨_, hm⟩, hs, Ks.rf⟩)
    ·
      obtain ⟨e01, e11, e21, e31, e41, e51, e61⟩ := sh_row hσ a11 a61 a71
      refine r_aload_n C (dx dX7_holds 6 rfl) rfl ?_
      refine g_X7_7 C (dx dX7_holds 7 rfl) ?_
      refine r_iload_n C (dx dX7_holds 8 rfl) rfl ?_
      refine r_iald (j := σ) (x := nI 1) C rfl rfl (by decide) rfl (by omega) (dx dX7_holds 9 rfl) a31 ?_
      refine r_if_ne (tgt := 23) C (dx dX7_holds 10 rfl) (by decide) (fun _ => ?_) (fun c3 => (show False from by revert c3; decide).elim)
      refine r_aload_n C (dx dX7_holds 13 rfl) rfl ?_
      refine g_X7_7 C (dx dX7_holds 14 rfl) ?_
      refine r_iload_n C (dx dX7_holds 15 rfl) rfl ?_
      refine r_iald (j := σ) (x := nI 1) C rfl rfl (by decide) rfl (by omega) (dx dX7_holds 16 rfl) a31 ?_
      refine r_iconst (v := nI 1) C (dx dX7_holds 17 rfl) rfl ?_
      refine rn_ne (a := 1) (b := 1) (tgt := 42) C (by omega) (by omega) (dx dX7_holds 18 rfl) (by decide) (fun c4 => ?_) (fun c4 => ?_)
      · first
        | (omega; done)
        | (
            have c4 : ¬ 1 = 1 := c4
            refine r_bipush (v := nI 10) C (dx dX7_holds 24 rfl) rfl ?_
            refine r_aload_n C (dx dX7_holds 25 rfl) rfl ?_
            refine g_X7_28 C (dx dX7_holds 26 rfl) ?_
            refine r_iload_n C (dx dX7_holds 27 rfl) rfl ?_
            refine r_iald (j := σ) (x := xI h (k + 14) σ) C rfl rfl (by decide) rfl (by omega) (dx dX7_holds 28 rfl) rfl ?_
            refine r_iadd C (dx dX7_holds 29 rfl) ?_
            have eA : tOn g (nI σ) = (nI 10) + (xI h (k + 14) σ) := by exact e41
            exact F.1 _ _ _ _ _ rfl rfl (dx dX7_holds 30 rfl) rfl (show some (vi ((nI 10) + (xI h (k + 14) σ))) = some (vi (tOn g (nI σ))) ∧ (∃ v', MilAt h k v') ∧ MshAt h k g ∧ Ks k h h from by rw [eA]; exact ⟨rfl, ⟨_, hm⟩, hs, Ks.rf⟩))
      · first
        | (omega; done)
        | (
            have c4 : 1 = 1 := c4
            refine r_aload_n C (dx dX7_holds 19 rfl) rfl ?_
            refine g_X7_13 C (dx dX7_holds 20 rfl) ?_
            refine r_iload_n C (dx dX7_holds 21 rfl) rfl ?_
            refine r_iald (j := σ) (x := nI τ1) C rfl rfl (by decide) rfl (by omega) (dx dX7_holds 22 rfl) a41 ?_
            refine r_goto (tgt := 51) C (dx dX7_holds 23 rfl) (by decide) ?_
            have eA : tOn g (nI σ) = nI τ1 := by exact e41
            exact F.1 _ _ _ _ _ rfl rfl (dx dX7_holds 30 rfl) rfl (show some (vi (nI τ1)) = some (vi (tOn g (nI σ))) ∧ (∃ v', MilAt h k v') ∧ MshAt h k g ∧ Ks k h h from by rw [eA]; exact ⟨rfl, ⟨_, hm⟩, hs, Ks.rf⟩))
    ·
      obtain ⟨e01, e11, e21, e31, e41, e51, e61, e71⟩ := sh_hold hσ a21 a71 a81
      refine r_aload_n C (dx dX7_holds 6 rfl) rfl ?_
      refine g_X7_7 C (dx dX7_holds 7 rfl) ?_
      refine r_iload_n C (dx dX7_holds 8 rfl) rfl ?_
      refine r_iald (j := σ) (x := nI 2) C rfl rfl (by decide) rfl (by omega) (dx dX7_holds 9 rfl) a41 ?_
      refine r_if_ne (tgt := 23) C (dx dX7_holds 10 rfl) (by decide) (fun _ => ?_) (fun c5 => (show False from by revert c5; decide).elim)
      refine r_aload_n C (dx dX7_holds 13 rfl) rfl ?_
      refine g_X7_7 C (dx dX7_holds 14 rfl) ?_
      refine r_iload_n C (dx dX7_holds 15 rfl) rfl ?_
      refine r_iald (j := σ) (x := nI 2) C rfl rfl (by decide) rfl (by omega) (dx dX7_holds 16 rfl) a41 ?_
      refine r_iconst (v := nI 1) C (dx dX7_holds 17 rfl) rfl ?_
      refine rn_ne (a := 2) (b := 1) (tgt := 42) C (by omega) (by omega) (dx dX7_holds 18 rfl) (by decide) (fun c6 => ?_) (fun c6 => ?_)
      · first
        | (omega; done)
        | (
            have c6 : ¬ 2 = 1 := c6
            refine r_bipush (v := nI 10) C (dx dX7_holds 24 rfl) rfl ?_
            refine r_aload_n C (dx dX7_holds 25 rfl) rfl ?_
            refine g_X7_28 C (dx dX7_holds 26 rfl) ?_
            refine r_iload_n C (dx dX7_holds 27 rfl) rfl ?_
            refine r_iald (j := σ) (x := nI κ1) C rfl rfl (by decide) rfl (by omega) (dx dX7_holds 28 rfl) a51 ?_
            refine rn_iadd (a := 10) (b := κ1) C (dx dX7_holds 29 rfl) ?_
            have eA : tOn g (nI σ) = nI (10 + κ1) := by exact e41
            exact F.1 _ _ _ _ _ rfl rfl (dx dX7_holds 30 rfl) rfl (show some (vi (nI (10 + κ1))) = some (vi (tOn g (nI σ))) ∧ (∃ v', MilAt h k v') ∧ MshAt h k g ∧ Ks k h h from by rw [eA]; exact ⟨rfl, ⟨_, hm⟩, hs, Ks.rf⟩))
      · first
        | (omega; done)
        | (
            have c6 : 2 = 1 := c6
            refine r_aload_n C (dx dX7_holds 19 rfl) rfl ?_
            refine g_X7_13 C (dx dX7_holds 20 rfl) ?_
            refine r_iload_n C (dx dX7_holds 21 rfl) rfl ?_
            refine r_iald (j := σ) (x := xI h (k + 2) σ) C rfl rfl (by decide) rfl (by omega) (dx dX7_holds 22 rfl) rfl ?_
            refine r_goto (tgt := 51) C (dx dX7_holds 23 rfl) (by decide) ?_
            have eA : tOn g (nI σ) = xI h (k + 2) σ := by exact e41
            exact F.1 _ _ _ _ _ rfl rfl (dx dX7_holds 30 rfl) rfl (show some (vi (xI h (k + 2) σ)) = some (vi (tOn g (nI σ))) ∧ (∃ v', MilAt h k v') ∧ MshAt h k g ∧ Ks k h h from by rw [eA]; exact ⟨rfl, ⟨_, hm⟩, hs, Ks.rf⟩))
set_option maxHeartbeats 4000000 in
theorem c_X7_set {l : Launch} {h : Hp} {k : Nat} {v : Vg} {g : Sg} (hm : MilAt h k v) (hs : MshAt h k g) (s i : Int32) (v9 : Int64) : Ms l yX7_set cX7_set 6 (some .int) 6 [vr 7 k, vi s, vi i, vl v9] h (xK h) (fun r h' => r = some (vi (setA g s i)) ∧ (∃ v', MilAt h' k v') ∧ MshAt h' k (setG g s i v9) ∧ Ks k h h') := by
  refine Ms.of (by decide) (Nat.le_of_ble_eq_true rfl) (fun G C X F => ?_)
  have C : Cx G cX7_set 6 RX7 := C
  show Rr G 0 [(0, vr 7 k), (1, vi s), (2, vi i), (3, vl v9)] [] h
  have bP := hm.bP
  have bM := hm.bM
  have bN := hm.bN
  refine r_aload_n C (dx dX7_set 0 rfl) rfl ?_
  refine r_iload_n C (dx dX7_set 1 rfl) rfl ?_
  refine r_cv (as := [vi s]) (st := []) C X I_X7_noRow l_X7_87 (c_X7_noRow hm hs s) (by decide) (Nat.le_of_ble_eq_true rfl) List.prefix_rfl List.prefix_rfl rfl rfl (Nat.le_of_ble_eq_true rfl) rfl (dx dX7_set 2 rfl) ?_
  rintro _ h1 ⟨rfl, ⟨wh1, m9h1, s9h1⟩, qh1⟩ kkh1
  obtain ⟨vh1, mh1, zh1⟩ : ∃ v9, MilAt h1 k v9 ∧ Sz v v9 := ⟨_, m9h1, s9h1⟩
  have ph1 : Kp k h h1 := qh1
  have kh1 : xK h1 = xK h := kkh1
  obtain ⟨ah1, bh1, ch1⟩ := zh1
  refine r_istore (ls' := [(0, vr 7 k), (1, vi s), (2, vi i), (3, vl v9), (5, vi (nrA g s))]) C (dx dX7_set 3 rfl) (by decide) [1, 2, 3, 4, 0] rfl ?_
  refine r_iload C (dx dX7_set 4 rfl) rfl ?_
  refine r_if_eq (tgt := 15) C (dx dX7_set 5 rfl) (by decide) (fun c2 => ?_) (fun c2 => ?_)
  ·
    have c2 : nrA g s = 0 := c2
    obtain ⟨σ, hσ, rfl, r9⟩ := nr_ok (hs.kp ph1) c2
    have r8 := r9
    obtain ⟨τ1, ν1, a11, a21, a31, a41, a51, a61, a71, a81⟩ := r9
    obtain ⟨e01, e11, e21, e31, e41, e51, e61⟩ := sh_row hσ a11 a61 a71
    refine r_iload_n C (dx dX7_set 8 rfl) rfl ?_
    refine r_i2l C (dx dX7_set 9 rfl) ?_
    refine r_lconst (v := 0) C (dx dX7_set 10 rfl) rfl ?_
    refine r_aload_n C (dx dX7_set 11 rfl) rfl ?_
    refine g_X7_16 C (dx dX7_set 12 rfl) ?_
    refine r_iload_n C (dx dX7_set 13 rfl) rfl ?_
    refine r_iald (j := σ) (x := nI ν1) C rfl rfl (by decide) rfl (by omega) (dx dX7_set 14 rfl) a51 ?_
    refine r_iconst (v := nI 1) C (dx dX7_set 15 rfl) rfl ?_
    refine r_isub C (dx dX7_set 16 rfl) ?_
    refine r_i2l C (dx dX7_set 17 rfl) ?_
    refine r_csP (as := [vl i.toInt64, vl 0, vl (((nI ν1) - (nI 1)).toInt64)]) (st := []) (v := vi (b2i (inR i ν1))) C X I_X7_in l_X7_67 (c_inN (by omega)) (by decide) (Nat.le_of_ble_eq_true rfl) (pfx_eq kh1) (Nat.le_of_ble_eq_true rfl) rfl (dx dX7_set 18 rfl) ?_
    refine rb_ne (b := inR i ν1) (tgt := 40) C (dx dX7_set 19 rfl) (by decide) (fun c3 => ?_) (fun c3 => ?_)
    ·
      have c3 : (inR i ν1) = true := c3
      obtain ⟨ι, hι, rfl⟩ := inR_ex (n := ν1) (by omega) c3
      refine r_aload_n C (dx dX7_set 24 rfl) rfl ?_
      refine g_X7_21 C (dx dX7_set 25 rfl) ?_
      refine r_iload_n C (dx dX7_set 26 rfl) rfl ?_
      refine r_aald5 (j := σ) C rfl rfl (by decide) rfl (by omega) (dx dX7_set 27 rfl) ?_
      refine r_iload_n C (dx dX7_set 28 rfl) rfl ?_
      refine r_aload_n C (dx dX7_set 29 rfl) rfl ?_
      refine g_X7_13 C (dx dX7_set 30 rfl) ?_
      refine r_iload_n C (dx dX7_set 31 rfl) rfl ?_
      refine r_iald (j := σ) (x := nI τ1) C rfl rfl (by decide) rfl (by omega) (dx dX7_set 32 rfl) a41 ?_
      refine r_lload_n C (dx dX7_set 33 rfl) rfl ?_
      refine r_csP (as := [vi (nI τ1), vl v9]) (st := [vi (nI ι), vr 31 (k + 5 + σ)]) (v := vl (lowB (nI τ1) v9)) C X I_X7_fit l_X7_90 (c_X7_fit (nI τ1) v9) (by decide) (Nat.le_of_ble_eq_true rfl) (pfx_eq kh1) (Nat.le_of_ble_eq_true rfl) rfl (dx dX7_set 34 rfl) ?_
      refine r_last (j := ι) C rfl rfl (by decide) rfl (by omega) (dx dX7_set 35 rfl) ?_
      have sh4 : MshAt (sL h1 (k + 5 + σ) ι (lowB (nI τ1) v9)) k (rowPut g σ ι (lowB (gT g σ) v9)) := msh_set (hs.kp ph1) hσ r8 a61
      have mh4 : MilAt (sL h1 (k + 5 + σ) ι (lowB (nI τ1) v9)) k vh1 := mh1.fr (Fr.sL (lo := k + 5 + σ) (hi := k + 5 + σ + 1) (by omega) (by omega)) (by omega)
      have ph4 : Ks k h (sL h1 (k + 5 + σ) ι (lowB (nI τ1) v9)) := ph1.ks.tr (Ks.fr (Fr.sL (lo := k + 5 + σ) (hi := k + 5 + σ + 1) (by omega) (by omega)) (by omega) (by omega))
      have kh4 : xK (sL h1 (k + 5 + σ) ι (lowB (nI τ1) v9)) = xK h := kh1
      generalize sL h1 (k + 5 + σ) ι (lowB (nI τ1) v9) = h4 at sh4 mh4 ph4 kh4 ⊢
      refine r_iconst (v := nI 1) C (dx dX7_set 36 rfl) rfl ?_
      have eA : setA g (nI σ) (nI ι) = nI 1 := by first | (rw [(set_row (x := v9) hσ e51 e31 (by omega)).1, if_pos (inN (by omega) hι)]; done) | (rw [(set_row hσ e51 e31 (by omega)).2, if_pos (inN (by omega) hι), pEl_row e31 hι (by omega)])
      have eG : setG g (nI σ) (nI ι) v9 = rowPut g σ ι (lowB (gT g σ) v9) := by first | (rw [(set_row (x := v9) hσ e51 e31 (by omega)).1, if_pos (inN (by omega) hι)]; done) | (rw [(set_row hσ e51 e31 (by omega)).2, if_pos (inN (by omega) hι), pEl_row e31 hι (by omega)])
      exact F.1 _ _ _ _ _ rfl rfl (dx dX7_set 37 rfl) kh4 (show some (vi (nI 1)) = some (vi (setA g (nI σ) (nI ι))) ∧ (∃ v', MilAt h4 k v') ∧ MshAt h4 k (setG g (nI σ) (nI ι) v9) ∧ Ks k h h4 from by rw [eA, eG]; exact ⟨rfl, ⟨_, mh4⟩, sh4, ph4⟩)
    ·
      have c3 : (inR i ν1) = false := c3
      refine r_aload_n C (dx dX7_set 20 rfl) rfl ?_
      refine r_bipush (v := -2) C (dx dX7_set 21 rfl) rfl ?_
      refine r_cv (as := [vi (-2)]) (st := []) C X I_X7_refuse l_X7_83 (c_X7_refuse mh1 (x := -2) (j := 2) (by decide) (by decide)) (by decide) (Nat.le_of_ble_eq_true rfl) List.prefix_rfl (pfx_eq kh1) rfl rfl (Nat.le_of_ble_eq_true rfl) rfl (dx dX7_set 22 rfl) ?_
      rintro _ h5 ⟨rfl, ⟨wh5, m9h5, s9h5⟩, qh5⟩ kkh5
      obtain ⟨vh5, mh5, zh5⟩ : ∃ v9, MilAt h5 k v9 ∧ Sz vh1 v9 := ⟨_, m9h5, s9h5⟩
      have ph5 : Kp k h h5 := ph1.tr (qh5)
      have kh5 : xK h5 = xK h := (kkh5).trans kh1
      obtain ⟨ah5, bh5, ch5⟩ := zh5
      have eA : setA g (nI σ) i = -2 := by first | (rw [(set_row (x := v9) hσ e51 e31 (by omega)).1, if_neg (by simp [c3])]; done) | (rw [(set_row hσ e51 e31 (by omega)).2, if_neg (by simp [c3])])
      have eG : setG g (nI σ) i v9 = g := by first | (rw [(set_row (x := v9) hσ e51 e31 (by omega)).1, if_neg (by simp [c3])]; done) | (rw [(set_row hσ e51 e31 (by omega)).2, if_neg (by simp [c3])])
      exact F.1 _ _ _ _ _ rfl rfl (dx dX7_set 23 rfl) kh5 (show some (vi (-2)) = some (vi (setA g (nI σ) i)) ∧ (∃ v', MilAt h5 k v') ∧ MshAt h5 k (setG g (nI σ) i v9) ∧ Ks k h h5 from by rw [eA, eG]; exact ⟨rfl, ⟨_, mh5⟩, hs.kp ph5, ph5.ks⟩)
  ·
    have c2 : ¬ nrA g s = 0 := c2
    refine r_iload C (dx dX7_set 6 rfl) rfl ?_
    have eA : setA g s i = nrA g s := by first | exact (set_no (x := v9) c2).1 | exact (set_no c2).2
    have eG : setG g s i v9 = g := by first | exact (set_no (x := v9) c2).1 | exact (set_no c2).2
    exact F.1 _ _ _ _ _ rfl rfl (dx dX7_set 7 rfl) kh1 (show some (vi (nrA g s)) = some (vi (setA g s i)) ∧ (∃ v', MilAt h1 k v') ∧ MshAt h1 k (setG g s i v9) ∧ Ks k h h1 from by rw [eA, eG]; exact ⟨rfl, ⟨_, mh1⟩, hs.kp ph1, ph1.ks⟩)
set_option maxHeartbeats 4000000 in
theorem c_X7_holding {l : Launch} {h : Hp} {k : Nat} {v : Vg} {g : Sg} (hm : MilAt h k v) (hs : MshAt h k g) (s k9 a : Int32) : Ms l yX7_holding cX7_holding 4 (some .int) 4 [vr 7 k, vi s, vi k9, vi a] h (xK h) (fun r h' => r = some (vi (hldA s k9 a)) ∧ (∃ v', MilAt h' k v') ∧ MshAt h' k (hldG g s k9 a) ∧ Ks k h h') := by
  refine Ms.of (by decide) (Nat.le_of_ble_eq_true rfl) (fun G C X F => ?_)
  have C : Cx G cX7_holding 4 RX7 := C
  show Rr G 0 [(0, vr 7 k), (1, vi s), (2, vi k9), (3, vi a)] [] h
  have bP := hm.bP
  have bM := hm.bM
  have bN := hm.bN
  refine r_iload_n C (dx dX7_holding 0 rfl) rfl ?_
  refine r_i2l C (dx dX7_holding 1 rfl) ?_
  refine r_lconst (v := 0) C (dx dX7_holding 2 rfl) rfl ?_
  refine r_ldc2 C n_X7_77 (dx dX7_holding 3 rfl) ?_
  refine r_csP (as := [vl s.toInt64, vl 0, vl 7]) (st := []) (v := vi (b2i (inR s 8))) C X I_X7_in l_X7_67 (c_inR (b := 7) (by decide) (by decide)) (by decide) (Nat.le_of_ble_eq_true rfl) List.prefix_rfl (Nat.le_of_ble_eq_true rfl) rfl (dx dX7_holding 4 rfl) ?_
  refine rb_eq (b := inR s 8) (tgt := 36) C (dx dX7_holding 5 rfl) (by decide) (fun c1 => ?_) (fun c1 => ?_)
  ·
    have c1 : (inR s 8) = false := c1
    refine r_aload_n C (dx dX7_holding 18 rfl) rfl ?_
    refine r_bipush (v := -2) C (dx dX7_holding 19 rfl) rfl ?_
    refine r_cv (as := [vi (-2)]) (st := []) C X I_X7_refuse l_X7_83 (c_X7_refuse hm (x := -2) (j := 2) (by decide) (by decide)) (by decide) (Nat.le_of_ble_eq_true rfl) List.prefix_rfl List.prefix_rfl rfl rfl (Nat.le_of_ble_eq_true rfl) rfl (dx dX7_holding 20 rfl) ?_
    rintro _ h2 ⟨rfl, ⟨wh2, m9h2, s9h2⟩, qh2⟩ kkh2
    obtain ⟨vh2, mh2, zh2⟩ : ∃ v9, MilAt h2 k v9 ∧ Sz v v9 := ⟨_, m9h2, s9h2⟩
    have ph2 : Kp k h h2 := qh2
    have kh2 : xK h2 = xK h := kkh2
    obtain ⟨ah2, bh2, ch2⟩ := zh2
    have eA : hldA s k9 a = -2 := by simp [hldA, hldG, hldB_eq, c1]
    have eG : hldG g s k9 a = g := by simp [hldA, hldG, hldB_eq, c1]
    exact F.1 _ _ _ _ _ rfl rfl (dx dX7_holding 21 rfl) kh2 (show some (vi (-2)) = some (vi (hldA s k9 a)) ∧ (∃ v', MilAt h2 k v') ∧ MshAt h2 k (hldG g s k9 a) ∧ Ks k h h2 from by rw [eA, eG]; exact ⟨rfl, ⟨_, mh2⟩, hs.kp ph2, ph2.ks⟩)
  ·
    have c1 : (inR s 8) = true := c1
    obtain ⟨σ, hσ, rfl⟩ := inR_ex (n := 8) (by omega) c1
    refine r_iload_n C (dx dX7_holding 6 rfl) rfl ?_
    refine r_i2l C (dx dX7_holding 7 rfl) ?_
    refine r_lconst (v := 1) C (dx dX7_holding 8 rfl) rfl ?_
    refine r_ldc2 C n_X7_94 (dx dX7_holding 9 rfl) ?_
    refine r_csP (as := [vl k9.toInt64, vl 1, vl 5]) (st := []) (v := vi (b2i (btwB k9 1 5))) C X I_X7_in l_X7_67 (c_inB (a := 1) (b := 5) (by decide) (by decide)) (by decide) (Nat.le_of_ble_eq_true rfl) List.prefix_rfl (Nat.le_of_ble_eq_true rfl) rfl (dx dX7_holding 10 rfl) ?_
    refine rb_eq (b := btwB k9 1 5) (tgt := 36) C (dx dX7_holding 11 rfl) (by decide) (fun c3 => ?_) (fun c3 => ?_)
    ·
      have c3 : (btwB k9 1 5) = false := c3
      refine r_aload_n C (dx dX7_holding 18 rfl) rfl ?_
      refine r_bipush (v := -2) C (dx dX7_holding 19 rfl) rfl ?_
      refine r_cv (as := [vi (-2)]) (st := []) C X I_X7_refuse l_X7_83 (c_X7_refuse hm (x := -2) (j := 2) (by decide) (by decide)) (by decide) (Nat.le_of_ble_eq_true rfl) List.prefix_rfl List.prefix_rfl rfl rfl (Nat.le_of_ble_eq_true rfl) rfl (dx dX7_holding 20 rfl) ?_
      rintro _ h4 ⟨rfl, ⟨wh4, m9h4, s9h4⟩, qh4⟩ kkh4
      obtain ⟨vh4, mh4, zh4⟩ : ∃ v9, MilAt h4 k v9 ∧ Sz v v9 := ⟨_, m9h4, s9h4⟩
      have ph4 : Kp k h h4 := qh4
      have kh4 : xK h4 = xK h := kkh4
      obtain ⟨ah4, bh4, ch4⟩ := zh4
      have eA : hldA (nI σ) k9 a = -2 := by simp [hldA, hldG, hldB_eq, c1, c3, clN (show σ < 2 ^ 31 by omega), inR_nI (show σ < 2 ^ 31 by omega), show σ < 8 by omega]
      have eG : hldG g (nI σ) k9 a = g := by simp [hldA, hldG, hldB_eq, c1, c3, clN (show σ < 2 ^ 31 by omega), inR_nI (show σ < 2 ^ 31 by omega), show σ < 8 by omega]
      exact F.1 _ _ _ _ _ rfl rfl (dx dX7_holding 21 rfl) kh4 (show some (vi (-2)) = some (vi (hldA (nI σ) k9 a)) ∧ (∃ v', MilAt h4 k v') ∧ MshAt h4 k (hldG g (nI σ) k9 a) ∧ Ks k h h4 from by rw [eA, eG]; exact ⟨rfl, ⟨_, mh4⟩, hs.kp ph4, ph4.ks⟩)
    ·
      have c3 : (btwB k9 1 5) = true := c3
      obtain ⟨k99, hk99, hk992, rfl⟩ := btw_ex (a := 1) (b := 5) (by omega) (by omega) c3
      refine r_iload_n C (dx dX7_holding 12 rfl) rfl ?_
      refine r_i2l C (dx dX7_holding 13 rfl) ?_
      refine r_lconst (v := 0) C (dx dX7_holding 14 rfl) rfl ?_
      refine r_ldc2 C n_X7_96 (dx dX7_holding 15 rfl) ?_
      refine r_csP (as := [vl a.toInt64, vl 0, vl 99]) (st := []) (v := vi (b2i (inR a 100))) C X I_X7_in l_X7_67 (c_inR (b := 99) (by decide) (by decide)) (by decide) (Nat.le_of_ble_eq_true rfl) List.prefix_rfl (Nat.le_of_ble_eq_true rfl) rfl (dx dX7_holding 16 rfl) ?_
      refine rb_ne (b := inR a 100) (tgt := 43) C (dx dX7_holding 17 rfl) (by decide) (fun c5 => ?_) (fun c5 => ?_)
      ·
        have c5 : (inR a 100) = true := c5
        obtain ⟨α, hα, rfl⟩ := inR_ex (n := 100) (by omega) c5
        refine r_aload_n C (dx dX7_holding 22 rfl) rfl ?_
        refine g_X7_7 C (dx dX7_holding 23 rfl) ?_
        refine r_iload_n C (dx dX7_holding 24 rfl) rfl ?_
        refine r_iconst (v := nI 2) C (dx dX7_holding 25 rfl) rfl ?_
        refine r_iast (j := σ) C rfl rfl (by decide) rfl (by omega) (dx dX7_holding 26 rfl) ?_
        refine r_aload_n C (dx dX7_holding 27 rfl) rfl ?_
        refine g_X7_28 C (dx dX7_holding 28 rfl) ?_
        refine r_iload_n C (dx dX7_holding 29 rfl) rfl ?_
        refine r_iload_n C (dx dX7_holding 30 rfl) rfl ?_
        refine r_iast (j := σ) C rfl rfl (by decide) rfl (by omega) (dx dX7_holding 31 rfl) ?_
        refine r_aload_n C (dx dX7_holding 32 rfl) rfl ?_
        refine g_X7_31 C (dx dX7_holding 33 rfl) ?_
        refine r_iload_n C (dx dX7_holding 34 rfl) rfl ?_
        refine r_iload_n C (dx dX7_holding 35 rfl) rfl ?_
        refine r_iast (j := σ) C rfl rfl (by decide) rfl (by omega) (dx dX7_holding 36 rfl) ?_
        have s9 : MshAt (sI (sI (sI h (k + 1) σ (nI 2)) (k + 14) σ (nI k99)) (k + 15) σ (nI α)) k (pHold g σ k99 α) := msh_hold hs hσ ⟨by omega, by omega⟩ (by omega)
        have f9 : Fr (k + 1) (k + 17) h (sI (sI (sI h (k + 1) σ (nI 2)) (k + 14) σ (nI k99)) (k + 15) σ (nI α)) := ((Fr.sI (by omega) (by omega)).tr (Fr.sI (by omega) (by omega))).tr (Fr.sI (by omega) (by omega))
        refine r_iconst (v := nI 1) C (dx dX7_holding 37 rfl) rfl ?_
        have eA : hldA (nI σ) (nI k99) (nI α) = nI 1 := by simp [hldA, hldG, hldB_eq, c1, c3, c5, clN (show σ < 2 ^ 31 by omega), clN (show k99 < 2 ^ 31 by omega), clN (show α < 2 ^ 31 by omega), inR_nI (show σ < 2 ^ 31 by omega), inR_nI (show k99 < 2 ^ 31 by omega), inR_nI (show α < 2 ^ 31 by omega), show σ < 8 by omega, show α < 100 by omega, clN (show k99 < 2 ^ 31 by omega)]
        have eG : hldG g (nI σ) (nI k99) (nI α) = pHold g σ k99 α := by simp [hldA, hldG, hldB_eq, c1, c3, c5, clN (show σ < 2 ^ 31 by omega), clN (show k99 < 2 ^ 31 by omega), clN (show α < 2 ^ 31 by omega), inR_nI (show σ < 2 ^ 31 by omega), inR_nI (show k99 < 2 ^ 31 by omega), inR_nI (show α < 2 ^ 31 by omega), show σ < 8 by omega, show α < 100 by omega, clN (show k99 < 2 ^ 31 by omega)]
        exact F.1 _ _ _ _ _ rfl rfl (dx dX7_holding 38 rfl) rfl (show some (vi (nI 1)) = some (vi (hldA (nI σ) (nI k99) (nI α))) ∧ (∃ v', MilAt (sI (sI (sI h (k + 1) σ (nI 2)) (k + 14) σ (nI k99)) (k + 15) σ (nI α)) k v') ∧ MshAt (sI (sI (sI h (k + 1) σ (nI 2)) (k + 14) σ (nI k99)) (k + 15) σ (nI α)) k (hldG g (nI σ) (nI k99) (nI α)) ∧ Ks k h (sI (sI (sI h (k + 1) σ (nI 2)) (k + 14) σ (nI k99)) (k + 15) σ (nI α)) from by rw [eA, eG]; exact ⟨rfl, ⟨_, hm.fr f9 (by omega)⟩, s9, (Ks.fr f9 (by omega) (by omega))⟩)
      ·
        have c5 : (inR a 100) = false := c5
        refine r_aload_n C (dx dX7_holding 18 rfl) rfl ?_
        refine r_bipush (v := -2) C (dx dX7_holding 19 rfl) rfl ?_
        refine r_cv (as := [vi (-2)]) (st := []) C X I_X7_refuse l_X7_83 (c_X7_refuse hm (x := -2) (j := 2) (by decide) (by decide)) (by decide) (Nat.le_of_ble_eq_true rfl) List.prefix_rfl List.prefix_rfl rfl rfl (Nat.le_of_ble_eq_true rfl) rfl (dx dX7_holding 20 rfl) ?_
        rintro _ h6 ⟨rfl, ⟨wh6, m9h6, s9h6⟩, qh6⟩ kkh6
        obtain ⟨vh6, mh6, zh6⟩ : ∃ v9, MilAt h6 k v9 ∧ Sz v v9 := ⟨_, m9h6, s9h6⟩
        have ph6 : Kp k h h6 := qh6
        have kh6 : xK h6 = xK h := kkh6
        obtain ⟨ah6, bh6, ch6⟩ := zh6
        have eA : hldA (nI σ) (nI k99) a = -2 := by simp [hldA, hldG, hldB_eq, c1, c3, c5, clN (show σ < 2 ^ 31 by omega), clN (show k99 < 2 ^ 31 by omega), inR_nI (show σ < 2 ^ 31 by omega), inR_nI (show k99 < 2 ^ 31 by omega), show σ < 8 by omega, clN (show k99 < 2 ^ 31 by omega)]
        have eG : hldG g (nI σ) (nI k99) a = g := by simp [hldA, hldG, hldB_eq, c1, c3, c5, clN (show σ < 2 ^ 31 by omega), clN (show k99 < 2 ^ 31 by omega), inR_nI (show σ < 2 ^ 31 by omega), inR_nI (show k99 < 2 ^ 31 by omega), show σ < 8 by omega, clN (show k99 < 2 ^ 31 by omega)]
        exact F.1 _ _ _ _ _ rfl rfl (dx dX7_holding 21 rfl) kh6 (show some (vi (-2)) = some (vi (hldA (nI σ) (nI k99) a)) ∧ (∃ v', MilAt h6 k v') ∧ MshAt h6 k (hldG g (nI σ) (nI k99) a) ∧ Ks k h h6 from by rw [eA, eG]; exact ⟨rfl, ⟨_, mh6⟩, hs.kp ph6, ph6.ks⟩)
set_option maxHeartbeats 4000000 in
theorem c_X7_row {l : Launch} {h : Hp} {k : Nat} {v : Vg} {g : Sg} (hm : MilAt h k v) (hs : MshAt h k g) (s t n : Int32) : Ms l yX7_row cX7_row 5 (some .int) 4 [vr 7 k, vi s, vi t, vi n] h (xK h) (fun r h' => r = some (vi (rowA s t n)) ∧ (∃ v', MilAt h' k v') ∧ MshAt h' k (rowG g s t n) ∧ Ks k h h') := by
  refine Ms.of (by decide) (Nat.le_of_ble_eq_true rfl) (fun G C X F => ?_)
  have C : Cx G cX7_row 5 RX7 := C
  show Rr G 0 [(0, vr 7 k), (1, vi s), (2, vi t), (3, vi n)] [] h
  have bP := hm.bP
  have bM := hm.bM
  have bN := hm.bN
  refine r_iload_n C (dx dX7_row 0 rfl) rfl ?_
  refine r_i2l C (dx dX7_row 1 rfl) ?_
  refine r_lconst (v := 0) C (dx dX7_row 2 rfl) rfl ?_
  refine r_ldc2 C n_X7_77 (dx dX7_row 3 rfl) ?_
  refine r_csP (as := [vl s.toInt64, vl 0, vl 7]) (st := []) (v := vi (b2i (inR s 8))) C X I_X7_in l_X7_67 (c_inR (b := 7) (by decide) (by decide)) (by decide) (Nat.le_of_ble_eq_true rfl) List.prefix_rfl (Nat.le_of_ble_eq_true rfl) rfl (dx dX7_row 4 rfl) ?_
  refine rb_eq (b := inR s 8) (tgt := 36) C (dx dX7_row 5 rfl) (by decide) (fun c1 => ?_) (fun c1 => ?_)
  ·
    have c1 : (inR s 8) = false := c1
    refine r_aload_n C (dx dX7_row 18 rfl) rfl ?_
    refine r_bipush (v := -2) C (dx dX7_row 19 rfl) rfl ?_
    refine r_cv (as := [vi (-2)]) (st := []) C X I_X7_refuse l_X7_83 (c_X7_refuse hm (x := -2) (j := 2) (by decide) (by decide)) (by decide) (Nat.le_of_ble_eq_true rfl) List.prefix_rfl List.prefix_rfl rfl rfl (Nat.le_of_ble_eq_true rfl) rfl (dx dX7_row 20 rfl) ?_
    rintro _ h2 ⟨rfl, ⟨wh2, m9h2, s9h2⟩, qh2⟩ kkh2
    obtain ⟨vh2, mh2, zh2⟩ : ∃ v9, MilAt h2 k v9 ∧ Sz v v9 := ⟨_, m9h2, s9h2⟩
    have ph2 : Kp k h h2 := qh2
    have kh2 : xK h2 = xK h := kkh2
    obtain ⟨ah2, bh2, ch2⟩ := zh2
    have eA : rowA s t n = -2 := by simp [rowA, rowG, rowB9, c1]
    have eG : rowG g s t n = g := by simp [rowA, rowG, rowB9, c1]
    exact F.1 _ _ _ _ _ rfl rfl (dx dX7_row 21 rfl) kh2 (show some (vi (-2)) = some (vi (rowA s t n)) ∧ (∃ v', MilAt h2 k v') ∧ MshAt h2 k (rowG g s t n) ∧ Ks k h h2 from by rw [eA, eG]; exact ⟨rfl, ⟨_, mh2⟩, hs.kp ph2, ph2.ks⟩)
  ·
    have c1 : (inR s 8) = true := c1
    obtain ⟨σ, hσ, rfl⟩ := inR_ex (n := 8) (by omega) c1
    refine r_iload_n C (dx dX7_row 6 rfl) rfl ?_
    refine r_i2l C (dx dX7_row 7 rfl) ?_
    refine r_lconst (v := 0) C (dx dX7_row 8 rfl) rfl ?_
    refine r_ldc2 C n_X7_79 (dx dX7_row 9 rfl) ?_
    refine r_csP (as := [vl t.toInt64, vl 0, vl 4]) (st := []) (v := vi (b2i (inR t 5))) C X I_X7_in l_X7_67 (c_inR (b := 4) (by decide) (by decide)) (by decide) (Nat.le_of_ble_eq_true rfl) List.prefix_rfl (Nat.le_of_ble_eq_true rfl) rfl (dx dX7_row 10 rfl) ?_
    refine rb_eq (b := inR t 5) (tgt := 36) C (dx dX7_row 11 rfl) (by decide) (fun c3 => ?_) (fun c3 => ?_)
    ·
      have c3 : (inR t 5) = false := c3
      refine r_aload_n C (dx dX7_row 18 rfl) rfl ?_
      refine r_bipush (v := -2) C (dx dX7_row 19 rfl) rfl ?_
      refine r_cv (as := [vi (-2)]) (st := []) C X I_X7_refuse l_X7_83 (c_X7_refuse hm (x := -2) (j := 2) (by decide) (by decide)) (by decide) (Nat.le_of_ble_eq_true rfl) List.prefix_rfl List.prefix_rfl rfl rfl (Nat.le_of_ble_eq_true rfl) rfl (dx dX7_row 20 rfl) ?_
      rintro _ h4 ⟨rfl, ⟨wh4, m9h4, s9h4⟩, qh4⟩ kkh4
      obtain ⟨vh4, mh4, zh4⟩ : ∃ v9, MilAt h4 k v9 ∧ Sz v v9 := ⟨_, m9h4, s9h4⟩
      have ph4 : Kp k h h4 := qh4
      have kh4 : xK h4 = xK h := kkh4
      obtain ⟨ah4, bh4, ch4⟩ := zh4
      have eA : rowA (nI σ) t n = -2 := by simp [rowA, rowG, rowB9, c1, c3, clN (show σ < 2 ^ 31 by omega), inR_nI (show σ < 2 ^ 31 by omega), show σ < 8 by omega]
      have eG : rowG g (nI σ) t n = g := by simp [rowA, rowG, rowB9, c1, c3, clN (show σ < 2 ^ 31 by omega), inR_nI (show σ < 2 ^ 31 by omega), show σ < 8 by omega]
      exact F.1 _ _ _ _ _ rfl rfl (dx dX7_row 21 rfl) kh4 (show some (vi (-2)) = some (vi (rowA (nI σ) t n)) ∧ (∃ v', MilAt h4 k v') ∧ MshAt h4 k (rowG g (nI σ) t n) ∧ Ks k h h4 from by rw [eA, eG]; exact ⟨rfl, ⟨_, mh4⟩, hs.kp ph4, ph4.ks⟩)
    ·
      have c3 : (inR t 5) = true := c3
      obtain ⟨τ, hτ, rfl⟩ := inR_ex (n := 5) (by omega) c3
      refine r_iload_n C (dx dX7_row 12 rfl) rfl ?_
      refine r_i2l C (dx dX7_row 13 rfl) ?_
      refine r_lconst (v := 0) C (dx dX7_row 14 rfl) rfl ?_
      refine r_ldc2 C n_X7_81 (dx dX7_row 15 rfl) ?_
      refine r_csP (as := [vl n.toInt64, vl 0, vl 40]) (st := []) (v := vi (b2i (inR n 41))) C X I_X7_in l_X7_67 (c_inR (b := 40) (by decide) (by decide)) (by decide) (Nat.le_of_ble_eq_true rfl) List.prefix_rfl (Nat.le_of_ble_eq_true rfl) rfl (dx dX7_row 16 rfl) ?_
      refine rb_ne (b := inR n 41) (tgt := 43) C (dx dX7_row 17 rfl) (by decide) (fun c5 => ?_) (fun c5 => ?_)
      ·
        have c5 : (inR n 41) = true := c5
        obtain ⟨ν, hν, rfl⟩ := inR_ex (n := 41) (by omega) c5
        refine r_aload_n C (dx dX7_row 22 rfl) rfl ?_
        refine g_X7_7 C (dx dX7_row 23 rfl) ?_
        refine r_iload_n C (dx dX7_row 24 rfl) rfl ?_
        refine r_iconst (v := nI 1) C (dx dX7_row 25 rfl) rfl ?_
        refine r_iast (j := σ) C rfl rfl (by decide) rfl (by omega) (dx dX7_row 26 rfl) ?_
        refine r_aload_n C (dx dX7_row 27 rfl) rfl ?_
        refine g_X7_13 C (dx dX7_row 28 rfl) ?_
        refine r_iload_n C (dx dX7_row 29 rfl) rfl ?_
        refine r_iload_n C (dx dX7_row 30 rfl) rfl ?_
        refine r_iast (j := σ) C rfl rfl (by decide) rfl (by omega) (dx dX7_row 31 rfl) ?_
        refine r_aload_n C (dx dX7_row 32 rfl) rfl ?_
        refine g_X7_16 C (dx dX7_row 33 rfl) ?_
        refine r_iload_n C (dx dX7_row 34 rfl) rfl ?_
        refine r_iload_n C (dx dX7_row 35 rfl) rfl ?_
        refine r_iast (j := σ) C rfl rfl (by decide) rfl (by omega) (dx dX7_row 36 rfl) ?_
        refine r_iconst (v := nI 0) C (dx dX7_row 37 rfl) rfl ?_
        refine r_istore (ls' := [(0, vr 7 k), (1, vi (nI σ)), (2, vi (nI τ)), (3, vi (nI ν)), (4, vi (nI 0))]) C (dx dX7_row 38 rfl) (by decide) [1, 2, 3, 4, 0] rfl ?_
        refine loopU (Φ := fun p => ∀ h9, (∀ i, i < p → xL h9 (k + 5 + σ) i = 0) → Fr (k + 5 + σ) (k + 5 + σ + 1) (sI (sI (sI h (k + 1) σ (nI 1)) (k + 2) σ (nI τ)) (k + 3) σ (nI ν)) h9 → xK h9 = xK h → Rr G 67 [(0, vr 7 k), (1, vi (nI σ)), (2, vi (nI τ)), (3, vi (nI ν)), (4, vi (nI p))] [] h9) (N := 40) ?_ ?_ 0 (by omega) _ (fun i hi => absurd hi (by omega)) Fr.rf rfl
        ·
          intro h9 q9 f9 k9
          have s9 : MshAt h9 k (pRow g σ (nI τ) ν) := msh_row hs hσ (by omega) (by omega) f9 q9
          have g9 : Fr (k + 1) (k + 17) h h9 := (((Fr.sI (by omega) (by omega)).tr (Fr.sI (by omega) (by omega))).tr (Fr.sI (by omega) (by omega))).tr (f9.mono (by omega) (by omega))
          refine r_iload C (dx dX7_row 39 rfl) rfl ?_
          refine r_bipush (v := nI 40) C (dx dX7_row 40 rfl) rfl ?_
          refine rn_ge (a := 40) (b := 40) (tgt := 90) C (by omega) (by omega) (dx dX7_row 41 rfl) (by decide) (fun c6 => ?_) (fun c6 => ?_)
          · first
            | (omega; done)
            | (
                have c6 : 40 ≤ 40 := c6
                refine r_iconst (v := nI 1) C (dx dX7_row 51 rfl) rfl ?_
                have eA : rowA (nI σ) (nI τ) (nI ν) = nI 1 := by simp [rowA, rowG, rowB9, c1, c3, c5, c6, clN (show σ < 2 ^ 31 by omega), clN (show τ < 2 ^ 31 by omega), clN (show ν < 2 ^ 31 by omega), inR_nI (show σ < 2 ^ 31 by omega), inR_nI (show τ < 2 ^ 31 by omega), inR_nI (show ν < 2 ^ 31 by omega), show σ < 8 by omega, show τ < 5 by omega, show ν < 41 by omega]
                have eG : rowG g (nI σ) (nI τ) (nI ν) = pRow g σ (nI τ) ν := by simp [rowA, rowG, rowB9, c1, c3, c5, c6, clN (show σ < 2 ^ 31 by omega), clN (show τ < 2 ^ 31 by omega), clN (show ν < 2 ^ 31 by omega), inR_nI (show σ < 2 ^ 31 by omega), inR_nI (show τ < 2 ^ 31 by omega), inR_nI (show ν < 2 ^ 31 by omega), show σ < 8 by omega, show τ < 5 by omega, show ν < 41 by omega]
                exact F.1 _ _ _ _ _ rfl rfl (dx dX7_row 52 rfl) k9 (show some (vi (nI 1)) = some (vi (rowA (nI σ) (nI τ) (nI ν))) ∧ (∃ v', MilAt h9 k v') ∧ MshAt h9 k (rowG g (nI σ) (nI τ) (nI ν)) ∧ Ks k h h9 from by rw [eA, eG]; exact ⟨rfl, ⟨_, hm.fr g9 (by omega)⟩, s9, (Ks.fr g9 (by omega) (by omega))⟩))
          · first
            | (omega; done)
        ·
          intro p hp ih h9 q9 f9 k9
          refine r_iload C (dx dX7_row 39 rfl) rfl ?_
          refine r_bipush (v := nI 40) C (dx dX7_row 40 rfl) rfl ?_
          refine rn_ge (a := p) (b := 40) (tgt := 90) C (by omega) (by omega) (dx dX7_row 41 rfl) (by decide) (fun c7 => ?_) (fun c7 => ?_)
          · first
            | (omega; done)
            | (
                have c7 : 40 ≤ p := c7
                refine r_iconst (v := nI 1) C (dx dX7_row 51 rfl) rfl ?_
                have eA : rowA (nI σ) (nI τ) (nI ν) = nI 1 := by simp [rowA, rowG, rowB9, c1, c3, c5, c7, clN (show σ < 2 ^ 31 by omega), clN (show τ < 2 ^ 31 by omega), clN (show ν < 2 ^ 31 by omega), inR_nI (show σ < 2 ^ 31 by omega), inR_nI (show τ < 2 ^ 31 by omega), inR_nI (show ν < 2 ^ 31 by omega), show σ < 8 by omega, show τ < 5 by omega, show ν < 41 by omega]
                have eG : rowG g (nI σ) (nI τ) (nI ν) = g := by simp [rowA, rowG, rowB9, c1, c3, c5, c7, clN (show σ < 2 ^ 31 by omega), clN (show τ < 2 ^ 31 by omega), clN (show ν < 2 ^ 31 by omega), inR_nI (show σ < 2 ^ 31 by omega), inR_nI (show τ < 2 ^ 31 by omega), inR_nI (show ν < 2 ^ 31 by omega), show σ < 8 by omega, show τ < 5 by omega, show ν < 41 by omega]
                exact F.1 _ _ _ _ _ rfl rfl (dx dX7_row 52 rfl) k9 (show some (vi (nI 1)) = some (vi (rowA (nI σ) (nI τ) (nI ν))) ∧ (∃ v', MilAt h9 k v') ∧ MshAt h9 k (rowG g (nI σ) (nI τ) (nI ν)) ∧ Ks k h h9 from by rw [eA, eG]; exact ⟨rfl, ⟨_, hm⟩, hs, Ks.rf⟩))
          · first
            | (omega; done)
            | (
                have c7 : p < 40 := c7
                refine r_aload_n C (dx dX7_row 42 rfl) rfl ?_
                refine g_X7_21 C (dx dX7_row 43 rfl) ?_
                refine r_iload_n C (dx dX7_row 44 rfl) rfl ?_
                refine r_aald5 (j := σ) C rfl rfl (by decide) rfl (by omega) (dx dX7_row 45 rfl) ?_
                refine r_iload C (dx dX7_row 46 rfl) rfl ?_
                refine r_lconst (v := 0) C (dx dX7_row 47 rfl) rfl ?_
                refine r_last (j := p) C rfl rfl (by decide) rfl (by omega) (dx dX7_row 48 rfl) ?_
                refine rn_iinc (a := p) (k := 1) (ls' := [(0, vr 7 k), (1, vi (nI σ)), (2, vi (nI τ)), (3, vi (nI ν)), (4, vi (nI (p + 1)))]) C (dx dX7_row 49 rfl) rfl rfl (by decide) [1, 2, 3, 4, 0] rfl ?_
                refine r_goto (tgt := 67) C (dx dX7_row 50 rfl) (by decide) ?_
                exact ih _ (fun i hi => by rw [sL_at]; split; rfl; exact q9 i (by omega)) (f9.tr (Fr.sL (by omega) (by omega))) k9)
      ·
        have c5 : (inR n 41) = false := c5
        refine r_aload_n C (dx dX7_row 18 rfl) rfl ?_
        refine r_bipush (v := -2) C (dx dX7_row 19 rfl) rfl ?_
        refine r_cv (as := [vi (-2)]) (st := []) C X I_X7_refuse l_X7_83 (c_X7_refuse hm (x := -2) (j := 2) (by decide) (by decide)) (by decide) (Nat.le_of_ble_eq_true rfl) List.prefix_rfl List.prefix_rfl rfl rfl (Nat.le_of_ble_eq_true rfl) rfl (dx dX7_row 20 rfl) ?_
        rintro _ h8 ⟨rfl, ⟨wh8, m9h8, s9h8⟩, qh8⟩ kkh8
        obtain ⟨vh8, mh8, zh8⟩ : ∃ v9, MilAt h8 k v9 ∧ Sz v v9 := ⟨_, m9h8, s9h8⟩
        have ph8 : Kp k h h8 := qh8
        have kh8 : xK h8 = xK h := kkh8
        obtain ⟨ah8, bh8, ch8⟩ := zh8
        have eA : rowA (nI σ) (nI τ) n = -2 := by simp [rowA, rowG, rowB9, c1, c3, c5, clN (show σ < 2 ^ 31 by omega), clN (show τ < 2 ^ 31 by omega), inR_nI (show σ < 2 ^ 31 by omega), inR_nI (show τ < 2 ^ 31 by omega), show σ < 8 by omega, show τ < 5 by omega]
        have eG : rowG g (nI σ) (nI τ) n = g := by simp [rowA, rowG, rowB9, c1, c3, c5, clN (show σ < 2 ^ 31 by omega), clN (show τ < 2 ^ 31 by omega), inR_nI (show σ < 2 ^ 31 by omega), inR_nI (show τ < 2 ^ 31 by omega), show σ < 8 by omega, show τ < 5 by omega]
        exact F.1 _ _ _ _ _ rfl rfl (dx dX7_row 21 rfl) kh8 (show some (vi (-2)) = some (vi (rowA (nI σ) (nI τ) n)) ∧ (∃ v', MilAt h8 k v') ∧ MshAt h8 k (rowG g (nI σ) (nI τ) n) ∧ Ks k h h8 from by rw [eA, eG]; exact ⟨rfl, ⟨_, mh8⟩, hs.kp ph8, ph8.ks⟩)
