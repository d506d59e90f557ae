/-! PART 29: the reference: rows copied, told days, the tape fed -/
theorem MshAt.mv {h h1 : Hp} {k : Nat} {g : Sg} (a : MshAt h k g) (f : Fr (k + 13) (k + 14) h h1) : MshAt h1 k g := fun s hs => by
  rcases a s hs with ⟨a1, a2⟩ | ⟨t, n, a1, a2, a3, a4, a5, a6, a7, a8⟩ | ⟨κ, b, a1, a2, a3, a4, a5, a6, a7, a8⟩
  · exact Or.inl ⟨(f.I (by omega) _).trans a1, a2⟩
  · exact Or.inr (Or.inl ⟨t, n, a1, a2, (f.I (by omega) _).trans a3, (f.I (by omega) _).trans a4, (f.I (by omega) _).trans a5, a6, a7, fun i hi => (f.L (by omega) i).trans (a8 i hi)⟩)
  · exact Or.inr (Or.inr ⟨κ, b, a1, a2, a3, (f.I (by omega) _).trans a4, (f.I (by omega) _).trans a5, (f.I (by omega) _).trans a6, a7, a8⟩)
theorem MsR.fr {h h1 : Hp} {k s : Nat} {g : Sg} (a : MsR h k g s) (hs : s < 8) (f : Fr (k + 13) (k + 14) h h1) : MsR h1 k g s := by
  obtain ⟨t, n, a1, a2, a3, a4, a5, a6, a7, a8⟩ := a
  exact ⟨t, n, a1, a2, (f.I (by omega) _).trans a3, (f.I (by omega) _).trans a4, (f.I (by omega) _).trans a5, a6, a7, fun i hi => (f.L (by omega) i).trans (a8 i hi)⟩
theorem cp_row {g : Sg} {p q : Int32} {z1 z2 i j n : Nat} (e1 : szV g p = nI z1) (e2 : szV g q = nI z2) (h1 : z1 ≤ 40) (h2 : z2 ≤ 40) (hi : i < 2 ^ 31) (hj : j < 2 ^ 31) (hn : n < 2 ^ 31) : cpOk g p q (nI i) (nI j) (nI n) = decide (i + n ≤ z1 ∧ j + n ≤ z2) := by
  have key : ∀ a z : Nat, a < 2 ^ 31 → z ≤ 40 → (nI a ≤ nI z - nI n ↔ a + n ≤ z) := fun a z ha hz => by
    rw [Int32.le_iff_toInt_le, nI_toInt ha]
    have e2 : (nI z - nI n).toInt = (z : Int) - n := by
      rw [Int32.toInt_sub, nI_toInt (by omega), nI_toInt hn]
      exact Int.bmod_eq_of_le (by omega) (by omega)
    rw [e2]; omega
  unfold cpOk
  rw [e1, e2, decide_eq_true (nI_pos hn), decide_eq_true (nI_pos hi), decide_eq_true (nI_pos hj), decide_eq_decide.mpr (key i z1 hi h1), decide_eq_decide.mpr (key j z2 hj h2), Bool.true_and, Bool.true_and, Bool.true_and, ← Bool.decide_and]
theorem cp2_step {E F G9 : Nat → Int64} {ξ ι p : Nat} (q : ∀ i, i < 40 → E i = if ξ ≤ i ∧ i < ξ + p then F (ι + (i - ξ)) else G9 i) : ∀ i, i < 40 → (if i = ξ + p then F (ι + p) else E i) = if ξ ≤ i ∧ i < ξ + (p + 1) then F (ι + (i - ξ)) else G9 i := fun i hi => by
  by_cases e : i = ξ + p
  · subst e
    rw [if_pos rfl, if_pos ⟨by omega, by omega⟩, show ξ + p - ξ = p by omega]
  · rw [if_neg e, q i hi]
    by_cases c : ξ ≤ i ∧ i < ξ + p
    · rw [if_pos c, if_pos ⟨c.1, by omega⟩]
    · rw [if_neg c, if_neg (by omega)]
theorem tf_no {g : Sg} {s n : Int32} (h1 : inR s 8 = true) (h2 : inR n 21 = true) (c : ¬ nrA g s = 0) : tfV g s n = nrA g s := by
  unfold nrA at c ⊢
  unfold tfV
  rw [if_pos h1] at c ⊢
  rw [if_pos ⟨h1, h2⟩, if_neg c]
theorem tf_row {g : Sg} {σ n z : Nat} (hσ : σ < 8) (hn : n < 21) (e : rfV g (nI σ) = nI 0) (ez : szV g (nI σ) = nI z) (hz : z ≤ 40) : tfV g (nI σ) (nI n) = if n ≤ z then nI 0 else -2 := by
  unfold tfV
  rw [if_pos ⟨inN (by omega) hσ, inN (by omega) hn⟩, e, ez, if_pos (show nI 0 = 0 from rfl)]
  by_cases h : n ≤ z
  · rw [if_pos h, if_pos ((nI_leI (by omega) (by omega)).mpr h)]
  · rw [if_neg h, if_neg (fun q => h ((nI_leI (by omega) (by omega)).mp q))]
theorem tf_ok2 {g : Sg} {s n : Int32} (h : tfV g s n = 0) : ∃ σ, σ < 8 ∧ ∃ ν, ν < 21 ∧ s = nI σ ∧ n = nI ν := by
  unfold tfV at h
  split at h
  · next c =>
    obtain ⟨σ, hσ, rfl⟩ := inR_ex (by omega) c.1
    obtain ⟨ν, hν, rfl⟩ := inR_ex (by omega) c.2
    exact ⟨σ, hσ, ν, hν, rfl, rfl⟩
  · exact absurd h (by decide)
theorem tf_in {g : Sg} {s n : Int32} (h : ¬ (inR s 8 = true ∧ inR n 21 = true)) : tfV g s n = -2 := by unfold tfV; rw [if_neg h]
/-- what feeding changes -/
def TC (k b : Nat) : Prop := b = k ∨ b = k + 16 ∨ b = k + 17
theorem TC.lo {k b : Nat} (q : TC k b) : k ≤ b ∧ b < k + 32 := by unfold TC at q; omega
