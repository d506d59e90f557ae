/-! PART 26: the reference: questions -/
theorem pmod {a b : Nat} (ha : a < 2 ^ 31) (hb : b < 2 ^ 31) (h0 : 0 < b) : nI a - nI a / nI b * nI b = nI (a % b) := by
  have e : nI a / nI b = nI (a / b) := by
    apply Int32.toInt_inj.mp
    have h1 : a / b ≤ a := Nat.div_le_self a b
    rw [Int32.toInt_div, nI_toInt ha, nI_toInt hb, nI_toInt (by omega)]
    rw [show (a : Int).tdiv (b : Int) = ((a / b : Nat) : Int) from (Int.ofNat_tdiv a b).symm ▸ rfl]
    generalize a / b = q at h1 ⊢
    exact Int.bmod_eq_of_le (by omega) (by omega)
  rw [e, pk_mul, pk_sub (Nat.div_mul_le_self a b)]
  congr 1
  have := Nat.div_add_mod a b
  rw [Nat.mul_comm] at this
  omega
theorem btw_ex {x : Int32} {a b : Nat} (ha : a < 2 ^ 30) (hb : b < 2 ^ 30) (h : btwB x a b = true) : ∃ j, a ≤ j ∧ j ≤ b ∧ x = nI j := by
  unfold btwB at h
  simp only [Bool.and_eq_true, decide_eq_true_eq] at h
  exact btw ha hb h.1 h.2
theorem Sz.sS {v : Vg} {x : Int32} : Sz v (vsS v x) := ⟨rfl, rfl, rfl⟩
