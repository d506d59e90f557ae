/-! PART 57h: the same answers, third part -/
theorem dy_eq {v : Vg} (ok : VOk v) : dyR v = dayC v := day_eq ok
theorem sumL_b {f : Nat → Int64} {b : Nat} : ∀ n, (∀ i, i < n → ∃ K, K ≤ b ∧ f i = Int64.ofNat K) → ∃ K, K ≤ n * b ∧ sumL f n = Int64.ofNat K
  | 0, _ => ⟨0, by omega, rfl⟩
  | n + 1, h => by
    obtain ⟨K, k1, k2⟩ := sumL_b (f := f) (b := b) n (fun i hi => h i (by omega))
    obtain ⟨J, j1, j2⟩ := h n (by omega)
    simp only [sumL]
    rw [k2, j2, Nat.succ_mul]
    exact ⟨K + J, by omega, (Int64.ofNat_add _ _).symm⟩
theorem day_n {v : Vg} (ok : VOk v) : ∃ K, K < 2 ^ 62 ∧ dayC v = Int64.ofNat K := by
  have hN := ok.2.2.2.2.2.2.2.2.2
  have hM := ok.2.2.2.2.2.2.2.2.1
  have p8 := pow8 hN
  obtain ⟨K, k1, k2⟩ := sumL_b (f := fun s => wgt v s (vN v) * (worthS v (gat v s (vN v))).toInt64) (b := 100000000 * 594) (2 ^ vN v) (fun s _ => by
    obtain ⟨e1, J, j1, j2⟩ := wgt_eq ok (s := s) _ (Nat.le_refl _)
    obtain ⟨W, w1, w2, w3⟩ := wor_eq ok (gat v s (vN v)) (vM v) (Nat.le_refl _)
    have e : (worthS v (gat v s (vN v))).toInt64 = Int64.ofNat W := by
      unfold worthS
      rw [w2, nl (by omega)]
    have h8 : 10 ^ vN v ≤ 10 ^ 8 := Nat.pow_le_pow_right (by omega) hN
    refine ⟨J * W, Nat.mul_le_mul (Nat.le_trans j1 h8) (by omega), ?_⟩
    show wgt v s (vN v) * (worthS v (gat v s (vN v))).toInt64 = _
    rw [e1, j2, e, Int64.ofNat_mul])
  refine ⟨K, ?_, k2⟩
  have : 2 ^ vN v * (100000000 * 594) ≤ 256 * (100000000 * 594) := Nat.mul_le_mul_right _ p8.2
  omega
