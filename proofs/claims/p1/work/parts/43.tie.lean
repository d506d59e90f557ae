/-! PART 48: the same text in the class's bytes and in the reference's -/
def ByT (B B' : Nat → Int32) (z : Nat) : Prop := ∀ i, i < z → ∃ b, b < 256 ∧ B' i = nI b ∧ B i = vp_nar .byte (nI b)
theorem nar_b1 : ∀ b : Fin 256, isG 0 (vp_nar .byte (nI b.val)) = isG 0 (nI b.val) ∧ isG 1 (vp_nar .byte (nI b.val)) = isG 1 (nI b.val) ∧ isG 2 (vp_nar .byte (nI b.val)) = isG 2 (nI b.val) := by decide +kernel
theorem nar_b2 : ∀ b : Fin 256, (decide (vp_nar .byte (nI b.val) = nI 59) = decide (nI b.val = nI 59)) ∧ (isG 1 (nI b.val) = true → vp_nar .byte (nI b.val) = nI b.val) ∧ (isG 2 (nI b.val) = true → vp_nar .byte (nI b.val) = nI b.val) := by decide +kernel
section TIE
variable {B B' : Nat → Int32} {z : Nat}
theorem ByT.g (h : ByT B B' z) {γ i : Nat} (hγ : γ < 3) (hi : i < z) : isG γ (B i) = isG γ (B' i) := by
  obtain ⟨b, hb, e1, e2⟩ := h i hi
  rw [e1, e2]
  have q := nar_b1 ⟨b, hb⟩
  match γ, hγ with
  | 0, _ => exact q.1
  | 1, _ => exact q.2.1
  | 2, _ => exact q.2.2
theorem ByT.c (h : ByT B B' z) {i : Nat} (hi : i < z) : (B i = nI 59) = (B' i = nI 59) := by
  obtain ⟨b, hb, e1, e2⟩ := h i hi
  rw [e1, e2]
  exact propext (decide_eq_decide.mp (nar_b2 ⟨b, hb⟩).1)
theorem ByT.l (h : ByT B B' z) {γ i : Nat} (hγ : γ = 1 ∨ γ = 2) (hi : i < z) (q : isG γ (B' i) = true) : B i = B' i := by
  obtain ⟨b, hb, e1, e2⟩ := h i hi
  rw [e1] at q
  rw [e1, e2]
  rcases hγ with rfl | rfl
  · exact (nar_b2 ⟨b, hb⟩).2.1 q
  · exact (nar_b2 ⟨b, hb⟩).2.2 q
theorem ByT.f (h : ByT B B' z) {γ : Nat} (hγ : γ < 3) : ∀ n p, p + n ≤ z → enF γ B n p = enF γ B' n p
  | 0, _, _ => rfl
  | n + 1, p, hp => by
    simp only [enF]
    rw [h.g hγ (show p < z by omega), h.f hγ n (p + 1) (by omega)]
theorem ByT.o (h : ByT B B' z) {γ p : Nat} (hγ : γ < 3) (hp : p ≤ z) : enO γ B z p = enO γ B' z p := h.f hγ _ _ (by omega)
/-- the same tokens -/
theorem ByT.s (h : ByT B B' z) {e : Nat} (he : e ≤ z) : stp B z e = stp B' z e := by
  have l := enO_le (γ := 0) (B := B') he
  unfold stp
  rw [h.o (by omega) he]
  by_cases c : z ≤ enO 0 B' z e
  · rw [if_pos c, if_pos c]
  · rw [if_neg c, if_neg c, h.g (γ := 1) (by omega) (show enO 0 B' z e < z by omega), h.g (γ := 2) (by omega) (show enO 0 B' z e < z by omega), h.o (γ := 1) (by omega) l.2, h.o (γ := 2) (by omega) l.2]
    simp only [h.c (show enO 0 B' z e < z by omega)]
/-- letters, figures of a token -/
theorem stp_wdl {t s e a : Nat} (h : (t, s, e) = stp B' z a) (ha : a ≤ z) (ht : t = 0) : ∀ j, s ≤ j → j < e → isG 1 (B' j) = true := by
  unfold stp at h
  split at h
  · obtain ⟨e1, _⟩ := Prod.mk.inj h; omega
  · split at h
    · obtain ⟨_, h⟩ := Prod.mk.inj h
      obtain ⟨e2, e3⟩ := Prod.mk.inj h
      rw [e2, e3]
      exact fun j j1 j2 => enO_all _ _ rfl j j1 j2
    · split at h
      · obtain ⟨e1, _⟩ := Prod.mk.inj h; omega
      · obtain ⟨e1, _⟩ := Prod.mk.inj h
        split at e1 <;> omega
theorem allF_c {P Q : Nat → Bool} : ∀ n, (∀ j, j < n → P j = Q j) → allF P n = allF Q n
  | 0, _ => rfl
  | n + 1, h => by simp only [allF]; rw [allF_c n (fun j hj => h j (by omega)), h n (by omega)]
theorem ByT.w (h : ByT B B' z) {i t s e a : Nat} (ha : a ≤ z) (q : (t, s, e) = stp B' z a) : wdB i B z t s e = wdB i B' z t s e := by
  have l := stp_le (B := B') ha
  rw [← q] at l
  have l2 : e ≤ z := l.2
  unfold wdB
  by_cases ht : t = 0
  · have g := stp_wdl q ha ht
    by_cases c : e - s = txL.getD i 0
    · congr 2
      refine allF_c _ (fun j hj => ?_)
      unfold btA
      rw [if_pos (show s + j < z by omega), if_pos (show s + j < z by omega), h.l (Or.inl rfl) (by omega) (g (s + j) (by omega) (by omega))]
    · rw [decide_eq_false c]; simp
  · rw [decide_eq_false ht]; simp
theorem ByT.nf (h : ByT B B' z) {s e : Nat} (ez : e ≤ z) (g : ∀ j, s ≤ j → j < e → isG 2 (B' j) = true) : ∀ n, s + n ≤ e → nmF B z s n = nmF B' z s n
  | 0, _ => rfl
  | n + 1, hn => by
    simp only [nmF]
    unfold btA
    rw [h.nf ez g n (by omega), if_pos (show s + n < z by omega), if_pos (show s + n < z by omega), h.l (Or.inr rfl) (by omega) (g (s + n) (by omega) (by omega))]
theorem ByT.n (h : ByT B B' z) {t s e a : Nat} {lo hi : Int32} (ha : a ≤ z) (q : (t, s, e) = stp B' z a) : nmV B z t s e lo hi = nmV B' z t s e lo hi := by
  have l := stp_le (B := B') ha
  rw [← q] at l
  have l2 : e ≤ z := l.2
  unfold nmV
  by_cases ht : t = 1 ∧ e - s ≤ 2
  · have l1 : s ≤ e := l.1
    have g := (stp_dg q ht.1).2
    rw [if_pos ht, if_pos ht, h.nf l2 (fun j j1 j2 => dg_G ▸ g j j1 j2) (e - s) (by omega)]
  · rw [if_neg ht, if_neg ht]
end TIE

