/-! PART 27: the reference: holdings -/
theorem nz_pos {n : Nat} (h : ¬ nI n = 0) : 0 < n := by
  rcases Nat.eq_zero_or_pos n with rfl | q
  · exact absurd (by decide) h
  · exact q
theorem and1_0 (y : Int32) : (y &&& nI 1 = 0) ↔ bt y 0 = false := by
  constructor
  · intro q
    have q2 := congrArg (fun z => bt z 0) q
    simp only [bt_and] at q2
    rw [show bt (nI 1) 0 = true by decide, Bool.and_true] at q2
    rw [q2]; decide
  · intro q
    apply bt_ext
    intro i hi
    rw [bt_and, bt_nI 1 hi, show bt 0 i = false from bt_0 i]
    by_cases h : i = 0
    · subst h; rw [q]; rfl
    · have : Nat.testBit 1 i = false := by
        rw [Nat.testBit_lt_two_pow]
        exact Nat.one_lt_two_pow h
      rw [this, Bool.and_false]
theorem cnt_all {p : Nat → Bool} : ∀ n, (∀ i, i < n → p i = true) → cnt p n = n
  | 0, _ => rfl
  | n + 1, h => by
    simp only [cnt]
    rw [if_pos (h n (by omega)), cnt_all n (fun i hi => h i (by omega))]
theorem cnt_or {D : Int32} {b n t : Nat} (hn : n ≤ 12) (hb : b < 12) (c : cnt (bt D) n ≤ t) : cnt (bt (D ||| (nI 1 <<< (nI b &&& 31)))) n ≤ t + 1 := by
  have key : ∀ n, n ≤ 12 → cnt (bt (D ||| (nI 1 <<< (nI b &&& 31)))) n ≤ cnt (bt D) n + (if b < n then 1 else 0) := by
    intro n
    induction n with
    | zero => intro _; simp [cnt]
    | succ n ih =>
      intro hn
      have ih := ih (by omega)
      simp only [cnt]
      rw [bt_or, bt_pow (by omega) (show n < 32 by omega)]
      by_cases hb : n = b
      · subst hb
        rw [if_pos (Nat.lt_succ_self n)]
        rw [if_neg (Nat.lt_irrefl n)] at ih
        split <;> split <;> omega
      · have e : (if b < n + 1 then 1 else 0) = (if b < n then 1 else 0) := by
          by_cases hl : b < n
          · rw [if_pos hl, if_pos (by omega)]
          · rw [if_neg hl, if_neg (by omega)]
        rw [e, decide_eq_false hb, Bool.or_false]
        split <;> omega
  have q := key n hn
  have : (if b < n then 1 else 0) ≤ 1 := by split <;> omega
  omega
theorem hw_best {D x : Int32} {n t : Nat} (c : cnt (bt D) n ≤ t) (ht : t < n) (h : (x = -1 ∧ ∀ i, i < n → bt D i = true) ∨ ∃ a, a < n ∧ x = nI a) : ∃ a, a < n ∧ x = nI a := by
  rcases h with ⟨_, h⟩ | h
  · rw [cnt_all n h] at c; omega
  · exact h
theorem cnt_0 : ∀ n, cnt (bt (nI 0)) n = 0
  | 0 => rfl
  | n + 1 => by simp only [cnt]; rw [bt_0, if_neg (by decide), cnt_0 n]
