/-! PART 38: the reference: head, texts, the tape -/
def hdB (g : Sg) : Nat → Bool
  | 0 => false
  | s + 1 => hdB g s || holdB g (nI s)
theorem hd_all {g : Sg} {p : Nat} (e : holdB g (nI p) = true) : ∀ n, p < n → hdB g n = true
  | 0, h => absurd h (by omega)
  | n + 1, h => by
    show (hdB g n || holdB g (nI n)) = true
    by_cases q : p = n
    · subst q; rw [e, Bool.or_true]
    · rw [hd_all e n (by omega), Bool.true_or]
