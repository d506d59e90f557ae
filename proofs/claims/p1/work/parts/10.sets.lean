/-! PART 10: sets as bits; how likely sets are; what they have -/
theorem sh1 {o : Nat} (h : o < 13) : nI 1 <<< (nI o &&& 31) = nI (2 ^ o) := by
  have key : ∀ m : Fin 13, nI 1 <<< (nI m &&& 31) = nI (2 ^ m.val) := by decide +kernel
  exact key ⟨o, h⟩
theorem or_pow {a o : Nat} (h : o < 8) (ha : a < 2 ^ o) : nI a ||| nI (2 ^ o) = nI (a + 2 ^ o) := by
  have key : ∀ m : Fin 8, ∀ b : Fin 128, b.val < 2 ^ m.val → nI b ||| nI (2 ^ m.val) = nI (b + 2 ^ m.val) := by decide +kernel
  have h2 : 2 ^ o ≤ 2 ^ 7 := Nat.pow_le_pow_right (by omega) (by omega)
  exact key ⟨o, h⟩ ⟨a, by omega⟩ ha
theorem and_pow {a o : Nat} (h : o < 8) (ha : a < 256) : (nI a &&& nI (2 ^ o) = 0) ↔ a.testBit o = false := by
  have key : ∀ m : Fin 8, ∀ b : Fin 256, (nI b &&& nI (2 ^ m.val) = 0) ↔ b.val.testBit m.val = false := by decide +kernel
  exact key ⟨o, h⟩ ⟨a, ha⟩
theorem inB_bit {a o : Nat} (h : o < 8) (ha : a < 256) : inB (nI a) (nI o) = a.testBit o := by
  have key : ∀ m : Fin 8, ∀ b : Fin 256, inB (nI b) (nI m) = b.val.testBit m.val := by decide +kernel
  exact key ⟨o, h⟩ ⟨a, ha⟩
theorem inB_none (s : Int32) : inB s (-1) = false := by simp [inB]
theorem pow8 {n : Nat} (h : n ≤ 8) : 1 ≤ 2 ^ n ∧ 2 ^ n ≤ 256 := ⟨Nat.one_le_two_pow, Nat.le_trans (Nat.pow_le_pow_right (by omega) h) (by decide)⟩
theorem pow_s (n : Nat) : 2 ^ (n + 1) = 2 ^ n + 2 ^ n := by rw [Nat.pow_succ]; omega
/-- tenths of the days on which one is away, or comes -/
def fac (v : Vg) (o : Nat) (c : Bool) : Int32 := if c then nI 10 - (if vF v 6 o = 0 then vF v 5 o else nI 10) else (if vF v 6 o = 0 then vF v 5 o else nI 10)
/-- how likely just a set of the first n comes -/
def wgt (v : Vg) (s : Nat) : Nat → Int64
  | 0 => 1
  | n + 1 => wgt v s n * (fac v n (s.testBit n)).toInt64
theorem wgt_lo (v : Vg) (s m : Nat) : ∀ n, n ≤ m → wgt v (s + 2 ^ m) n = wgt v s n
  | 0, _ => rfl
  | n + 1, h => by
    simp only [wgt, wgt_lo v s m n (by omega)]
    rw [Nat.add_comm s, Nat.testBit_two_pow_add_gt (by omega)]
theorem wgt_hi (v : Vg) {s n : Nat} (hs : s < 2 ^ n) : wgt v (s + 2 ^ n) (n + 1) = wgt v s n * (fac v n true).toInt64 := by
  simp only [wgt, wgt_lo v s n n (Nat.le_refl _)]
  rw [Nat.add_comm s, Nat.testBit_two_pow_add_eq, Nat.testBit_lt_two_pow hs]; rfl
theorem wgt_at (v : Vg) {s n : Nat} (hs : s < 2 ^ n) : wgt v s (n + 1) = wgt v s n * (fac v n false).toInt64 := by
  simp only [wgt]; rw [Nat.testBit_lt_two_pow hs]
/-- the parts that a set of the first n has -/
def gat (v : Vg) (s : Nat) : Nat → Int32
  | 0 => nI 0
  | n + 1 => if s.testBit n then gat v s n ||| ownP v (nI n) else gat v s n
theorem gat_lo (v : Vg) (s m : Nat) : ∀ n, n ≤ m → gat v (s + 2 ^ m) n = gat v s n
  | 0, _ => rfl
  | n + 1, h => by
    simp only [gat, gat_lo v s m n (by omega)]
    rw [Nat.add_comm s, Nat.testBit_two_pow_add_gt (by omega)]
theorem gat_hi (v : Vg) {s n : Nat} (hs : s < 2 ^ n) : gat v (s + 2 ^ n) (n + 1) = gat v s n ||| ownP v (nI n) := by
  simp only [gat, gat_lo v s n n (Nat.le_refl _)]
  rw [Nat.add_comm s, Nat.testBit_two_pow_add_eq, Nat.testBit_lt_two_pow hs]; rfl
theorem gat_at (v : Vg) {s n : Nat} (hs : s < 2 ^ n) : gat v s (n + 1) = gat v s n := by
  simp only [gat]; rw [Nat.testBit_lt_two_pow hs]; rfl
/-- bit i of a set of bits -/
def bt (x : Int32) (i : Nat) : Bool := x.toBitVec.getLsbD i
theorem bt_ext {x y : Int32} (h : ∀ i, i < 32 → bt x i = bt y i) : x = y := by
  apply Int32.toBitVec_inj.mp
  apply BitVec.eq_of_getLsbD_eq
  intro i hi
  exact h i hi
theorem bt_or (x y : Int32) (i : Nat) : bt (x ||| y) i = (bt x i || bt y i) := by simp [bt]
theorem bt_0 (i : Nat) : bt (nI 0) i = false := by simp [bt, nI_0]
theorem bt_pow {n i : Nat} (hn : n < 13) (hi : i < 32) : bt (nI 1 <<< (nI n &&& 31)) i = decide (i = n) := by
  have key : ∀ m : Fin 13, ∀ j : Fin 32, bt (nI 1 <<< (nI m &&& 31)) j = decide (j.val = m.val) := by decide +kernel
  exact key ⟨n, hn⟩ ⟨i, hi⟩
theorem bt_bset (p : Nat → Bool) {i : Nat} (hi : i < 32) : ∀ n, n ≤ 12 → bt (bset p n) i = (decide (i < n) && p i)
  | 0, _ => by simp [bset, bt_0]
  | n + 1, h => by
    have ih := bt_bset p hi n (by omega)
    simp only [bset]
    by_cases hp : p n = true
    · rw [if_pos hp, bt_or, ih, bt_pow (by omega) hi]
      by_cases he : i = n
      · subst he; simp [hp]
      · have : decide (i < n + 1) = decide (i < n) := by simp only [decide_eq_decide]; omega
        simp [he, this]
    · rw [if_neg hp, ih]
      by_cases he : i = n
      · subst he; simp [hp]
      · have : decide (i < n + 1) = decide (i < n) := by simp only [decide_eq_decide]; omega
        rw [this]
/-- who holds is one of the people, or none -/
def HOk (v : Vg) : Prop := ∀ c, c < 2 → ∀ i, i < vP v → vF v c i = -1 ∨ ∃ o, o < vN v ∧ vF v c i = nI o
theorem gat_bt (v : Vg) (s : Nat) (hP : vP v ≤ 12) {i : Nat} (hi : i < 32) : ∀ n, bt (gat v s n) i = (List.range n).any (fun o => s.testBit o && (decide (i < vP v) && (decide (vF v 0 i = nI o) || decide (vF v 1 i = nI o))))
  | 0 => by simp [gat, bt_0]
  | n + 1 => by
    have ih := gat_bt v s hP hi n
    rw [List.range_succ, List.any_append, ← ih]
    simp only [gat, List.any_cons, List.any_nil, Bool.or_false]
    by_cases hb : s.testBit n = true
    · rw [if_pos hb, bt_or, hb, Bool.true_and]
      unfold ownP
      rw [bt_bset _ hi _ hP]
    · rw [if_neg hb]; simp [hb]
theorem gat_has {v : Vg} (hP : vP v ≤ 12) (hN : vN v ≤ 8) (hk : HOk v) {s : Nat} (hs : s < 2 ^ vN v) : gat v s (vN v) = hasP v (nI s) := by
  have h256 := (pow8 hN).2
  apply bt_ext
  intro i hi
  rw [gat_bt v s hP hi]
  unfold hasP
  rw [bt_bset _ hi _ hP]
  by_cases hip : i < vP v
  · have one : ∀ c, c < 2 → (List.range (vN v)).any (fun o => s.testBit o && decide (vF v c i = nI o)) = inB (nI s) (vF v c i) := by
      intro c hc
      rcases hk c hc i hip with h | ⟨o, ho, h⟩
      · rw [h, inB_none, List.any_eq_false]
        intro x hx
        have hx := List.mem_range.mp hx
        have : ¬ (-1 : Int32) = nI x := by
          intro q
          have := congrArg Int32.toInt q
          rw [nI_toInt (by omega)] at this
          have e : (-1 : Int32).toInt = -1 := by decide
          omega
        simp [this]
      · rw [h, inB_bit (by omega) (by omega), Bool.eq_iff_iff, List.any_eq_true]
        constructor
        · rintro ⟨x, hx, hb⟩
          have hx := List.mem_range.mp hx
          simp only [Bool.and_eq_true, decide_eq_true_eq] at hb
          have : o = x := (nI_eq (by omega) (by omega)).mp hb.2
          rw [this]; exact hb.1
        · intro hb
          exact ⟨o, List.mem_range.mpr ho, by simp [hb]⟩
    rw [← one 0 (by omega), ← one 1 (by omega), decide_eq_true hip, Bool.true_and, Bool.eq_iff_iff, Bool.or_eq_true, List.any_eq_true, List.any_eq_true, List.any_eq_true]
    constructor
    · rintro ⟨x, hx, hb⟩
      simp only [Bool.true_and, Bool.and_eq_true, Bool.or_eq_true] at hb
      rcases hb.2 with q | q
      · exact Or.inl ⟨x, hx, by simp [hb.1]; simpa using q⟩
      · exact Or.inr ⟨x, hx, by simp [hb.1]; simpa using q⟩
    · rintro (⟨x, hx, hb⟩ | ⟨x, hx, hb⟩)
      · exact ⟨x, hx, by simp only [Bool.and_eq_true] at hb ⊢; exact ⟨hb.1, by simp only [Bool.true_and, Bool.or_eq_true]; exact ⟨trivial, Or.inl hb.2⟩⟩⟩
      · exact ⟨x, hx, by simp only [Bool.and_eq_true] at hb ⊢; exact ⟨hb.1, by simp only [Bool.true_and, Bool.or_eq_true]; exact ⟨trivial, Or.inr hb.2⟩⟩⟩
  · simp [hip]
def sumL (f : Nat → Int64) : Nat → Int64
  | 0 => 0
  | n + 1 => sumL f n + f n

