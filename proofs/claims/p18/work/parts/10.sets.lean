/-! PART 10: sets as bits; how likely sets are; what they have -/
theorem sh1 {o : Nat} (h : o < 13) : nI 1 <<< (nI o &&& 31) = nI (2 ^ o) := by
  have key : ∀ m : Fin 13, nI 1 <<< (nI m &&& 31) = nI (2 ^ m.val) := by decide +kernel
  exact key ⟨o, h⟩
theorem or_pow {a o : Nat} (h : o < 8) (ha : a < 2 ^ o) : nI a ||| nI (2 ^ o) = nI (a + 2 ^ o) := by
  have key : ∀ m : Fin 8, ∀ b : Fin 128, b.val < 2 ^ m.val → nI b ||| nI (2 ^ m.val) = nI (b + 2 ^ m.val) := by decide +kernel
  have h2 : 2 ^ o ≤ 2 ^ 7 := Nat.pow_le_pow_right (by omega) (by omega)
  exact key ⟨o, h⟩ ⟨a, by omega⟩ ha
theorem and_pow {a o : Nat} (h : o < 8) (ha : a < 256) : (nI a &&& nI (2 ^ o) = 0) ↔ a.testBit o = false := by
  have key : ∀ m : Fin 8, ∀ b : Fin 256, (nI b &&& nI (2 ^ m.val) = 0) ↔ b.val.testBit m.val = false := by decide +kernel
  exact key ⟨o, h⟩ ⟨a, ha⟩
theorem pow8 {n : Nat} (h : n ≤ 8) : 1 ≤ 2 ^ n ∧ 2 ^ n ≤ 256 := ⟨Nat.one_le_two_pow, Nat.le_trans (Nat.pow_le_pow_right (by omega) h) (by decide)⟩
theorem pow_s (n : Nat) : 2 ^ (n + 1) = 2 ^ n + 2 ^ n := by rw [Nat.pow_succ]; omega
/-- tenths of the days on which one is away, or comes -/
def fac (v : Vg) (o : Nat) (c : Bool) : Int32 := if c then nI 10 - (if vF v 6 o = 0 then vF v 5 o else nI 10) else (if vF v 6 o = 0 then vF v 5 o else nI 10)
/-- how likely just a set of the first n comes -/
def wgt (v : Vg) (s : Nat) : Nat → Int64
  | 0 => 1
  | n + 1 => wgt v s n * (fac v n (s.testBit n)).toInt64
theorem wgt_lo (v : Vg) (s m : Nat) : ∀ n, n ≤ m → wgt v (s + 2 ^ m) n = wgt v s n
  | 0, _ => rfl
  | n + 1, h => by
    simp only [wgt, wgt_lo v s m n (by omega)]
    rw [Nat.add_comm s, Nat.testBit_two_pow_add_gt (by omega)]
theorem wgt_hi (v : Vg) {s n : Nat} (hs : s < 2 ^ n) : wgt v (s + 2 ^ n) (n + 1) = wgt v s n * (fac v n true).toInt64 := by
  simp only [wgt, wgt_lo v s n n (Nat.le_refl _)]
  rw [Nat.add_comm s, Nat.testBit_two_pow_add_eq, Nat.testBit_lt_two_pow hs]; rfl
theorem wgt_at (v : Vg) {s n : Nat} (hs : s < 2 ^ n) : wgt v s (n + 1) = wgt v s n * (fac v n false).toInt64 := by
  simp only [wgt]; rw [Nat.testBit_lt_two_pow hs]
/-- the parts that a set of the first n has -/
def gat (v : Vg) (s : Nat) : Nat → Int32
  | 0 => nI 0
  | n + 1 => if s.testBit n then gat v s n ||| ownP v (nI n) else gat v s n
theorem gat_lo (v : Vg) (s m : Nat) : ∀ n, n ≤ m → gat v (s + 2 ^ m) n = gat v s n
  | 0, _ => rfl
  | n + 1, h => by
    simp only [gat, gat_lo v s m n (by omega)]
    rw [Nat.add_comm s, Nat.testBit_two_pow_add_gt (by omega)]
theorem gat_hi (v : Vg) {s n : Nat} (hs : s < 2 ^ n) : gat v (s + 2 ^ n) (n + 1) = gat v s n ||| ownP v (nI n) := by
  simp only [gat, gat_lo v s n n (Nat.le_refl _)]
  rw [Nat.add_comm s, Nat.testBit_two_pow_add_eq, Nat.testBit_lt_two_pow hs]; rfl
theorem gat_at (v : Vg) {s n : Nat} (hs : s < 2 ^ n) : gat v s (n + 1) = gat v s n := by
  simp only [gat]; rw [Nat.testBit_lt_two_pow hs]; rfl
/-- bit i of a set of bits -/
def bt (x : Int32) (i : Nat) : Bool := x.toBitVec.getLsbD i
theorem bt_ext {x y : Int32} (h : ∀ i, i < 32 → bt x i = bt y i) : x = y := by
  apply Int32.toBitVec_inj.mp
  apply BitVec.eq_of_getLsbD_eq
  intro i hi
  exact h i hi
theorem bt_or (x y : Int32) (i : Nat) : bt (x ||| y) i = (bt x i || bt y i) := by simp [bt]
theorem bt_0 (i : Nat) : bt (nI 0) i = false := by simp [bt, nI_0]
theorem bt_pow {n i : Nat} (hn : n < 13) (hi : i < 32) : bt (nI 1 <<< (nI n &&& 31)) i = decide (i = n) := by
  have key : ∀ m : Fin 13, ∀ j : Fin 32, bt (nI 1 <<< (nI m &&& 31)) j = decide (j.val = m.val) := by decide +kernel
  exact key ⟨n, hn⟩ ⟨i, hi⟩
def sumL (f : Nat → Int64) : Nat → Int64
  | 0 => 0
  | n + 1 => sumL f n + f n

