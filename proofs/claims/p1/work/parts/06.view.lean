/-! PART 06: villages as numbers; what is reckoned of them -/
/-- parts, machines, people; holder 0, second 1, needs 2, worth 3, hand 4, away 5, cross 6, shares 7; seed -/
abbrev Vg : Type := Nat × Nat × Nat × (Nat → Nat → Int32) × Int32
abbrev vP (v : Vg) : Nat := v.1
abbrev vM (v : Vg) : Nat := v.2.1
abbrev vN (v : Vg) : Nat := v.2.2.1
abbrev vF (v : Vg) : Nat → Nat → Int32 := v.2.2.2.1
abbrev vS (v : Vg) : Int32 := v.2.2.2.2
def VilAt (h : Hp) (k : Nat) (v : Vg) : Prop :=
  xI h k 0 = nI (vP v) ∧ xI h k 3 = nI (vM v) ∧ xI h k 6 = nI (vN v) ∧ xI h k 11 = vS v ∧
  (∀ i, i < 12 → xI h (k + 1) i = vF v 0 i) ∧ (∀ i, i < 12 → xI h (k + 2) i = vF v 1 i) ∧ (∀ i, i < 6 → xI h (k + 3) i = vF v 2 i) ∧ (∀ i, i < 6 → xI h (k + 4) i = vF v 3 i) ∧
  (∀ i, i < 8 → xI h (k + 5) i = vF v 4 i) ∧ (∀ i, i < 8 → xI h (k + 6) i = vF v 5 i) ∧ (∀ i, i < 8 → xI h (k + 7) i = vF v 6 i) ∧ (∀ i, i < 8 → xI h (k + 8) i = vF v 7 i) ∧
  vP v ≤ 12 ∧ vM v ≤ 6 ∧ vN v ≤ 8 ∧ (∀ i, i < 8 → fits .boolean (.int (vF v 6 i)) = true)
section VA
variable {h : Hp} {k : Nat} {v : Vg}
theorem VilAt.eP (a : VilAt h k v) : xI h k 0 = nI (vP v) := a.1
theorem VilAt.eM (a : VilAt h k v) : xI h k 3 = nI (vM v) := a.2.1
theorem VilAt.eN (a : VilAt h k v) : xI h k 6 = nI (vN v) := a.2.2.1
theorem VilAt.eS (a : VilAt h k v) : xI h k 11 = vS v := a.2.2.2.1
theorem VilAt.e0 (a : VilAt h k v) {i : Nat} (hi : i < 12) : xI h (k + 1) i = vF v 0 i := a.2.2.2.2.1 i hi
theorem VilAt.e1 (a : VilAt h k v) {i : Nat} (hi : i < 12) : xI h (k + 2) i = vF v 1 i := a.2.2.2.2.2.1 i hi
theorem VilAt.e2 (a : VilAt h k v) {i : Nat} (hi : i < 6) : xI h (k + 3) i = vF v 2 i := a.2.2.2.2.2.2.1 i hi
theorem VilAt.e3 (a : VilAt h k v) {i : Nat} (hi : i < 6) : xI h (k + 4) i = vF v 3 i := a.2.2.2.2.2.2.2.1 i hi
theorem VilAt.e4 (a : VilAt h k v) {i : Nat} (hi : i < 8) : xI h (k + 5) i = vF v 4 i := a.2.2.2.2.2.2.2.2.1 i hi
theorem VilAt.e5 (a : VilAt h k v) {i : Nat} (hi : i < 8) : xI h (k + 6) i = vF v 5 i := a.2.2.2.2.2.2.2.2.2.1 i hi
theorem VilAt.e6 (a : VilAt h k v) {i : Nat} (hi : i < 8) : xI h (k + 7) i = vF v 6 i := a.2.2.2.2.2.2.2.2.2.2.1 i hi
theorem VilAt.e7 (a : VilAt h k v) {i : Nat} (hi : i < 8) : xI h (k + 8) i = vF v 7 i := a.2.2.2.2.2.2.2.2.2.2.2.1 i hi
theorem VilAt.bP (a : VilAt h k v) : vP v ≤ 12 := a.2.2.2.2.2.2.2.2.2.2.2.2.1
theorem VilAt.bM (a : VilAt h k v) : vM v ≤ 6 := a.2.2.2.2.2.2.2.2.2.2.2.2.2.1
theorem VilAt.bN (a : VilAt h k v) : vN v ≤ 8 := a.2.2.2.2.2.2.2.2.2.2.2.2.2.2.1
theorem VilAt.bC (a : VilAt h k v) {i : Nat} (hi : i < 8) : fits .boolean (.int (vF v 6 i)) = true := a.2.2.2.2.2.2.2.2.2.2.2.2.2.2.2 i hi
end VA
/-- a number of so many -/
def inR (x : Int32) (n : Nat) : Bool := decide (0 ≤ x.toInt ∧ x.toInt < n)
theorem inR_neg {x : Int32} {n : Nat} (h : x < 0) : inR x n = false := by
  rw [Int32.lt_iff_toInt_lt] at h
  have : (0 : Int32).toInt = 0 := by decide
  simp only [inR, decide_eq_false_iff_not]; omega
theorem inR_big {x : Int32} {n : Nat} (hn : n < 2 ^ 31) (h : nI n ≤ x) : inR x n = false := by
  rw [Int32.le_iff_toInt_le, nI_toInt hn] at h
  simp only [inR, decide_eq_false_iff_not]; omega
theorem inR_ok {x : Int32} {n : Nat} (hn : n < 2 ^ 31) (h0 : ¬ x < 0) (h : ¬ nI n ≤ x) : inR x n = true := by
  rw [Int32.lt_iff_toInt_lt] at h0
  rw [Int32.le_iff_toInt_le, nI_toInt hn] at h
  have : (0 : Int32).toInt = 0 := by decide
  simp only [inR, decide_eq_true_eq]; omega
theorem inR_nI {j n : Nat} (hj : j < 2 ^ 31) : inR (nI j) n = decide (j < n) := by
  simp only [inR, nI_toInt hj, decide_eq_decide]; omega
/-- a number is one of so many, or not -/
theorem inR_c (x : Int32) {n : Nat} (hn : n < 2 ^ 31) : (∃ j : Nat, j < n ∧ x = nI j ∧ inR x n = true) ∨ inR x n = false := by
  by_cases h0 : x < 0
  · exact Or.inr (inR_neg h0)
  · by_cases h1 : nI n ≤ x
    · exact Or.inr (inR_big hn h1)
    · obtain ⟨j, hj, rfl⟩ := nI_of h0
      have : inR (nI j) n = true := inR_ok hn h0 h1
      refine Or.inl ⟨j, ?_, rfl, this⟩
      rw [inR_nI hj] at this
      exact of_decide_eq_true this
/-- the set of those of n that are so, as bits -/
def bset (p : Nat → Bool) : Nat → Int32
  | 0 => nI 0
  | n + 1 => if p n then bset p n ||| (nI 1 <<< (nI n &&& 31)) else bset p n
def cnt (p : Nat → Bool) : Nat → Nat
  | 0 => 0
  | n + 1 => if p n then cnt p n + 1 else cnt p n
def sumIf (p : Nat → Bool) (f : Nat → Int32) : Nat → Int32
  | 0 => nI 0
  | n + 1 => if p n then sumIf p f n + f n else sumIf p f n
/-- the set has one -/
def inB (s o : Int32) : Bool := decide (¬ o = -1) && decide (¬ s &&& (nI 1 <<< (o &&& 31)) = 0)
/-- pieces of one among the first n parts -/
def pcs (v : Vg) (o : Int32) : Nat → Nat
  | 0 => 0
  | n + 1 => pcs v o n + (if vF v 0 n = o then 1 else 0) + (if vF v 1 n = o then 1 else 0)
theorem pcs_le (v : Vg) (o : Int32) : ∀ n, pcs v o n ≤ 2 * n
  | 0 => Nat.le_refl _
  | n + 1 => by
    have := pcs_le v o n
    simp only [pcs]
    split <;> split <;> omega
def full (n : Nat) : Int32 := nI (2 ^ n - 1)
theorem full_sh {n : Nat} (h : n ≤ 12) : (nI 1 <<< (nI n &&& 31)) - nI 1 = full n := by
  have key : ∀ m : Fin 13, (nI 1 <<< (nI m &&& 31)) - nI 1 = full m := by decide +kernel
  exact key ⟨n, by omega⟩
/-- the parts that a set of people has; of which it has both pieces; that one has -/
def hasP (v : Vg) (s : Int32) : Int32 := bset (fun p => inB s (vF v 0 p) || inB s (vF v 1 p)) (vP v)
def dblP (v : Vg) (s : Int32) : Int32 := bset (fun p => inB s (vF v 0 p) && inB s (vF v 1 p)) (vP v)
def ownP (v : Vg) (o : Int32) : Int32 := bset (fun p => decide (vF v 0 p = o) || decide (vF v 1 p = o)) (vP v)
def crs (v : Vg) : Int32 := bset (fun o => decide (¬ vF v 6 o = 0)) (vN v)
def needW (v : Vg) (ps : Int32) (m : Nat) : Bool := decide (vF v 2 m &&& (ps ^^^ -1) = 0)
def macW (v : Vg) (ps : Int32) : Int32 := bset (needW v ps) (vM v)
def hasRm (v : Vg) (o : Int32) : Bool := inR o (vN v) && decide (nI (pcs v o (vP v)) < vF v 4 o.toNatClampNeg)
/-- sets of n, as bits -/
theorem sub_full {x : Int32} {n : Nat} (h : n ≤ 12) : (x &&& (full n ^^^ -1) = 0) ↔ inR x (2 ^ n) = true := by
  have h12 : 2 ^ n ≤ 2 ^ 12 := Nat.pow_le_pow_right (by omega) h
  have fb : ∀ i, i < 32 → (full n).toBitVec.getLsbD i = decide (i < n) := fun i hi => by
    show (BitVec.ofNat 32 (2 ^ n - 1)).getLsbD i = _
    rw [BitVec.getLsbD_ofNat, Nat.testBit_two_pow_sub_one]; simp [hi]
  have mb : ∀ i, i < 32 → (-1 : Int32).toBitVec.getLsbD i = true := by decide +kernel
  have e1 : (x &&& (full n ^^^ -1) = 0) ↔ ∀ i, n ≤ i → x.toBitVec.toNat.testBit i = false := by
    constructor
    · intro q i hi
      by_cases h32 : i < 32
      · have q2 := congrArg (fun y : Int32 => y.toBitVec.getLsbD i) q
        simp only [Int32.toBitVec_and, Int32.toBitVec_xor, BitVec.getLsbD_and, BitVec.getLsbD_xor, fb i h32, mb i h32] at q2
        have : decide (i < n) = false := decide_eq_false (by omega)
        rw [this] at q2
        have z : (0 : Int32).toBitVec.getLsbD i = false := BitVec.getLsbD_zero
        rw [z] at q2
        have g : x.toBitVec.getLsbD i = false := by simpa using q2
        exact g
      · exact Nat.testBit_lt_two_pow (Nat.lt_of_lt_of_le x.toBitVec.isLt (Nat.pow_le_pow_right (by omega) (by omega)))
    · intro q
      apply Int32.toBitVec_inj.mp
      apply BitVec.eq_of_getLsbD_eq
      intro i hi
      rw [Int32.toBitVec_and, Int32.toBitVec_xor, BitVec.getLsbD_and, BitVec.getLsbD_xor, fb i hi, mb i hi]
      have z : (0 : Int32).toBitVec.getLsbD i = false := BitVec.getLsbD_zero
      rw [z]
      by_cases hn : i < n
      · simp [hn]
      · have := q i (by omega)
        have g : x.toBitVec.getLsbD i = false := this
        rw [g]; rfl
  rw [e1]
  have e2 : (∀ i, n ≤ i → x.toBitVec.toNat.testBit i = false) ↔ x.toBitVec.toNat < 2 ^ n := by
    constructor
    · intro q; exact Nat.lt_pow_two_of_testBit _ (fun i hi => q i hi)
    · intro q i hi; exact Nat.testBit_lt_two_pow (Nat.lt_of_lt_of_le q (Nat.pow_le_pow_right (by omega) hi))
  rw [e2]
  have e3 : x.toInt = if 2 * x.toBitVec.toNat < 2 ^ 32 then (x.toBitVec.toNat : Int) else x.toBitVec.toNat - ((2 ^ 32 : Nat) : Int) := BitVec.toInt_eq_toNat_cond x.toBitVec
  have hl := x.toBitVec.isLt
  unfold inR
  rw [decide_eq_true_iff]
  constructor
  · intro q
    rw [e3, if_pos (by omega)]; omega
  · intro ⟨q1, q2⟩
    rw [e3] at q1 q2
    split at q1
    · rw [if_pos (by assumption)] at q2; omega
    · omega
def worthS (v : Vg) (ps : Int32) : Int32 := sumIf (needW v ps) (fun m => vF v 3 m) (vM v)
def touch (v : Vg) (ps : Int32) : Nat := cnt (fun m => decide (¬ vF v 2 m &&& ps = 0)) (vM v)
def wkW (v : Vg) (m ps : Int32) : Bool := inR m (vM v) && needW v ps m.toNatClampNeg
def pairV (v : Vg) (m o : Int32) : Bool := inR m (vM v) && inR o (vM v) && decide (¬ m = o)
def bothW (v : Vg) (m o : Nat) (s : Int32) : Bool := decide ((vF v 2 m ||| vF v 2 o) &&& (hasP v s ^^^ -1) = 0) && decide (vF v 2 m &&& vF v 2 o &&& (dblP v s ^^^ -1) = 0)

