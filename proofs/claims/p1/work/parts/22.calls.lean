/-! PART 22: the class: what it answers to calls -/
/-- rows, holdings: what is answered, what the shelves hold then -/
def rowB9 (s t n : Int32) : Bool := inR s 8 && (inR t 5 && inR n 41)
def rowA (s t n : Int32) : Int32 := if rowB9 s t n = true then nI 1 else -2
def rowG (g : Sg) (s t n : Int32) : Sg := if rowB9 s t n = true then pRow g s.toNatClampNeg t n.toNatClampNeg else g
def setB (g : Sg) (s i : Int32) : Bool := inR s 8 && (decide (rfV g s = 0) && (decide (¬ i < 0) && decide (i < szV g s)))
def setA (g : Sg) (s i : Int32) : Int32 := if inR s 8 = true then (if rfV g s = 0 then (if setB g s i = true then nI 1 else -2) else rfV g s) else -2
def setG (g : Sg) (s i : Int32) (x : Int64) : Sg := if setB g s i = true then pEl g s.toNatClampNeg i x else g
def hldB (s k a : Int32) : Bool := inR s 8 && (decide (¬ k < nI 1 ∧ ¬ nI 5 < k) && inR a 100)
def hldA (s k a : Int32) : Int32 := if hldB s k a = true then nI 1 else -2
def hldG (g : Sg) (s k a : Int32) : Sg := if hldB s k a = true then pHold g s.toNatClampNeg k.toNatClampNeg a.toNatClampNeg else g
def feedA (z : Nat) (n : Int32) : Int32 := if n < nI 1 then -2 else if nI 4 < n then -2 else if z + n.toNatClampNeg ≤ 250 then nI (z + n.toNatClampNeg) else -6
def feedZ (z : Nat) (n : Int32) : Nat := if n < nI 1 then z else if nI 4 < n then z else if z + n.toNatClampNeg ≤ 250 then z + n.toNatClampNeg else z
theorem clN {j : Nat} (h : j < 2 ^ 31) : (nI j).toNatClampNeg = j := nI_clamp h
theorem inN {j n : Nat} (h : j < 2 ^ 31) (h2 : j < n) : inR (nI j) n = true := by rw [inR_nI h]; exact decide_eq_true h2
theorem pair_ex {v : Vg} {x y : Int32} (h : pairV v x y = true) (hb : vM v ≤ 6 := by assumption) : ∃ m, m < vM v ∧ ∃ n, n < vM v ∧ m ≠ n ∧ x = nI m ∧ y = nI n := by
  unfold pairV at h
  simp only [Bool.and_eq_true, decide_eq_true_eq] at h
  obtain ⟨⟨h1, h2⟩, h3⟩ := h
  obtain ⟨m, hm, rfl⟩ := inR_ex (by omega) h1
  obtain ⟨n, hn, rfl⟩ := inR_ex (by omega) h2
  exact ⟨m, hm, n, hn, fun q => h3 (by rw [q]), rfl, rfl⟩
theorem big_no {v : Vg} (h : bigB v = false) : vN v ≤ 4 ∧ vP v ≤ 6 := by
  unfold bigB at h
  simp only [Bool.or_eq_false_iff, decide_eq_false_iff_not] at h
  omega
theorem hf_hold {g : Sg} {x : Int32} (h : hfV g x = 0) : holdB g x = true := by
  unfold hfV rowB at h
  rcases Bool.eq_false_or_eq_true (holdB g x) with q | q
  · exact q
  · exfalso
    rw [q] at h
    rcases Bool.eq_false_or_eq_true (bareB g x) with p | p
    · rw [p] at h; exact absurd h (by decide)
    · rw [p] at h; exact absurd h (by decide)
theorem sz_nat {g : Sg} (a : GOk g) (x : Int32) : ∃ z, z ≤ 40 ∧ szV g x = nI z := by
  unfold szV
  split
  · next c =>
    obtain ⟨j, hj, e⟩ := inR_ex (by omega) (a.1 _ (inR_at (by omega) (row_in c)).2)
    exact ⟨j, by omega, e⟩
  · exact ⟨0, by omega, rfl⟩
theorem cp_le {x : Int32} {z i n : Nat} (e : x = nI z) (hz : z ≤ 40) (hi : i < 2 ^ 31) (hn : n < 2 ^ 31) (c : nI i ≤ x - nI n) : i + n ≤ z := by
  subst e
  rw [Int32.le_iff_toInt_le, nI_toInt hi] at c
  have e2 : (nI z - nI n).toInt = (z : Int) - n := by
    rw [Int32.toInt_sub, nI_toInt (by omega), nI_toInt hn]
    exact Int.bmod_eq_of_le (by omega) (by omega)
  rw [e2] at c; omega
theorem not_row {g : Sg} {x : Int32} (h1 : bareB g x = false) (h2 : holdB g x = false) : rowB g x = true := by unfold rowB; rw [h1, h2]; rfl
def cpOk (g : Sg) (p q i j n : Int32) : Bool := decide (¬ n < 0) && (decide (¬ i < 0) && (decide (¬ j < 0) && (decide (i ≤ szV g p - n) && decide (j ≤ szV g q - n))))
def copF (g : Sg) (p q i j n : Int32) : Int32 := if (inR p 8 && inR q 8) = true then (if (holdB g p || holdB g q) = true then -3 else if (bareB g p || bareB g q) = true then -4 else if tOn g p = tOn g q then (if cpOk g p q i j n = true then 0 else -2) else -3) else -2
def copA (g : Sg) (p q i j n : Int32) : Int32 := if copF g p q i j n = 0 then n else copF g p q i j n
def copG (g : Sg) (p q i j n : Int32) : Sg := if copF g p q i j n = 0 then pCp g p.toNatClampNeg q.toNatClampNeg i.toNatClampNeg j.toNatClampNeg n.toNatClampNeg else g
def backA (κ : Int32) : Int32 := if κ = 0 then -5 else nI 1
theorem wgt_c {u v : Vg} (h5 : ∀ i, vF u 5 i = vF v 5 i) (h6 : ∀ i, vF u 6 i = vF v 6 i) (s : Nat) : ∀ n, wgt u s n = wgt v s n
  | 0 => rfl
  | n + 1 => by simp only [wgt, wgt_c h5 h6 s n, fac, h5, h6]
theorem c_allPs {l : Launch} {h : Hp} {k S : Nat} {v : Vg} (hv : VilAt h k v) (hS : S = 2 ^ vP v) : Mp l yX5_allParts cX5_allParts 1 (some .int) 1 [vr 5 k] h (vi (nI (S - 1))) := by subst hS; exact c_X5_allParts hv
theorem pow12 {n : Nat} (h : n ≤ 12) : 1 ≤ 2 ^ n ∧ 2 ^ n ≤ 4096 := ⟨Nat.one_le_two_pow, Nat.le_trans (Nat.pow_le_pow_right (by omega) h) (by decide)⟩
