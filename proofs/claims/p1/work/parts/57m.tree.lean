/-! PART 57m: the search for the best: both ways through all holders -/
/-- how many of the first parts one holds; the room that is left -/
def cnF (f : Nat → Int32) (o : Nat) : Nat → Nat
  | 0 => 0
  | i + 1 => cnF f o i + (if f i = nI o then 1 else 0)
def rmV (v : Vg) (f : Nat → Int32) (j o : Nat) : Int32 := vF v 4 o - nI (cnF f o j)
def trL (v : Vg) (K : (Nat → Int32) → Int64 × (Nat → Int32) → Int64 × (Nat → Int32)) (j : Nat) (f : Nat → Int32) (a : Int64 × (Nat → Int32)) : Nat → Int64 × (Nat → Int32)
  | 0 => K (sf f j (-1)) a
  | o + 1 => if hasRm (hldV v (sf f j (-1))) (nI o) = true then K (sf f j (nI o)) (trL v K j f a o) else trL v K j f a o
def trS (v : Vg) : Nat → Nat → (Nat → Int32) → Int64 × (Nat → Int32) → Int64 × (Nat → Int32)
  | 0, _, f, a => if dyR (hldV v f) ≤ a.1 then a else (dyR (hldV v f), f)
  | n + 1, j, f, a => trL v (fun f' a' => trS v n (j + 1) f' a') j f a (vN v)
def tcL (v : Vg) (K : (Nat → Int32) → Int64 × (Nat → Int32) → Int64 × (Nat → Int32)) (j : Nat) (f : Nat → Int32) (a : Int64 × (Nat → Int32)) : Nat → Int64 × (Nat → Int32)
  | 0 => K (sf f j (-1)) a
  | o + 1 => if rmV v f j o ≤ 0 then tcL v K j f a o else K (sf f j (nI o)) (tcL v K j f a o)
def tcS (v : Vg) : Nat → Nat → (Nat → Int32) → Int64 × (Nat → Int32) → Int64 × (Nat → Int32)
  | 0, _, f, a => if wghV v f ≤ a.1 then a else (wghV v f, f)
  | n + 1, j, f, a => tcL v (fun f' a' => tcS v n (j + 1) f' a') j f a (vN v)
theorem sf_x {f : Nat → Int32} {i : Nat} {x : Int32} : sf f i x i = x := if_pos rfl
theorem sf_n {f : Nat → Int32} {i k : Nat} {x : Int32} (h : ¬ k = i) : sf f i x k = f k := if_neg h
theorem sf_two (f : Nat → Int32) (j : Nat) (x y : Int32) : sf (sf f j x) j y = sf f j y := by
  funext i
  by_cases h : i = j
  · subst h; rw [sf_x, sf_x]
  · rw [sf_n h, sf_n h, sf_n h]
theorem sf_i9 {f : Nat → Int32} {j : Nat} {x : Int32} (h : f j = x) : sf f j x = f := by
  funext i
  by_cases e : i = j
  · subst e; rw [sf_x, h]
  · rw [sf_n e]
theorem hld_st {v : Vg} {f : Nat → Int32} {j : Nat} {x : Int32} : vset (hldV v f) 0 j x = hldV v (sf f j x) := vset_col
theorem cnF_sf {f : Nat → Int32} {o j : Nat} {x : Int32} : ∀ n, n ≤ j → cnF (sf f j x) o n = cnF f o n
  | 0, _ => rfl
  | n + 1, h => by
    simp only [cnF]
    rw [cnF_sf n (by omega), sf_n (show ¬ n = j by omega)]
theorem cnF_le (f : Nat → Int32) (o : Nat) : ∀ n, cnF f o n ≤ n
  | 0 => Nat.le_refl _
  | n + 1 => by
    have := cnF_le f o n
    simp only [cnF]
    split <;> omega
theorem cnF_up {f : Nat → Int32} {o j : Nat} (ho : o < 2 ^ 31) : ∀ d, (∀ i, j ≤ i → i < j + d → f i = -1) → cnF f o (j + d) = cnF f o j
  | 0, _ => rfl
  | d + 1, h => by
    show cnF f o ((j + d) + 1) = _
    simp only [cnF]
    rw [cnF_up ho d (fun i h1 h2 => h i h1 (by omega)), h (j + d) (by omega) (by omega), if_neg (fun q => nI_nm1 ho q.symm), Nat.add_zero]
theorem pcs_hld {v : Vg} {f : Nat → Int32} {o : Nat} (ho : o < 2 ^ 31) : ∀ n, n ≤ vP v → pcs (hldV v f) (nI o) n = cnF f o n
  | 0, _ => rfl
  | n + 1, h => by
    simp only [pcs, cnF]
    rw [pcs_hld ho n (by omega), hld_0, hld_1 v f (show n < vP v by omega), if_neg (show ¬ (-1 : Int32) = nI o from fun q => nI_nm1 ho q.symm), Nat.add_zero]
theorem room_eq {v : Vg} (ok : VOk v) {f : Nat → Int32} {j o : Nat} (hj : j < vP v) (ho : o < vN v) (fn : ∀ i, j ≤ i → i < vP v → f i = -1) : hasRm (hldV v (sf f j (-1))) (nI o) = true ↔ ¬ rmV v f j o ≤ 0 := by
  have hP := ok.2.2.2.2.2.2.2.1
  have hN := ok.2.2.2.2.2.2.2.2.2
  have e0 : sf f j (-1) = f := sf_i9 (fn j (Nat.le_refl _) hj)
  rw [e0]
  obtain ⟨H, hH, eH⟩ := ok.1 o ho
  have ep : pcs (hldV v f) (nI o) (vP (hldV v f)) = cnF f o j := by
    show pcs (hldV v f) (nI o) (vP v) = _
    rw [pcs_hld (by omega) _ (Nat.le_refl _), show vP v = j + (vP v - j) by omega, cnF_up (by omega) _ (fun i h1 h2 => fn i h1 (by omega))]
  have lc := cnF_le f o j
  unfold hasRm rmV
  rw [ep, show vN (hldV v f) = vN v from rfl, inN (show o < 2 ^ 31 by omega) ho, clN (show o < 2 ^ 31 by omega), hld_c v f (by omega) o, eH, Bool.true_and, decide_eq_true_eq]
  have key : ∀ c : Fin 13, ∀ H : Fin 10, (nI c.val < nI H.val) ↔ ¬ (nI H.val - nI c.val ≤ 0) := by decide +kernel
  exact key ⟨cnF f o j, by omega⟩ ⟨H, by omega⟩
def AcR (v : Vg) (a b : Int64 × (Nat → Int32)) : Prop := a.1 = b.1 ∧ (a.1 = -1 ∨ ∀ i, i < vP v → a.2 i = b.2 i)
theorem fok_sf {v : Vg} {f : Nat → Int32} {j : Nat} {x : Int32} (hf : FOk v f) (hx : x = -1 ∨ ∃ o, o < vN v ∧ x = nI o) : FOk v (sf f j x) := fun p hp => by
  by_cases e : p = j
  · subst e; rw [sf_x]; exact hx
  · rw [sf_n e]; exact hf p hp
theorem tr_eq {v : Vg} (ok : VOk v) (h4 : vN v ≤ 4) : ∀ (n j : Nat) (f : Nat → Int32) (a b : Int64 × (Nat → Int32)), j + n = vP v → FOk v f → (∀ i, j ≤ i → i < vP v → f i = -1) → AcR v a b → AcR v (trS v n j f a) (tcS v n j f b)
  | 0, j, f, a, b, _, hf, _, r => by
    simp only [trS, tcS]
    rw [dy_eq (ok_hld ok hf), leaf_eq ok h4 hf, ← r.1]
    by_cases c : wghV v f ≤ a.1
    · rw [if_pos c, if_pos c]; exact r
    · rw [if_neg c, if_neg c]; exact ⟨rfl, Or.inr (fun i _ => rfl)⟩
  | n + 1, j, f, a, b, hj, hf, fn, r => by
    have hN := ok.2.2.2.2.2.2.2.2.2
    have fn' : ∀ x, ∀ i, j + 1 ≤ i → i < vP v → sf f j x i = -1 := fun x i h1 h2 => by rw [sf_n (by omega)]; exact fn i (by omega) h2
    have key : ∀ o, o ≤ vN v → AcR v (trL v (fun f' a' => trS v n (j + 1) f' a') j f a o) (tcL v (fun f' a' => tcS v n (j + 1) f' a') j f b o) := by
      intro o
      induction o with
      | zero => exact fun _ => tr_eq ok h4 n (j + 1) _ _ _ (by omega) (fok_sf hf (Or.inl rfl)) (fn' _) r
      | succ o ih =>
        intro h
        have i0 := ih (by omega)
        simp only [trL, tcL]
        by_cases c : rmV v f j o ≤ 0
        · rw [if_pos c, if_neg (fun q => (room_eq ok (by omega) (by omega) fn).mp q c)]; exact i0
        · rw [if_neg c, if_pos ((room_eq ok (by omega) (by omega) fn).mpr c)]
          exact tr_eq ok h4 n (j + 1) _ _ _ (by omega) (fok_sf hf (Or.inr ⟨o, by omega, rfl⟩)) (fn' _) i0
    exact key _ (Nat.le_refl _)
theorem tr_pos {v : Vg} (ok : VOk v) : ∀ (n j : Nat) (f : Nat → Int32) (a : Int64 × (Nat → Int32)), j + n = vP v → FOk v f → (a.1 = -1 ∨ 0 ≤ a.1) → 0 ≤ (trS v n j f a).1
  | 0, j, f, a, _, hf, h => by
    have d : 0 ≤ dyR (hldV v f) := by
      rw [dy_eq (ok_hld ok hf)]
      obtain ⟨K, k1, k2⟩ := day_n (ok_hld ok hf)
      rw [k2, Int64.le_iff_toInt_le, Int64.toInt_ofNat_of_lt (by omega), show (0 : Int64).toInt = 0 by decide]
      omega
    simp only [trS]
    by_cases c : dyR (hldV v f) ≤ a.1
    · rw [if_pos c]; exact Int64.le_trans d c
    · rw [if_neg c]; exact d
  | n + 1, j, f, a, hj, hf, h => by
    have key : ∀ o, o ≤ vN v → 0 ≤ (trL v (fun f' a' => trS v n (j + 1) f' a') j f a o).1 := by
      intro o
      induction o with
      | zero => exact fun _ => tr_pos ok n (j + 1) _ _ (by omega) (fok_sf hf (Or.inl rfl)) h
      | succ o ih =>
        intro h2
        have i0 := ih (by omega)
        simp only [trL]
        split
        · exact tr_pos ok n (j + 1) _ _ (by omega) (fok_sf hf (Or.inr ⟨o, by omega, rfl⟩)) (Or.inr i0)
        · exact i0
    exact key _ (Nat.le_refl _)
/-- nobody holds anything -/
def noF (v : Vg) : Nat → Int32 := vF (clr v (vP v)) 0
theorem noF_e {v : Vg} {i : Nat} (hi : i < vP v) : noF v i = -1 := if_pos ⟨by decide, hi⟩
theorem noF_ok (v : Vg) : FOk v (noF v) := fun p hp => Or.inl (noF_e hp)
theorem hld_no (v : Vg) : hldV v (noF v) = clr v (vP v) := vcol_id
theorem best_eq {v : Vg} (ok : VOk v) (h4 : vN v ≤ 4) (g1 g2 : Nat → Int32) : (trS v (vP v) 0 (noF v) (-1, g1)).1 = (tcS v (vP v) 0 (noF v) (-1, g2)).1 ∧ ∀ i, i < vP v → (trS v (vP v) 0 (noF v) (-1, g1)).2 i = (tcS v (vP v) 0 (noF v) (-1, g2)).2 i := by
  have r := tr_eq ok h4 (vP v) 0 (noF v) (-1, g1) (-1, g2) (Nat.zero_add _) (noF_ok v) (fun i _ hi => noF_e hi) ⟨rfl, Or.inl rfl⟩
  have p := tr_pos ok (vP v) 0 (noF v) (-1, g1) (Nat.zero_add _) (noF_ok v) (Or.inl rfl)
  refine ⟨r.1, ?_⟩
  rcases r.2 with z | z
  · rw [z] at p; exact absurd p (by decide)
  · exact z

