/-! PART 57b: answers that both give by the same function -/
theorem z_bt {x : Int32} : x = 0 ↔ ∀ i, i < 32 → bt x i = false := by
  constructor
  · intro e i _; rw [e]; exact bt_0 i
  · intro h; exact bt_ext (fun i hi => by rw [h i hi]; exact (bt_0 i).symm)
theorem bt_cm (x : Int32) {i : Nat} (hi : i < 32) : bt (x ^^^ -1) i = !bt x i := by
  have e : bt (-1) i = true := by
    have t : ∀ i : Fin 32, bt (-1) i.val = true := by decide +kernel
    exact t ⟨i, hi⟩
  rw [bt_xor, e, Bool.xor_true]
theorem all_iff {p : Nat → Bool} : ∀ n, allF p n = true ↔ ∀ i, i < n → p i = true
  | 0 => ⟨fun _ i hi => absurd hi (by omega), fun _ => rfl⟩
  | n + 1 => by
    simp only [allF, Bool.and_eq_true]
    rw [all_iff n]
    exact ⟨fun ⟨a, b⟩ i hi => by
      by_cases e : i = n
      · rw [e]; exact b
      · exact a i (by omega), fun h => ⟨fun i hi => h i (by omega), h n (by omega)⟩⟩
theorem nd_hi {v : Vg} (ok : VOk v) {m i : Nat} (hm : m < vM v) (hi : i < 32) (h : vP v ≤ i) : bt (vF v 2 m) i = false := by
  obtain ⟨S, _, s2, e⟩ := ok.2.2.2.2.2.2.1 m hm
  rw [e, bt_nI _ hi]
  exact Nat.testBit_lt_two_pow (Nat.lt_of_lt_of_le s2 (Nat.pow_le_pow_right (by omega) h))
theorem VOk.ho {v : Vg} (ok : VOk v) : HOk v := fun c hc i hi => by
  have : c = 0 ∨ c = 1 := by omega
  rcases this with rfl | rfl
  · exact ok.2.2.2.2.1 i hi
  · exact ok.2.2.2.2.2.1 i hi
theorem nl {a : Nat} (h : a < 2 ^ 31) : (nI a).toInt64 = Int64.ofNat a := by
  apply Int64.toInt_inj.mp
  rw [Int32.toInt_toInt64, nI_toInt h, Int64.toInt_ofNat_of_lt (by omega)]
theorem fac_eq {v : Vg} (ok : VOk v) {o s : Nat} (ho : o < vN v) : (fac v o (s.testBit o)).toInt64 = facR v (nI s) o ∧ ∃ K, K ≤ 10 ∧ facR v (nI s) o = Int64.ofNat K := by
  have hN := ok.2.2.2.2.2.2.2.2.2
  obtain ⟨A, hA, eA⟩ := ok.2.1 o ho
  unfold fac facR
  rw [inB_N (show o < 32 by omega)]
  rcases ok.2.2.2.1 o ho with e | e
  · rw [e, if_pos (show nI 0 = 0 from rfl), if_neg (show ¬ nI 0 = nI 1 by decide), eA]
    cases s.testBit o
    · exact ⟨rfl, A, hA, nl (by omega)⟩
    · refine ⟨rfl, 10 - A, by omega, ?_⟩
      show (nI 10 - nI A).toInt64 = _
      rw [pk_sub hA, nl (by omega)]
  · rw [e, if_neg (show ¬ nI 1 = 0 by decide), if_pos rfl]
    cases s.testBit o
    · exact ⟨by decide, 10, by omega, rfl⟩
    · exact ⟨by decide, 0, by omega, rfl⟩
theorem wgt_eq {v : Vg} (ok : VOk v) {s : Nat} : ∀ n, n ≤ vN v → wgt v s n = prodL (facR v (nI s)) n ∧ ∃ K, K ≤ 10 ^ n ∧ prodL (facR v (nI s)) n = Int64.ofNat K
  | 0, _ => ⟨rfl, 1, Nat.le_refl _, rfl⟩
  | n + 1, h => by
    obtain ⟨i1, K, k1, k2⟩ := wgt_eq ok (s := s) n (by omega)
    obtain ⟨f1, J, j1, j2⟩ := fac_eq ok (s := s) (show n < vN v by omega)
    simp only [wgt, prodL]
    refine ⟨by rw [i1, f1], K * J, by rw [Nat.pow_succ]; exact Nat.mul_le_mul k1 j1, by rw [k2, j2, Int64.ofNat_mul]⟩
theorem sumL_c {f g : Nat → Int64} : ∀ n, (∀ s, s < n → f s = g s) → sumL f n = sumL g n
  | 0, _ => rfl
  | n + 1, h => by simp only [sumL]; rw [sumL_c n (fun s hs => h s (by omega)), h n (by omega)]
theorem wor_eq {v : Vg} (ok : VOk v) (H : Int32) : ∀ n, n ≤ vM v → ∃ K, K ≤ 99 * n ∧ sumIf (needW v H) (fun m => vF v 3 m) n = nI K ∧ sumL (fun m => if needW v H m = true then (vF v 3 m).toInt64 else 0) n = (nI K).toInt64
  | 0, _ => ⟨0, Nat.le_refl _, rfl, rfl⟩
  | n + 1, h => by
    have hM := ok.2.2.2.2.2.2.2.2.1
    obtain ⟨K, k1, k2, k3⟩ := wor_eq ok H n (by omega)
    obtain ⟨W, w1, w2, e⟩ := ok.2.2.1 n (by omega)
    simp only [sumIf, sumL]
    rw [k2, k3]
    by_cases c : needW v H n = true
    · rw [if_pos c, if_pos c, e]
      refine ⟨K + W, by omega, nI_add _ _, ?_⟩
      rw [nl (by omega), nl (by omega), nl (by omega), Int64.ofNat_add]
    · rw [if_neg c, if_neg c, Int64.add_zero]
      exact ⟨K, by omega, rfl, rfl⟩
theorem dyM_s {v : Vg} {od : Int64} {H : Int32} : ∀ n, sumL (dyM v od H) n = sumL (fun m => if needW v H m = true then (vF v 3 m).toInt64 else 0) n * od
  | 0 => by simp [sumL]
  | n + 1 => by
    simp only [sumL]
    rw [dyM_s n, Int64.add_mul]
    congr 1
    unfold dyM needW
    by_cases c : vF v 2 n &&& (H ^^^ -1) = 0
    · rw [if_pos c, if_pos (decide_eq_true c)]
    · rw [if_neg c, if_neg (fun z => c (of_decide_eq_true z)), Int64.zero_mul]
theorem day_eq {v : Vg} (ok : VOk v) : sumL (dyF v) (2 ^ vN v) = dayC v := by
  have hN := ok.2.2.2.2.2.2.2.2.2
  have hP := ok.2.2.2.2.2.2.2.1
  unfold dayC
  refine sumL_c _ (fun s hs => ?_)
  rw [gat_has hP hN ok.ho hs, (wgt_eq ok (s := s) _ (Nat.le_refl _)).1]
  obtain ⟨K, k1, k2, k3⟩ := wor_eq ok (hasP v (nI s)) (vM v) (Nat.le_refl _)
  have ew : (worthS v (hasP v (nI s))).toInt64 = sumL (fun m => if needW v (hasP v (nI s)) m = true then (vF v 3 m).toInt64 else 0) (vM v) := by
    unfold worthS
    rw [k2, k3]
  rw [ew]
  obtain ⟨J, j1, j2⟩ := (wgt_eq ok (s := s) _ (Nat.le_refl _)).2
  by_cases c : 0 < prodL (facR v (nI s)) (vN v)
  · rw [dyF_1 c, dyM_s, Int64.mul_comm]
  · rw [dyF_0 c]
    have : J = 0 := by
      rcases Nat.eq_zero_or_pos J with z | z
      · exact z
      · exfalso
        apply c
        have h8 : 10 ^ vN v ≤ 10 ^ 8 := Nat.pow_le_pow_right (by omega) hN
        rw [j2, Int64.lt_iff_toInt_lt, Int64.toInt_ofNat_of_lt (by omega)]
        show (0 : Int64).toInt < _
        rw [show (0 : Int64).toInt = 0 from rfl]; omega
    rw [j2, this]
    show 0 = Int64.ofNat 0 * _
    rw [show Int64.ofNat 0 = 0 from rfl, Int64.zero_mul]

