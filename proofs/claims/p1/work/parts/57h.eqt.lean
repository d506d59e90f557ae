/-! PART 57h: the same answers, third part -/
theorem dy_eq {v : Vg} (ok : VOk v) : dyR v = dayC v := day_eq ok
theorem har_n {v : Vg} (ok : VOk v) : ∀ n, haR v n = hsC v n
  | 0 => rfl
  | n + 1 => by
    have e : dyR (vset v 6 n (nI 1)) = dayC (vset v 6 n (vp_nar .boolean (nI 1))) := by
      rw [show vp_nar .boolean (nI 1) = nI 1 from vpn_b true]
      exact dy_eq (ok_c6 ok (Or.inr rfl))
    simp only [haR, hsC]
    rw [har_n ok n, e]
theorem har_eq {v : Vg} (ok : VOk v) : harR v = harA v := by
  unfold harR harA
  rw [har_n ok]
theorem spa_q {v : Vg} (ok : VOk v) {x : Int32 × Int64} {p : Nat} (h1 : vF v 1 p = -1) : ∀ n, n ≤ vN v → spI v x p n = spJ v x p n
  | 0, _ => rfl
  | n + 1, h => by
    have e : dyR (vset v 1 p (nI n)) = dayC (vset v 1 p (nI n)) := dy_eq (ok_hold ok (Or.inr rfl) (Or.inr ⟨n, by omega, rfl⟩))
    simp only [spI, spJ]
    rw [spa_q ok h1 n (by omega), e]
    by_cases c : ¬ nI n = vF v 0 p ∧ hasRm v (nI n) = true ∧ ¬ dayC (vset v 1 p (nI n)) ≤ (spJ v x p n).2
    · rw [if_pos c, if_pos ⟨h1, c⟩]
    · rw [if_neg c, if_neg (fun z => c z.2)]
theorem spa_n {v : Vg} (ok : VOk v) : ∀ n, spO v n = spP v n
  | 0 => by simp only [spO, spP]; rw [dy_eq ok]
  | n + 1 => by
    simp only [spO, spP]
    rw [spa_n ok n]
    by_cases c : vF v 1 n = -1
    · rw [if_pos c, spa_q ok c _ (Nat.le_refl _)]
    · rw [if_neg c, spI_no c]
theorem spa_eq {v : Vg} (ok : VOk v) : spaR v = spaA v := by
  unfold spaR spaA
  rw [spa_n ok]
theorem gif_eq {v : Vg} (ok : VOk v) (p o : Int32) : gifR v p o = gifA v p o := by
  have hN := ok.2.2.2.2.2.2.2.2.2
  unfold gifR gifA
  by_cases c : (inR p (vP v) && inR o (vN v)) = true
  · rw [if_pos c, if_pos c]
    simp only [Bool.and_eq_true] at c
    obtain ⟨b, hb, rfl⟩ := inR_ex (by omega) c.2
    rw [dy_eq ok, dy_eq (ok_hold ok (Or.inl rfl) (Or.inr ⟨b, hb, rfl⟩))]
  · rw [if_neg c, if_neg c]
theorem ok_hand {v : Vg} (ok : VOk v) (a : Int32) {b : Int32} {n : Nat} (hb : ∃ o, o < vN v ∧ b = nI o) : VOk (handV v a b n) := by
  obtain ⟨a1, a2, a3, a4, a5, a6, a7, b1, b2, b3⟩ := ok
  have e : ∀ c i, 2 ≤ c → vF (handV v a b n) c i = vF v c i := fun c i h2 => if_neg (fun z => by omega)
  have e2 : ∀ c i, vF (handV v a b n) c i = b ∨ vF (handV v a b n) c i = vF v c i := fun c i => by
    show (if c < 2 ∧ i < n ∧ vF v c i = a then b else vF v c i) = b ∨ (if c < 2 ∧ i < n ∧ vF v c i = a then b else vF v c i) = vF v c i
    split
    · exact Or.inl rfl
    · exact Or.inr rfl
  refine ⟨fun o ho => by rw [e 4 o (by decide)]; exact a1 o ho, fun o ho => by rw [e 5 o (by decide)]; exact a2 o ho, fun m hm => by rw [e 3 m (by decide)]; exact a3 m hm, fun o ho => by rw [e 6 o (by decide)]; exact a4 o ho, fun q hq => ?_, fun q hq => ?_, fun m hm => by rw [e 2 m (by decide)]; exact a7 m hm, b1, b2, b3⟩
  · rcases e2 0 q with z | z
    · rw [z]; exact Or.inr hb
    · rw [z]; exact a5 q hq
  · rcases e2 1 q with z | z
    · rw [z]; exact Or.inr hb
    · rw [z]; exact a6 q hq
theorem tru_eq {v : Vg} (ok : VOk v) (a b : Int32) : truR v a b = truA v a b := by
  have hN := ok.2.2.2.2.2.2.2.2.2
  unfold truR truA
  by_cases c : inR a (vN v) = true ∧ inR b (vN v) = true ∧ ¬ a = b
  · rw [if_pos c, if_pos c, dy_eq ok, dy_eq (ok_hand ok a (inR_ex (by omega) c.2.1))]
  · rw [if_neg c, if_neg c]
theorem ok_hdW {v : Vg} (ok : VOk v) (g : Sg) (s : Int32) : VOk (hdW v g s) := ok_hAR ok _ _
theorem wou_eq {v : Vg} (ok : VOk v) (g : Sg) (s : Int32) : wouR v g s = wouA v g s := by
  unfold wouR wouA
  rw [dy_eq (ok_hdW ok g s)]
theorem sumL_b {f : Nat → Int64} {b : Nat} : ∀ n, (∀ i, i < n → ∃ K, K ≤ b ∧ f i = Int64.ofNat K) → ∃ K, K ≤ n * b ∧ sumL f n = Int64.ofNat K
  | 0, _ => ⟨0, by omega, rfl⟩
  | n + 1, h => by
    obtain ⟨K, k1, k2⟩ := sumL_b (f := f) (b := b) n (fun i hi => h i (by omega))
    obtain ⟨J, j1, j2⟩ := h n (by omega)
    simp only [sumL]
    rw [k2, j2, Nat.succ_mul]
    exact ⟨K + J, by omega, (Int64.ofNat_add _ _).symm⟩
theorem day_n {v : Vg} (ok : VOk v) : ∃ K, K < 2 ^ 62 ∧ dayC v = Int64.ofNat K := by
  have hN := ok.2.2.2.2.2.2.2.2.2
  have hM := ok.2.2.2.2.2.2.2.2.1
  have p8 := pow8 hN
  obtain ⟨K, k1, k2⟩ := sumL_b (f := fun s => wgt v s (vN v) * (worthS v (gat v s (vN v))).toInt64) (b := 100000000 * 594) (2 ^ vN v) (fun s _ => by
    obtain ⟨e1, J, j1, j2⟩ := wgt_eq ok (s := s) _ (Nat.le_refl _)
    obtain ⟨W, w1, w2, w3⟩ := wor_eq ok (gat v s (vN v)) (vM v) (Nat.le_refl _)
    have e : (worthS v (gat v s (vN v))).toInt64 = Int64.ofNat W := by
      unfold worthS
      rw [w2, nl (by omega)]
    have h8 : 10 ^ vN v ≤ 10 ^ 8 := Nat.pow_le_pow_right (by omega) hN
    refine ⟨J * W, Nat.mul_le_mul (Nat.le_trans j1 h8) (by omega), ?_⟩
    show wgt v s (vN v) * (worthS v (gat v s (vN v))).toInt64 = _
    rw [e1, j2, e, Int64.ofNat_mul])
  refine ⟨K, ?_, k2⟩
  have : 2 ^ vN v * (100000000 * 594) ≤ 256 * (100000000 * 594) := Nat.mul_le_mul_right _ p8.2
  omega
theorem day_pos {v : Vg} (ok : VOk v) : ¬ dayC v ≤ -1 := by
  obtain ⟨K, k1, k2⟩ := day_n ok
  intro q
  rw [k2, Int64.le_iff_toInt_le, Int64.toInt_ofNat_of_lt (by omega), show (-1 : Int64).toInt = -1 by decide] at q
  omega
theorem hd_n {v : Vg} (ok : VOk v) (g : Sg) : ∀ n, n ≤ 8 → (hdR v g n = (-1, 0) ∧ hdC v g n = (-1, -1)) ∨ (hdR v g n = hdC v g n ∧ ¬ (hdC v g n).1 = -1)
  | 0, _ => Or.inl ⟨rfl, rfl⟩
  | n + 1, h => by
    have ih := hd_n ok g n (by omega)
    have e := dy_eq (ok_hdW ok g (nI n))
    have nn : ¬ nI n = -1 := nI_nm1 (by omega)
    rw [hdR, hdC, e]
    by_cases c : holdB g (nI n) = true
    · rcases ih with ⟨i1, i2⟩ | ⟨i1, i2⟩
      · rw [i1, i2, if_pos ⟨c, Or.inl rfl⟩, if_pos ⟨c, day_pos (ok_hdW ok g (nI n))⟩]
        exact Or.inr ⟨rfl, nn⟩
      · rw [i1]
        by_cases d : dayC (hdW v g (nI n)) ≤ (hdC v g n).2
        · rw [if_neg (fun z => z.2.elim i2 (fun y => y d)), if_neg (fun z => z.2 d)]
          exact Or.inr ⟨rfl, i2⟩
        · rw [if_pos ⟨c, Or.inr d⟩, if_pos ⟨c, d⟩]
          exact Or.inr ⟨rfl, nn⟩
    · rw [if_neg (fun z => c z.1), if_neg (fun z => c z.1)]
      exact ih
theorem hea_eq {v : Vg} (ok : VOk v) (g : Sg) : heaR v g = heaA v g := by
  unfold heaR heaA
  rcases hd_n ok g 8 (Nat.le_refl _) with ⟨i1, i2⟩ | ⟨i1, i2⟩
  · rw [i1, i2]
  · rw [i1]

