/-! PART 61: what a village keeps to, whatever is called -/
section OKS
variable {v : Vg}
theorem ok_hold (h : VOk v) {c p : Nat} {x : Int32} (hc : c = 0 ∨ c = 1) (hx : x = -1 ∨ ∃ o, o < vN v ∧ x = nI o) : VOk (vset v c p x) := by
  obtain ⟨a1, a2, a3, a4, a5, a6, a7, b1, b2, b3⟩ := h
  have e : ∀ c' i, 2 ≤ c' → vF (vset v c p x) c' i = vF v c' i := fun c' i h2 => by rw [vset_f, if_neg (by omega)]
  refine ⟨fun o ho => by rw [e 4 o (by decide)]; exact a1 o ho, fun o ho => by rw [e 5 o (by decide)]; exact a2 o ho, fun m hm => by rw [e 3 m (by decide)]; exact a3 m hm, fun o ho => by rw [e 6 o (by decide)]; exact a4 o ho, fun q hq => ?_, fun q hq => ?_, fun m hm => by rw [e 2 m (by decide)]; exact a7 m hm, b1, b2, b3⟩
  · rw [vset_f]; split
    · split
      · exact hx
      · exact a5 q hq
    · exact a5 q hq
  · rw [vset_f]; split
    · split
      · exact hx
      · exact a6 q hq
    · exact a6 q hq
theorem ok_part (h : VOk v) (hP : vP v < 12) : VOk (addPartV v) := by
  obtain ⟨a1, a2, a3, a4, a5, a6, a7, b1, b2, b3⟩ := h
  have e : ∀ c i, 2 ≤ c → vF (addPartV v) c i = vF v c i := fun c i hc => by simp [addPartV, vsP, vset, vF, show ¬ c = 0 by omega, show ¬ c = 1 by omega]
  have e2 : ∀ c i, c < 2 → vF (addPartV v) c i = if i = vP v then -1 else vF v c i := fun c i hc => by
    have : c = 0 ∨ c = 1 := by omega
    rcases this with rfl | rfl <;> simp [addPartV, vsP, vset, vF, vP]
  refine ⟨fun o ho => by rw [e 4 o (by decide)]; exact a1 o ho, fun o ho => by rw [e 5 o (by decide)]; exact a2 o ho, fun m hm => by rw [e 3 m (by decide)]; exact a3 m hm, fun o ho => by rw [e 6 o (by decide)]; exact a4 o ho, fun q hq => ?_, fun q hq => ?_, fun m hm => ?_, by show vP v + 1 ≤ 12; omega, b2, b3⟩
  · have hq : q < vP v + 1 := hq
    rw [e2 0 q (by decide)]; split
    · exact Or.inl rfl
    · exact a5 q (by omega)
  · have hq : q < vP v + 1 := hq
    rw [e2 1 q (by decide)]; split
    · exact Or.inl rfl
    · exact a6 q (by omega)
  · rw [e 2 m (by decide)]
    obtain ⟨S, s1, s2, s3⟩ := a7 m hm
    exact ⟨S, s1, Nat.lt_of_lt_of_le s2 (Nat.pow_le_pow_right (by omega) (show vP v ≤ vP v + 1 by omega)), s3⟩
theorem ok_mac (h : VOk v) {x y : Int32} (hM : vM v < 6) (hx : ∃ S, 1 ≤ S ∧ S < 2 ^ vP v ∧ x = nI S) (hy : ∃ W, 1 ≤ W ∧ W ≤ 99 ∧ y = nI W) : VOk (addMacV v x y) := by
  obtain ⟨a1, a2, a3, a4, a5, a6, a7, b1, b2, b3⟩ := h
  have e : ∀ c i, ¬ c = 2 → ¬ c = 3 → vF (addMacV v x y) c i = vF v c i := fun c i h2 h3 => by simp [addMacV, vsM, vset, vF, h2, h3]
  have e2 : ∀ i, vF (addMacV v x y) 2 i = if i = vM v then x else vF v 2 i := fun i => by simp [addMacV, vsM, vset, vF, vM]
  have e3 : ∀ i, vF (addMacV v x y) 3 i = if i = vM v then y else vF v 3 i := fun i => by simp [addMacV, vsM, vset, vF, vM]
  refine ⟨fun o ho => by rw [e 4 o (by decide) (by decide)]; exact a1 o ho, fun o ho => by rw [e 5 o (by decide) (by decide)]; exact a2 o ho, fun m hm => ?_, fun o ho => by rw [e 6 o (by decide) (by decide)]; exact a4 o ho, fun q hq => by rw [e 0 q (by decide) (by decide)]; exact a5 q hq, fun q hq => by rw [e 1 q (by decide) (by decide)]; exact a6 q hq, fun m hm => ?_, b1, by show vM v + 1 ≤ 6; omega, b3⟩
  · have hm : m < vM v + 1 := hm
    rw [e3]; split
    · exact hy
    · exact a3 m (by omega)
  · have hm : m < vM v + 1 := hm
    rw [e2]; split
    · exact hx
    · exact a7 m (by omega)
theorem ok_one (h : VOk v) {x y : Int32} (hN : vN v < 8) (hx : ∃ H, H ≤ 9 ∧ x = nI H) (hy : ∃ A, A ≤ 10 ∧ y = nI A) : VOk (addOneV v x y) := by
  obtain ⟨a1, a2, a3, a4, a5, a6, a7, b1, b2, b3⟩ := h
  have e : ∀ c i, c < 4 → vF (addOneV v x y) c i = vF v c i := fun c i hc => by simp [addOneV, vsN, vset, vF, show ¬ c = 4 by omega, show ¬ c = 5 by omega, show ¬ c = 6 by omega, show ¬ c = 7 by omega]
  have e4 : ∀ i, vF (addOneV v x y) 4 i = if i = vN v then x else vF v 4 i := fun i => by simp [addOneV, vsN, vset, vF, vN]
  have e5 : ∀ i, vF (addOneV v x y) 5 i = if i = vN v then y else vF v 5 i := fun i => by simp [addOneV, vsN, vset, vF, vN]
  have e6 : ∀ i, vF (addOneV v x y) 6 i = if i = vN v then 0 else vF v 6 i := fun i => by simp [addOneV, vsN, vset, vF, vN]
  refine ⟨fun o ho => ?_, fun o ho => ?_, fun m hm => by rw [e 3 m (by decide)]; exact a3 m hm, fun o ho => ?_, fun q hq => ?_, fun q hq => ?_, fun m hm => by rw [e 2 m (by decide)]; exact a7 m hm, b1, b2, by show vN v + 1 ≤ 8; omega⟩
  · have ho : o < vN v + 1 := ho
    rw [e4]; split
    · exact hx
    · exact a1 o (by omega)
  · have ho : o < vN v + 1 := ho
    rw [e5]; split
    · exact hy
    · exact a2 o (by omega)
  · have ho : o < vN v + 1 := ho
    rw [e6]; split
    · exact Or.inl rfl
    · exact a4 o (by omega)
  · rw [e 0 q (by decide)]; exact (a5 q hq).imp id (fun ⟨o, a, b⟩ => ⟨o, by show o < vN v + 1; omega, b⟩)
  · rw [e 1 q (by decide)]; exact (a6 q hq).imp id (fun ⟨o, a, b⟩ => ⟨o, by show o < vN v + 1; omega, b⟩)
theorem ok_c5 (h : VOk v) {p : Nat} {x : Int32} (hx : ∃ A, A ≤ 10 ∧ x = nI A) : VOk (vset v 5 p x) := by
  obtain ⟨a1, a2, a3, a4, a5, a6, a7, b1, b2, b3⟩ := h
  have e : ∀ c' i, ¬ c' = 5 → vF (vset v 5 p x) c' i = vF v c' i := fun c' i h2 => by rw [vset_f, if_neg h2]
  refine ⟨fun o ho => by rw [e 4 o (by decide)]; exact a1 o ho, fun o ho => ?_, fun m hm => by rw [e 3 m (by decide)]; exact a3 m hm, fun o ho => by rw [e 6 o (by decide)]; exact a4 o ho, fun q hq => by rw [e 0 q (by decide)]; exact a5 q hq, fun q hq => by rw [e 1 q (by decide)]; exact a6 q hq, fun m hm => by rw [e 2 m (by decide)]; exact a7 m hm, b1, b2, b3⟩
  rw [vset_f, if_pos rfl]; split
  · exact hx
  · exact a2 o ho
theorem ok_c6 (h : VOk v) {p : Nat} {x : Int32} (hx : x = nI 0 ∨ x = nI 1) : VOk (vset v 6 p x) := by
  obtain ⟨a1, a2, a3, a4, a5, a6, a7, b1, b2, b3⟩ := h
  have e : ∀ c' i, ¬ c' = 6 → vF (vset v 6 p x) c' i = vF v c' i := fun c' i h2 => by rw [vset_f, if_neg h2]
  refine ⟨fun o ho => by rw [e 4 o (by decide)]; exact a1 o ho, fun o ho => by rw [e 5 o (by decide)]; exact a2 o ho, fun m hm => by rw [e 3 m (by decide)]; exact a3 m hm, fun o ho => ?_, fun q hq => by rw [e 0 q (by decide)]; exact a5 q hq, fun q hq => by rw [e 1 q (by decide)]; exact a6 q hq, fun m hm => by rw [e 2 m (by decide)]; exact a7 m hm, b1, b2, b3⟩
  rw [vset_f, if_pos rfl]; split
  · exact hx
  · exact a4 o ho
/-- the same but for shares and seed -/
theorem ok_cp {u : Vg} (h : VOk v) (e1 : vP u = vP v) (e2 : vM u = vM v) (e3 : vN u = vN v) (e : ∀ c i, c < 7 → vF u c i = vF v c i) : VOk u := by
  obtain ⟨a1, a2, a3, a4, a5, a6, a7, b1, b2, b3⟩ := h
  refine ⟨fun o ho => by rw [e 4 o (by decide)]; exact a1 o (e3 ▸ ho), fun o ho => by rw [e 5 o (by decide)]; exact a2 o (e3 ▸ ho), fun m hm => by rw [e 3 m (by decide)]; exact a3 m (e2 ▸ hm), fun o ho => by rw [e 6 o (by decide)]; exact a4 o (e3 ▸ ho), fun q hq => by rw [e 0 q (by decide), e3]; exact a5 q (e1 ▸ hq), fun q hq => by rw [e 1 q (by decide), e3]; exact a6 q (e1 ▸ hq), fun m hm => by rw [e 2 m (by decide), e1]; exact a7 m (e2 ▸ hm), e1 ▸ b1, e2 ▸ b2, e3 ▸ b3⟩
theorem ok_seed (h : VOk v) (x : Int32) : VOk (vsS v x) := ok_cp h rfl rfl rfl (fun _ _ _ => rfl)
theorem ok_day (h : VOk v) : VOk (dayV v) := ok_cp h rfl rfl rfl (fun c i hc => goV_c v (dayP v) _ (by omega) i _)
theorem ok_daysV (h : VOk v) : ∀ n, VOk (daysV v n)
  | 0 => h
  | n + 1 => ok_day (ok_daysV h n)
theorem ok_days (h : VOk v) (n : Int32) : VOk (daysX v n) := by
  unfold daysX; split
  · exact ok_daysV h _
  · exact h
theorem ok_partV (h : VOk v) : VOk (partV v) := by
  unfold partV; split
  · next c => exact ok_part h c
  · exact h
theorem ok_machV (h : VOk v) (x y : Int32) : VOk (machV v x y) := by
  unfold machV; split
  · next c =>
    split
    · next c2 =>
      unfold machB at c
      simp only [Bool.and_eq_true, Bool.not_eq_true', decide_eq_false_iff_not] at c
      obtain ⟨⟨c3, c4⟩, c5, c6⟩ := c
      have hP := h.2.2.2.2.2.2.2.1
      have h12 : 2 ^ vP v ≤ 2 ^ 12 := Nat.pow_le_pow_right (by omega) hP
      obtain ⟨S, s1, rfl⟩ := inR_ex (Nat.lt_of_le_of_lt h12 (by decide)) c4
      exact ok_mac h c2 ⟨S, by rcases Nat.eq_zero_or_pos S with z | z; exact absurd (by rw [z]; rfl) c3; exact z, s1, rfl⟩ (by obtain ⟨j, j1, j2, j3⟩ := btw (by decide) (by decide) c5 c6; exact ⟨j, j1, j2, j3⟩)
    · exact h
  · exact h
theorem ok_oneV (h : VOk v) (x y : Int32) : VOk (oneV v x y) := by
  unfold oneV; split
  · next c =>
    split
    · next c2 =>
      unfold oneB at c
      simp only [Bool.and_eq_true, Bool.not_eq_true', decide_eq_false_iff_not] at c
      exact ok_one h c2 (btw0 (by decide) c.1.1 c.1.2) (btw0 (by decide) c.2.1 c.2.2)
    · exact h
  · exact h
theorem ok_awayV (h : VOk v) (o x : Int32) : VOk (awayV v o x) := by
  unfold awayV; split
  · next c =>
    unfold awayB at c
    simp only [Bool.and_eq_true, Bool.not_eq_true', decide_eq_false_iff_not] at c
    exact ok_c5 h (btw0 (by decide) c.2.1 c.2.2)
  · exact h
theorem ok_crossV (h : VOk v) (o : Int32) (b : Bool) : VOk (crossV v o b) := by
  unfold crossV; split
  · split
    · exact h
    · exact ok_c6 h (by cases b; exact Or.inl rfl; exact Or.inr rfl)
  · exact h
theorem ok_giveV (h : VOk v) (p o : Int32) (b : Bool) : VOk (giveV v p o b) := by
  unfold giveV; split
  · next c =>
    refine ok_hold h (by cases b; exact Or.inl rfl; exact Or.inr rfl) ?_
    unfold giveF at c
    split at c
    · next c2 =>
      simp only [Bool.and_eq_true, Bool.or_eq_true, decide_eq_true_eq] at c2
      rcases c2.2 with q | q
      · exact Or.inl q
      · have hN := h.2.2.2.2.2.2.2.2.2
        exact Or.inr (inR_ex (by omega) q)
    · exact absurd c (by decide)
  · exact h
theorem ok_swapV (h : VOk v) (p q : Int32) : VOk (swapV v p q) := by
  unfold swapV; split
  · next c =>
    split
    · exact h
    · simp only [Bool.and_eq_true] at c
      have hP := h.2.2.2.2.2.2.2.1
      have i1 := inR_at (by omega) c.1
      have i2 := inR_at (by omega) c.2
      have h5 := h.2.2.2.2.1
      exact ok_hold (v := vset v 0 p.toNatClampNeg (vF v 0 q.toNatClampNeg)) (ok_hold h (Or.inl rfl) (h5 _ i2.2)) (Or.inl rfl) (h5 _ i1.2)
  · exact h
/-- holdings -/
theorem ok_vcol (h : VOk v) {c : Nat} {f : Nat → Int32} (hc : c = 0 ∨ c = 1) (hf : HK v f) : VOk (vcol v c f) := by
  obtain ⟨a1, a2, a3, a4, a5, a6, a7, b1, b2, b3⟩ := h
  have e : ∀ c' i, vF (vcol v c f) c' i = if c' = c then f i else vF v c' i := fun _ _ => rfl
  have e2 : ∀ c' i, 2 ≤ c' → vF (vcol v c f) c' i = vF v c' i := fun c' i h2 => by rw [e, if_neg (by omega)]
  refine ⟨fun o ho => by rw [e2 4 o (by decide)]; exact a1 o ho, fun o ho => by rw [e2 5 o (by decide)]; exact a2 o ho, fun m hm => by rw [e2 3 m (by decide)]; exact a3 m hm, fun o ho => by rw [e2 6 o (by decide)]; exact a4 o ho, fun q hq => ?_, fun q hq => ?_, fun m hm => by rw [e2 2 m (by decide)]; exact a7 m hm, b1, b2, b3⟩
  · rw [e]; split
    · exact hf q hq
    · exact a5 q hq
  · rw [e]; split
    · exact hf q hq
    · exact a6 q hq
theorem hk_setn {F : Nat → Int32} {p : Nat} (h : HK v F) : HK v (sf F p (-1)) := fun q hq => by
  by_cases e : q = p
  · rw [e, sfx_at]; exact Or.inl rfl
  · rw [sfx_ne e]; exact h q hq
theorem hk_sx {F : Nat → Int32} {p : Nat} {x : Int32} (h : HK v F) (hx : x = -1 ∨ ∃ o, o < vN v ∧ x = nI o) : HK v (sf F p x) := by
  rcases hx with e | ⟨o, ho, e⟩
  · rw [e]; exact hk_setn h
  · rw [e]; exact hk_set h ho
theorem hk_rn {f : Nat → Int32} {su : Bool} {a : Nat} (h : HK v f) : ∀ p, HK v (rnF v su f a p).1
  | 0 => h
  | p + 1 => hk_sx (hk_rn h p) (rn_e rfl)
theorem hk_rs {f : Nat → Int32} {a : Nat} (h : HK v f) : ∀ p, HK v (rsF v f a p).1
  | 0 => h
  | p + 1 => hk_sx (hk_rs h p) (nw_ex2 (vcol v 1 (rsF v f a p).1) _ _)
theorem hk_pk {am b : Nat} {F : Nat → Int32} (ha : am ≤ vN v) : pkR v am b F = -1 ∨ ∃ o, o < vN v ∧ pkR v am b F = nI o :=
  pkR_sat.imp (fun z => z.1) (fun ⟨o, a, _, e⟩ => ⟨o, by omega, e⟩)
theorem hk_hn {f : Nat → Int32} {gn : Int32} {am b : Nat} (ha : am ≤ vN v) (h : HK v f) : ∀ p, HK v (hnF v am b f gn p).1
  | 0 => h
  | p + 1 => by
    have ih := hk_hn (gn := gn) (b := b) ha h p
    simp only [hnF]; split
    · exact hk_sx ih (hk_pk ha)
    · exact ih
theorem hk_hw {f : Nat → Int32} {am : Nat} (ha : am ≤ vN v) (h : HK v f) : ∀ t, HK v (hwF v am f t).1
  | 0 => h
  | t + 1 => hk_hn ha (hk_hw ha h t) _
theorem hk_hf {f : Nat → Int32} {gn : Int32} {am : Nat} (ha : am ≤ vN v) (h : HK v f) : ∀ p, p ≤ vP v → HK v (hfF v am gn f p)
  | 0, _ => h
  | p + 1, hp => by
    have ih := hk_hf (gn := gn) ha h p (by omega)
    simp only [hfF]
    split
    · exact hk_sx ih (ih p (by omega))
    · exact hk_sx ih (fwA_sat.imp id (fun ⟨o, a, _, e⟩ => ⟨o, by omega, e⟩))
theorem ok_clr (h : VOk v) : VOk (clr v (vP v)) := by
  obtain ⟨a1, a2, a3, a4, a5, a6, a7, b1, b2, b3⟩ := h
  have e : ∀ c i, 2 ≤ c → vF (clr v (vP v)) c i = vF v c i := fun c i hc => by simp only [clr, vF]; rw [if_neg (by omega)]
  have e2 : ∀ c i, c < 2 → i < vP v → vF (clr v (vP v)) c i = -1 := fun c i hc hi => by simp only [clr, vF]; rw [if_pos ⟨hc, hi⟩]
  exact ⟨fun o ho => by rw [e 4 o (by decide)]; exact a1 o ho, fun o ho => by rw [e 5 o (by decide)]; exact a2 o ho, fun m hm => by rw [e 3 m (by decide)]; exact a3 m hm, fun o ho => by rw [e 6 o (by decide)]; exact a4 o ho, fun q hq => Or.inl (e2 0 q (by decide) hq), fun q hq => Or.inl (e2 1 q (by decide) hq), fun m hm => by rw [e 2 m (by decide)]; exact a7 m hm, b1, b2, b3⟩
theorem ok_hAR (h : VOk v) (κ b : Nat) : VOk (hAR v κ b) := by
  have hc := ok_clr h
  have k0 : HK (clr v (vP v)) (vF (clr v (vP v)) 0) := fun q hq => hc.2.2.2.2.1 q hq
  have k1 : HK (clr v (vP v)) (vF (clr v (vP v)) 1) := fun q hq => hc.2.2.2.2.2.1 q hq
  unfold hAR
  split
  · refine ok_vcol hc (Or.inl rfl) ?_
    have ha : (if κ = 5 ∧ 0 < b ∧ b < vN v then b else vN v) ≤ vN (clr v (vP v)) := by
      show _ ≤ vN v
      split <;> omega
    exact hk_hf ha (hk_hw ha k0 _) _ (Nat.le_refl _)
  · split
    · have h2 := ok_vcol hc (c := 0) (Or.inl rfl) (hk_rn (su := false) (a := plc v b) k0 (vP v))
      exact ok_vcol h2 (Or.inr rfl) (hk_rs (v := vcol (clr v (vP v)) 0 (rnF (clr v (vP v)) false (vF (clr v (vP v)) 0) (plc v b) (vP v)).1) k1 (vP v))
    · exact ok_vcol hc (Or.inl rfl) (hk_rn k0 _)
theorem ok_layV (h : VOk v) (g : Sg) (s : Int32) : VOk (layV v g s) := by
  unfold layV; split
  · exact ok_hAR h _ _
  · exact h
/-- texts -/
theorem nm_btw {B : Nat → Int32} {z a b : Nat} {q : Tkn} (ha : a < 2 ^ 30) (hb : b < 2 ^ 30) (h : ¬ nmQ B z q (nI a) (nI b) = -1) : ∃ j, a ≤ j ∧ j ≤ b ∧ nmQ B z q (nI a) (nI b) = nI j := by
  unfold nmQ nmV at h ⊢
  split at h
  · next c =>
    rw [if_pos c]
    split at h
    · exact absurd rfl h
    · next c2 =>
      rw [if_neg c2]
      split at h
      · next c3 => rw [if_pos c3]; exact btw ha hb c2 (Int32.not_lt.mpr c3)
      · exact absurd rfl h
  · exact absurd rfl h
theorem nm_one {B : Nat → Int32} {z n : Nat} {q : Tkn} (hn : n < 2 ^ 30) (h : ¬ nmQ B z q (nI 0) (nI n - nI 1) = -1) : ∃ o, o < n ∧ nmQ B z q (nI 0) (nI n - nI 1) = nI o := inR_ex (by omega) (nm_in hn h)
theorem ok_by {B : Nat → Int32} {z c i p : Nat} {q : Tkn} (h : VOk v) (hc : c = 0 ∨ c = 1) : VOk (byS B z c i p q v).2.2 := by
  unfold byS
  split
  · split
    · next r =>
      unfold hasRm at r
      simp only [Bool.and_eq_true] at r
      have hN := h.2.2.2.2.2.2.2.2.2
      exact ok_hold h hc (Or.inr (inR_ex (by omega) r.1))
    · exact h
  · exact h
theorem ok_pt {B : Nat → Int32} {z : Nat} {q : Tkn} (h : VOk v) : VOk (ptW B z q v).2.2 := by
  unfold ptW
  split
  · next c =>
    have h1 := ok_part h c
    split
    · exact ok_by (ok_by h1 (Or.inl rfl)) (Or.inr rfl)
    · exact ok_by h1 (Or.inl rfl)
  · exact h
theorem ok_gv {B : Nat → Int32} {z e : Nat} (h : VOk v) : VOk (gvW B z e v).2.2 := by
  unfold gvW
  split
  · exact h
  · split
    · exact h
    · next c =>
      have hN := h.2.2.2.2.2.2.2.2.2
      exact ok_hold h (Or.inl rfl) (Or.inr (nm_one (by omega) (fun z9 => c (Or.inl z9))))
theorem ok_oe {B : Nat → Int32} {z : Nat} {q : Tkn} {x y : Int32} (h : VOk v) (hN : vN v < 8) (hx : ∃ H, H ≤ 9 ∧ x = nI H) (hy : ∃ A, A ≤ 10 ∧ y = nI A) : VOk (oneE B z q v x y).2.2 := by
  unfold oneE
  split
  · exact ok_c6 (ok_one h hN hx hy) (Or.inr rfl)
  · exact ok_one h hN hx hy
theorem ok_oa {B : Nat → Int32} {z : Nat} {q : Tkn} {x : Int32} (h : VOk v) (hN : vN v < 8) (hx : ∃ H, H ≤ 9 ∧ x = nI H) : VOk (oneA B z q v x).2.2 := by
  unfold oneA
  split
  · split
    · exact h
    · next c => exact ok_oe h hN hx (by obtain ⟨j, _, b, c⟩ := nm_btw (by decide) (by decide) c; exact ⟨j, b, c⟩)
  · exact ok_oe h hN hx ⟨0, by omega, rfl⟩
theorem ok_on {B : Nat → Int32} {z : Nat} {q : Tkn} (h : VOk v) : VOk (oneW B z q v).2.2 := by
  unfold oneW
  split
  · next hN =>
    split
    · exact h
    · next c => exact ok_oa h hN (by obtain ⟨j, _, b, c⟩ := nm_btw (by decide) (by decide) c; exact ⟨j, b, c⟩)
  · exact h
theorem ok_nd {B : Nat → Int32} {z : Nat} (hP : vP v ≤ 12) : ∀ (n : Nat) (q : Tkn) (S : Nat), S < 2 ^ vP v → ∃ S', S' < 2 ^ vP v ∧ S ≤ S' ∧ (ndR B z v n q (nI S)).2.2 = nI S' ∧ (0 < n → (ndR B z v n q (nI S)).1 = true → 1 ≤ S')
  | 0, q, S, hS => ⟨S, hS, Nat.le_refl _, rfl, fun z => absurd z (by omega)⟩
  | n + 1, q, S, hS => by
    simp only [ndR]
    split
    · exact ⟨S, hS, Nat.le_refl _, rfl, fun _ z9 => absurd (show false = true from z9) (by decide)⟩
    · next c =>
      obtain ⟨p, hp, e⟩ := nm_one (by omega) c
      have e2 : (nI S ||| (nI 1 <<< (nmQ B z (stp B z q.2.2) (nI 0) (nI (vP v) - nI 1) &&& 31))) = nI (S ||| 2 ^ p) := by rw [e, sh1 (by omega), nI_or]
      have l2 : S ||| 2 ^ p < 2 ^ vP v := Nat.or_lt_two_pow hS (Nat.pow_lt_pow_right (by omega) hp)
      have g1 : 2 ^ p ≤ S ||| 2 ^ p := Nat.right_le_or
      have g0 : S ≤ S ||| 2 ^ p := Nat.left_le_or
      have g2 : 1 ≤ 2 ^ p := Nat.one_le_two_pow
      rw [e2]
      split
      · obtain ⟨S', s1, s2, s3, s4⟩ := ok_nd hP n (stp B z (stp B z q.2.2).2.2) (S ||| 2 ^ p) l2
        exact ⟨S', s1, by omega, s3, fun _ _ => by omega⟩
      · exact ⟨S ||| 2 ^ p, l2, g0, rfl, fun _ _ => by omega⟩
theorem ok_mc {B : Nat → Int32} {z : Nat} {q : Tkn} (h : VOk v) : VOk (mcW B z q v).2.2 := by
  have hP := h.2.2.2.2.2.2.2.1
  unfold mcW
  split
  · next hM =>
    split
    · exact h
    · next c =>
      split
      · split
        · next c3 =>
          obtain ⟨S', s1, s2, s3, s4⟩ := ok_nd (B := B) (z := z) hP 250 (stp B z (stp B z q.2.2).2.2) 0 (Nat.two_pow_pos _)
          exact ok_mac h hM ⟨S', s4 (by decide) c3, s1, s3⟩ (nm_btw (by decide) (by decide) c)
        · exact h
      · exact h
  · exact h
theorem ok_st {B : Nat → Int32} {z : Nat} {q : Tkn} (h : VOk v) : VOk (stW B z q v).2.2 := by
  unfold stW
  split
  · exact ok_pt h
  · split
    · exact ok_mc h
    · split
      · exact ok_on h
      · split
        · exact ok_gv h
        · exact h
end OKS
theorem ok_ri {B : Nat → Int32} {z : Nat} : ∀ (f n : Nat) (q : Tkn) (v : Vg), VOk v → VOk (riS B z f n q v).2.2
  | 0, _, _, _, h => h
  | f + 1, n, q, v, h => by
    have h1 := ok_st (B := B) (z := z) (q := q) h
    simp only [riS]
    split
    · exact h1
    · split
      · exact h1
      · split
        · exact ok_ri f (n + 1) _ _ h1
        · exact h1
theorem ok_vlV {B : Nat → Int32} {z : Nat} {v : Vg} (h : VOk v) : VOk (vlV B z v) := by
  unfold vlV; split
  · exact h
  · exact ok_ri _ _ _ _ h
theorem vl_tie {B B' : Nat → Int32} {z : Nat} (t : ByT B B' z) (v : Vg) : vlA B z v = vlA B' z v ∧ vlV B z v = vlV B' z v := by
  have e : vlW B z v = vlW B' z v := t.tAll v
  unfold vlA vlV
  rw [e]; exact ⟨rfl, rfl⟩
theorem ByT.mono {B B' : Nat → Int32} {z z' : Nat} (h : ByT B B' z) (q : z' ≤ z) : ByT B B' z' := fun i hi => h i (by omega)
theorem by_val (y : Int32) : ∃ b, b < 256 ∧ y &&& nI 255 = nI b ∧ vp_nar .byte (y.toInt8.toInt32) = vp_nar .byte (nI b) := by
  obtain ⟨j, rfl⟩ := nI_ex y
  have l : j &&& 255 < 256 := Nat.lt_of_le_of_lt Nat.and_le_right (by decide)
  refine ⟨j &&& 255, l, nI_and, ?_⟩
  have e : (nI (j &&& 255)).toInt8 = (nI j).toInt8 := by
    rw [← nI_and, Int32.toInt8_and]
    rw [show (nI 255).toInt8 = -1 by decide, Int8.and_neg_one]
  show ((nI j).toInt8.toInt32).toInt8.toInt32 = (nI (j &&& 255)).toInt8.toInt32
  rw [e, Int8.toInt8_toInt32]
theorem fd_tie {B Bt : Nat → Int32} {z ν : Nat} {x : Int32} (h : ByT B Bt z) : ∀ t, ByT (fdC B z x ν t) (fdB Bt z x ν t) (z + t)
  | 0 => h
  | t + 1 => fun i hi => by
    simp only [fdC, fdB, sf]
    by_cases e : i = z + t
    · rw [if_pos e, if_pos e]
      obtain ⟨b, h1, h2, h3⟩ := by_val (x >>> (nI (8 * (ν - 1 - t)) &&& 31))
      exact ⟨b, h1, h2, h3⟩
    · rw [if_neg e, if_neg e]
      exact fd_tie h t i (by omega)
theorem feed_tie {B Bt : Nat → Int32} {z : Nat} (x n : Int32) (h : ByT B Bt z) : ByT (feedC B z x n) (feedB Bt z x n) (feedZ z n) := by
  unfold feedC feedB
  by_cases e : feedZ z n = z
  · rw [if_pos e, if_pos e, e]; exact h
  · rw [if_neg e, if_neg e]
    have : feedZ z n = z + n.toNatClampNeg := by
      unfold feedZ at e ⊢
      split
      · next c => rw [if_pos c] at e; exact absurd rfl e
      · split
        · next c c2 => rw [if_neg c, if_pos c2] at e; exact absurd rfl e
        · split
          · rfl
          · next c c2 c3 => rw [if_neg c, if_neg c2, if_neg c3] at e; exact absurd rfl e
    rw [this]
    exact fd_tie h _

