/-! PART 54: holdings: the reference's are the class's -/
theorem fst_c {P P' : Nat → Bool} {F F' : Nat → Int32} : ∀ n i, (∀ j, i ≤ j → j < i + n → P j = P' j ∧ F j = F' j) → fstF P F n i = fstF P' F' n i
  | 0, _, _ => rfl
  | n + 1, i, h => by
    simp only [fstF]
    rw [(h i (Nat.le_refl _) (by omega)).1, (h i (Nat.le_refl _) (by omega)).2, fst_c n (i + 1) (fun j h1 h2 => h j (by omega) (by omega))]
theorem fst_sat (P : Nat → Bool) (F : Nat → Int32) : ∀ n i, (fstF P F n i = -1 ∧ ∀ j, i ≤ j → j < i + n → P j = false) ∨ ∃ j, i ≤ j ∧ j < i + n ∧ P j = true ∧ fstF P F n i = F j
  | 0, i => Or.inl ⟨rfl, fun j h1 h2 => by omega⟩
  | n + 1, i => by
    simp only [fstF]
    cases q : P i
    · rw [if_neg (by decide)]
      rcases fst_sat P F n (i + 1) with ⟨a, b⟩ | ⟨j, a, b, c, d⟩
      · refine Or.inl ⟨a, fun j h1 h2 => ?_⟩
        by_cases e : j = i
        · rw [e]; exact q
        · exact b j (by omega) (by omega)
      · exact Or.inr ⟨j, by omega, by omega, c, d⟩
    · rw [if_pos rfl]
      exact Or.inr ⟨i, Nat.le_refl _, by omega, q, rfl⟩
theorem sf_id {f : Nat → Int32} {p : Nat} {x : Int32} (h : f p = x) : sf f p x = f := by
  funext i; unfold sf; split
  · next e => rw [e, h]
  · rfl
theorem sfx_at {f : Nat → Int32} {p : Nat} {x : Int32} : sf f p x p = x := by unfold sf; rw [if_pos rfl]
theorem sfx_ne {f : Nat → Int32} {p q : Nat} {x : Int32} (h : ¬ q = p) : sf f p x q = f q := by unfold sf; rw [if_neg h]
theorem tkn_n1 (r : Nat → Int32) : tkn r (-1) = r := by
  funext i; unfold tkn
  rw [show inR (-1) 8 = false from inR_neg (by decide)]
  exact if_neg (fun z => absurd z.1 (by decide))
theorem tkn_o (r : Nat → Int32) {o i : Nat} (ho : o < 8) : tkn r (nI o) i = if i = o then r i - nI 1 else r i := by
  unfold tkn
  rw [inN (show o < 2 ^ 31 by omega) ho, clN (show o < 2 ^ 31 by omega)]
  simp
/-- how much room there is -/
def RRm (w : Vg) (r : Nat → Int32) : Prop := ∀ o, o < vN w → ∃ H, H ≤ 9 ∧ vF w 4 o = nI H ∧ pcs w (nI o) (vP w) ≤ H ∧ r o = nI (H - pcs w (nI o) (vP w))
theorem rr_lt {w : Vg} {o : Nat} (ho : o < vN w) (hN : vN w ≤ 8) (hP : vP w ≤ 12) {H : Nat} (hH : H ≤ 9) (e : vF w 4 o = nI H) : hasRm w (nI o) = decide (pcs w (nI o) (vP w) < H) := by
  have := pcs_le w (nI o) (vP w)
  unfold hasRm
  rw [inN (show o < 2 ^ 31 by omega) ho, clN (show o < 2 ^ 31 by omega), e, Bool.true_and]
  exact decide_eq_decide.mpr (nI_ltI (by omega) (by omega))
theorem rr_has {w : Vg} {r : Nat → Int32} {o : Nat} (h : RRm w r) (hN : vN w ≤ 8) (hP : vP w ≤ 12) (ho : o < vN w) : decide (¬ r o ≤ 0) = hasRm w (nI o) := by
  obtain ⟨H, h1, h2, h3, h4⟩ := h o ho
  rw [rr_lt ho hN hP h1 h2, h4]
  apply decide_eq_decide.mpr
  constructor
  · intro z
    have := nI_gt0 (by omega) z
    omega
  · intro z q
    have := nI_le0 (by omega) q
    omega
theorem vset_f {w : Vg} {c c' p i : Nat} {x : Int32} : vF (vset w c p x) c' i = if c' = c then (if i = p then x else vF w c' i) else vF w c' i := rfl
theorem pcs_set {w : Vg} {c p j : Nat} {x : Int32} (hc : c = 0 ∨ c = 1) (h : vF w c p = -1) (hj : j < 2 ^ 30) : ∀ n, pcs (vset w c p x) (nI j) n = pcs w (nI j) n + (if p < n ∧ x = nI j then 1 else 0)
  | 0 => by simp [pcs]
  | n + 1 => by
    have ih := pcs_set (x := x) hc h hj n
    have nj : ¬ (-1 : Int32) = nI j := fun q => nI_nm1 (by omega) q.symm
    simp only [pcs]
    rw [ih]
    by_cases e : n = p
    · subst e
      rw [if_neg (show ¬ (n < n ∧ x = nI j) from fun q => absurd q.1 (Nat.lt_irrefl _))]
      rcases hc with rfl | rfl
      · have a0 : vF (vset w 0 n x) 0 n = x := by simp [vset, vF]
        have a1 : vF (vset w 0 n x) 1 n = vF w 1 n := by simp [vset, vF]
        rw [a0, a1, h, if_neg nj]
        by_cases q : x = nI j
        · rw [if_pos q, if_pos (show n < n + 1 ∧ x = nI j from ⟨Nat.lt_succ_self _, q⟩)]; omega
        · rw [if_neg q, if_neg (show ¬ (n < n + 1 ∧ x = nI j) from fun z => q z.2)]; omega
      · have a0 : vF (vset w 1 n x) 1 n = x := by simp [vset, vF]
        have a1 : vF (vset w 1 n x) 0 n = vF w 0 n := by simp [vset, vF]
        rw [a0, a1, h, if_neg nj]
        by_cases q : x = nI j
        · rw [if_pos q, if_pos (show n < n + 1 ∧ x = nI j from ⟨Nat.lt_succ_self _, q⟩)]; omega
        · rw [if_neg q, if_neg (show ¬ (n < n + 1 ∧ x = nI j) from fun z => q z.2)]; omega
    · have e1 : ∀ c', vF (vset w c p x) c' n = vF w c' n := fun c' => by rw [vset_f, if_neg e]; split <;> rfl
      rw [e1, e1]
      by_cases q : p < n ∧ x = nI j
      · rw [if_pos q, if_pos (show p < n + 1 ∧ x = nI j from ⟨by omega, q.2⟩)]; omega
      · rw [if_neg q, if_neg (show ¬ (p < n + 1 ∧ x = nI j) from fun z => q ⟨by omega, z.2⟩)]; omega
theorem rr_put {w : Vg} {r : Nat → Int32} {c p o : Nat} (h : RRm w r) (hc : c = 0 ∨ c = 1) (hp : p < vP w) (h1 : vF w c p = -1) (hN : vN w ≤ 8) (hP : vP w ≤ 12) (ho : o < vN w) (hr : hasRm w (nI o) = true) : RRm (vset w c p (nI o)) (tkn r (nI o)) := by
  intro j hj
  have hj : j < vN w := hj
  obtain ⟨H, a1, a2, a3, a4⟩ := h j hj
  have e4 : vF (vset w c p (nI o)) 4 j = nI H := by rw [vset_f, if_neg (by omega)]; exact a2
  refine ⟨H, a1, e4, ?_⟩
  show pcs (vset w c p (nI o)) (nI j) (vP w) ≤ H ∧ tkn r (nI o) j = nI (H - pcs (vset w c p (nI o)) (nI j) (vP w))
  rw [pcs_set hc h1 (by omega), tkn_o r (by omega)]
  by_cases e : j = o
  · subst e
    rw [rr_lt ho hN hP a1 a2] at hr
    have hr := of_decide_eq_true hr
    rw [if_pos ⟨hp, rfl⟩, if_pos rfl, a4, pk_sub (by omega)]
    exact ⟨by omega, by congr 1⟩
  · rw [if_neg (fun z => e ((nI_eq (by omega) (by omega)).mp z.2).symm), if_neg e]
    exact ⟨a3, a4⟩
theorem rr_put' {u : Vg} {r f : Nat → Int32} {c p o : Nat} (h : RRm (vcol u c f) r) (hc : c = 0 ∨ c = 1) (hp : p < vP u) (h1 : f p = -1) (hN : vN u ≤ 8) (hP : vP u ≤ 12) (ho : o < vN u) (hr : hasRm (vcol u c f) (nI o) = true) : RRm (vcol u c (sf f p (nI o))) (tkn r (nI o)) := by
  rw [← vset_col]
  exact rr_put h hc hp (show vF (vcol u c f) c p = -1 by show (if c = c then f p else _) = -1; rw [if_pos rfl]; exact h1) hN hP ho hr
/-- the next with room -/
theorem nx_eq {w : Vg} {r : Nat → Int32} {a : Nat} {y : Int32} (h : RRm w r) (hN : vN w ≤ 8) (hP : vP w ≤ 12) (ha : a ≤ vN w) : nxR (vN w) r (nI a) y = nwA w a y := by
  unfold nxR nwA
  refine fst_c _ _ (fun i h1 h2 => ?_)
  have h2 : i < vN w := by omega
  have e : rnd (vN w) (nI a) i = nI ((a + i) % vN w) := by
    unfold rnd
    rw [nI_add]
    by_cases q : a + i < vN w
    · rw [if_pos ((nI_ltI (by omega) (by omega)).mpr q), Nat.mod_eq_of_lt q]
    · rw [if_neg (fun z => q ((nI_ltI (by omega) (by omega)).mp z)), pk_sub (by omega), Nat.mod_eq_sub_mod (by omega), Nat.mod_eq_of_lt (by omega)]
  have hm : (a + i) % vN w < vN w := Nat.mod_lt _ (by omega)
  refine ⟨?_, e⟩
  unfold nxP
  rw [e, inN (show (a + i) % vN w < 2 ^ 31 by omega) hm, clN (show (a + i) % vN w < 2 ^ 31 by omega), Bool.true_and, rr_has h hN hP hm]
/-- to the next, part by part, in a column -/
def rgF (w : Vg) (c : Nat) (bt : Nat → Int32) (f : Nat → Int32) (a : Nat) : Nat → (Nat → Int32) × Nat
  | 0 => (f, a)
  | p + 1 => (sf (rgF w c bt f a p).1 p (nwA (vcol w c (rgF w c bt f a p).1) (rgF w c bt f a p).2 (bt p)),
      if nwA (vcol w c (rgF w c bt f a p).1) (rgF w c bt f a p).2 (bt p) = -1 then (rgF w c bt f a p).2 else (nwA (vcol w c (rgF w c bt f a p).1) (rgF w c bt f a p).2 (bt p)).toNatClampNeg + 1)
theorem rn_rg (v : Vg) (f : Nat → Int32) (a : Nat) : ∀ p, rnF v false f a p = rgF v 0 (fun _ => -1) f a p
  | 0 => rfl
  | p + 1 => by
    simp only [rnF, rgF, rn_rg v f a p, Bool.false_eq_true, if_false]
theorem rs_rg (v : Vg) (f : Nat → Int32) (a : Nat) : ∀ p, rsF v f a p = rgF v 1 (fun p => vF v 0 p) f a p
  | 0 => rfl
  | p + 1 => by simp only [rsF, rgF, rs_rg v f a p]
theorem nw_sat (w : Vg) (a : Nat) (y : Int32) (hN : vN w ≤ 8) : nwA w a y = -1 ∨ ∃ o, o < vN w ∧ hasRm w (nI o) = true ∧ nwA w a y = nI o := by
  unfold nwA
  rcases fst_sat (fun i => decide (¬ nI ((a + i) % vN w) = y) && hasRm w (nI ((a + i) % vN w))) (fun i => nI ((a + i) % vN w)) (vN w) 0 with ⟨e, _⟩ | ⟨j, h1, h2, h3, e⟩
  · exact Or.inl e
  · refine Or.inr ⟨(a + j) % vN w, Nat.mod_lt _ (by omega), ?_, e⟩
    simp only [Bool.and_eq_true] at h3
    exact h3.2
theorem rg_eq {u : Vg} {c a : Nat} {bt : Nat → Int32} {b2 : (Nat → Int32) → Nat → Int32} {f r : Nat → Int32} (hc : c = 0 ∨ c = 1) (hN : vN u ≤ 8) (hP : vP u ≤ 12) (hb : ∀ g p, b2 g p = bt p) (h : RRm (vcol u c f) r) (ha : a ≤ vN u) (h1 : ∀ p, p < vP u → f p = -1) : ∀ p, p ≤ vP u →
    (gvR (vN u) b2 f r (nI a) p).1 = (rgF u c bt f a p).1 ∧ RRm (vcol u c (rgF u c bt f a p).1) (gvR (vN u) b2 f r (nI a) p).2.1 ∧ (gvR (vN u) b2 f r (nI a) p).2.2 = nI (rgF u c bt f a p).2 ∧ (rgF u c bt f a p).2 ≤ vN u ∧ (∀ q, p ≤ q → q < vP u → (rgF u c bt f a p).1 q = -1)
  | 0, _ => ⟨rfl, h, rfl, ha, fun q _ hq => h1 q hq⟩
  | p + 1, hp => by
    obtain ⟨i1, i2, i3, i4, i5⟩ := rg_eq hc hN hP hb h ha h1 p (by omega)
    have e : nxR (vN u) (gvR (vN u) b2 f r (nI a) p).2.1 (gvR (vN u) b2 f r (nI a) p).2.2 (b2 (gvR (vN u) b2 f r (nI a) p).1 p) = nwA (vcol u c (rgF u c bt f a p).1) (rgF u c bt f a p).2 (bt p) := by
      rw [i3, hb]
      exact nx_eq (w := vcol u c (rgF u c bt f a p).1) i2 hN hP i4
    simp only [gvR, rgF]
    rw [e, i1, i3]
    have fp := i5 p (Nat.le_refl _) (by omega)
    rcases nw_sat (vcol u c (rgF u c bt f a p).1) (rgF u c bt f a p).2 (bt p) hN with q | ⟨o, ho, hr, q⟩
    · rw [q, if_pos rfl, if_pos rfl, tkn_n1, sf_id fp]
      exact ⟨rfl, i2, rfl, i4, fun q2 h2 h3 => i5 q2 (by omega) h3⟩
    · have ho : o < vN u := ho
      have n1 : ¬ nI o = -1 := nI_nm1 (by omega)
      rw [q, if_neg n1, if_neg n1, clN (by omega)]
      refine ⟨rfl, rr_put' i2 hc (by omega) fp hN hP ho hr, nI_add _ _, by omega, fun q2 h2 h3 => ?_⟩
      rw [sfx_ne (by omega)]
      exact i5 q2 (by omega) h3
/-- the surest -/
theorem su_eq {u w : Vg} {r : Nat → Int32} (h : RRm w r) (hN : vN w ≤ 8) (hP : vP w ≤ 12) (e5 : ∀ i, vF u 5 i = vF w 5 i) (ha : ∀ o, o < vN w → ∃ A, A ≤ 10 ∧ vF w 5 o = nI A) : ∀ n, n ≤ vN w → (suR u r n).1 = srA w n ∧ (suR u r n).2 = if srA w n = -1 then nI 11 else vF w 5 (srA w n).toNatClampNeg
  | 0, _ => ⟨rfl, rfl⟩
  | n + 1, hn => by
    obtain ⟨i1, i2⟩ := su_eq h hN hP e5 ha n (by omega)
    have hr := rr_has h hN hP (show n < vN w by omega)
    obtain ⟨A, hA, eA⟩ := ha n (by omega)
    have eS : srA w (n + 1) = if hasRm w (nI n) = true ∧ (srA w n = -1 ∨ vF w 5 n < vF w 5 (srA w n).toNatClampNeg) then nI n else srA w n := rfl
    have eU : suR u r (n + 1) = if ¬ (suR u r n).2 ≤ vF u 5 n ∧ ¬ r n ≤ 0 then (nI n, vF u 5 n) else suR u r n := rfl
    rw [eS, eU, i2, e5]
    have n1 : ¬ nI n = -1 := nI_nm1 (by omega)
    by_cases hm : hasRm w (nI n) = true
    · rw [hm] at hr
      have hr := of_decide_eq_true hr
      rcases sr_ex w n with q | ⟨o, ho, q⟩
      · have lt : ¬ nI 11 ≤ vF w 5 n := by rw [eA]; intro z; have := (nI_leI (by omega) (by omega)).mp z; omega
        rw [if_pos q, if_pos (show ¬ nI 11 ≤ vF w 5 n ∧ ¬ r n ≤ 0 from ⟨lt, hr⟩), if_pos (show hasRm w (nI n) = true ∧ (srA w n = -1 ∨ _) from ⟨hm, Or.inl q⟩), if_neg n1, clN (show n < 2 ^ 31 by omega)]
        exact ⟨rfl, rfl⟩
      · have nq : ¬ srA w n = -1 := by rw [q]; exact nI_nm1 (by omega)
        rw [if_neg nq]
        by_cases lt : vF w 5 n < vF w 5 (srA w n).toNatClampNeg
        · rw [if_pos (show ¬ vF w 5 (srA w n).toNatClampNeg ≤ vF w 5 n ∧ ¬ r n ≤ 0 from ⟨Int32.not_le.mpr lt, hr⟩), if_pos (show hasRm w (nI n) = true ∧ (srA w n = -1 ∨ vF w 5 n < vF w 5 (srA w n).toNatClampNeg) from ⟨hm, Or.inr lt⟩), if_neg n1, clN (show n < 2 ^ 31 by omega)]
          exact ⟨rfl, rfl⟩
        · rw [if_neg (show ¬ (¬ vF w 5 (srA w n).toNatClampNeg ≤ vF w 5 n ∧ ¬ r n ≤ 0) from fun z => lt (Int32.not_le.mp z.1)), if_neg (show ¬ (hasRm w (nI n) = true ∧ (srA w n = -1 ∨ vF w 5 n < vF w 5 (srA w n).toNatClampNeg)) from fun z => z.2.elim nq lt), if_neg nq]
          exact ⟨i1, i2.trans (if_neg nq)⟩
    · rw [Bool.not_eq_true] at hm
      rw [hm] at hr
      have hr := Classical.not_not.mp (of_decide_eq_false hr)
      rw [if_neg (show ¬ (¬ (if srA w n = -1 then nI 11 else vF w 5 (srA w n).toNatClampNeg) ≤ vF w 5 n ∧ ¬ r n ≤ 0) from fun z => z.2 hr), if_neg (show ¬ (hasRm w (nI n) = true ∧ (srA w n = -1 ∨ vF w 5 n < vF w 5 (srA w n).toNatClampNeg)) from fun z => by rw [hm] at z; exact absurd z.1 (by decide))]
      exact ⟨i1, i2⟩
theorem sr_sat (w : Vg) : ∀ n, srA w n = -1 ∨ ∃ o, o < n ∧ hasRm w (nI o) = true ∧ srA w n = nI o
  | 0 => Or.inl rfl
  | n + 1 => by
    simp only [srA]
    split
    · next c => exact Or.inr ⟨n, by omega, c.1, rfl⟩
    · exact (sr_sat w n).imp_right (fun ⟨a, b, c⟩ => ⟨a, by omega, c⟩)
theorem sg_eq {u : Vg} {f r : Nat → Int32} {a : Nat} (hN : vN u ≤ 8) (hP : vP u ≤ 12) (h : RRm (vcol u 0 f) r) (hA : ∀ o, o < vN u → ∃ A, A ≤ 10 ∧ vF u 5 o = nI A) (h1 : ∀ p, p < vP u → f p = -1) : ∀ p, p ≤ vP u →
    (gvS u f r p).1 = (rnF u true f a p).1 ∧ RRm (vcol u 0 (rnF u true f a p).1) (gvS u f r p).2 ∧ (∀ q, p ≤ q → q < vP u → (rnF u true f a p).1 q = -1)
  | 0, _ => ⟨rfl, h, fun q _ hq => h1 q hq⟩
  | p + 1, hp => by
    obtain ⟨i1, i2, i3⟩ := sg_eq (a := a) hN hP h hA h1 p (by omega)
    have e : (suR u (gvS u f r p).2 (vN u)).1 = srA (vcol u 0 (rnF u true f a p).1) (vN u) := (su_eq (u := u) (w := vcol u 0 (rnF u true f a p).1) i2 hN hP (fun _ => rfl) hA (vN u) (Nat.le_refl _)).1
    simp only [gvS, rnF, if_true]
    rw [e, i1]
    have fp := i3 p (Nat.le_refl _) (by omega)
    rcases sr_sat (vcol u 0 (rnF u true f a p).1) (vN u) with q | ⟨o, ho, hr, q⟩
    · rw [q, tkn_n1, sf_id fp]
      exact ⟨rfl, i2, fun q2 h2 h3 => i3 q2 (by omega) h3⟩
    · rw [q]
      refine ⟨rfl, rr_put' i2 (Or.inl rfl) (by omega) fp hN hP ho hr, fun q2 h2 h3 => ?_⟩
      rw [sfx_ne (by omega)]
      exact i3 q2 (by omega) h3

