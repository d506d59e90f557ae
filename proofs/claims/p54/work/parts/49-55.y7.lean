section
/-! PART 54: holdings: the reference's are the class's -/
theorem fst_c {P P' : Nat → Bool} {F F' : Nat → Int32} : ∀ n i, (∀ j, i ≤ j → j < i + n → P j = P' j ∧ F j = F' j) → fstF P F n i = fstF P' F' n i
  | 0, _, _ => rfl
  | n + 1, i, h => by
    simp only [fstF]
    rw [(h i (Nat.le_refl _) (by omega)).1, (h i (Nat.le_refl _) (by omega)).2, fst_c n (i + 1) (fun j h1 h2 => h j (by omega) (by omega))]
theorem fst_sat (P : Nat → Bool) (F : Nat → Int32) : ∀ n i, (fstF P F n i = -1 ∧ ∀ j, i ≤ j → j < i + n → P j = false) ∨ ∃ j, i ≤ j ∧ j < i + n ∧ P j = true ∧ fstF P F n i = F j
  | 0, i => Or.inl ⟨rfl, fun j h1 h2 => by omega⟩
  | n + 1, i => by
    simp only [fstF]
    cases q : P i
    · rw [if_neg (by decide)]
      rcases fst_sat P F n (i + 1) with ⟨a, b⟩ | ⟨j, a, b, c, d⟩
      · refine Or.inl ⟨a, fun j h1 h2 => ?_⟩
        by_cases e : j = i
        · rw [e]; exact q
        · exact b j (by omega) (by omega)
      · exact Or.inr ⟨j, by omega, by omega, c, d⟩
    · rw [if_pos rfl]
      exact Or.inr ⟨i, Nat.le_refl _, by omega, q, rfl⟩
theorem sf_id {f : Nat → Int32} {p : Nat} {x : Int32} (h : f p = x) : sf f p x = f := by
  funext i; unfold sf; split
  · next e => rw [e, h]
  · rfl
theorem sfx_at {f : Nat → Int32} {p : Nat} {x : Int32} : sf f p x p = x := by unfold sf; rw [if_pos rfl]
theorem sfx_ne {f : Nat → Int32} {p q : Nat} {x : Int32} (h : ¬ q = p) : sf f p x q = f q := by unfold sf; rw [if_neg h]
theorem tkn_n1 (r : Nat → Int32) : tkn r (-1) = r := by
  funext i; unfold tkn
  rw [show inR (-1) 8 = false from inR_neg (by decide)]
  exact if_neg (fun z => absurd z.1 (by decide))
theorem tkn_o (r : Nat → Int32) {o i : Nat} (ho : o < 8) : tkn r (nI o) i = if i = o then r i - nI 1 else r i := by
  unfold tkn
  rw [inN (show o < 2 ^ 31 by omega) ho, clN (show o < 2 ^ 31 by omega)]
  simp
/-- how much room there is -/
def RRm (w : Vg) (r : Nat → Int32) : Prop := ∀ o, o < vN w → ∃ H, H ≤ 9 ∧ vF w 4 o = nI H ∧ pcs w (nI o) (vP w) ≤ H ∧ r o = nI (H - pcs w (nI o) (vP w))
theorem rr_lt {w : Vg} {o : Nat} (ho : o < vN w) (hN : vN w ≤ 8) (hP : vP w ≤ 12) {H : Nat} (hH : H ≤ 9) (e : vF w 4 o = nI H) : hasRm w (nI o) = decide (pcs w (nI o) (vP w) < H) := by
  have := pcs_le w (nI o) (vP w)
  unfold hasRm
  rw [inN (show o < 2 ^ 31 by omega) ho, clN (show o < 2 ^ 31 by omega), e, Bool.true_and]
  exact decide_eq_decide.mpr (nI_ltI (by omega) (by omega))
theorem rr_has {w : Vg} {r : Nat → Int32} {o : Nat} (h : RRm w r) (hN : vN w ≤ 8) (hP : vP w ≤ 12) (ho : o < vN w) : decide (¬ r o ≤ 0) = hasRm w (nI o) := by
  obtain ⟨H, h1, h2, h3, h4⟩ := h o ho
  rw [rr_lt ho hN hP h1 h2, h4]
  apply decide_eq_decide.mpr
  constructor
  · intro z
    have := nI_gt0 (by omega) z
    omega
  · intro z q
    have := nI_le0 (by omega) q
    omega
theorem vset_f {w : Vg} {c c' p i : Nat} {x : Int32} : vF (vset w c p x) c' i = if c' = c then (if i = p then x else vF w c' i) else vF w c' i := rfl
theorem pcs_set {w : Vg} {c p j : Nat} {x : Int32} (hc : c = 0 ∨ c = 1) (h : vF w c p = -1) (hj : j < 2 ^ 30) : ∀ n, pcs (vset w c p x) (nI j) n = pcs w (nI j) n + (if p < n ∧ x = nI j then 1 else 0)
  | 0 => by simp [pcs]
  | n + 1 => by
    have ih := pcs_set (x := x) hc h hj n
    have nj : ¬ (-1 : Int32) = nI j := fun q => nI_nm1 (by omega) q.symm
    simp only [pcs]
    rw [ih]
    by_cases e : n = p
    · subst e
      rw [if_neg (show ¬ (n < n ∧ x = nI j) from fun q => absurd q.1 (Nat.lt_irrefl _))]
      rcases hc with rfl | rfl
      · have a0 : vF (vset w 0 n x) 0 n = x := by simp [vset, vF]
        have a1 : vF (vset w 0 n x) 1 n = vF w 1 n := by simp [vset, vF]
        rw [a0, a1, h, if_neg nj]
        by_cases q : x = nI j
        · rw [if_pos q, if_pos (show n < n + 1 ∧ x = nI j from ⟨Nat.lt_succ_self _, q⟩)]; omega
        · rw [if_neg q, if_neg (show ¬ (n < n + 1 ∧ x = nI j) from fun z => q z.2)]; omega
      · have a0 : vF (vset w 1 n x) 1 n = x := by simp [vset, vF]
        have a1 : vF (vset w 1 n x) 0 n = vF w 0 n := by simp [vset, vF]
        rw [a0, a1, h, if_neg nj]
        by_cases q : x = nI j
        · rw [if_pos q, if_pos (show n < n + 1 ∧ x = nI j from ⟨Nat.lt_succ_self _, q⟩)]; omega
        · rw [if_neg q, if_neg (show ¬ (n < n + 1 ∧ x = nI j) from fun z => q z.2)]; omega
    · have e1 : ∀ c', vF (vset w c p x) c' n = vF w c' n := fun c' => by rw [vset_f, if_neg e]; split <;> rfl
      rw [e1, e1]
      by_cases q : p < n ∧ x = nI j
      · rw [if_pos q, if_pos (show p < n + 1 ∧ x = nI j from ⟨by omega, q.2⟩)]; omega
      · rw [if_neg q, if_neg (show ¬ (p < n + 1 ∧ x = nI j) from fun z => q ⟨by omega, z.2⟩)]; omega
theorem rr_put {w : Vg} {r : Nat → Int32} {c p o : Nat} (h : RRm w r) (hc : c = 0 ∨ c = 1) (hp : p < vP w) (h1 : vF w c p = -1) (hN : vN w ≤ 8) (hP : vP w ≤ 12) (ho : o < vN w) (hr : hasRm w (nI o) = true) : RRm (vset w c p (nI o)) (tkn r (nI o)) := by
  intro j hj
  have hj : j < vN w := hj
  obtain ⟨H, a1, a2, a3, a4⟩ := h j hj
  have e4 : vF (vset w c p (nI o)) 4 j = nI H := by rw [vset_f, if_neg (by omega)]; exact a2
  refine ⟨H, a1, e4, ?_⟩
  show pcs (vset w c p (nI o)) (nI j) (vP w) ≤ H ∧ tkn r (nI o) j = nI (H - pcs (vset w c p (nI o)) (nI j) (vP w))
  rw [pcs_set hc h1 (by omega), tkn_o r (by omega)]
  by_cases e : j = o
  · subst e
    rw [rr_lt ho hN hP a1 a2] at hr
    have hr := of_decide_eq_true hr
    rw [if_pos ⟨hp, rfl⟩, if_pos rfl, a4, pk_sub (by omega)]
    exact ⟨by omega, by congr 1⟩
  · rw [if_neg (fun z => e ((nI_eq (by omega) (by omega)).mp z.2).symm), if_neg e]
    exact ⟨a3, a4⟩
theorem rr_put' {u : Vg} {r f : Nat → Int32} {c p o : Nat} (h : RRm (vcol u c f) r) (hc : c = 0 ∨ c = 1) (hp : p < vP u) (h1 : f p = -1) (hN : vN u ≤ 8) (hP : vP u ≤ 12) (ho : o < vN u) (hr : hasRm (vcol u c f) (nI o) = true) : RRm (vcol u c (sf f p (nI o))) (tkn r (nI o)) := by
  rw [← vset_col]
  exact rr_put h hc hp (show vF (vcol u c f) c p = -1 by show (if c = c then f p else _) = -1; rw [if_pos rfl]; exact h1) hN hP ho hr
/-- the next with room -/
theorem nx_eq {w : Vg} {r : Nat → Int32} {a : Nat} {y : Int32} (h : RRm w r) (hN : vN w ≤ 8) (hP : vP w ≤ 12) (ha : a ≤ vN w) : nxR (vN w) r (nI a) y = nwA w a y := by
  unfold nxR nwA
  refine fst_c _ _ (fun i h1 h2 => ?_)
  have h2 : i < vN w := by omega
  have e : rnd (vN w) (nI a) i = nI ((a + i) % vN w) := by
    unfold rnd
    rw [nI_add]
    by_cases q : a + i < vN w
    · rw [if_pos ((nI_ltI (by omega) (by omega)).mpr q), Nat.mod_eq_of_lt q]
    · rw [if_neg (fun z => q ((nI_ltI (by omega) (by omega)).mp z)), pk_sub (by omega), Nat.mod_eq_sub_mod (by omega), Nat.mod_eq_of_lt (by omega)]
  have hm : (a + i) % vN w < vN w := Nat.mod_lt _ (by omega)
  refine ⟨?_, e⟩
  unfold nxP
  rw [e, inN (show (a + i) % vN w < 2 ^ 31 by omega) hm, clN (show (a + i) % vN w < 2 ^ 31 by omega), Bool.true_and, rr_has h hN hP hm]
/-- to the next, part by part, in a column -/
def rgF (w : Vg) (c : Nat) (bt : Nat → Int32) (f : Nat → Int32) (a : Nat) : Nat → (Nat → Int32) × Nat
  | 0 => (f, a)
  | p + 1 => (sf (rgF w c bt f a p).1 p (nwA (vcol w c (rgF w c bt f a p).1) (rgF w c bt f a p).2 (bt p)),
      if nwA (vcol w c (rgF w c bt f a p).1) (rgF w c bt f a p).2 (bt p) = -1 then (rgF w c bt f a p).2 else (nwA (vcol w c (rgF w c bt f a p).1) (rgF w c bt f a p).2 (bt p)).toNatClampNeg + 1)
theorem rn_rg (v : Vg) (f : Nat → Int32) (a : Nat) : ∀ p, rnF v false f a p = rgF v 0 (fun _ => -1) f a p
  | 0 => rfl
  | p + 1 => by
    simp only [rnF, rgF, rn_rg v f a p, Bool.false_eq_true, if_false]
theorem rs_rg (v : Vg) (f : Nat → Int32) (a : Nat) : ∀ p, rsF v f a p = rgF v 1 (fun p => vF v 0 p) f a p
  | 0 => rfl
  | p + 1 => by simp only [rsF, rgF, rs_rg v f a p]
theorem nw_sat (w : Vg) (a : Nat) (y : Int32) (hN : vN w ≤ 8) : nwA w a y = -1 ∨ ∃ o, o < vN w ∧ hasRm w (nI o) = true ∧ nwA w a y = nI o := by
  unfold nwA
  rcases fst_sat (fun i => decide (¬ nI ((a + i) % vN w) = y) && hasRm w (nI ((a + i) % vN w))) (fun i => nI ((a + i) % vN w)) (vN w) 0 with ⟨e, _⟩ | ⟨j, h1, h2, h3, e⟩
  · exact Or.inl e
  · refine Or.inr ⟨(a + j) % vN w, Nat.mod_lt _ (by omega), ?_, e⟩
    simp only [Bool.and_eq_true] at h3
    exact h3.2
theorem rg_eq {u : Vg} {c a : Nat} {bt : Nat → Int32} {b2 : (Nat → Int32) → Nat → Int32} {f r : Nat → Int32} (hc : c = 0 ∨ c = 1) (hN : vN u ≤ 8) (hP : vP u ≤ 12) (hb : ∀ g p, b2 g p = bt p) (h : RRm (vcol u c f) r) (ha : a ≤ vN u) (h1 : ∀ p, p < vP u → f p = -1) : ∀ p, p ≤ vP u →
    (gvR (vN u) b2 f r (nI a) p).1 = (rgF u c bt f a p).1 ∧ RRm (vcol u c (rgF u c bt f a p).1) (gvR (vN u) b2 f r (nI a) p).2.1 ∧ (gvR (vN u) b2 f r (nI a) p).2.2 = nI (rgF u c bt f a p).2 ∧ (rgF u c bt f a p).2 ≤ vN u ∧ (∀ q, p ≤ q → q < vP u → (rgF u c bt f a p).1 q = -1)
  | 0, _ => ⟨rfl, h, rfl, ha, fun q _ hq => h1 q hq⟩
  | p + 1, hp => by
    obtain ⟨i1, i2, i3, i4, i5⟩ := rg_eq hc hN hP hb h ha h1 p (by omega)
    have e : nxR (vN u) (gvR (vN u) b2 f r (nI a) p).2.1 (gvR (vN u) b2 f r (nI a) p).2.2 (b2 (gvR (vN u) b2 f r (nI a) p).1 p) = nwA (vcol u c (rgF u c bt f a p).1) (rgF u c bt f a p).2 (bt p) := by
      rw [i3, hb]
      exact nx_eq (w := vcol u c (rgF u c bt f a p).1) i2 hN hP i4
    simp only [gvR, rgF]
    rw [e, i1, i3]
    have fp := i5 p (Nat.le_refl _) (by omega)
    rcases nw_sat (vcol u c (rgF u c bt f a p).1) (rgF u c bt f a p).2 (bt p) hN with q | ⟨o, ho, hr, q⟩
    · rw [q, if_pos rfl, if_pos rfl, tkn_n1, sf_id fp]
      exact ⟨rfl, i2, rfl, i4, fun q2 h2 h3 => i5 q2 (by omega) h3⟩
    · have ho : o < vN u := ho
      have n1 : ¬ nI o = -1 := nI_nm1 (by omega)
      rw [q, if_neg n1, if_neg n1, clN (by omega)]
      refine ⟨rfl, rr_put' i2 hc (by omega) fp hN hP ho hr, nI_add _ _, by omega, fun q2 h2 h3 => ?_⟩
      rw [sfx_ne (by omega)]
      exact i5 q2 (by omega) h3
/-- the surest -/
theorem su_eq {u w : Vg} {r : Nat → Int32} (h : RRm w r) (hN : vN w ≤ 8) (hP : vP w ≤ 12) (e5 : ∀ i, vF u 5 i = vF w 5 i) (ha : ∀ o, o < vN w → ∃ A, A ≤ 10 ∧ vF w 5 o = nI A) : ∀ n, n ≤ vN w → (suR u r n).1 = srA w n ∧ (suR u r n).2 = if srA w n = -1 then nI 11 else vF w 5 (srA w n).toNatClampNeg
  | 0, _ => ⟨rfl, rfl⟩
  | n + 1, hn => by
    obtain ⟨i1, i2⟩ := su_eq h hN hP e5 ha n (by omega)
    have hr := rr_has h hN hP (show n < vN w by omega)
    obtain ⟨A, hA, eA⟩ := ha n (by omega)
    have eS : srA w (n + 1) = if hasRm w (nI n) = true ∧ (srA w n = -1 ∨ vF w 5 n < vF w 5 (srA w n).toNatClampNeg) then nI n else srA w n := rfl
    have eU : suR u r (n + 1) = if ¬ (suR u r n).2 ≤ vF u 5 n ∧ ¬ r n ≤ 0 then (nI n, vF u 5 n) else suR u r n := rfl
    rw [eS, eU, i2, e5]
    have n1 : ¬ nI n = -1 := nI_nm1 (by omega)
    by_cases hm : hasRm w (nI n) = true
    · rw [hm] at hr
      have hr := of_decide_eq_true hr
      rcases sr_ex w n with q | ⟨o, ho, q⟩
      · have lt : ¬ nI 11 ≤ vF w 5 n := by rw [eA]; intro z; have := (nI_leI (by omega) (by omega)).mp z; omega
        rw [if_pos q, if_pos (show ¬ nI 11 ≤ vF w 5 n ∧ ¬ r n ≤ 0 from ⟨lt, hr⟩), if_pos (show hasRm w (nI n) = true ∧ (srA w n = -1 ∨ _) from ⟨hm, Or.inl q⟩), if_neg n1, clN (show n < 2 ^ 31 by omega)]
        exact ⟨rfl, rfl⟩
      · have nq : ¬ srA w n = -1 := by rw [q]; exact nI_nm1 (by omega)
        rw [if_neg nq]
        by_cases lt : vF w 5 n < vF w 5 (srA w n).toNatClampNeg
        · rw [if_pos (show ¬ vF w 5 (srA w n).toNatClampNeg ≤ vF w 5 n ∧ ¬ r n ≤ 0 from ⟨Int32.not_le.mpr lt, hr⟩), if_pos (show hasRm w (nI n) = true ∧ (srA w n = -1 ∨ vF w 5 n < vF w 5 (srA w n).toNatClampNeg) from ⟨hm, Or.inr lt⟩), if_neg n1, clN (show n < 2 ^ 31 by omega)]
          exact ⟨rfl, rfl⟩
        · rw [if_neg (show ¬ (¬ vF w 5 (srA w n).toNatClampNeg ≤ vF w 5 n ∧ ¬ r n ≤ 0) from fun z => lt (Int32.not_le.mp z.1)), if_neg (show ¬ (hasRm w (nI n) = true ∧ (srA w n = -1 ∨ vF w 5 n < vF w 5 (srA w n).toNatClampNeg)) from fun z => z.2.elim nq lt), if_neg nq]
          exact ⟨i1, i2.trans (if_neg nq)⟩
    · rw [Bool.not_eq_true] at hm
      rw [hm] at hr
      have hr := Classical.not_not.mp (of_decide_eq_false hr)
      rw [if_neg (show ¬ (¬ (if srA w n = -1 then nI 11 else vF w 5 (srA w n).toNatClampNeg) ≤ vF w 5 n ∧ ¬ r n ≤ 0) from fun z => z.2 hr), if_neg (show ¬ (hasRm w (nI n) = true ∧ (srA w n = -1 ∨ vF w 5 n < vF w 5 (srA w n).toNatClampNeg)) from fun z => by rw [hm] at z; exact absurd z.1 (by decide))]
      exact ⟨i1, i2⟩
theorem sr_sat (w : Vg) : ∀ n, srA w n = -1 ∨ ∃ o, o < n ∧ hasRm w (nI o) = true ∧ srA w n = nI o
  | 0 => Or.inl rfl
  | n + 1 => by
    simp only [srA]
    split
    · next c => exact Or.inr ⟨n, by omega, c.1, rfl⟩
    · exact (sr_sat w n).imp_right (fun ⟨a, b, c⟩ => ⟨a, by omega, c⟩)
theorem sg_eq {u : Vg} {f r : Nat → Int32} {a : Nat} (hN : vN u ≤ 8) (hP : vP u ≤ 12) (h : RRm (vcol u 0 f) r) (hA : ∀ o, o < vN u → ∃ A, A ≤ 10 ∧ vF u 5 o = nI A) (h1 : ∀ p, p < vP u → f p = -1) : ∀ p, p ≤ vP u →
    (gvS u f r p).1 = (rnF u true f a p).1 ∧ RRm (vcol u 0 (rnF u true f a p).1) (gvS u f r p).2 ∧ (∀ q, p ≤ q → q < vP u → (rnF u true f a p).1 q = -1)
  | 0, _ => ⟨rfl, h, fun q _ hq => h1 q hq⟩
  | p + 1, hp => by
    obtain ⟨i1, i2, i3⟩ := sg_eq (a := a) hN hP h hA h1 p (by omega)
    have e : (suR u (gvS u f r p).2 (vN u)).1 = srA (vcol u 0 (rnF u true f a p).1) (vN u) := (su_eq (u := u) (w := vcol u 0 (rnF u true f a p).1) i2 hN hP (fun _ => rfl) hA (vN u) (Nat.le_refl _)).1
    simp only [gvS, rnF, if_true]
    rw [e, i1]
    have fp := i3 p (Nat.le_refl _) (by omega)
    rcases sr_sat (vcol u 0 (rnF u true f a p).1) (vN u) with q | ⟨o, ho, hr, q⟩
    · rw [q, tkn_n1, sf_id fp]
      exact ⟨rfl, i2, fun q2 h2 h3 => i3 q2 (by omega) h3⟩
    · rw [q]
      refine ⟨rfl, rr_put' i2 (Or.inl rfl) (by omega) fp hN hP ho hr, fun q2 h2 h3 => ?_⟩
      rw [sfx_ne (by omega)]
      exact i3 q2 (by omega) h3
end
section
/-! PART 55: holdings by worth: the reference's are the class's; all together -/
theorem inB_bt {x : Int32} {q : Nat} (hq : q < 32) : inB x (nI q) = bt x q := by
  unfold inB
  rw [decide_eq_true (show ¬ nI q = -1 from fun z => nI_nm1 (by omega) z), Bool.true_and]
  cases e : bt x q
  · exact decide_eq_false (not_not_intro ((pow_0 x hq).mpr e))
  · exact decide_eq_true (fun z => by rw [(pow_0 x hq).mp z] at e; cases e)
theorem inB_or {x : Int32} {p q : Nat} (hp : p < 32) (hq : q < 32) : inB (x ||| (nI 1 <<< (nI p &&& 31))) (nI q) = (inB x (nI q) || decide (q = p)) := by
  rw [inB_bt hq, inB_bt hq, bt_or, bt_pow2 ⟨p, hp⟩ ⟨q, hq⟩]
theorem onS_a {f : Nat → Int32} {nd : Int32} {o : Nat} (ho : o < 32) : ∀ n, n ≤ 32 → (∀ p, p < n → f p = -1 ∨ ∃ j, j < 8 ∧ f p = nI j) → bt (onS f nd n) o = anyB (fun p => inB nd (nI p) && decide (f p = nI o)) n
  | 0, _, _ => bt_0 o
  | n + 1, hn, h => by
    have ih := onS_a (nd := nd) ho n (by omega) (fun p hp => h p (by omega))
    simp only [onS, anyB]
    by_cases q : nd &&& (nI 1 <<< (nI n &&& 31)) = 0
    · rw [if_neg (fun z => z.1 q), ih]
      have : inB nd (nI n) = false := by unfold inB; simp [q]
      rw [this, Bool.false_and, Bool.or_false]
    · have e1 : inB nd (nI n) = true := by
        unfold inB
        rw [decide_eq_true (show ¬ nI n = -1 from fun z => nI_nm1 (by omega) z), decide_eq_true q]; rfl
      rcases h n (by omega) with z | ⟨j, hj, z⟩
      · rw [if_neg (fun w => w.2 z), ih, z, decide_eq_false (show ¬ (-1 : Int32) = nI o from fun w => nI_nm1 (by omega) w.symm), Bool.and_false, Bool.or_false]
      · rw [if_pos ⟨q, fun w => nI_nm1 (o := j) (by omega) (z ▸ w)⟩, bt_or, ih, z, bt_pow2 ⟨j, by omega⟩ ⟨o, ho⟩, e1, Bool.true_and]
        congr 1
        by_cases w : o = j
        · subst w; simp
        · rw [decide_eq_false w, decide_eq_false (fun x => w ((nI_eq (by omega) (by omega)).mp x).symm)]
theorem any_set {F : Nat → Int32} {nd : Int32} {p o j : Nat} (h1 : F p = -1) (h2 : inB nd (nI p) = true) (ho : o < 32) (hj : j < 32) : ∀ n, anyB (fun q => inB nd (nI q) && decide (sf F p (nI o) q = nI j)) n = (anyB (fun q => inB nd (nI q) && decide (F q = nI j)) n || (decide (p < n) && decide (j = o)))
  | 0 => by simp [anyB]
  | n + 1 => by
    simp only [anyB]
    rw [any_set h1 h2 ho hj n]
    by_cases e : n = p
    · subst e
      rw [sfx_at, h2, h1, decide_eq_false (show ¬ (-1 : Int32) = nI j from fun w => nI_nm1 (by omega) w.symm), decide_eq_false (Nat.lt_irrefl n), decide_eq_true (Nat.lt_succ_self n)]
      simp only [Bool.true_and, Bool.false_and, Bool.or_false]
      congr 1
      by_cases w : j = o
      · subst w; simp
      · rw [decide_eq_false w, decide_eq_false (fun x => w ((nI_eq (by omega) (by omega)).mp x).symm)]
    · rw [sfx_ne e, show decide (p < n + 1) = decide (p < n) from decide_eq_decide.mpr (by omega)]
      cases anyB (fun q => inB nd (nI q) && decide (F q = nI j)) n <;> cases (inB nd (nI n) && decide (F n = nI j)) <;> simp
theorem fw_full {w : Vg} {Q : Nat → Bool} {am : Nat} (h : ∀ o, o < am → hasRm w (nI o) = false) : fstF (fun o => Q o && hasRm w (nI o)) nI am 0 = -1 := by
  rcases fst_sat (fun o => Q o && hasRm w (nI o)) nI am 0 with ⟨e, _⟩ | ⟨j, a, b, c, _⟩
  · exact e
  · simp only [Bool.and_eq_true] at c
    rw [h j (by omega)] at c; exact absurd c.2 (by decide)
theorem fwA_full {w : Vg} {am : Nat} (h : ∀ o, o < am → hasRm w (nI o) = false) : fwA w am = -1 := by
  unfold fwA
  rcases fst_sat (fun o => hasRm w (nI o)) nI am 0 with ⟨e, _⟩ | ⟨j, a, b, c, _⟩
  · exact e
  · rw [h j (by omega)] at c; exact absurd c (by decide)
theorem fwA_no {w : Vg} {am : Nat} (ha : am ≤ 8) (e : fwA w am = -1) : ∀ o, o < am → hasRm w (nI o) = false := by
  unfold fwA at e
  rcases fst_sat (fun o => hasRm w (nI o)) nI am 0 with ⟨_, q⟩ | ⟨j, a, b, c, d⟩
  · exact fun o ho => q o (by omega) (by omega)
  · exact absurd (d.symm.trans e) (nI_nm1 (by omega))
theorem fwA_sat {w : Vg} {am : Nat} : fwA w am = -1 ∨ ∃ o, o < am ∧ hasRm w (nI o) = true ∧ fwA w am = nI o := by
  unfold fwA
  rcases fst_sat (fun o => hasRm w (nI o)) nI am 0 with ⟨e, _⟩ | ⟨j, a, b, c, d⟩
  · exact Or.inl e
  · exact Or.inr ⟨j, by omega, c, d⟩
theorem fwM_sat {w : Vg} {am m : Nat} : fwM w am m = -1 ∨ ∃ o, o < am ∧ hasRm w (nI o) = true ∧ fwM w am m = nI o := by
  unfold fwM
  rcases fst_sat (fun o => anyB (ownB w (vF w 2 m) o) (vP w) && hasRm w (nI o)) nI am 0 with ⟨e, _⟩ | ⟨j, a, b, c, d⟩
  · exact Or.inl e
  · simp only [Bool.and_eq_true] at c
    exact Or.inr ⟨j, by omega, c.2, d⟩
theorem pkR_sat {u : Vg} {am b : Nat} {F : Nat → Int32} : (pkR u am b F = -1 ∧ fwA (vcol u 0 F) am = -1) ∨ ∃ o, o < am ∧ hasRm (vcol u 0 F) (nI o) = true ∧ pkR u am b F = nI o := by
  unfold pkR
  by_cases c : fwM (vcol u 0 F) am b = -1
  · rw [if_pos c]
    rcases fwA_sat (w := vcol u 0 F) (am := am) with e | e
    · exact Or.inl ⟨e, e⟩
    · exact Or.inr e
  · rw [if_neg c]
    exact Or.inr (fwM_sat.resolve_left c)
theorem bt_full {n o : Nat} (hn : n ≤ 12) (ho : o < n) : bt (full n) o = true := by
  unfold full
  rw [bt_nI _ (by omega), Nat.testBit_two_pow_sub_one]
  exact decide_eq_true ho
theorem fwR_full {w : Vg} {r : Nat → Int32} {am : Nat} (h : RRm w r) (hN : vN w ≤ 8) (hP : vP w ≤ 12) (ha : am ≤ vN w) : fwR r (full (vN w)) am = fwA w am := by
  unfold fwR fwA
  refine fst_c _ _ (fun j _ hj => ⟨?_, rfl⟩)
  unfold fwP
  rw [rr_has h hN hP (by omega), decide_eq_true (show ¬ full (vN w) &&& (nI 1 <<< (nI j &&& 31)) = 0 from fun z => by
    have := (pow_0 _ (by omega)).mp z
    rw [bt_full (by omega) (by omega)] at this; cases this), Bool.true_and]
theorem fwR_ow {w : Vg} {r : Nat → Int32} {ow : Int32} {am m : Nat} (h : RRm w r) (hN : vN w ≤ 8) (hP : vP w ≤ 12) (ha : am ≤ vN w) (hw : ∀ o, o < 32 → bt ow o = anyB (ownB w (vF w 2 m) o) (vP w)) : fwR r ow am = fwM w am m := by
  unfold fwR fwM
  refine fst_c _ _ (fun j _ hj => ⟨?_, rfl⟩)
  unfold fwP
  rw [rr_has h hN hP (by omega), ← hw j (by omega)]
  congr 1
  cases e : bt ow j
  · exact decide_eq_false (not_not_intro ((pow_0 ow (by omega)).mpr e))
  · exact decide_eq_true (fun z => by rw [(pow_0 ow (by omega)).mp z] at e; cases e)
/-- nobody has room -/
def FUL (u : Vg) (am : Nat) (F : Nat → Int32) : Prop := ∀ o, o < am → hasRm (vcol u 0 F) (nI o) = false
def HK (u : Vg) (F : Nat → Int32) : Prop := ∀ q, q < vP u → F q = -1 ∨ ∃ j, j < vN u ∧ F q = nI j
def GI (u : Vg) (am : Nat) (F : Nat → Int32) (gn : Int32) (a : Nat) : Prop := ∀ q, a ≤ q → q < vP u → (inB gn (nI q) = false → F q = -1) ∧ (inB gn (nI q) = true → F q = -1 → FUL u am F)
theorem hk_set {u : Vg} {F : Nat → Int32} {p o : Nat} (h : HK u F) (ho : o < vN u) : HK u (sf F p (nI o)) := fun q hq => by
  by_cases e : q = p
  · rw [e, sfx_at]; exact Or.inr ⟨o, ho, rfl⟩
  · rw [sfx_ne e]; exact h q hq
theorem nd_eq {u : Vg} {am β : Nat} {F0 r0 : Nat → Int32} {ow0 gn0 : Int32} (hN : vN u ≤ 8) (hP : vP u ≤ 12) (ha : am ≤ vN u) (h1 : RRm (vcol u 0 F0) r0) (h2 : ∀ o, o < 32 → bt ow0 o = anyB (ownB (vcol u 0 F0) (vF u 2 β) o) (vP u)) (h3 : HK u F0) (h4 : GI u am F0 gn0 0) : ∀ p, p ≤ vP u →
    (ndS (vN u) F0 r0 ow0 (vF u 2 β) am p).1 = (hnF u am β F0 gn0 p).1 ∧ RRm (vcol u 0 (hnF u am β F0 gn0 p).1) (ndS (vN u) F0 r0 ow0 (vF u 2 β) am p).2.1 ∧ (∀ o, o < 32 → bt (ndS (vN u) F0 r0 ow0 (vF u 2 β) am p).2.2 o = anyB (ownB (vcol u 0 (hnF u am β F0 gn0 p).1) (vF u 2 β) o) (vP u)) ∧ HK u (hnF u am β F0 gn0 p).1 ∧ GI u am (hnF u am β F0 gn0 p).1 (hnF u am β F0 gn0 p).2 0
  | 0, _ => ⟨rfl, h1, h2, h3, h4⟩
  | p + 1, hp => by
    obtain ⟨i1, i2, i3, i4, i5⟩ := nd_eq hN hP ha h1 h2 h3 h4 p (by omega)
    have eN : ndS (vN u) F0 r0 ow0 (vF u 2 β) am (p + 1) = if ¬ (vF u 2 β &&& (nI 1 <<< (nI p &&& 31))) = 0 ∧ (ndS (vN u) F0 r0 ow0 (vF u 2 β) am p).1 p = -1 ∧ ¬ pck (vN u) (ndS (vN u) F0 r0 ow0 (vF u 2 β) am p).2.1 (ndS (vN u) F0 r0 ow0 (vF u 2 β) am p).2.2 am = -1 then
      (sf (ndS (vN u) F0 r0 ow0 (vF u 2 β) am p).1 p (pck (vN u) (ndS (vN u) F0 r0 ow0 (vF u 2 β) am p).2.1 (ndS (vN u) F0 r0 ow0 (vF u 2 β) am p).2.2 am), tkn (ndS (vN u) F0 r0 ow0 (vF u 2 β) am p).2.1 (pck (vN u) (ndS (vN u) F0 r0 ow0 (vF u 2 β) am p).2.1 (ndS (vN u) F0 r0 ow0 (vF u 2 β) am p).2.2 am),
        (ndS (vN u) F0 r0 ow0 (vF u 2 β) am p).2.2 ||| (nI 1 <<< (pck (vN u) (ndS (vN u) F0 r0 ow0 (vF u 2 β) am p).2.1 (ndS (vN u) F0 r0 ow0 (vF u 2 β) am p).2.2 am &&& 31)))
      else ndS (vN u) F0 r0 ow0 (vF u 2 β) am p := rfl
    have eH : hnF u am β F0 gn0 (p + 1) = if inB (vF u 2 β) (nI p) = true ∧ inB (hnF u am β F0 gn0 p).2 (nI p) = false then
      (sf (hnF u am β F0 gn0 p).1 p (pkR u am β (hnF u am β F0 gn0 p).1), (hnF u am β F0 gn0 p).2 ||| (nI 1 <<< (nI p &&& 31))) else hnF u am β F0 gn0 p := rfl
    have epk : pck (vN u) (ndS (vN u) F0 r0 ow0 (vF u 2 β) am p).2.1 (ndS (vN u) F0 r0 ow0 (vF u 2 β) am p).2.2 am = pkR u am β (hnF u am β F0 gn0 p).1 := by
      unfold pck pkR
      rw [fwR_ow (w := vcol u 0 (hnF u am β F0 gn0 p).1) (m := β) i2 hN hP ha i3, show fwR (ndS (vN u) F0 r0 ow0 (vF u 2 β) am p).2.1 (full (vN u)) am = fwA (vcol u 0 (hnF u am β F0 gn0 p).1) am from fwR_full (w := vcol u 0 (hnF u am β F0 gn0 p).1) i2 hN hP ha]
    rw [epk, i1] at eN
    generalize ndS (vN u) F0 r0 ow0 (vF u 2 β) am p = S at i1 i2 i3 eN
    generalize ndS (vN u) F0 r0 ow0 (vF u 2 β) am (p + 1) = S' at eN
    generalize hnF u am β F0 gn0 p = T at i1 i2 i3 i4 i5 eN eH epk
    generalize hnF u am β F0 gn0 (p + 1) = T' at eH
    obtain ⟨F, gn⟩ := T
    simp only at i1 i2 i3 i4 i5 eN eH epk
    have eb : (¬ (vF u 2 β &&& (nI 1 <<< (nI p &&& 31))) = 0) ↔ inB (vF u 2 β) (nI p) = true := by
      rw [inB_bt (by omega), pow_0 _ (by omega)]; simp
    by_cases cn : inB (vF u 2 β) (nI p) = true
    · by_cases cg : inB gn (nI p) = false
      · have fp := (i5 p (by omega) (by omega)).1 cg
        rw [if_pos ⟨cn, cg⟩] at eH
        have gi : ∀ F', (∀ q, ¬ q = p → F' q = F q) → (F' p = -1 → FUL u am F') → (∀ q, q < vP u → ¬ q = p → inB gn (nI q) = true → F q = -1 → FUL u am F') → GI u am F' (gn ||| (nI 1 <<< (nI p &&& 31))) 0 := fun F' a b c q _ hq => by
          rw [inB_or (by omega) (by omega)]
          by_cases e : q = p
          · subst e
            refine ⟨fun z => ?_, fun _ z => b z⟩
            rw [decide_eq_true rfl, Bool.or_true] at z; cases z
          · rw [decide_eq_false e, Bool.or_false, a q e]
            exact ⟨(i5 q (by omega) hq).1, fun z1 z2 => c q hq e z1 z2⟩
        rcases pkR_sat (u := u) (am := am) (b := β) (F := F) with ⟨e, ea⟩ | ⟨o, ho, hr, e⟩
        · rw [e, if_neg (fun z => z.2.2 rfl)] at eN
          rw [e, sf_id fp] at eH
          subst eN; subst eH
          exact ⟨i1, i2, i3, i4, gi F (fun _ _ => rfl) (fun _ => fwA_no (by omega) ea) (fun q hq e z1 z2 => (i5 q (by omega) hq).2 z1 z2)⟩
        · have n1 : ¬ nI o = -1 := nI_nm1 (by omega)
          rw [e, if_pos ⟨eb.mpr cn, fp, n1⟩] at eN
          rw [e] at eH
          subst eN; subst eH
          have hoN : o < vN u := by omega
          refine ⟨rfl, rr_put' i2 (Or.inl rfl) (by omega) fp hN hP hoN hr, fun j hj => ?_, hk_set i4 hoN, gi _ (fun q hq => sfx_ne hq) (fun z => absurd (sfx_at.symm.trans z) n1) (fun q hq e z1 z2 => ?_)⟩
          · show bt (S.2.2 ||| (nI 1 <<< (nI o &&& 31))) j = anyB (fun q => inB (vF u 2 β) (nI q) && decide (sf F p (nI o) q = nI j)) (vP u)
            rw [bt_or, i3 j hj, bt_pow2 ⟨o, by omega⟩ ⟨j, hj⟩, any_set fp cn (by omega) hj, decide_eq_true (show p < vP u by omega), Bool.true_and]
            rfl
          · have := (i5 q (by omega) hq).2 z1 z2 o ho
            rw [hr] at this; cases this
      · rw [Bool.not_eq_false] at cg
        rw [if_neg (fun z => by rw [cg] at z; exact absurd z.2 (by decide))] at eH
        have nN : ¬ (¬ (vF u 2 β &&& (nI 1 <<< (nI p &&& 31))) = 0 ∧ F p = -1 ∧ ¬ pkR u am β F = -1) := fun z => by
          have fl := (i5 p (by omega) (by omega)).2 cg z.2.1
          apply z.2.2
          unfold pkR
          rw [show fwM (vcol u 0 F) am β = -1 from fw_full fl, if_pos rfl]
          exact fwA_full fl
        rw [if_neg nN] at eN
        subst eN; subst eH
        exact ⟨i1, i2, i3, i4, i5⟩
    · rw [if_neg (fun z => cn z.1)] at eH
      rw [if_neg (fun z => cn (eb.mp z.1))] at eN
      subst eN; subst eH
      exact ⟨i1, i2, i3, i4, i5⟩
/-- what a village keeps to -/
def VOk (v : Vg) : Prop := (∀ o, o < vN v → ∃ H, H ≤ 9 ∧ vF v 4 o = nI H) ∧ (∀ o, o < vN v → ∃ A, A ≤ 10 ∧ vF v 5 o = nI A) ∧ (∀ m, m < vM v → ∃ W, 1 ≤ W ∧ W ≤ 99 ∧ vF v 3 m = nI W) ∧ (∀ o, o < vN v → vF v 6 o = nI 0 ∨ vF v 6 o = nI 1) ∧ (∀ p, p < vP v → vF v 0 p = -1 ∨ ∃ o, o < vN v ∧ vF v 0 p = nI o) ∧ (∀ p, p < vP v → vF v 1 p = -1 ∨ ∃ o, o < vN v ∧ vF v 1 p = nI o) ∧ (∀ m, m < vM v → ∃ S, 1 ≤ S ∧ S < 2 ^ vP v ∧ vF v 2 m = nI S) ∧ vP v ≤ 12 ∧ vM v ≤ 6 ∧ vN v ≤ 8
theorem wt_eq {u : Vg} {D : Int32} (hM : vM u ≤ 6) (hW : ∀ m, m < vM u → ∃ W, 1 ≤ W ∧ W ≤ 99 ∧ vF u 3 m = nI W) : ∀ n, n ≤ vM u → (wtS u D n).1 = bsF u D n ∧ (wtS u D n).2 = if bsF u D n = -1 then nI 0 else vF u 3 (bsF u D n).toNatClampNeg
  | 0, _ => ⟨rfl, rfl⟩
  | n + 1, hn => by
    obtain ⟨i1, i2⟩ := wt_eq (D := D) hM hW n (by omega)
    obtain ⟨W, w1, w2, eW⟩ := hW n (by omega)
    have eS : bsF u D (n + 1) = if inB D (nI n) = false ∧ (bsF u D n = -1 ∨ vF u 3 (bsF u D n).toNatClampNeg < vF u 3 n) then nI n else bsF u D n := rfl
    have eU : wtS u D (n + 1) = if D &&& (nI 1 <<< (nI n &&& 31)) = 0 ∧ ¬ vF u 3 n ≤ (wtS u D n).2 then (nI n, vF u 3 n) else wtS u D n := rfl
    have n1 : ¬ nI n = -1 := nI_nm1 (by omega)
    have eb : (D &&& (nI 1 <<< (nI n &&& 31)) = 0) ↔ inB D (nI n) = false := by rw [inB_bt (by omega), pow_0 _ (by omega)]
    rw [eS, eU, i2]
    by_cases hb : inB D (nI n) = false
    · have hb2 := eb.mpr hb
      by_cases q : bsF u D n = -1
      · have lt : ¬ vF u 3 n ≤ nI 0 := by rw [eW]; intro z; have := nI_le0 (by omega) (show nI W ≤ 0 from z); omega
        rw [if_pos q, if_pos (show D &&& (nI 1 <<< (nI n &&& 31)) = 0 ∧ ¬ vF u 3 n ≤ nI 0 from ⟨hb2, lt⟩), if_pos (show inB D (nI n) = false ∧ (bsF u D n = -1 ∨ vF u 3 (bsF u D n).toNatClampNeg < vF u 3 n) from ⟨hb, Or.inl q⟩), if_neg n1, clN (show n < 2 ^ 31 by omega)]
        exact ⟨rfl, rfl⟩
      · rw [if_neg q]
        by_cases lt : vF u 3 (bsF u D n).toNatClampNeg < vF u 3 n
        · rw [if_pos (show D &&& (nI 1 <<< (nI n &&& 31)) = 0 ∧ ¬ vF u 3 n ≤ vF u 3 (bsF u D n).toNatClampNeg from ⟨hb2, Int32.not_le.mpr lt⟩), if_pos (show inB D (nI n) = false ∧ (bsF u D n = -1 ∨ vF u 3 (bsF u D n).toNatClampNeg < vF u 3 n) from ⟨hb, Or.inr lt⟩), if_neg n1, clN (show n < 2 ^ 31 by omega)]
          exact ⟨rfl, rfl⟩
        · rw [if_neg (show ¬ (D &&& (nI 1 <<< (nI n &&& 31)) = 0 ∧ ¬ vF u 3 n ≤ vF u 3 (bsF u D n).toNatClampNeg) from fun z => lt (Int32.not_le.mp z.2)), if_neg (show ¬ (inB D (nI n) = false ∧ (bsF u D n = -1 ∨ vF u 3 (bsF u D n).toNatClampNeg < vF u 3 n)) from fun z => z.2.elim q lt), if_neg q]
          exact ⟨i1, i2.trans (if_neg q)⟩
    · rw [if_neg (show ¬ (D &&& (nI 1 <<< (nI n &&& 31)) = 0 ∧ ¬ vF u 3 n ≤ (if bsF u D n = -1 then nI 0 else vF u 3 (bsF u D n).toNatClampNeg)) from fun z => hb (eb.mp z.1)), if_neg (show ¬ (inB D (nI n) = false ∧ (bsF u D n = -1 ∨ vF u 3 (bsF u D n).toNatClampNeg < vF u 3 n)) from fun z => hb z.1)]
      exact ⟨i1, i2⟩
theorem wh_eq {u : Vg} {am : Nat} {f0 r0 : Nat → Int32} (hN : vN u ≤ 8) (hP : vP u ≤ 12) (hM : vM u ≤ 6) (ha : am ≤ vN u) (hW : ∀ m, m < vM u → ∃ W, 1 ≤ W ∧ W ≤ 99 ∧ vF u 3 m = nI W) (h1 : RRm (vcol u 0 f0) r0) (h3 : ∀ q, q < vP u → f0 q = -1) : ∀ t, t ≤ vM u →
    (whS u f0 r0 am t).1 = (hwF u am f0 t).1 ∧ (whS u f0 r0 am t).2.2 = (hwF u am f0 t).2.1 ∧ RRm (vcol u 0 (hwF u am f0 t).1) (whS u f0 r0 am t).2.1 ∧ HK u (hwF u am f0 t).1 ∧ GI u am (hwF u am f0 t).1 (hwF u am f0 t).2.2 0
  | 0, _ => ⟨rfl, rfl, h1, fun q hq => Or.inl (h3 q hq), fun q _ hq => ⟨fun _ => h3 q hq, fun z => absurd (z.symm.trans (show inB (nI 0) (nI q) = false from (inB_bt (by omega)).trans (bt_0 q))) (by decide)⟩⟩
  | t + 1, ht => by
    obtain ⟨i1, i2, i3, i4, i5⟩ := wh_eq hN hP hM ha hW h1 h3 t (by omega)
    obtain ⟨β, hβ, eβ⟩ := hw_best (hw_cnt u am f0 hM t (by omega)) (by omega) (bs_ex u (hwF u am f0 t).2.1 (vM u) (by omega))
    have ew : (wtS u (hwF u am f0 t).2.1 (vM u)).1 = nI β := ((wt_eq hM hW (vM u) (Nat.le_refl _)).1).trans eβ
    have on := fun o (ho : o < 32) => onS_a (f := (hwF u am f0 t).1) (nd := vF u 2 β) (o := o) ho (vP u) (by omega) (fun p hp => (i4 p hp).imp id (fun ⟨j, a, b⟩ => ⟨j, by omega, b⟩))
    have nd := nd_eq (β := β) hN hP ha i3 on i4 i5 (vP u) (Nat.le_refl _)
    simp only [whS, hwF]
    rw [i1, i2, ew, eβ, if_neg (nI_nm1 (by omega)), clN (show β < 2 ^ 31 by omega)]
    exact ⟨nd.1, rfl, nd.2.1, nd.2.2.2.1, nd.2.2.2.2⟩
theorem fi_eq {u : Vg} {am : Nat} {f r : Nat → Int32} {gn : Int32} (hN : vN u ≤ 8) (hP : vP u ≤ 12) (ha : am ≤ vN u) (h1 : RRm (vcol u 0 f) r) (h4 : GI u am f gn 0) : ∀ p, p ≤ vP u →
    (fiS (vN u) f r am p).1 = hfF u am gn f p ∧ RRm (vcol u 0 (hfF u am gn f p)) (fiS (vN u) f r am p).2 ∧ GI u am (hfF u am gn f p) gn p
  | 0, _ => ⟨rfl, h1, h4⟩
  | p + 1, hp => by
    obtain ⟨i1, i2, i3⟩ := fi_eq hN hP ha h1 h4 p (by omega)
    have eF : fiS (vN u) f r am (p + 1) = if (fiS (vN u) f r am p).1 p = -1 then (sf (fiS (vN u) f r am p).1 p (fwR (fiS (vN u) f r am p).2 (full (vN u)) am), tkn (fiS (vN u) f r am p).2 (fwR (fiS (vN u) f r am p).2 (full (vN u)) am)) else fiS (vN u) f r am p := rfl
    have eH : hfF u am gn f (p + 1) = sf (hfF u am gn f p) p (if inB gn (nI p) = true then hfF u am gn f p p else fwA (vcol u 0 (hfF u am gn f p)) am) := rfl
    rw [i1, show fwR (fiS (vN u) f r am p).2 (full (vN u)) am = fwA (vcol u 0 (hfF u am gn f p)) am from fwR_full (w := vcol u 0 (hfF u am gn f p)) i2 hN hP ha] at eF
    generalize fiS (vN u) f r am p = S at i1 i2 eF
    generalize fiS (vN u) f r am (p + 1) = S' at eF
    generalize hfF u am gn f p = T at i1 i2 i3 eF eH
    generalize hfF u am gn f (p + 1) = T' at eH
    have up : ∀ q, p + 1 ≤ q → q < vP u → (inB gn (nI q) = false → T q = -1) ∧ (inB gn (nI q) = true → T q = -1 → FUL u am T) := fun q h hq => i3 q (by omega) hq
    by_cases cg : inB gn (nI p) = true
    · rw [if_pos cg, sf_id rfl] at eH
      by_cases fp : T p = -1
      · have fl := (i3 p (Nat.le_refl _) (by omega)).2 cg fp
        rw [if_pos fp, fwA_full fl, sf_id fp, tkn_n1] at eF
        subst eF; subst eH
        exact ⟨rfl, i2, up⟩
      · rw [if_neg fp] at eF
        subst eF; subst eH
        exact ⟨i1, i2, up⟩
    · have fp := (i3 p (Nat.le_refl _) (by omega)).1 (by simpa using cg)
      rw [if_neg cg] at eH
      rw [if_pos fp] at eF
      rcases fwA_sat (w := vcol u 0 T) (am := am) with e | ⟨o, ho, hr, e⟩
      · rw [e, sf_id fp] at eH
        rw [e, sf_id fp, tkn_n1] at eF
        subst eF; subst eH
        exact ⟨rfl, i2, up⟩
      · rw [e] at eH eF
        subst eF; subst eH
        have hoN : o < vN u := by omega
        refine ⟨rfl, rr_put' i2 (Or.inl rfl) (by omega) fp hN hP hoN hr, fun q h hq => ?_⟩
        rw [sfx_ne (show ¬ q = p by omega)]
        refine ⟨(up q h hq).1, fun z1 z2 => ?_⟩
        have := (up q h hq).2 z1 z2 o ho
        rw [hr] at this; cases this
theorem hWh_eq {u : Vg} {am : Nat} {r : Nat → Int32} (hN : vN u ≤ 8) (hP : vP u ≤ 12) (hM : vM u ≤ 6) (ha : am ≤ vN u) (hW : ∀ m, m < vM u → ∃ W, 1 ≤ W ∧ W ≤ 99 ∧ vF u 3 m = nI W) (h1 : RRm u r) (h3 : ∀ q, q < vP u → vF u 0 q = -1) : (hWh u r am).1 = hWR u am (vF u 0) := by
  have w := wh_eq (f0 := vF u 0) (r0 := r) hN hP hM ha hW (by rw [vc_0]; exact h1) h3 (vM u) (Nat.le_refl _)
  unfold hWh hWR
  have f := fi_eq (am := am) hN hP ha w.2.2.1 w.2.2.2.2 (vP u) (Nat.le_refl _)
  rw [w.1]
  exact f.1
theorem pcs_clr {v : Vg} {j : Nat} (hj : j < 2 ^ 30) : ∀ n, n ≤ vP v → pcs (clr v (vP v)) (nI j) n = 0
  | 0, _ => rfl
  | n + 1, hn => by
    have nj : ¬ (-1 : Int32) = nI j := fun q => nI_nm1 (by omega) q.symm
    have e : ∀ c, c < 2 → vF (clr v (vP v)) c n = -1 := fun c hc => by simp only [clr, vF]; rw [if_pos ⟨hc, by omega⟩]
    simp only [pcs]
    rw [pcs_clr hj n (by omega), e 0 (by decide), e 1 (by decide), if_neg nj]
theorem rst_e {n b : Nat} (hn : n ≤ 8) (hb : b < 100) : rst n (nI b) = nI (if n = 0 then 0 else b % n) := by
  unfold rst
  by_cases h : n = 0
  · subst h; rfl
  · rw [if_neg h, if_neg (fun z => h (nI_zz z)), pmod (by omega) (by omega) (by omega)]
/-- a holding told anew: the reference's village is the class's -/
theorem tell_eq {v : Vg} {r : Nat → Int32} {κ b : Nat} (h : VOk v) (hκ : 1 ≤ κ ∧ κ ≤ 5) (hb : b < 100) : hAR v κ b = tellV v r b κ := by
  obtain ⟨o1, o2, o3, -, -, -, -, hP, hM, hN⟩ := h
  have e0 : ∀ q, q < vP v → vF (clr v (vP v)) 0 q = -1 := fun q hq => by simp only [clr, vF]; rw [if_pos ⟨by decide, hq⟩]
  have e1 : ∀ q, q < vP v → vF (clr v (vP v)) 1 q = -1 := fun q hq => by simp only [clr, vF]; rw [if_pos ⟨by decide, hq⟩]
  have ek : ∀ c i, 2 ≤ c → vF (clr v (vP v)) c i = vF v c i := fun c i hc => by simp only [clr, vF]; rw [if_neg (by omega)]
  have RR : RRm (clr v (vP v)) (r1 v r (vN v)) := fun o ho => by
    have ho : o < vN v := ho
    obtain ⟨H, h1, h2⟩ := o1 o ho
    have z := pcs_clr (v := v) (j := o) (by omega) (vP v) (Nat.le_refl _)
    refine ⟨H, h1, (ek 4 o (by decide)).trans h2, ?_⟩
    show pcs (clr v (vP v)) (nI o) (vP v) ≤ H ∧ r1 v r (vN v) o = nI (H - pcs (clr v (vP v)) (nI o) (vP v))
    rw [z]
    exact ⟨Nat.zero_le _, by unfold r1; rw [if_pos ho, h2]; rfl⟩
  have hW : ∀ m, m < vM (clr v (vP v)) → ∃ W, 1 ≤ W ∧ W ≤ 99 ∧ vF (clr v (vP v)) 3 m = nI W := fun m hm => by rw [ek 3 m (by decide)]; exact o3 m hm
  have hA : ∀ o, o < vN (clr v (vP v)) → ∃ A, A ≤ 10 ∧ vF (clr v (vP v)) 5 o = nI A := fun o ho => by rw [ek 5 o (by decide)]; exact o2 o ho
  have RR0 : RRm (vcol (clr v (vP v)) 0 (vF (clr v (vP v)) 0)) (r1 v r (vN v)) := by rw [vc_0]; exact RR
  have pl : plc v b ≤ vN v := by unfold plc; split; omega; exact Nat.le_of_lt (Nat.mod_lt _ (by omega))
  have er : rst (vN (clr v (vP v))) (nI b) = nI (plc v b) := rst_e hN hb
  have rd := rg_eq (u := clr v (vP v)) (c := 0) (a := plc v b) (bt := fun _ => -1) (b2 := fun _ _ => -1) (Or.inl rfl) hN hP (fun _ _ => rfl) RR0 pl e0 (vP v) (Nat.le_refl _)
  obtain ⟨k1, k5⟩ := hκ
  unfold hAR tellV
  have wh : ∀ am, am ≤ vN v → (hWh (clr v (vP v)) (r1 v r (vN v)) am).1 = hWR (clr v (vP v)) am (vF (clr v (vP v)) 0) := fun am ha => hWh_eq hN hP hM ha hW RR e0
  match κ, k1, k5 with
  | 1, _, _ =>
    rw [if_pos (Or.inl rfl), if_neg (fun z => by omega)]
    show _ = vcol (clr v (vP v)) 0 (hWh (clr v (vP v)) (r1 v r (vN v)) (vN v)).1
    rw [wh (vN v) (Nat.le_refl _)]
  | 2, _, _ =>
    rw [if_neg (by omega), if_neg (by omega), show decide (2 = 4) = false from rfl, rn_rg]
    show _ = vcol (clr v (vP v)) 0 (hRd (clr v (vP v)) (r1 v r (vN v)) (nI b)).1
    unfold hRd
    rw [er]
    exact congrArg (vcol (clr v (vP v)) 0) rd.1.symm
  | 3, _, _ =>
    rw [if_neg (by omega), if_pos rfl, rn_rg, rs_rg]
    show _ = vcol (vcol (clr v (vP v)) 0 (hRd (clr v (vP v)) (r1 v r (vN v)) (nI b)).1) 1 (hAg (vcol (clr v (vP v)) 0 (hRd (clr v (vP v)) (r1 v r (vN v)) (nI b)).1) (hRd (clr v (vP v)) (r1 v r (vN v)) (nI b)).2.1 (hRd (clr v (vP v)) (r1 v r (vN v)) (nI b)).2.2).1
    have eR : hRd (clr v (vP v)) (r1 v r (vN v)) (nI b) = gvR (vN (clr v (vP v))) (fun _ _ => -1) (vF (clr v (vP v)) 0) (r1 v r (vN v)) (nI (plc v b)) (vP v) := by unfold hRd; rw [er]; rfl
    rw [eR]
    generalize gvR (vN (clr v (vP v))) (fun _ _ => -1) (vF (clr v (vP v)) 0) (r1 v r (vN v)) (nI (plc v b)) (vP v) = S at rd
    obtain ⟨d1, d2, d3, d4, d5⟩ := rd
    rw [d1, d3]
    have ag := rg_eq (u := vcol (clr v (vP v)) 0 (rgF (clr v (vP v)) 0 (fun _ => -1) (vF (clr v (vP v)) 0) (plc v b) (vP v)).1) (c := 1) (f := vF (clr v (vP v)) 1) (r := S.2.1) (a := (rgF (clr v (vP v)) 0 (fun _ => -1) (vF (clr v (vP v)) 0) (plc v b) (vP v)).2) (bt := fun p => vF (vcol (clr v (vP v)) 0 (rgF (clr v (vP v)) 0 (fun _ => -1) (vF (clr v (vP v)) 0) (plc v b) (vP v)).1) 0 p) (b2 := fun _ i => vF (vcol (clr v (vP v)) 0 (rgF (clr v (vP v)) 0 (fun _ => -1) (vF (clr v (vP v)) 0) (plc v b) (vP v)).1) 0 i) (Or.inr rfl) hN hP (fun _ _ => rfl)
      (by have e9 : vcol (vcol (clr v (vP v)) 0 (rgF (clr v (vP v)) 0 (fun _ => -1) (vF (clr v (vP v)) 0) (plc v b) (vP v)).1) 1 (vF (clr v (vP v)) 1) = vcol (clr v (vP v)) 0 (rgF (clr v (vP v)) 0 (fun _ => -1) (vF (clr v (vP v)) 0) (plc v b) (vP v)).1 := vcol_id (v := vcol (clr v (vP v)) 0 (rgF (clr v (vP v)) 0 (fun _ => -1) (vF (clr v (vP v)) 0) (plc v b) (vP v)).1) (c := 1)
          rw [e9]; exact d2) d4 e1 (vP v) (Nat.le_refl _)
    exact congrArg (vcol (vcol (clr v (vP v)) 0 (rgF (clr v (vP v)) 0 (fun _ => -1) (vF (clr v (vP v)) 0) (plc v b) (vP v)).1) 1) ag.1.symm
  | 4, _, _ =>
    rw [if_neg (by omega), if_neg (by omega), show decide (4 = 4) = true from rfl]
    show _ = vcol (clr v (vP v)) 0 (hSu (clr v (vP v)) (r1 v r (vN v))).1
    exact congrArg (vcol (clr v (vP v)) 0) (sg_eq (u := clr v (vP v)) (a := plc v b) hN hP RR0 hA e0 (vP v) (Nat.le_refl _)).1.symm
  | 5, _, _ =>
    rw [if_pos (Or.inr rfl)]
    show _ = vcol (clr v (vP v)) 0 (hWh (clr v (vP v)) (r1 v r (vN v)) (fewN (vN v) b)).1
    have ef : (if 5 = 5 ∧ 0 < b ∧ b < vN v then b else vN v) = fewN (vN v) b := by unfold fewN; split <;> split <;> (try split) <;> omega
    rw [ef, wh _ few_le]
end
section
/-! PART 56: the reference, exactly: what is kept, the tape's bytes -/
def XT (h : Hp) (k : Nat) (κ : Bool) (ω : Vg) (Bt : Nat → Int32) : Prop := (∀ i, i < 250 → xI h (k + 16) i = Bt i) ∧ (κ = true → ∃ c, xN h k 21 = c + 1 ∧ MilAt h c ω)
section XTS
variable {h h1 h3 : Hp} {P : List Nat} {k b z a : Nat} {v v' w ω : Vg} {g g' : Sg} {κ τ : Bool} {Bt : Nat → Int32}
theorem Md.kc (M : Md h P k v g z κ τ) {c : Nat} (e : xN h k 21 = c + 1) : (c = k + 32 ∨ c = k + 64) ∧ c + 32 ≤ (xK h).length := by
  obtain ⟨m, ms, e8, bz, nok, hP, hk, al, fk, ft, sk, st, ap⟩ := M
  rcases sk with q | ⟨b2, w2, q1, q2, q3, q4⟩
  · omega
  · have : b2 = c := by omega
    subst this; exact ⟨q2, q3⟩
theorem XT.kp (x : XT h k κ ω Bt) (M : Md h P k v g z κ τ) (f : Kp k h h1) : XT h1 k κ ω Bt :=
  ⟨fun i hi => by rw [f.t16]; exact x.1 i hi, fun e => by
    obtain ⟨c, e1, m⟩ := x.2 e
    exact ⟨c, by rw [f.2.1]; exact e1, m.fr (Fr.vc f) (by have := (M.kc e1).1; omega)⟩⟩
theorem XT.kt (x : XT h k κ ω Bt) (M : Md h P k v g z κ τ) (f : Kt k h h1) : XT h1 k κ ω Bt :=
  ⟨fun i hi => by rw [f.2]; exact x.1 i hi, fun e => by
    obtain ⟨c, e1, m⟩ := x.2 e
    exact ⟨c, by rw [f.1.2.1]; exact e1, m.fr f.1.2.2 (by have := (M.kc e1).1; omega)⟩⟩
/-- own cells written, the tape's among them -/
theorem XT.tp {Bt' : Nat → Int32} (x : XT h k κ ω Bt) (M : Md h P k v g z κ τ) (en : xN h1 k = xN h k) (f : Fr k (k + 32) h h1) (t : ∀ i, i < 250 → xI h1 (k + 16) i = Bt' i) : XT h1 k κ ω Bt' :=
  ⟨t, fun e => by
    obtain ⟨c, e1, m⟩ := x.2 e
    exact ⟨c, by rw [en]; exact e1, m.fr f (by have := (M.kc e1).1; omega)⟩⟩
theorem XT.tk (x : XT h k κ ω Bt) (M : Md h P k v g z κ τ) (hb : b = k + 32 ∨ b = k + 64) (eb : xN h k 22 = b + 1) (f : Kp b h h1) : XT h1 k κ ω Bt :=
  ⟨fun i hi => by rw [((Fr.vc f) (k + 16) (by omega)).1]; exact x.1 i hi, fun e => by
    obtain ⟨c, e1, m⟩ := x.2 e
    have hc := (M.kc e1).1
    have ne : c ≠ b := fun q => by
      have ap := M.2.2.2.2.2.2.2.2.2.2.2.2
      have := ap (by rw [e1, eb, q])
      omega
    exact ⟨c, by rw [((Fr.vc f) k (by omega)).2.2]; exact e1, m.fr (Fr.vc f) (by omega)⟩⟩
theorem XT.nwτ (x : XT h k κ ω Bt) (M : Md h P k v g z κ τ) (ha : (xK h).length = a) (lo3 : Lo a h h3) : XT (sN h3 k 22 (a + 1)) k κ ω Bt := by
  have hla := M.len
  have ka : k + 32 ≤ a := by rw [ha] at hla; omega
  refine ⟨fun i hi => ?_, fun e => ?_⟩
  · rw [show xI (sN h3 k 22 (a + 1)) = xI h3 from rfl, (lo3 (k + 16) (by omega)).1]; exact x.1 i hi
  · obtain ⟨c, e1, m⟩ := x.2 e
    have hc := M.kc e1
    rw [ha] at hc
    exact ⟨c, by rw [sN_ne (by decide), (lo3 k (by omega)).2.2]; exact e1, mil_sN9 (m.ag lo3.fs (show ¬ a ≤ c by omega) (unl (by omega)))⟩
theorem XT.tpκ (x : XT h k κ ω Bt) (M : Md h P k v g z κ τ) (ha : (xK h).length = a) (lo3 : Lo a h h3) : ∀ i, i < 250 → xI (sN h3 k 21 (a + 1)) (k + 16) i = Bt i := fun i hi => by
  have hla := M.len
  have ka : k + 32 ≤ a := by rw [ha] at hla; omega
  rw [show xI (sN h3 k 21 (a + 1)) = xI h3 from rfl, (lo3 (k + 16) (by omega)).1]; exact x.1 i hi
end XTS
set_option maxHeartbeats 4000000 in
theorem e_fresh {l : Launch} {h : Hp} {P : List Nat} {k z : Nat} {v : Vg} {g : Sg} {κ τ : Bool} (M : Md h P k v g z κ τ) {ω : Vg} {Bt : Nat → Int32} (x0 : XT h k κ ω Bt) : Ms l yX7_fresh cX7_fresh 1 (some (.object "OnlyWhatFitsModel")) 3 [vr 7 k] h (AL P κ true) (fun r h' => ∃ b, r = some (vr 7 b) ∧ xN h' k 22 = b + 1 ∧ MilAt h' b v ∧ Md h' P k v g z κ true ∧ (b = k + 32 ∨ b = k + 64) ∧ b + 32 ≤ (xK h').length ∧ Lo k h h' ∧ XT h' k κ ω Bt) := by
  refine Ms.of2 (by decide) (Nat.le_of_ble_eq_true rfl) (fun G C NM E0 X F => ?_)
  have C : Cx G cX7_fresh 1 RX7 := C
  show Rr G 0 [(0, vr 7 k)] [] h
  have tail : ∀ (h1 : Hp) (b : Nat), Md h1 P k v g z κ true → xN h1 k 22 = b + 1 → Lo k h h1 → XT h1 k κ ω Bt → Rr G 18 [(0, vr 7 k)] [] h1 := fun h1 b M1 eb f1 x1 => by
    have M0 := M1
    obtain ⟨m, ms, e8, bz, nok, hP, hk, al, fk, ft, sk, st, ap⟩ := M1
    rcases st with q | ⟨b2, w, q1, q2, q3, q4⟩
    · exact absurd (eb.symm.trans q) (by omega)
    have e9 : b2 = b := by have := q1.symm.trans eb; omega
    subst e9
    have k7 := M0.k7 (b := b2) (by omega) q3
    refine r_aload_n C (dx dX7_fresh 8 rfl) rfl ?_
    refine r_getN (k := 7) (j := 22) (T := TX7) (N := 32) C rfl rfl rfl (by decide) f_X7_110 (dx dX7_fresh 9 rfl) eb (Or.inr (by rw [Nat.add_sub_cancel]; exact k7)) ?_
    refine r_some C ?_
    refine r_aload_n C (dx dX7_fresh 10 rfl) rfl ?_
    refine r_cv (as := [vr 7 k]) (st := []) C X I_X7_takeFrom l_X7_237 (c_X7_takeFrom q4 m (by omega)) (by decide) (Nat.le_of_ble_eq_true rfl) List.prefix_rfl (by rw [al]; exact List.prefix_rfl) rfl rfl (Nat.le_of_ble_eq_true rfl) rfl (dx dX7_fresh 11 rfl) ?_
    rintro _ h2 ⟨rfl, m2, kp2⟩ kk2
    have M2 := M0.tk q2 q3 m2 kp2 kk2
    have x2 := x1.tk M0 q2 eb kp2
    have f2 : Lo k h h2 := f1.tr (Lo.fr (Fr.vc kp2) (by omega))
    have eb2 : xN h2 k 22 = b2 + 1 := by rw [((Fr.vc kp2) k (by omega)).2.2]; exact eb
    refine r_aload_n C (dx dX7_fresh 12 rfl) rfl ?_
    refine r_getN (k := 7) (j := 22) (T := TX7) (N := 32) C rfl rfl rfl (by decide) f_X7_110 (dx dX7_fresh 13 rfl) eb2 (Or.inr (by rw [Nat.add_sub_cancel, kk2]; exact k7)) ?_
    refine r_some C ?_
    exact F.2.2.2 _ _ _ _ _ _ rfl (dx dX7_fresh 14 rfl) (kk2.trans al) ⟨b2, rfl, eb2, m2, M2, q2, by rw [kk2]; exact q3, f2, x2⟩
  refine r_aload_n C (dx dX7_fresh 0 rfl) rfl ?_
  cases τ with
  | true =>
    obtain ⟨m, ms, e8, bz, nok, hP, hk, al, fk, ft, sk, st, ap⟩ := id M
    rcases st with q | ⟨b2, w, q1, q2, q3, q4⟩
    · exact absurd (ft.mp q) (by decide)
    have k7 := M.k7 (b := b2) (by omega) q3
    refine r_getN (k := 7) (j := 22) (T := TX7) (N := 32) C rfl rfl rfl (by decide) f_X7_110 (dx dX7_fresh 1 rfl) q1 (Or.inr (by rw [Nat.add_sub_cancel]; exact k7)) ?_
    refine r_ifnonnull_y (tgt := 18) C (dx dX7_fresh 2 rfl) (by decide) ?_
    exact tail h b2 M q1 Lo.rf x0
  | false =>
    have hla := M.len
    obtain ⟨m, ms, e8, bz, nok, hP, hk, al, fk, ft, sk, st, ap⟩ := id M
    have n0 : xN h k 22 = 0 := ft.mpr rfl
    refine r_getN (k := 7) (j := 22) (T := TX7) (N := 32) C rfl rfl rfl (by decide) f_X7_110 (dx dX7_fresh 1 rfl) n0 (Or.inl rfl) ?_
    refine r_ifnonnull_n C (dx dX7_fresh 2 rfl) ?_
    refine r_aload_n C (dx dX7_fresh 3 rfl) rfl ?_
    generalize ha : (xK h).length = a at hla
    have ab : (a = k + 32 ∨ a = k + 64) := by revert hla; cases κ <;> simp <;> omega
    have X : Rmx l G 3 (xK h ++ mdK) := by have q := X; rw [AL_τ, ← al] at q; exact q
    refine r_new (kk := 15) (C0 := RX7) (T := TX7) (N := 32) C (X.go (M := []) (E := [15]) (List.append_nil _).symm (by decide) (by decide)) rfl rfl rfl (by decide) hfs7 List.prefix_rfl nok (by omega) cl_RX7_8 q_in7 q_ii7 (dx dX7_fresh 4 rfl) ?_
    rw [ha]
    have K1 : xK (nw h 15) = xK h ++ [15] := rfl
    have lo1 : Lo a h (nw h 15) := Lo.nw (Nat.le_of_eq ha.symm)
    have no1 := nok.nw (k := 15)
    have Y1 : xI (nw h 15) a = fun _ => 0 := by have q9 := nw_I (h := h) (k := 15); rw [ha] at q9; exact q9
    have Y2 : xL (nw h 15) a = fun _ => 0 := by have q9 := nw_L (h := h) (k := 15); rw [ha] at q9; exact q9
    have Y3 : xN (nw h 15) a = fun _ => 0 := by have q9 := nw_N (h := h) (k := 15); rw [ha] at q9; exact q9
    generalize nw h 15 = h1 at K1 lo1 no1 Y1 Y2 Y3 ⊢
    have len1 : (xK h1).length = a + 1 := by rw [K1, List.length_append, ha]; rfl
    refine r_dupR C (dx dX7_fresh 5 rfl) ?_
    refine r_callI (st := [vr 15 a, vr 7 k]) C (X.go (E := [22, 22, 22, 33, 31, 31, 31, 31, 31, 31, 31, 31, 31, 22, 22, 30, 22, 20, 20, 21, 21, 34, 27, 27, 27, 27, 27, 27, 27, 27, 20]) K1 (by decide) (by decide)) (c_X7_init (a := a) len1 (by omega) no1 Y1 Y2 Y3) (by decide) (Nat.le_of_ble_eq_true rfl) (List.prefix_append _ _) List.prefix_rfl rfl rfl (Nat.le_of_ble_eq_true rfl) l_X7_278 q_im7 q_ii7 q_co7 rfl nh_RX7 q_pd7 (dx dX7_fresh 6 rfl) ?_
    rintro _ h2 ⟨rfl, no2, lo2, p0, p1, p2, p3, p4, p5, p6, p7, p9, p11, p12, p14, p15, p17, p30, m2, ms2, z2, n21, n22⟩ kk2
    have K2 : xK h2 = xK h ++ (15 :: [22, 22, 22, 33, 31, 31, 31, 31, 31, 31, 31, 31, 31, 22, 22, 30, 22, 20, 20, 21, 21, 34, 27, 27, 27, 27, 27, 27, 27, 27, 20]) := by rw [kk2, K1, List.append_assoc]; rfl
    have ha2 : (xK h2)[a]? = some (7 + 8) := by rw [K2]; exact (getK0 ha 0).trans rfl
    have hp2 : ∀ (j o k9 : Nat), ([(2, 1, 22), (2, 2, 22), (2, 3, 22), (2, 4, 33), (2, 13, 31), (2, 14, 22), (2, 15, 22), (2, 16, 30), (0, 0, 0), (2, 17, 22), (0, 0, 0), (2, 18, 20), (2, 19, 20), (0, 0, 0), (2, 20, 21), (2, 21, 21), (0, 0, 0), (2, 22, 34), (0, 0, 0), (0, 0, 0), (0, 0, 0), (3, 0, 7), (3, 0, 7), (0, 0, 0), (0, 0, 0), (0, 0, 0), (1, 0, 0), (0, 0, 0), (0, 0, 0), (0, 0, 0), (2, 31, 20), (1, 0, 0)] : List Fd3)[j]? = some (2, o, k9) → xN h2 a j = a + o + 1 ∧ (xK h2)[a + o]? = some k9 := fun j o k9 hj => by
      match j, hj with
      | 0, hj => cases hj; exact ⟨p0, by rw [K2]; exact (getK0 ha 1).trans rfl⟩
      | 1, hj => cases hj; exact ⟨p1, by rw [K2]; exact (getK0 ha 2).trans rfl⟩
      | 2, hj => cases hj; exact ⟨p2, by rw [K2]; exact (getK0 ha 3).trans rfl⟩
      | 3, hj => cases hj; exact ⟨p3, by rw [K2]; exact (getK0 ha 4).trans rfl⟩
      | 4, hj => cases hj; exact ⟨p4, by rw [K2]; exact (getK0 ha 13).trans rfl⟩
      | 5, hj => cases hj; exact ⟨p5, by rw [K2]; exact (getK0 ha 14).trans rfl⟩
      | 6, hj => cases hj; exact ⟨p6, by rw [K2]; exact (getK0 ha 15).trans rfl⟩
      | 7, hj => cases hj; exact ⟨p7, by rw [K2]; exact (getK0 ha 16).trans rfl⟩
      | 8, hj => cases hj
      | 9, hj => cases hj; exact ⟨p9, by rw [K2]; exact (getK0 ha 17).trans rfl⟩
      | 10, hj => cases hj
      | 11, hj => cases hj; exact ⟨p11, by rw [K2]; exact (getK0 ha 18).trans rfl⟩
      | 12, hj => cases hj; exact ⟨p12, by rw [K2]; exact (getK0 ha 19).trans rfl⟩
      | 13, hj => cases hj
      | 14, hj => cases hj; exact ⟨p14, by rw [K2]; exact (getK0 ha 20).trans rfl⟩
      | 15, hj => cases hj; exact ⟨p15, by rw [K2]; exact (getK0 ha 21).trans rfl⟩
      | 16, hj => cases hj
      | 17, hj => cases hj; exact ⟨p17, by rw [K2]; exact (getK0 ha 22).trans rfl⟩
      | 18, hj => cases hj
      | 19, hj => cases hj
      | 20, hj => cases hj
      | 21, hj => cases hj
      | 22, hj => cases hj
      | 23, hj => cases hj
      | 24, hj => cases hj
      | 25, hj => cases hj
      | 26, hj => cases hj
      | 27, hj => cases hj
      | 28, hj => cases hj
      | 29, hj => cases hj
      | 30, hj => cases hj; exact ⟨p30, by rw [K2]; exact (getK0 ha 31).trans rfl⟩
      | 31, hj => cases hj
      | n + 32, hj => simp at hj
    refine r_retag (a := a) (k := 7) (al := xK h) C E0 (Nat.le_of_eq ha) (by decide) ha2 rfl hp2 ⟨show k ≠ a by omega, trivial⟩ ⟨show k ≠ a by omega, trivial⟩ ?_
    have K3 : xK (rt h2 a 7) = xK h ++ mdK := by show (xK h2).set _ _ = _; rw [K2]; exact (set_app (i := 0) ha.symm).trans rfl
    have no3 : NOk (rt h2 a 7) := no2.mk8 (by decide) ha2
    have lo3 : Lo a h (rt h2 a 7) := lo1.tr lo2
    have m3 : MilAt (rt h2 a 7) a v00 := m2
    generalize rt h2 a 7 = h3 at K3 no3 lo3 m3 ⊢
    have len3 : (xK h3).length = a + 32 := by rw [K3, List.length_append, ha]; rfl
    refine r_putN (k := 7) (j := 22) (t := 0) (C0 := RX7) (T := TX7) (N := 32) C rfl rfl rfl (by decide) f_X7_110 rfl (fun _ => rfl) (fun _ => rfl) (dx dX7_fresh 7 rfl) ?_
    obtain ⟨M4, en9, f4⟩ := Md.nwτ M ha lo3 no3 K3 m3
    exact tail _ a M4 en9 f4 (x0.nwτ M ha lo3)
set_option maxHeartbeats 4000000 in
theorem e_image {l : Launch} {h : Hp} {P : List Nat} {k z : Nat} {v : Vg} {g : Sg} {κ τ : Bool} (M : Md h P k v g z κ τ) {ω : Vg} {Bt : Nat → Int32} (x0 : XT h k κ ω Bt) : Ms l yX7_image cX7_image 1 (some .int) 3 [vr 7 k] h (AL P true τ) (fun r h' => r = some (vi (nI 1)) ∧ Md h' P k v g z true τ ∧ Lo k h h' ∧ XT h' k true v Bt) := by
  refine Ms.of2 (by decide) (Nat.le_of_ble_eq_true rfl) (fun G C NM E0 X F => ?_)
  have C : Cx G cX7_image 1 RX7 := C
  show Rr G 0 [(0, vr 7 k)] [] h
  have tail : ∀ (h1 : Hp) (b : Nat), Md h1 P k v g z true τ → xN h1 k 21 = b + 1 → Lo k h h1 → (∀ i, i < 250 → xI h1 (k + 16) i = Bt i) → Rr G 18 [(0, vr 7 k)] [] h1 := fun h1 b M1 eb f1 x1 => by
    have M0 := M1
    obtain ⟨m, ms, e8, bz, nok, hP, hk, al, fk, ft, sk, st, ap⟩ := M1
    rcases sk with q | ⟨b2, w, q1, q2, q3, q4⟩
    · exact absurd (eb.symm.trans q) (by omega)
    have e9 : b2 = b := by have := q1.symm.trans eb; omega
    subst e9
    have k7 := M0.k7 (b := b2) (by omega) q3
    refine r_aload_n C (dx dX7_image 8 rfl) rfl ?_
    refine r_getN (k := 7) (j := 21) (T := TX7) (N := 32) C rfl rfl rfl (by decide) f_X7_354 (dx dX7_image 9 rfl) eb (Or.inr (by rw [Nat.add_sub_cancel]; exact k7)) ?_
    refine r_some C ?_
    refine r_aload_n C (dx dX7_image 10 rfl) rfl ?_
    refine r_cv (as := [vr 7 k]) (st := []) C X I_X7_takeFrom l_X7_237 (c_X7_takeFrom q4 m (by omega)) (by decide) (Nat.le_of_ble_eq_true rfl) List.prefix_rfl (by rw [al]; exact List.prefix_rfl) rfl rfl (Nat.le_of_ble_eq_true rfl) rfl (dx dX7_image 11 rfl) ?_
    rintro _ h2 ⟨rfl, m2, kp2⟩ kk2
    have M2 := M0.tk q2 q3 m2 kp2 kk2
    have x2 : XT h2 k true v Bt := ⟨fun i hi => by rw [((Fr.vc kp2) (k + 16) (by omega)).1]; exact x1 i hi, fun _ => ⟨b2, by rw [((Fr.vc kp2) k (by omega)).2.2]; exact eb, m2⟩⟩
    have f2 : Lo k h h2 := f1.tr (Lo.fr (Fr.vc kp2) (by omega))
    refine r_iconst (v := nI 1) C (dx dX7_image 12 rfl) rfl ?_
    exact F.1 _ _ _ _ _ rfl rfl (dx dX7_image 13 rfl) (kk2.trans al) ⟨rfl, M2, f2, x2⟩
  refine r_aload_n C (dx dX7_image 0 rfl) rfl ?_
  cases κ with
  | true =>
    obtain ⟨m, ms, e8, bz, nok, hP, hk, al, fk, ft, sk, st, ap⟩ := id M
    rcases sk with q | ⟨b2, w, q1, q2, q3, q4⟩
    · exact absurd (fk.mp q) (by decide)
    have k7 := M.k7 (b := b2) (by omega) q3
    refine r_getN (k := 7) (j := 21) (T := TX7) (N := 32) C rfl rfl rfl (by decide) f_X7_354 (dx dX7_image 1 rfl) q1 (Or.inr (by rw [Nat.add_sub_cancel]; exact k7)) ?_
    refine r_ifnonnull_y (tgt := 18) C (dx dX7_image 2 rfl) (by decide) ?_
    exact tail h b2 M q1 Lo.rf x0.1
  | false =>
    have hla := M.len
    obtain ⟨m, ms, e8, bz, nok, hP, hk, al, fk, ft, sk, st, ap⟩ := id M
    have n0 : xN h k 21 = 0 := fk.mpr rfl
    refine r_getN (k := 7) (j := 21) (T := TX7) (N := 32) C rfl rfl rfl (by decide) f_X7_354 (dx dX7_image 1 rfl) n0 (Or.inl rfl) ?_
    refine r_ifnonnull_n C (dx dX7_image 2 rfl) ?_
    refine r_aload_n C (dx dX7_image 3 rfl) rfl ?_
    generalize ha : (xK h).length = a at hla
    have ab : (a = k + 32 ∨ a = k + 64) := by revert hla; cases τ <;> simp <;> omega
    have X : Rmx l G 3 (xK h ++ mdK) := by have q := X; rw [AL_κ, ← al] at q; exact q
    refine r_new (kk := 15) (C0 := RX7) (T := TX7) (N := 32) C (X.go (M := []) (E := [15]) (List.append_nil _).symm (by decide) (by decide)) rfl rfl rfl (by decide) hfs7 List.prefix_rfl nok (by omega) cl_RX7_8 q_in7 q_ii7 (dx dX7_image 4 rfl) ?_
    rw [ha]
    have K1 : xK (nw h 15) = xK h ++ [15] := rfl
    have lo1 : Lo a h (nw h 15) := Lo.nw (Nat.le_of_eq ha.symm)
    have no1 := nok.nw (k := 15)
    have Y1 : xI (nw h 15) a = fun _ => 0 := by have q9 := nw_I (h := h) (k := 15); rw [ha] at q9; exact q9
    have Y2 : xL (nw h 15) a = fun _ => 0 := by have q9 := nw_L (h := h) (k := 15); rw [ha] at q9; exact q9
    have Y3 : xN (nw h 15) a = fun _ => 0 := by have q9 := nw_N (h := h) (k := 15); rw [ha] at q9; exact q9
    generalize nw h 15 = h1 at K1 lo1 no1 Y1 Y2 Y3 ⊢
    have len1 : (xK h1).length = a + 1 := by rw [K1, List.length_append, ha]; rfl
    refine r_dupR C (dx dX7_image 5 rfl) ?_
    refine r_callI (st := [vr 15 a, vr 7 k]) C (X.go (E := [22, 22, 22, 33, 31, 31, 31, 31, 31, 31, 31, 31, 31, 22, 22, 30, 22, 20, 20, 21, 21, 34, 27, 27, 27, 27, 27, 27, 27, 27, 20]) K1 (by decide) (by decide)) (c_X7_init (a := a) len1 (by omega) no1 Y1 Y2 Y3) (by decide) (Nat.le_of_ble_eq_true rfl) (List.prefix_append _ _) List.prefix_rfl rfl rfl (Nat.le_of_ble_eq_true rfl) l_X7_278 q_im7 q_ii7 q_co7 rfl nh_RX7 q_pd7 (dx dX7_image 6 rfl) ?_
    rintro _ h2 ⟨rfl, no2, lo2, p0, p1, p2, p3, p4, p5, p6, p7, p9, p11, p12, p14, p15, p17, p30, m2, ms2, z2, n21, n22⟩ kk2
    have K2 : xK h2 = xK h ++ (15 :: [22, 22, 22, 33, 31, 31, 31, 31, 31, 31, 31, 31, 31, 22, 22, 30, 22, 20, 20, 21, 21, 34, 27, 27, 27, 27, 27, 27, 27, 27, 20]) := by rw [kk2, K1, List.append_assoc]; rfl
    have ha2 : (xK h2)[a]? = some (7 + 8) := by rw [K2]; exact (getK0 ha 0).trans rfl
    have hp2 : ∀ (j o k9 : Nat), ([(2, 1, 22), (2, 2, 22), (2, 3, 22), (2, 4, 33), (2, 13, 31), (2, 14, 22), (2, 15, 22), (2, 16, 30), (0, 0, 0), (2, 17, 22), (0, 0, 0), (2, 18, 20), (2, 19, 20), (0, 0, 0), (2, 20, 21), (2, 21, 21), (0, 0, 0), (2, 22, 34), (0, 0, 0), (0, 0, 0), (0, 0, 0), (3, 0, 7), (3, 0, 7), (0, 0, 0), (0, 0, 0), (0, 0, 0), (1, 0, 0), (0, 0, 0), (0, 0, 0), (0, 0, 0), (2, 31, 20), (1, 0, 0)] : List Fd3)[j]? = some (2, o, k9) → xN h2 a j = a + o + 1 ∧ (xK h2)[a + o]? = some k9 := fun j o k9 hj => by
      match j, hj with
      | 0, hj => cases hj; exact ⟨p0, by rw [K2]; exact (getK0 ha 1).trans rfl⟩
      | 1, hj => cases hj; exact ⟨p1, by rw [K2]; exact (getK0 ha 2).trans rfl⟩
      | 2, hj => cases hj; exact ⟨p2, by rw [K2]; exact (getK0 ha 3).trans rfl⟩
      | 3, hj => cases hj; exact ⟨p3, by rw [K2]; exact (getK0 ha 4).trans rfl⟩
      | 4, hj => cases hj; exact ⟨p4, by rw [K2]; exact (getK0 ha 13).trans rfl⟩
      | 5, hj => cases hj; exact ⟨p5, by rw [K2]; exact (getK0 ha 14).trans rfl⟩
      | 6, hj => cases hj; exact ⟨p6, by rw [K2]; exact (getK0 ha 15).trans rfl⟩
      | 7, hj => cases hj; exact ⟨p7, by rw [K2]; exact (getK0 ha 16).trans rfl⟩
      | 8, hj => cases hj
      | 9, hj => cases hj; exact ⟨p9, by rw [K2]; exact (getK0 ha 17).trans rfl⟩
      | 10, hj => cases hj
      | 11, hj => cases hj; exact ⟨p11, by rw [K2]; exact (getK0 ha 18).trans rfl⟩
      | 12, hj => cases hj; exact ⟨p12, by rw [K2]; exact (getK0 ha 19).trans rfl⟩
      | 13, hj => cases hj
      | 14, hj => cases hj; exact ⟨p14, by rw [K2]; exact (getK0 ha 20).trans rfl⟩
      | 15, hj => cases hj; exact ⟨p15, by rw [K2]; exact (getK0 ha 21).trans rfl⟩
      | 16, hj => cases hj
      | 17, hj => cases hj; exact ⟨p17, by rw [K2]; exact (getK0 ha 22).trans rfl⟩
      | 18, hj => cases hj
      | 19, hj => cases hj
      | 20, hj => cases hj
      | 21, hj => cases hj
      | 22, hj => cases hj
      | 23, hj => cases hj
      | 24, hj => cases hj
      | 25, hj => cases hj
      | 26, hj => cases hj
      | 27, hj => cases hj
      | 28, hj => cases hj
      | 29, hj => cases hj
      | 30, hj => cases hj; exact ⟨p30, by rw [K2]; exact (getK0 ha 31).trans rfl⟩
      | 31, hj => cases hj
      | n + 32, hj => simp at hj
    refine r_retag (a := a) (k := 7) (al := xK h) C E0 (Nat.le_of_eq ha) (by decide) ha2 rfl hp2 ⟨show k ≠ a by omega, trivial⟩ ⟨show k ≠ a by omega, trivial⟩ ?_
    have K3 : xK (rt h2 a 7) = xK h ++ mdK := by show (xK h2).set _ _ = _; rw [K2]; exact (set_app (i := 0) ha.symm).trans rfl
    have no3 : NOk (rt h2 a 7) := no2.mk8 (by decide) ha2
    have lo3 : Lo a h (rt h2 a 7) := lo1.tr lo2
    have m3 : MilAt (rt h2 a 7) a v00 := m2
    generalize rt h2 a 7 = h3 at K3 no3 lo3 m3 ⊢
    have len3 : (xK h3).length = a + 32 := by rw [K3, List.length_append, ha]; rfl
    refine r_putN (k := 7) (j := 21) (t := 0) (C0 := RX7) (T := TX7) (N := 32) C rfl rfl rfl (by decide) f_X7_354 rfl (fun _ => rfl) (fun _ => rfl) (dx dX7_image 7 rfl) ?_
    obtain ⟨M4, en9, f4⟩ := Md.nwκ M ha lo3 no3 K3 m3
    exact tail _ a M4 en9 f4 (x0.tpκ M ha lo3)
set_option maxHeartbeats 4000000 in
theorem e_back {l : Launch} {h : Hp} {P : List Nat} {k z : Nat} {v : Vg} {g : Sg} {κ τ : Bool} (M : Md h P k v g z κ τ) {ω : Vg} {Bt : Nat → Int32} (x0 : XT h k κ ω Bt) : Ms l yX7_back cX7_back 1 (some .int) 3 [vr 7 k] h (xK h) (fun r h' => r = some (vi (if κ then nI 1 else -5)) ∧ Md h' P k (if κ then ω else v) g z κ τ ∧ Lo k h h' ∧ XT h' k κ ω Bt) := by
  refine Ms.of (by decide) (Nat.le_of_ble_eq_true rfl) (fun G C X F => ?_)
  have C : Cx G cX7_back 1 RX7 := C
  show Rr G 0 [(0, vr 7 k)] [] h
  obtain ⟨m, ms, e8, bz, nok, hP, hk, al, fk, ft, sk, st, ap⟩ := id M
  refine r_aload_n C (dx dX7_back 0 rfl) rfl ?_
  cases κ with
  | true =>
    rcases sk with q | ⟨b2, w, q1, q2, q3, q4⟩
    · exact absurd (fk.mp q) (by decide)
    obtain ⟨c9, e9, m9⟩ := x0.2 rfl
    have q9 : c9 = b2 := by omega
    subst q9
    have k7 := M.k7 (b := c9) (by omega) q3
    refine r_getN (k := 7) (j := 21) (T := TX7) (N := 32) C rfl rfl rfl (by decide) f_X7_354 (dx dX7_back 1 rfl) q1 (Or.inr (by rw [Nat.add_sub_cancel]; exact k7)) ?_
    refine r_ifnonnull_y (tgt := 14) C (dx dX7_back 2 rfl) (by decide) ?_
    refine r_aload_n C (dx dX7_back 7 rfl) rfl ?_
    refine r_aload_n C (dx dX7_back 8 rfl) rfl ?_
    refine r_getN (k := 7) (j := 21) (T := TX7) (N := 32) C rfl rfl rfl (by decide) f_X7_354 (dx dX7_back 9 rfl) q1 (Or.inr (by rw [Nat.add_sub_cancel]; exact k7)) ?_
    refine r_some C ?_
    refine r_cv (as := [vr 7 c9]) (st := []) C X I_X7_takeFrom l_X7_237 (c_X7_takeFrom m m9 (by omega)) (by decide) (Nat.le_of_ble_eq_true rfl) List.prefix_rfl List.prefix_rfl rfl rfl (Nat.le_of_ble_eq_true rfl) rfl (dx dX7_back 10 rfl) ?_
    rintro _ h2 ⟨rfl, m2, kp2⟩ kk2
    refine r_iconst (v := nI 1) C (dx dX7_back 11 rfl) rfl ?_
    exact F.1 _ _ _ _ _ rfl rfl (dx dX7_back 12 rfl) kk2 ⟨rfl, M.kp m2 kp2 kk2, Lo.fr (Fr.vc kp2) (Nat.le_refl _), x0.kp M kp2⟩
  | false =>
    refine r_getN (k := 7) (j := 21) (T := TX7) (N := 32) C rfl rfl rfl (by decide) f_X7_354 (dx dX7_back 1 rfl) (fk.mpr rfl) (Or.inl rfl) ?_
    refine r_ifnonnull_n C (dx dX7_back 2 rfl) ?_
    refine r_aload_n C (dx dX7_back 3 rfl) rfl ?_
    refine r_bipush (v := -5) C (dx dX7_back 4 rfl) rfl ?_
    refine r_cv (as := [vi (-5)]) (st := []) C X I_X7_refuse l_X7_83 (e_refuse m (x := -5) (j := 5) (by decide) (by decide)) (by decide) (Nat.le_of_ble_eq_true rfl) List.prefix_rfl List.prefix_rfl rfl rfl (Nat.le_of_ble_eq_true rfl) rfl (dx dX7_back 5 rfl) ?_
    rintro _ h2 ⟨rfl, m2, kp2⟩ kk2
    exact F.1 _ _ _ _ _ rfl rfl (dx dX7_back 6 rfl) kk2 ⟨rfl, M.kp m2 kp2 kk2, Lo.fr (Fr.vc kp2) (Nat.le_refl _), x0.kp M kp2⟩
end
section
/-! PART 56b -/
set_option maxHeartbeats 4000000 in
theorem v_X7_noHolding {l : Launch} {h : Hp} {k : Nat} {v : Vg} {g : Sg} (hm : MilAt h k v) (hs : MshAt h k g) (s : Int32) : Ms l yX7_noHolding cX7_noHolding 2 (some .int) 4 [vr 7 k, vi s] h (xK h) (fun r h' => r = some (vi (nhA g s)) ∧ MilAt h' k v ∧ Kp k h h') := by
  refine Ms.of (by decide) (Nat.le_of_ble_eq_true rfl) (fun G C X F => ?_)
  have C : Cx G cX7_noHolding 2 RX7 := C
  show Rr G 0 [(0, vr 7 k), (1, vi s)] [] h
  have bP := hm.bP
  have bM := hm.bM
  have bN := hm.bN
  refine r_iload_n C (dx dX7_noHolding 0 rfl) rfl ?_
  refine r_i2l C (dx dX7_noHolding 1 rfl) ?_
  refine r_lconst (v := 0) C (dx dX7_noHolding 2 rfl) rfl ?_
  refine r_ldc2 C n_X7_77 (dx dX7_noHolding 3 rfl) ?_
  refine r_csP (as := [vl s.toInt64, vl 0, vl 7]) (st := []) (v := vi (b2i (inR s 8))) C X I_X7_in l_X7_67 (c_inR (b := 7) (by decide) (by decide)) (by decide) (Nat.le_of_ble_eq_true rfl) List.prefix_rfl (Nat.le_of_ble_eq_true rfl) rfl (dx dX7_noHolding 4 rfl) ?_
  refine rb_ne (b := inR s 8) (tgt := 19) C (dx dX7_noHolding 5 rfl) (by decide) (fun c1 => ?_) (fun c1 => ?_)
  ·
    have c1 : (inR s 8) = true := c1
    obtain ⟨σ, hσ, rfl⟩ := inR_ex (n := 8) (by omega) c1
    rcases hs σ hσ with ⟨a11, a21⟩ | ⟨τ1, ν1, a11, a21, a31, a41, a51, a61, a71, a81⟩ | ⟨κ1, b1, a11, a21, a31, a41, a51, a61, a71, a81⟩
    ·
      obtain ⟨e01, e11, e21, e31, e41, e51, e61⟩ := sh_bare hσ a21
      refine r_aload_n C (dx dX7_noHolding 10 rfl) rfl ?_
      refine g_X7_7 C (dx dX7_noHolding 11 rfl) ?_
      refine r_iload_n C (dx dX7_noHolding 12 rfl) rfl ?_
      refine r_iald (j := σ) (x := nI 0) C rfl rfl (by decide) rfl (by omega) (dx dX7_noHolding 13 rfl) a11 ?_
      refine r_iconst (v := nI 1) C (dx dX7_noHolding 14 rfl) rfl ?_
      refine rn_ne (a := 0) (b := 1) (tgt := 36) C (by omega) (by omega) (dx dX7_noHolding 15 rfl) (by decide) (fun c2 => ?_) (fun c2 => ?_)
      · first
        | (omega; done)
        | (
            have c2 : ¬ 0 = 1 := c2
            refine r_aload_n C (dx dX7_noHolding 20 rfl) rfl ?_
            refine g_X7_7 C (dx dX7_noHolding 21 rfl) ?_
            refine r_iload_n C (dx dX7_noHolding 22 rfl) rfl ?_
            refine r_iald (j := σ) (x := nI 0) C rfl rfl (by decide) rfl (by omega) (dx dX7_noHolding 23 rfl) a11 ?_
            refine r_if_ne (tgt := 54) C (dx dX7_noHolding 24 rfl) (by decide) (fun c3 => (show False from by revert c3; decide).elim) (fun _ => ?_)
            refine r_aload_n C (dx dX7_noHolding 25 rfl) rfl ?_
            refine r_bipush (v := -4) C (dx dX7_noHolding 26 rfl) rfl ?_
            refine r_cv (as := [vi (-4)]) (st := []) C X I_X7_refuse l_X7_83 (e_refuse hm (x := -4) (j := 4) (by decide) (by decide)) (by decide) (Nat.le_of_ble_eq_true rfl) List.prefix_rfl List.prefix_rfl rfl rfl (Nat.le_of_ble_eq_true rfl) rfl (dx dX7_noHolding 27 rfl) ?_
            rintro _ h4 ⟨rfl, m9h4, qh4⟩ kkh4
            have mh4 : MilAt h4 k v := m9h4
            have ph4 : Kp k h h4 := qh4
            have kh4 : xK h4 = xK h := kkh4
            refine r_goto (tgt := 55) C (dx dX7_noHolding 28 rfl) (by decide) ?_
            have eA : nhA g (nI σ) = -4 := by simp [nhA, c1, c2, e01, e11, e21, e31, e41, e51, e61, inR_nI (show σ < 2 ^ 31 by omega), show σ < 8 by omega]
            exact F.1 _ _ _ _ _ rfl rfl (dx dX7_noHolding 30 rfl) kh4 (show some (vi (-4)) = some (vi (nhA g (nI σ))) ∧ MilAt h4 k v ∧ Kp k h h4 from by rw [eA]; exact ⟨rfl, mh4, ph4⟩))
      · first
        | (omega; done)
        | (
            have c2 : 0 = 1 := c2
            refine r_aload_n C (dx dX7_noHolding 16 rfl) rfl ?_
            refine r_bipush (v := -3) C (dx dX7_noHolding 17 rfl) rfl ?_
            refine r_cv (as := [vi (-3)]) (st := []) C X I_X7_refuse l_X7_83 (e_refuse hm (x := -3) (j := 3) (by decide) (by decide)) (by decide) (Nat.le_of_ble_eq_true rfl) List.prefix_rfl List.prefix_rfl rfl rfl (Nat.le_of_ble_eq_true rfl) rfl (dx dX7_noHolding 18 rfl) ?_
            rintro _ h5 ⟨rfl, m9h5, qh5⟩ kkh5
            have mh5 : MilAt h5 k v := m9h5
            have ph5 : Kp k h h5 := qh5
            have kh5 : xK h5 = xK h := kkh5
            have eA : nhA g (nI σ) = -3 := by simp [nhA, c1, c2, e01, e11, e21, e31, e41, e51, e61, inR_nI (show σ < 2 ^ 31 by omega), show σ < 8 by omega]
            exact F.1 _ _ _ _ _ rfl rfl (dx dX7_noHolding 19 rfl) kh5 (show some (vi (-3)) = some (vi (nhA g (nI σ))) ∧ MilAt h5 k v ∧ Kp k h h5 from by rw [eA]; exact ⟨rfl, mh5, ph5⟩))
    ·
      obtain ⟨e01, e11, e21, e31, e41, e51, e61⟩ := sh_row hσ a11 a61 a71
      refine r_aload_n C (dx dX7_noHolding 10 rfl) rfl ?_
      refine g_X7_7 C (dx dX7_noHolding 11 rfl) ?_
      refine r_iload_n C (dx dX7_noHolding 12 rfl) rfl ?_
      refine r_iald (j := σ) (x := nI 1) C rfl rfl (by decide) rfl (by omega) (dx dX7_noHolding 13 rfl) a31 ?_
      refine r_iconst (v := nI 1) C (dx dX7_noHolding 14 rfl) rfl ?_
      refine rn_ne (a := 1) (b := 1) (tgt := 36) C (by omega) (by omega) (dx dX7_noHolding 15 rfl) (by decide) (fun c6 => ?_) (fun c6 => ?_)
      · first
        | (omega; done)
        | (
            have c6 : ¬ 1 = 1 := c6
            refine r_aload_n C (dx dX7_noHolding 20 rfl) rfl ?_
            refine g_X7_7 C (dx dX7_noHolding 21 rfl) ?_
            refine r_iload_n C (dx dX7_noHolding 22 rfl) rfl ?_
            refine r_iald (j := σ) (x := nI 1) C rfl rfl (by decide) rfl (by omega) (dx dX7_noHolding 23 rfl) a31 ?_
            refine r_if_ne (tgt := 54) C (dx dX7_noHolding 24 rfl) (by decide) (fun _ => ?_) (fun c7 => (show False from by revert c7; decide).elim)
            refine r_iconst (v := nI 0) C (dx dX7_noHolding 29 rfl) rfl ?_
            have eA : nhA g (nI σ) = nI 0 := by simp [nhA, c1, c6, e01, e11, e21, e31, e41, e51, e61, inR_nI (show σ < 2 ^ 31 by omega), show σ < 8 by omega]
            exact F.1 _ _ _ _ _ rfl rfl (dx dX7_noHolding 30 rfl) rfl (show some (vi (nI 0)) = some (vi (nhA g (nI σ))) ∧ MilAt h k v ∧ Kp k h h from by rw [eA]; exact ⟨rfl, hm, Kp.rf⟩))
      · first
        | (omega; done)
        | (
            have c6 : 1 = 1 := c6
            refine r_aload_n C (dx dX7_noHolding 16 rfl) rfl ?_
            refine r_bipush (v := -3) C (dx dX7_noHolding 17 rfl) rfl ?_
            refine r_cv (as := [vi (-3)]) (st := []) C X I_X7_refuse l_X7_83 (e_refuse hm (x := -3) (j := 3) (by decide) (by decide)) (by decide) (Nat.le_of_ble_eq_true rfl) List.prefix_rfl List.prefix_rfl rfl rfl (Nat.le_of_ble_eq_true rfl) rfl (dx dX7_noHolding 18 rfl) ?_
            rintro _ h8 ⟨rfl, m9h8, qh8⟩ kkh8
            have mh8 : MilAt h8 k v := m9h8
            have ph8 : Kp k h h8 := qh8
            have kh8 : xK h8 = xK h := kkh8
            have eA : nhA g (nI σ) = -3 := by simp [nhA, c1, c6, e01, e11, e21, e31, e41, e51, e61, inR_nI (show σ < 2 ^ 31 by omega), show σ < 8 by omega]
            exact F.1 _ _ _ _ _ rfl rfl (dx dX7_noHolding 19 rfl) kh8 (show some (vi (-3)) = some (vi (nhA g (nI σ))) ∧ MilAt h8 k v ∧ Kp k h h8 from by rw [eA]; exact ⟨rfl, mh8, ph8⟩))
    ·
      obtain ⟨e01, e11, e21, e31, e41, e51, e61, e71⟩ := sh_hold hσ a21 a71 a81
      refine r_aload_n C (dx dX7_noHolding 10 rfl) rfl ?_
      refine g_X7_7 C (dx dX7_noHolding 11 rfl) ?_
      refine r_iload_n C (dx dX7_noHolding 12 rfl) rfl ?_
      refine r_iald (j := σ) (x := nI 2) C rfl rfl (by decide) rfl (by omega) (dx dX7_noHolding 13 rfl) a41 ?_
      refine r_iconst (v := nI 1) C (dx dX7_noHolding 14 rfl) rfl ?_
      refine rn_ne (a := 2) (b := 1) (tgt := 36) C (by omega) (by omega) (dx dX7_noHolding 15 rfl) (by decide) (fun c9 => ?_) (fun c9 => ?_)
      · first
        | (omega; done)
        | (
            have c9 : ¬ 2 = 1 := c9
            refine r_aload_n C (dx dX7_noHolding 20 rfl) rfl ?_
            refine g_X7_7 C (dx dX7_noHolding 21 rfl) ?_
            refine r_iload_n C (dx dX7_noHolding 22 rfl) rfl ?_
            refine r_iald (j := σ) (x := nI 2) C rfl rfl (by decide) rfl (by omega) (dx dX7_noHolding 23 rfl) a41 ?_
            refine r_if_ne (tgt := 54) C (dx dX7_noHolding 24 rfl) (by decide) (fun _ => ?_) (fun c10 => (show False from by revert c10; decide).elim)
            refine r_iconst (v := nI 0) C (dx dX7_noHolding 29 rfl) rfl ?_
            have eA : nhA g (nI σ) = nI 0 := by simp [nhA, c1, c9, e01, e11, e21, e31, e41, e51, e61, e71, inR_nI (show σ < 2 ^ 31 by omega), show σ < 8 by omega]
            exact F.1 _ _ _ _ _ rfl rfl (dx dX7_noHolding 30 rfl) rfl (show some (vi (nI 0)) = some (vi (nhA g (nI σ))) ∧ MilAt h k v ∧ Kp k h h from by rw [eA]; exact ⟨rfl, hm, Kp.rf⟩))
      · first
        | (omega; done)
        | (
            have c9 : 2 = 1 := c9
            refine r_aload_n C (dx dX7_noHolding 16 rfl) rfl ?_
            refine r_bipush (v := -3) C (dx dX7_noHolding 17 rfl) rfl ?_
            refine r_cv (as := [vi (-3)]) (st := []) C X I_X7_refuse l_X7_83 (e_refuse hm (x := -3) (j := 3) (by decide) (by decide)) (by decide) (Nat.le_of_ble_eq_true rfl) List.prefix_rfl List.prefix_rfl rfl rfl (Nat.le_of_ble_eq_true rfl) rfl (dx dX7_noHolding 18 rfl) ?_
            rintro _ h11 ⟨rfl, m9h11, qh11⟩ kkh11
            have mh11 : MilAt h11 k v := m9h11
            have ph11 : Kp k h h11 := qh11
            have kh11 : xK h11 = xK h := kkh11
            have eA : nhA g (nI σ) = -3 := by simp [nhA, c1, c9, e01, e11, e21, e31, e41, e51, e61, e71, inR_nI (show σ < 2 ^ 31 by omega), show σ < 8 by omega]
            exact F.1 _ _ _ _ _ rfl rfl (dx dX7_noHolding 19 rfl) kh11 (show some (vi (-3)) = some (vi (nhA g (nI σ))) ∧ MilAt h11 k v ∧ Kp k h h11 from by rw [eA]; exact ⟨rfl, mh11, ph11⟩))
  ·
    have c1 : (inR s 8) = false := c1
    refine r_aload_n C (dx dX7_noHolding 6 rfl) rfl ?_
    refine r_bipush (v := -2) C (dx dX7_noHolding 7 rfl) rfl ?_
    refine r_cv (as := [vi (-2)]) (st := []) C X I_X7_refuse l_X7_83 (e_refuse hm (x := -2) (j := 2) (by decide) (by decide)) (by decide) (Nat.le_of_ble_eq_true rfl) List.prefix_rfl List.prefix_rfl rfl rfl (Nat.le_of_ble_eq_true rfl) rfl (dx dX7_noHolding 8 rfl) ?_
    rintro _ h12 ⟨rfl, m9h12, qh12⟩ kkh12
    have mh12 : MilAt h12 k v := m9h12
    have ph12 : Kp k h h12 := qh12
    have kh12 : xK h12 = xK h := kkh12
    have eA : nhA g s = -2 := by simp [nhA, c1]
    exact F.1 _ _ _ _ _ rfl rfl (dx dX7_noHolding 9 rfl) kh12 (show some (vi (-2)) = some (vi (nhA g s)) ∧ MilAt h12 k v ∧ Kp k h h12 from by rw [eA]; exact ⟨rfl, mh12, ph12⟩)
set_option maxHeartbeats 4000000 in
theorem v_X7_says_n {l : Launch} {h : Hp} {k : Nat} {v : Vg} {g : Sg} (hm : MilAt h k v) (hs : MshAt h k g) (s x : Int32) (hn : ¬ ∃ σ η β, σ < 8 ∧ s = nI σ ∧ (1 ≤ η ∧ η ≤ 5) ∧ β < 100 ∧ gT g σ = nI (10 + η) ∧ gY g σ = nI β ∧ inR x 6 = true ∧ undV (nI η) x = true ∧ ¬ x = 0) : Ms l yX7_says cX7_says 3 (some .int) 10 [vr 7 k, vi s, vi x] h (xK h) (fun r h' => PI r ∧ MilAt h' k v ∧ Kp k h h') := by
  refine Ms.of (by decide) (Nat.le_of_ble_eq_true rfl) (fun G C X F => ?_)
  have C : Cx G cX7_says 3 RX7 := C
  show Rr G 0 [(0, vr 7 k), (1, vi s), (2, vi x)] [] h
  have bP := hm.bP
  have bM := hm.bM
  have bN := hm.bN
  refine r_iload_n C (dx dX7_says 0 rfl) rfl ?_
  refine r_i2l C (dx dX7_says 1 rfl) ?_
  refine r_lconst (v := 0) C (dx dX7_says 2 rfl) rfl ?_
  refine r_ldc2 C n_X7_77 (dx dX7_says 3 rfl) ?_
  refine r_csP (as := [vl s.toInt64, vl 0, vl 7]) (st := []) (v := vi (b2i (inR s 8))) C X I_X7_in l_X7_67 (c_inR (b := 7) (by decide) (by decide)) (by decide) (Nat.le_of_ble_eq_true rfl) List.prefix_rfl (Nat.le_of_ble_eq_true rfl) rfl (dx dX7_says 4 rfl) ?_
  refine rb_eq (b := inR s 8) (tgt := 24) C (dx dX7_says 5 rfl) (by decide) (fun c1 => ?_) (fun c1 => ?_)
  ·
    have c1 : (inR s 8) = false := c1
    refine r_aload_n C (dx dX7_says 12 rfl) rfl ?_
    refine r_bipush (v := -2) C (dx dX7_says 13 rfl) rfl ?_
    refine r_cv (as := [vi (-2)]) (st := []) C X I_X7_refuse l_X7_83 (e_refuse hm (x := -2) (j := 2) (by decide) (by decide)) (by decide) (Nat.le_of_ble_eq_true rfl) List.prefix_rfl List.prefix_rfl rfl rfl (Nat.le_of_ble_eq_true rfl) rfl (dx dX7_says 14 rfl) ?_
    rintro _ h2 ⟨rfl, m9h2, qh2⟩ kkh2
    have mh2 : MilAt h2 k v := m9h2
    have ph2 : Kp k h h2 := qh2
    have kh2 : xK h2 = xK h := kkh2
    exact F.1 _ _ _ _ .int rfl rfl (dx dX7_says 15 rfl) kh2 ⟨⟨_, rfl⟩, mh2, ph2⟩
  ·
    have c1 : (inR s 8) = true := c1
    obtain ⟨σ, hσ, rfl⟩ := inR_ex (n := 8) (by omega) c1
    refine r_iload_n C (dx dX7_says 6 rfl) rfl ?_
    refine r_i2l C (dx dX7_says 7 rfl) ?_
    refine r_lconst (v := 0) C (dx dX7_says 8 rfl) rfl ?_
    refine r_ldc2 C n_X7_94 (dx dX7_says 9 rfl) ?_
    refine r_csP (as := [vl x.toInt64, vl 0, vl 5]) (st := []) (v := vi (b2i (inR x 6))) C X I_X7_in l_X7_67 (c_inR (b := 5) (by decide) (by decide)) (by decide) (Nat.le_of_ble_eq_true rfl) List.prefix_rfl (Nat.le_of_ble_eq_true rfl) rfl (dx dX7_says 10 rfl) ?_
    refine rb_ne (b := inR x 6) (tgt := 31) C (dx dX7_says 11 rfl) (by decide) (fun c3 => ?_) (fun c3 => ?_)
    ·
      have c3 : (inR x 6) = true := c3
      rcases hs σ hσ with ⟨a11, a21⟩ | ⟨τ1, ν1, a11, a21, a31, a41, a51, a61, a71, a81⟩ | ⟨κ1, b1, a11, a21, a31, a41, a51, a61, a71, a81⟩
      ·
        obtain ⟨e01, e11, e21, e31, e41, e51, e61⟩ := sh_bare hσ a21
        refine r_aload_n C (dx dX7_says 16 rfl) rfl ?_
        refine g_X7_7 C (dx dX7_says 17 rfl) ?_
        refine r_iload_n C (dx dX7_says 18 rfl) rfl ?_
        refine r_iald (j := σ) (x := nI 0) C rfl rfl (by decide) rfl (by omega) (dx dX7_says 19 rfl) a11 ?_
        refine r_iconst (v := nI 1) C (dx dX7_says 20 rfl) rfl ?_
        refine rn_eq (a := 0) (b := 1) (tgt := 64) C (by omega) (by omega) (dx dX7_says 21 rfl) (by decide) (fun c4 => ?_) (fun c4 => ?_)
        · first
          | (omega; done)
          | (
              have c4 : 0 = 1 := c4
              refine r_aload_n C (dx dX7_says 35 rfl) rfl ?_
              refine r_bipush (v := -3) C (dx dX7_says 36 rfl) rfl ?_
              refine r_cv (as := [vi (-3)]) (st := []) C X I_X7_refuse l_X7_83 (e_refuse hm (x := -3) (j := 3) (by decide) (by decide)) (by decide) (Nat.le_of_ble_eq_true rfl) List.prefix_rfl List.prefix_rfl rfl rfl (Nat.le_of_ble_eq_true rfl) rfl (dx dX7_says 37 rfl) ?_
              rintro _ h5 ⟨rfl, m9h5, qh5⟩ kkh5
              have mh5 : MilAt h5 k v := m9h5
              have ph5 : Kp k h h5 := qh5
              have kh5 : xK h5 = xK h := kkh5
              exact F.1 _ _ _ _ .int rfl rfl (dx dX7_says 38 rfl) kh5 ⟨⟨_, rfl⟩, mh5, ph5⟩)
        · first
          | (omega; done)
          | (
              have c4 : ¬ 0 = 1 := c4
              refine r_aload_n C (dx dX7_says 22 rfl) rfl ?_
              refine g_X7_7 C (dx dX7_says 23 rfl) ?_
              refine r_iload_n C (dx dX7_says 24 rfl) rfl ?_
              refine r_iald (j := σ) (x := nI 0) C rfl rfl (by decide) rfl (by omega) (dx dX7_says 25 rfl) a11 ?_
              refine r_iconst (v := nI 2) C (dx dX7_says 26 rfl) rfl ?_
              refine rn_ne (a := 0) (b := 2) (tgt := 71) C (by omega) (by omega) (dx dX7_says 27 rfl) (by decide) (fun c6 => ?_) (fun c6 => ?_)
              · first
                | (omega; done)
                | (
                    have c6 : ¬ 0 = 2 := c6
                    refine r_aload_n C (dx dX7_says 39 rfl) rfl ?_
                    refine g_X7_7 C (dx dX7_says 40 rfl) ?_
                    refine r_iload_n C (dx dX7_says 41 rfl) rfl ?_
                    refine r_iald (j := σ) (x := nI 0) C rfl rfl (by decide) rfl (by omega) (dx dX7_says 42 rfl) a11 ?_
                    refine r_if_ne (tgt := 87) C (dx dX7_says 43 rfl) (by decide) (fun c7 => (show False from by revert c7; decide).elim) (fun _ => ?_)
                    refine r_aload_n C (dx dX7_says 44 rfl) rfl ?_
                    refine r_bipush (v := -4) C (dx dX7_says 45 rfl) rfl ?_
                    refine r_cv (as := [vi (-4)]) (st := []) C X I_X7_refuse l_X7_83 (e_refuse hm (x := -4) (j := 4) (by decide) (by decide)) (by decide) (Nat.le_of_ble_eq_true rfl) List.prefix_rfl List.prefix_rfl rfl rfl (Nat.le_of_ble_eq_true rfl) rfl (dx dX7_says 46 rfl) ?_
                    rintro _ h8 ⟨rfl, m9h8, qh8⟩ kkh8
                    have mh8 : MilAt h8 k v := m9h8
                    have ph8 : Kp k h h8 := qh8
                    have kh8 : xK h8 = xK h := kkh8
                    exact F.1 _ _ _ _ .int rfl rfl (dx dX7_says 47 rfl) kh8 ⟨⟨_, rfl⟩, mh8, ph8⟩)
              · first
                | (omega; done)
                | (
                    have c6 : 0 = 2 := c6
                    refine r_aload_n C (dx dX7_says 28 rfl) rfl ?_
                    refine g_X7_28 C (dx dX7_says 29 rfl) ?_
                    refine r_iload_n C (dx dX7_says 30 rfl) rfl ?_
                    refine r_iald (j := σ) (x := xI h (k + 14) σ) C rfl rfl (by decide) rfl (by omega) (dx dX7_says 31 rfl) rfl ?_
                    refine r_iload_n C (dx dX7_says 32 rfl) rfl ?_
                    refine r_csP (as := [vi (xI h (k + 14) σ), vi x]) (st := []) (v := vi (b2i (undV (xI h (k + 14) σ) x))) C X I_X7_isUnder l_X7_98 (c_X7_isUnder _ _) (by decide) (Nat.le_of_ble_eq_true rfl) List.prefix_rfl (Nat.le_of_ble_eq_true rfl) rfl (dx dX7_says 33 rfl) ?_
                    refine rb_ne (b := undV (xI h (k + 14) σ) x) (tgt := 71) C (dx dX7_says 34 rfl) (by decide) (fun c9 => ?_) (fun c9 => ?_)
                    ·
                      have c9 : (undV (xI h (k + 14) σ) x) = true := c9
                      refine r_aload_n C (dx dX7_says 39 rfl) rfl ?_
                      refine g_X7_7 C (dx dX7_says 40 rfl) ?_
                      refine r_iload_n C (dx dX7_says 41 rfl) rfl ?_
                      refine r_iald (j := σ) (x := nI 0) C rfl rfl (by decide) rfl (by omega) (dx dX7_says 42 rfl) a11 ?_
                      refine r_if_ne (tgt := 87) C (dx dX7_says 43 rfl) (by decide) (fun c10 => (show False from by revert c10; decide).elim) (fun _ => ?_)
                      refine r_aload_n C (dx dX7_says 44 rfl) rfl ?_
                      refine r_bipush (v := -4) C (dx dX7_says 45 rfl) rfl ?_
                      refine r_cv (as := [vi (-4)]) (st := []) C X I_X7_refuse l_X7_83 (e_refuse hm (x := -4) (j := 4) (by decide) (by decide)) (by decide) (Nat.le_of_ble_eq_true rfl) List.prefix_rfl List.prefix_rfl rfl rfl (Nat.le_of_ble_eq_true rfl) rfl (dx dX7_says 46 rfl) ?_
                      rintro _ h11 ⟨rfl, m9h11, qh11⟩ kkh11
                      have mh11 : MilAt h11 k v := m9h11
                      have ph11 : Kp k h h11 := qh11
                      have kh11 : xK h11 = xK h := kkh11
                      exact F.1 _ _ _ _ .int rfl rfl (dx dX7_says 47 rfl) kh11 ⟨⟨_, rfl⟩, mh11, ph11⟩
                    ·
                      have c9 : (undV (xI h (k + 14) σ) x) = false := c9
                      refine r_aload_n C (dx dX7_says 35 rfl) rfl ?_
                      refine r_bipush (v := -3) C (dx dX7_says 36 rfl) rfl ?_
                      refine r_cv (as := [vi (-3)]) (st := []) C X I_X7_refuse l_X7_83 (e_refuse hm (x := -3) (j := 3) (by decide) (by decide)) (by decide) (Nat.le_of_ble_eq_true rfl) List.prefix_rfl List.prefix_rfl rfl rfl (Nat.le_of_ble_eq_true rfl) rfl (dx dX7_says 37 rfl) ?_
                      rintro _ h12 ⟨rfl, m9h12, qh12⟩ kkh12
                      have mh12 : MilAt h12 k v := m9h12
                      have ph12 : Kp k h h12 := qh12
                      have kh12 : xK h12 = xK h := kkh12
                      exact F.1 _ _ _ _ .int rfl rfl (dx dX7_says 38 rfl) kh12 ⟨⟨_, rfl⟩, mh12, ph12⟩))
      ·
        obtain ⟨e01, e11, e21, e31, e41, e51, e61⟩ := sh_row hσ a11 a61 a71
        refine r_aload_n C (dx dX7_says 16 rfl) rfl ?_
        refine g_X7_7 C (dx dX7_says 17 rfl) ?_
        refine r_iload_n C (dx dX7_says 18 rfl) rfl ?_
        refine r_iald (j := σ) (x := nI 1) C rfl rfl (by decide) rfl (by omega) (dx dX7_says 19 rfl) a31 ?_
        refine r_iconst (v := nI 1) C (dx dX7_says 20 rfl) rfl ?_
        refine rn_eq (a := 1) (b := 1) (tgt := 64) C (by omega) (by omega) (dx dX7_says 21 rfl) (by decide) (fun c13 => ?_) (fun c13 => ?_)
        · first
          | (omega; done)
          | (
              have c13 : 1 = 1 := c13
              refine r_aload_n C (dx dX7_says 35 rfl) rfl ?_
              refine r_bipush (v := -3) C (dx dX7_says 36 rfl) rfl ?_
              refine r_cv (as := [vi (-3)]) (st := []) C X I_X7_refuse l_X7_83 (e_refuse hm (x := -3) (j := 3) (by decide) (by decide)) (by decide) (Nat.le_of_ble_eq_true rfl) List.prefix_rfl List.prefix_rfl rfl rfl (Nat.le_of_ble_eq_true rfl) rfl (dx dX7_says 37 rfl) ?_
              rintro _ h14 ⟨rfl, m9h14, qh14⟩ kkh14
              have mh14 : MilAt h14 k v := m9h14
              have ph14 : Kp k h h14 := qh14
              have kh14 : xK h14 = xK h := kkh14
              exact F.1 _ _ _ _ .int rfl rfl (dx dX7_says 38 rfl) kh14 ⟨⟨_, rfl⟩, mh14, ph14⟩)
        · first
          | (omega; done)
          | (
              have c13 : ¬ 1 = 1 := c13
              refine r_aload_n C (dx dX7_says 22 rfl) rfl ?_
              refine g_X7_7 C (dx dX7_says 23 rfl) ?_
              refine r_iload_n C (dx dX7_says 24 rfl) rfl ?_
              refine r_iald (j := σ) (x := nI 1) C rfl rfl (by decide) rfl (by omega) (dx dX7_says 25 rfl) a31 ?_
              refine r_iconst (v := nI 2) C (dx dX7_says 26 rfl) rfl ?_
              refine rn_ne (a := 1) (b := 2) (tgt := 71) C (by omega) (by omega) (dx dX7_says 27 rfl) (by decide) (fun c15 => ?_) (fun c15 => ?_)
              · first
                | (omega; done)
                | (
                    have c15 : ¬ 1 = 2 := c15
                    refine r_aload_n C (dx dX7_says 39 rfl) rfl ?_
                    refine g_X7_7 C (dx dX7_says 40 rfl) ?_
                    refine r_iload_n C (dx dX7_says 41 rfl) rfl ?_
                    refine r_iald (j := σ) (x := nI 1) C rfl rfl (by decide) rfl (by omega) (dx dX7_says 42 rfl) a31 ?_
                    refine r_if_ne (tgt := 87) C (dx dX7_says 43 rfl) (by decide) (fun _ => ?_) (fun c16 => (show False from by revert c16; decide).elim)
                    refine r_iload_n C (dx dX7_says 48 rfl) rfl ?_
                    refine r_if_ne (tgt := 98) C (dx dX7_says 49 rfl) (by decide) (fun c17 => ?_) (fun c17 => ?_)
                    ·
                      have c17 : ¬ x = 0 := c17
                      exact absurd XX hn
                    ·
                      have c17 : x = 0 := c17
                      refine r_aload_n C (dx dX7_says 50 rfl) rfl ?_
                      refine g_X7_31 C (dx dX7_says 51 rfl) ?_
                      refine r_iload_n C (dx dX7_says 52 rfl) rfl ?_
                      refine r_iald (j := σ) (x := xI h (k + 15) σ) C rfl rfl (by decide) rfl (by omega) (dx dX7_says 53 rfl) rfl ?_
                      exact F.1 _ _ _ _ .int rfl rfl (dx dX7_says 54 rfl) rfl ⟨⟨_, rfl⟩, hm, Kp.rf⟩)
              · first
                | (omega; done)
                | (
                    have c15 : 1 = 2 := c15
                    refine r_aload_n C (dx dX7_says 28 rfl) rfl ?_
                    refine g_X7_28 C (dx dX7_says 29 rfl) ?_
                    refine r_iload_n C (dx dX7_says 30 rfl) rfl ?_
                    refine r_iald (j := σ) (x := xI h (k + 14) σ) C rfl rfl (by decide) rfl (by omega) (dx dX7_says 31 rfl) rfl ?_
                    refine r_iload_n C (dx dX7_says 32 rfl) rfl ?_
                    refine r_csP (as := [vi (xI h (k + 14) σ), vi x]) (st := []) (v := vi (b2i (undV (xI h (k + 14) σ) x))) C X I_X7_isUnder l_X7_98 (c_X7_isUnder _ _) (by decide) (Nat.le_of_ble_eq_true rfl) List.prefix_rfl (Nat.le_of_ble_eq_true rfl) rfl (dx dX7_says 33 rfl) ?_
                    refine rb_ne (b := undV (xI h (k + 14) σ) x) (tgt := 71) C (dx dX7_says 34 rfl) (by decide) (fun c18 => ?_) (fun c18 => ?_)
                    ·
                      have c18 : (undV (xI h (k + 14) σ) x) = true := c18
                      refine r_aload_n C (dx dX7_says 39 rfl) rfl ?_
                      refine g_X7_7 C (dx dX7_says 40 rfl) ?_
                      refine r_iload_n C (dx dX7_says 41 rfl) rfl ?_
                      refine r_iald (j := σ) (x := nI 1) C rfl rfl (by decide) rfl (by omega) (dx dX7_says 42 rfl) a31 ?_
                      refine r_if_ne (tgt := 87) C (dx dX7_says 43 rfl) (by decide) (fun _ => ?_) (fun c19 => (show False from by revert c19; decide).elim)
                      refine r_iload_n C (dx dX7_says 48 rfl) rfl ?_
                      refine r_if_ne (tgt := 98) C (dx dX7_says 49 rfl) (by decide) (fun c20 => ?_) (fun c20 => ?_)
                      ·
                        have c20 : ¬ x = 0 := c20
                        exact absurd XX hn
                      ·
                        have c20 : x = 0 := c20
                        refine r_aload_n C (dx dX7_says 50 rfl) rfl ?_
                        refine g_X7_31 C (dx dX7_says 51 rfl) ?_
                        refine r_iload_n C (dx dX7_says 52 rfl) rfl ?_
                        refine r_iald (j := σ) (x := xI h (k + 15) σ) C rfl rfl (by decide) rfl (by omega) (dx dX7_says 53 rfl) rfl ?_
                        exact F.1 _ _ _ _ .int rfl rfl (dx dX7_says 54 rfl) rfl ⟨⟨_, rfl⟩, hm, Kp.rf⟩
                    ·
                      have c18 : (undV (xI h (k + 14) σ) x) = false := c18
                      refine r_aload_n C (dx dX7_says 35 rfl) rfl ?_
                      refine r_bipush (v := -3) C (dx dX7_says 36 rfl) rfl ?_
                      refine r_cv (as := [vi (-3)]) (st := []) C X I_X7_refuse l_X7_83 (e_refuse hm (x := -3) (j := 3) (by decide) (by decide)) (by decide) (Nat.le_of_ble_eq_true rfl) List.prefix_rfl List.prefix_rfl rfl rfl (Nat.le_of_ble_eq_true rfl) rfl (dx dX7_says 37 rfl) ?_
                      rintro _ h21 ⟨rfl, m9h21, qh21⟩ kkh21
                      have mh21 : MilAt h21 k v := m9h21
                      have ph21 : Kp k h h21 := qh21
                      have kh21 : xK h21 = xK h := kkh21
                      exact F.1 _ _ _ _ .int rfl rfl (dx dX7_says 38 rfl) kh21 ⟨⟨_, rfl⟩, mh21, ph21⟩))
      ·
        obtain ⟨e01, e11, e21, e31, e41, e51, e61, e71⟩ := sh_hold hσ a21 a71 a81
        refine r_aload_n C (dx dX7_says 16 rfl) rfl ?_
        refine g_X7_7 C (dx dX7_says 17 rfl) ?_
        refine r_iload_n C (dx dX7_says 18 rfl) rfl ?_
        refine r_iald (j := σ) (x := nI 2) C rfl rfl (by decide) rfl (by omega) (dx dX7_says 19 rfl) a41 ?_
        refine r_iconst (v := nI 1) C (dx dX7_says 20 rfl) rfl ?_
        refine rn_eq (a := 2) (b := 1) (tgt := 64) C (by omega) (by omega) (dx dX7_says 21 rfl) (by decide) (fun c22 => ?_) (fun c22 => ?_)
        · first
          | (omega; done)
          | (
              have c22 : 2 = 1 := c22
              refine r_aload_n C (dx dX7_says 35 rfl) rfl ?_
              refine r_bipush (v := -3) C (dx dX7_says 36 rfl) rfl ?_
              refine r_cv (as := [vi (-3)]) (st := []) C X I_X7_refuse l_X7_83 (e_refuse hm (x := -3) (j := 3) (by decide) (by decide)) (by decide) (Nat.le_of_ble_eq_true rfl) List.prefix_rfl List.prefix_rfl rfl rfl (Nat.le_of_ble_eq_true rfl) rfl (dx dX7_says 37 rfl) ?_
              rintro _ h23 ⟨rfl, m9h23, qh23⟩ kkh23
              have mh23 : MilAt h23 k v := m9h23
              have ph23 : Kp k h h23 := qh23
              have kh23 : xK h23 = xK h := kkh23
              exact F.1 _ _ _ _ .int rfl rfl (dx dX7_says 38 rfl) kh23 ⟨⟨_, rfl⟩, mh23, ph23⟩)
        · first
          | (omega; done)
          | (
              have c22 : ¬ 2 = 1 := c22
              refine r_aload_n C (dx dX7_says 22 rfl) rfl ?_
              refine g_X7_7 C (dx dX7_says 23 rfl) ?_
              refine r_iload_n C (dx dX7_says 24 rfl) rfl ?_
              refine r_iald (j := σ) (x := nI 2) C rfl rfl (by decide) rfl (by omega) (dx dX7_says 25 rfl) a41 ?_
              refine r_iconst (v := nI 2) C (dx dX7_says 26 rfl) rfl ?_
              refine rn_ne (a := 2) (b := 2) (tgt := 71) C (by omega) (by omega) (dx dX7_says 27 rfl) (by decide) (fun c24 => ?_) (fun c24 => ?_)
              · first
                | (omega; done)
                | (
                    have c24 : ¬ 2 = 2 := c24
                    refine r_aload_n C (dx dX7_says 39 rfl) rfl ?_
                    refine g_X7_7 C (dx dX7_says 40 rfl) ?_
                    refine r_iload_n C (dx dX7_says 41 rfl) rfl ?_
                    refine r_iald (j := σ) (x := nI 2) C rfl rfl (by decide) rfl (by omega) (dx dX7_says 42 rfl) a41 ?_
                    refine r_if_ne (tgt := 87) C (dx dX7_says 43 rfl) (by decide) (fun _ => ?_) (fun c25 => (show False from by revert c25; decide).elim)
                    refine r_iload_n C (dx dX7_says 48 rfl) rfl ?_
                    refine r_if_ne (tgt := 98) C (dx dX7_says 49 rfl) (by decide) (fun c26 => ?_) (fun c26 => ?_)
                    ·
                      have c26 : ¬ x = 0 := c26
                      exact absurd ⟨σ, κ1, b1, hσ, rfl, ⟨a11, a21⟩, a31, a71, a81, c3, XX, c26⟩ hn
                    ·
                      have c26 : x = 0 := c26
                      refine r_aload_n C (dx dX7_says 50 rfl) rfl ?_
                      refine g_X7_31 C (dx dX7_says 51 rfl) ?_
                      refine r_iload_n C (dx dX7_says 52 rfl) rfl ?_
                      refine r_iald (j := σ) (x := nI b1) C rfl rfl (by decide) rfl (by omega) (dx dX7_says 53 rfl) a61 ?_
                      exact F.1 _ _ _ _ .int rfl rfl (dx dX7_says 54 rfl) rfl ⟨⟨_, rfl⟩, hm, Kp.rf⟩)
              · first
                | (omega; done)
                | (
                    have c24 : 2 = 2 := c24
                    refine r_aload_n C (dx dX7_says 28 rfl) rfl ?_
                    refine g_X7_28 C (dx dX7_says 29 rfl) ?_
                    refine r_iload_n C (dx dX7_says 30 rfl) rfl ?_
                    refine r_iald (j := σ) (x := nI κ1) C rfl rfl (by decide) rfl (by omega) (dx dX7_says 31 rfl) a51 ?_
                    refine r_iload_n C (dx dX7_says 32 rfl) rfl ?_
                    refine r_csP (as := [vi (nI κ1), vi x]) (st := []) (v := vi (b2i (undV (nI κ1) x))) C X I_X7_isUnder l_X7_98 (c_X7_isUnder _ _) (by decide) (Nat.le_of_ble_eq_true rfl) List.prefix_rfl (Nat.le_of_ble_eq_true rfl) rfl (dx dX7_says 33 rfl) ?_
                    refine rb_ne (b := undV (nI κ1) x) (tgt := 71) C (dx dX7_says 34 rfl) (by decide) (fun c27 => ?_) (fun c27 => ?_)
                    ·
                      have c27 : (undV (nI κ1) x) = true := c27
                      refine r_aload_n C (dx dX7_says 39 rfl) rfl ?_
                      refine g_X7_7 C (dx dX7_says 40 rfl) ?_
                      refine r_iload_n C (dx dX7_says 41 rfl) rfl ?_
                      refine r_iald (j := σ) (x := nI 2) C rfl rfl (by decide) rfl (by omega) (dx dX7_says 42 rfl) a41 ?_
                      refine r_if_ne (tgt := 87) C (dx dX7_says 43 rfl) (by decide) (fun _ => ?_) (fun c28 => (show False from by revert c28; decide).elim)
                      refine r_iload_n C (dx dX7_says 48 rfl) rfl ?_
                      refine r_if_ne (tgt := 98) C (dx dX7_says 49 rfl) (by decide) (fun c29 => ?_) (fun c29 => ?_)
                      ·
                        have c29 : ¬ x = 0 := c29
                        exact absurd ⟨σ, κ1, b1, hσ, rfl, ⟨a11, a21⟩, a31, a71, a81, c3, c27, c29⟩ hn
                      ·
                        have c29 : x = 0 := c29
                        refine r_aload_n C (dx dX7_says 50 rfl) rfl ?_
                        refine g_X7_31 C (dx dX7_says 51 rfl) ?_
                        refine r_iload_n C (dx dX7_says 52 rfl) rfl ?_
                        refine r_iald (j := σ) (x := nI b1) C rfl rfl (by decide) rfl (by omega) (dx dX7_says 53 rfl) a61 ?_
                        exact F.1 _ _ _ _ .int rfl rfl (dx dX7_says 54 rfl) rfl ⟨⟨_, rfl⟩, hm, Kp.rf⟩
                    ·
                      have c27 : (undV (nI κ1) x) = false := c27
                      refine r_aload_n C (dx dX7_says 35 rfl) rfl ?_
                      refine r_bipush (v := -3) C (dx dX7_says 36 rfl) rfl ?_
                      refine r_cv (as := [vi (-3)]) (st := []) C X I_X7_refuse l_X7_83 (e_refuse hm (x := -3) (j := 3) (by decide) (by decide)) (by decide) (Nat.le_of_ble_eq_true rfl) List.prefix_rfl List.prefix_rfl rfl rfl (Nat.le_of_ble_eq_true rfl) rfl (dx dX7_says 37 rfl) ?_
                      rintro _ h30 ⟨rfl, m9h30, qh30⟩ kkh30
                      have mh30 : MilAt h30 k v := m9h30
                      have ph30 : Kp k h h30 := qh30
                      have kh30 : xK h30 = xK h := kkh30
                      exact F.1 _ _ _ _ .int rfl rfl (dx dX7_says 38 rfl) kh30 ⟨⟨_, rfl⟩, mh30, ph30⟩))
    ·
      have c3 : (inR x 6) = false := c3
      refine r_aload_n C (dx dX7_says 12 rfl) rfl ?_
      refine r_bipush (v := -2) C (dx dX7_says 13 rfl) rfl ?_
      refine r_cv (as := [vi (-2)]) (st := []) C X I_X7_refuse l_X7_83 (e_refuse hm (x := -2) (j := 2) (by decide) (by decide)) (by decide) (Nat.le_of_ble_eq_true rfl) List.prefix_rfl List.prefix_rfl rfl rfl (Nat.le_of_ble_eq_true rfl) rfl (dx dX7_says 14 rfl) ?_
      rintro _ h31 ⟨rfl, m9h31, qh31⟩ kkh31
      have mh31 : MilAt h31 k v := m9h31
      have ph31 : Kp k h h31 := qh31
      have kh31 : xK h31 = xK h := kkh31
      exact F.1 _ _ _ _ .int rfl rfl (dx dX7_says 15 rfl) kh31 ⟨⟨_, rfl⟩, mh31, ph31⟩
set_option maxHeartbeats 4000000 in
theorem v_X7_would_n {l : Launch} {h : Hp} {k : Nat} {v : Vg} {g : Sg} (hm : MilAt h k v) (hs : MshAt h k g) (s : Int32) (hq : ¬ nhA g s = 0) : Ms l yX7_would cX7_would 3 (some .long) 11 [vr 7 k, vi s] h (xK h) (fun r h' => PL r ∧ MilAt h' k v ∧ Kp k h h') := by
  refine Ms.of (by decide) (Nat.le_of_ble_eq_true rfl) (fun G C X F => ?_)
  have C : Cx G cX7_would 3 RX7 := C
  show Rr G 0 [(0, vr 7 k), (1, vi s)] [] h
  have bP := hm.bP
  have bM := hm.bM
  have bN := hm.bN
  refine r_aload_n C (dx dX7_would 0 rfl) rfl ?_
  refine r_iload_n C (dx dX7_would 1 rfl) rfl ?_
  refine r_cv (as := [vi s]) (st := []) C X I_X7_noHolding l_X7_292 (v_X7_noHolding hm hs s) (by decide) (Nat.le_of_ble_eq_true rfl) List.prefix_rfl List.prefix_rfl rfl rfl (Nat.le_of_ble_eq_true rfl) rfl (dx dX7_would 2 rfl) ?_
  rintro _ h1 ⟨rfl, m9h1, qh1⟩ kkh1
  have mh1 : MilAt h1 k v := m9h1
  have ph1 : Kp k h h1 := qh1
  have kh1 : xK h1 = xK h := kkh1
  refine r_istore_n (ls' := [(0, vr 7 k), (1, vi s), (2, vi (nhA g s))]) C (dx dX7_would 3 rfl) (by decide) [1, 2, 0] rfl ?_
  refine r_iload_n C (dx dX7_would 4 rfl) rfl ?_
  refine r_if_eq (tgt := 15) C (dx dX7_would 5 rfl) (by decide) (fun c2 => ?_) (fun c2 => ?_)
  ·
    have c2 : nhA g s = 0 := c2
    exact absurd c2 hq
  ·
    have c2 : ¬ nhA g s = 0 := c2
    refine r_iload_n C (dx dX7_would 6 rfl) rfl ?_
    refine r_i2l C (dx dX7_would 7 rfl) ?_
    refine r_goto (tgt := 20) C (dx dX7_would 8 rfl) (by decide) ?_
    exact F.2.1 _ _ _ _ rfl (dx dX7_would 12 rfl) kh1 ⟨⟨_, rfl⟩, mh1, ph1⟩
set_option maxHeartbeats 4000000 in
theorem v_X7_trust_n {l : Launch} {h : Hp} {k : Nat} {v : Vg} {g : Sg} (hm : MilAt h k v) (hs : MshAt h k g) (o1 o2 : Int32) (hn : ¬ (inR o1 (vN v) = true ∧ inR o2 (vN v) = true ∧ ¬ o1 = o2)) : Ms l yX7_trust cX7_trust 5 (some .long) 5 [vr 7 k, vi o1, vi o2] h (xK h) (fun r h' => PL r ∧ MilAt h' k v ∧ Kp k h h') := by
  refine Ms.of (by decide) (Nat.le_of_ble_eq_true rfl) (fun G C X F => ?_)
  have C : Cx G cX7_trust 5 RX7 := C
  show Rr G 0 [(0, vr 7 k), (1, vi o1), (2, vi o2)] [] h
  have bP := hm.bP
  have bM := hm.bM
  have bN := hm.bN
  refine r_aload_n C (dx dX7_trust 0 rfl) rfl ?_
  refine r_iload_n C (dx dX7_trust 1 rfl) rfl ?_
  refine r_cvP (as := [vi o1]) (st := []) (v := vi (b2i (inR o1 (vN v)))) C X I_X7_isOne l_X7_125 (c_X7_isOne hm _) (by decide) (Nat.le_of_ble_eq_true rfl) List.prefix_rfl rfl rfl (Nat.le_of_ble_eq_true rfl) rfl (dx dX7_trust 2 rfl) ?_
  refine rb_eq (b := inR o1 (vN v)) (tgt := 21) C (dx dX7_trust 3 rfl) (by decide) (fun c1 => ?_) (fun c1 => ?_)
  ·
    have c1 : (inR o1 (vN v)) = false := c1
    refine r_aload_n C (dx dX7_trust 11 rfl) rfl ?_
    refine r_bipush (v := -2) C (dx dX7_trust 12 rfl) rfl ?_
    refine r_cv (as := [vi (-2)]) (st := []) C X I_X7_refuse l_X7_83 (e_refuse hm (x := -2) (j := 2) (by decide) (by decide)) (by decide) (Nat.le_of_ble_eq_true rfl) List.prefix_rfl List.prefix_rfl rfl rfl (Nat.le_of_ble_eq_true rfl) rfl (dx dX7_trust 13 rfl) ?_
    rintro _ h2 ⟨rfl, m9h2, qh2⟩ kkh2
    have mh2 : MilAt h2 k v := m9h2
    have ph2 : Kp k h h2 := qh2
    have kh2 : xK h2 = xK h := kkh2
    refine r_i2l C (dx dX7_trust 14 rfl) ?_
    refine r_ldc2 C n_X7_320 (dx dX7_trust 15 rfl) ?_
    refine r_lsub C (dx dX7_trust 16 rfl) ?_
    exact F.2.1 _ _ _ _ rfl (dx dX7_trust 17 rfl) kh2 ⟨⟨_, rfl⟩, mh2, ph2⟩
  ·
    have c1 : (inR o1 (vN v)) = true := c1
    refine r_aload_n C (dx dX7_trust 4 rfl) rfl ?_
    refine r_iload_n C (dx dX7_trust 5 rfl) rfl ?_
    refine r_cvP (as := [vi o2]) (st := []) (v := vi (b2i (inR o2 (vN v)))) C X I_X7_isOne l_X7_125 (c_X7_isOne hm _) (by decide) (Nat.le_of_ble_eq_true rfl) List.prefix_rfl rfl rfl (Nat.le_of_ble_eq_true rfl) rfl (dx dX7_trust 6 rfl) ?_
    refine rb_eq (b := inR o2 (vN v)) (tgt := 21) C (dx dX7_trust 7 rfl) (by decide) (fun c3 => ?_) (fun c3 => ?_)
    ·
      have c3 : (inR o2 (vN v)) = false := c3
      refine r_aload_n C (dx dX7_trust 11 rfl) rfl ?_
      refine r_bipush (v := -2) C (dx dX7_trust 12 rfl) rfl ?_
      refine r_cv (as := [vi (-2)]) (st := []) C X I_X7_refuse l_X7_83 (e_refuse hm (x := -2) (j := 2) (by decide) (by decide)) (by decide) (Nat.le_of_ble_eq_true rfl) List.prefix_rfl List.prefix_rfl rfl rfl (Nat.le_of_ble_eq_true rfl) rfl (dx dX7_trust 13 rfl) ?_
      rintro _ h4 ⟨rfl, m9h4, qh4⟩ kkh4
      have mh4 : MilAt h4 k v := m9h4
      have ph4 : Kp k h h4 := qh4
      have kh4 : xK h4 = xK h := kkh4
      refine r_i2l C (dx dX7_trust 14 rfl) ?_
      refine r_ldc2 C n_X7_320 (dx dX7_trust 15 rfl) ?_
      refine r_lsub C (dx dX7_trust 16 rfl) ?_
      exact F.2.1 _ _ _ _ rfl (dx dX7_trust 17 rfl) kh4 ⟨⟨_, rfl⟩, mh4, ph4⟩
    ·
      have c3 : (inR o2 (vN v)) = true := c3
      refine r_iload_n C (dx dX7_trust 8 rfl) rfl ?_
      refine r_iload_n C (dx dX7_trust 9 rfl) rfl ?_
      refine r_icmp_ne (tgt := 33) C (dx dX7_trust 10 rfl) (by decide) (fun c5 => ?_) (fun c5 => ?_)
      ·
        have c5 : ¬ o1 = o2 := c5
        exact absurd ⟨c1, c3, c5⟩ hn
      ·
        have c5 : o1 = o2 := c5
        refine r_aload_n C (dx dX7_trust 11 rfl) rfl ?_
        refine r_bipush (v := -2) C (dx dX7_trust 12 rfl) rfl ?_
        refine r_cv (as := [vi (-2)]) (st := []) C X I_X7_refuse l_X7_83 (e_refuse hm (x := -2) (j := 2) (by decide) (by decide)) (by decide) (Nat.le_of_ble_eq_true rfl) List.prefix_rfl List.prefix_rfl rfl rfl (Nat.le_of_ble_eq_true rfl) rfl (dx dX7_trust 13 rfl) ?_
        rintro _ h6 ⟨rfl, m9h6, qh6⟩ kkh6
        have mh6 : MilAt h6 k v := m9h6
        have ph6 : Kp k h h6 := qh6
        have kh6 : xK h6 = xK h := kkh6
        refine r_i2l C (dx dX7_trust 14 rfl) ?_
        refine r_ldc2 C n_X7_320 (dx dX7_trust 15 rfl) ?_
        refine r_lsub C (dx dX7_trust 16 rfl) ?_
        exact F.2.1 _ _ _ _ rfl (dx dX7_trust 17 rfl) kh6 ⟨⟨_, rfl⟩, mh6, ph6⟩
set_option maxHeartbeats 4000000 in
theorem v_X7_best_n {l : Launch} {h : Hp} {k : Nat} {v : Vg} {g : Sg} (hm : MilAt h k v) (hs : MshAt h k g) (x : Int32) (hn : inR x (vP v) = true → 4 < vN v ∨ 6 < vP v) : Ms l yX7_best cX7_best 2 (some .int) 17 [vr 7 k, vi x] h (xK h) (fun r h' => PI r ∧ MilAt h' k v ∧ Kp k h h') := by
  refine Ms.of (by decide) (Nat.le_of_ble_eq_true rfl) (fun G C X F => ?_)
  have C : Cx G cX7_best 2 RX7 := C
  show Rr G 0 [(0, vr 7 k), (1, vi x)] [] h
  have bP := hm.bP
  have bM := hm.bM
  have bN := hm.bN
  refine r_aload_n C (dx dX7_best 0 rfl) rfl ?_
  refine r_iload_n C (dx dX7_best 1 rfl) rfl ?_
  refine r_cvP (as := [vi x]) (st := []) (v := vi (b2i (inR x (vP v)))) C X I_X7_isPart l_X7_132 (c_X7_isPart hm _) (by decide) (Nat.le_of_ble_eq_true rfl) List.prefix_rfl rfl rfl (Nat.le_of_ble_eq_true rfl) rfl (dx dX7_best 2 rfl) ?_
  refine rb_ne (b := inR x (vP v)) (tgt := 15) C (dx dX7_best 3 rfl) (by decide) (fun c1 => ?_) (fun c1 => ?_)
  ·
    have c1 : (inR x (vP v)) = true := c1
    have hn2 := hn c1
    refine r_aload_n C (dx dX7_best 8 rfl) rfl ?_
    refine r_cvP (as := []) (st := []) (v := vi (b2i false)) C X I_X7_findBest l_X7_311 (c_X7_findBest_n hm hn2) (by decide) (Nat.le_of_ble_eq_true rfl) List.prefix_rfl rfl rfl (Nat.le_of_ble_eq_true rfl) rfl (dx dX7_best 9 rfl) ?_
    refine rb_eq (b := false) (tgt := 31) C (dx dX7_best 10 rfl) (by decide) (fun c2 => ?_) (fun c2 => ?_)
    ·
      have c2 : false = false := c2
      refine r_aload_n C (dx dX7_best 16 rfl) rfl ?_
      refine r_bipush (v := -5) C (dx dX7_best 17 rfl) rfl ?_
      refine r_cv (as := [vi (-5)]) (st := []) C X I_X7_refuse l_X7_83 (e_refuse hm (x := -5) (j := 5) (by decide) (by decide)) (by decide) (Nat.le_of_ble_eq_true rfl) List.prefix_rfl List.prefix_rfl rfl rfl (Nat.le_of_ble_eq_true rfl) rfl (dx dX7_best 18 rfl) ?_
      rintro _ h3 ⟨rfl, m9h3, qh3⟩ kkh3
      have mh3 : MilAt h3 k v := m9h3
      have ph3 : Kp k h h3 := qh3
      have kh3 : xK h3 = xK h := kkh3
      exact F.1 _ _ _ _ .int rfl rfl (dx dX7_best 19 rfl) kh3 ⟨⟨_, rfl⟩, mh3, ph3⟩
    ·
      have c2 : false = true := c2
      exact absurd (rfl.symm.trans c2) (by decide)
  ·
    have c1 : (inR x (vP v)) = false := c1
    refine r_aload_n C (dx dX7_best 4 rfl) rfl ?_
    refine r_bipush (v := -2) C (dx dX7_best 5 rfl) rfl ?_
    refine r_cv (as := [vi (-2)]) (st := []) C X I_X7_refuse l_X7_83 (e_refuse hm (x := -2) (j := 2) (by decide) (by decide)) (by decide) (Nat.le_of_ble_eq_true rfl) List.prefix_rfl List.prefix_rfl rfl rfl (Nat.le_of_ble_eq_true rfl) rfl (dx dX7_best 6 rfl) ?_
    rintro _ h4 ⟨rfl, m9h4, qh4⟩ kkh4
    have mh4 : MilAt h4 k v := m9h4
    have ph4 : Kp k h h4 := qh4
    have kh4 : xK h4 = xK h := kkh4
    exact F.1 _ _ _ _ .int rfl rfl (dx dX7_best 7 rfl) kh4 ⟨⟨_, rfl⟩, mh4, ph4⟩
set_option maxHeartbeats 4000000 in
theorem v_X7_bestDay_n {l : Launch} {h : Hp} {k : Nat} {v : Vg} {g : Sg} (hm : MilAt h k v) (hs : MshAt h k g) (hn2 : 4 < vN v ∨ 6 < vP v) : Ms l yX7_bestDay cX7_bestDay 1 (some .long) 17 [vr 7 k] h (xK h) (fun r h' => PL r ∧ MilAt h' k v ∧ Kp k h h') := by
  refine Ms.of (by decide) (Nat.le_of_ble_eq_true rfl) (fun G C X F => ?_)
  have C : Cx G cX7_bestDay 1 RX7 := C
  show Rr G 0 [(0, vr 7 k)] [] h
  have bP := hm.bP
  have bM := hm.bM
  have bN := hm.bN
  refine r_aload_n C (dx dX7_bestDay 0 rfl) rfl ?_
  refine r_cvP (as := []) (st := []) (v := vi (b2i false)) C X I_X7_findBest l_X7_311 (c_X7_findBest_n hm hn2) (by decide) (Nat.le_of_ble_eq_true rfl) List.prefix_rfl rfl rfl (Nat.le_of_ble_eq_true rfl) rfl (dx dX7_bestDay 1 rfl) ?_
  refine rb_eq (b := false) (tgt := 14) C (dx dX7_bestDay 2 rfl) (by decide) (fun c1 => ?_) (fun c1 => ?_)
  ·
    have c1 : false = false := c1
    refine r_aload_n C (dx dX7_bestDay 6 rfl) rfl ?_
    refine r_bipush (v := -5) C (dx dX7_bestDay 7 rfl) rfl ?_
    refine r_cv (as := [vi (-5)]) (st := []) C X I_X7_refuse l_X7_83 (e_refuse hm (x := -5) (j := 5) (by decide) (by decide)) (by decide) (Nat.le_of_ble_eq_true rfl) List.prefix_rfl List.prefix_rfl rfl rfl (Nat.le_of_ble_eq_true rfl) rfl (dx dX7_bestDay 8 rfl) ?_
    rintro _ h2 ⟨rfl, m9h2, qh2⟩ kkh2
    have mh2 : MilAt h2 k v := m9h2
    have ph2 : Kp k h h2 := qh2
    have kh2 : xK h2 = xK h := kkh2
    refine r_i2l C (dx dX7_bestDay 9 rfl) ?_
    exact F.2.1 _ _ _ _ rfl (dx dX7_bestDay 10 rfl) kh2 ⟨⟨_, rfl⟩, mh2, ph2⟩
  ·
    have c1 : false = true := c1
    exact absurd (rfl.symm.trans c1) (by decide)
end
section
/-! PART 57: the reference, exactly: what tries a village on another model -/
def MxF (l : Launch) (y : MethodName) (cc : ByteArray) (nL : Nat) (ret : Option FieldType) (d : Nat) (as : List V) (h : Hp) (P : List Nat) (k : Nat) (v : Vg) (g : Sg) (z : Nat) (κ : Bool) (ω : Vg) (Bt : Nat → Int32) (Q : Option V → Prop) : Prop :=
  ∃ τ, xK h <+: AL P κ τ ∧ Ms l y cc nL ret d as h (AL P κ τ) (fun r h' => Q r ∧ Md h' P k v g z κ τ ∧ Lo k h h' ∧ XT h' k κ ω Bt)
section MXF
variable {l : Launch} {y : MethodName} {cc : ByteArray} {nL : Nat} {ret : Option FieldType} {d : Nat} {as : List V} {h : Hp} {P : List Nat} {k z z' : Nat} {v v' ω ω' : Vg} {g g' : Sg} {κ τ : Bool} {Bt Bt' : Nat → Int32} {Q : Option V → Prop}
theorem MxF.kp (M : Md h P k v g z κ τ) (x0 : XT h k κ ω Bt) (c : Ms l y cc nL ret d as h (xK h) (fun r h' => Q r ∧ MilAt h' k v' ∧ Kp k h h')) : MxF l y cc nL ret d as h P k v' g z κ ω Bt Q :=
  ⟨τ, by rw [M.al]; exact List.prefix_rfl, by rw [← M.al]; exact c.mono (fun r h' ⟨q, m', kp⟩ e => ⟨q, M.kp m' kp e, Lo.fr (Fr.vc kp) (Nat.le_refl _), x0.kp M kp⟩)⟩
theorem MxF.kt (M : Md h P k v g z κ τ) (x0 : XT h k κ ω Bt) (c : Ms l y cc nL ret d as h (xK h) (fun r h' => Q r ∧ MilAt h' k v' ∧ MshAt h' k g' ∧ Kt k h h')) : MxF l y cc nL ret d as h P k v' g' z κ ω Bt Q :=
  ⟨τ, by rw [M.al]; exact List.prefix_rfl, by rw [← M.al]; exact c.mono (fun r h' ⟨q, m', s, kp⟩ e => ⟨q, M.gen m' s (kp.1.1.trans M.e8) M.bz kp.1.2.1 kp.1.2.2 e, Lo.fr kp.1.2.2 (Nat.le_refl _), x0.kt M kp⟩)⟩
theorem MxF.md (M : Md h P k v g z κ τ) (c : Ms l y cc nL ret d as h (AL P κ true) (fun r h' => Q r ∧ Md h' P k v' g' z' κ true ∧ Lo k h h' ∧ XT h' k κ ω' Bt')) : MxF l y cc nL ret d as h P k v' g' z' κ ω' Bt' Q :=
  ⟨true, by rw [M.al]; exact AL_pre id (fun _ => rfl), c⟩
theorem MxF.sm (M : Md h P k v g z κ τ) (c : Ms l y cc nL ret d as h (xK h) (fun r h' => Q r ∧ Md h' P k v' g' z' κ τ ∧ Lo k h h' ∧ XT h' k κ ω' Bt')) : MxF l y cc nL ret d as h P k v' g' z' κ ω' Bt' Q :=
  ⟨τ, by rw [M.al]; exact List.prefix_rfl, by rw [← M.al]; exact c⟩
end MXF
set_option maxHeartbeats 4000000 in
theorem x_X7_wouldBy_y {l : Launch} {h : Hp} {P : List Nat} {k z : Nat} {v : Vg} {g : Sg} {κ τ : Bool} {ω : Vg} {Bt : Nat → Int32} (M : Md h P k v g z κ τ) (x0 : XT h k κ ω Bt) {σ η β : Nat} (hσ : σ < 8) (hη : 1 ≤ η ∧ η ≤ 5) (hβ : β < 100) (eT : gT g σ = nI (10 + η)) (eY : gY g σ = nI β) : Ms l yX7_wouldBy cX7_wouldBy 2 (some .long) 10 [vr 7 k, vi (nI σ)] h (AL P κ true) (fun r h' => PL r ∧ Md h' P k v g z κ true ∧ Lo k h h' ∧ XT h' k κ ω Bt) := by
  refine Ms.of (by decide) (Nat.le_of_ble_eq_true rfl) (fun G C X F => ?_)
  have C : Cx G cX7_wouldBy 2 RX7 := C
  show Rr G 0 [(0, vr 7 k), (1, vi (nI σ))] [] h
  have hm := M.1
  have hs := M.2.1
  have al := M.al
  have hk7 := M.hk
  have bP := hm.bP
  have bM := hm.bM
  have bN := hm.bN
  obtain ⟨o1, o2, o3⟩ := hs.hold hσ hη hβ eT eY
  refine r_aload_n C (dx dX7_wouldBy 0 rfl) rfl ?_
  refine r_cv (as := []) (st := []) C X I_X7_fresh l_X7_102 (e_fresh M x0) (by decide) (Nat.le_of_ble_eq_true rfl) (by rw [M.al]; exact AL_pre id (fun _ => rfl)) (by first | exact List.prefix_rfl | (rw [al]; exact AL_pre id (fun _ => rfl))) rfl rfl (Nat.le_of_ble_eq_true rfl) rfl (dx dX7_wouldBy 1 rfl) ?_
  rintro _ hF ⟨b, rfl, ebF, BF, MF, hb, hlF, loF, xF⟩ kF
  obtain ⟨r1, r2, r3⟩ := MF.2.1.hold hσ hη hβ eT eY
  refine r_aload_n C (dx dX7_wouldBy 2 rfl) rfl ?_
  refine g_X7_28 C (dx dX7_wouldBy 3 rfl) ?_
  refine r_iload_n C (dx dX7_wouldBy 4 rfl) rfl ?_
  refine r_iald (j := σ) (x := nI η) C rfl rfl (by decide) rfl (by omega) (dx dX7_wouldBy 5 rfl) r2 ?_
  refine r_aload_n C (dx dX7_wouldBy 6 rfl) rfl ?_
  refine g_X7_31 C (dx dX7_wouldBy 7 rfl) ?_
  refine r_iload_n C (dx dX7_wouldBy 8 rfl) rfl ?_
  refine r_iald (j := σ) (x := nI β) C rfl rfl (by decide) rfl (by omega) (dx dX7_wouldBy 9 rfl) r3 ?_
  refine r_cv (as := [vi (nI η), vi (nI β)]) (st := []) C X I_X7_holdAll l_X7_106 (c_X7_holdAll BF (κ := η) (b := β) (by omega) (by omega)) (by decide) (Nat.le_of_ble_eq_true rfl) List.prefix_rfl (pfx_eq kF) rfl rfl (Nat.le_of_ble_eq_true rfl) rfl (dx dX7_wouldBy 10 rfl) ?_
  rintro _ h1 ⟨rfl, ⟨wh1, Bh1, sh1⟩, qh1⟩ kkh1
  have xh1 : XT h1 k κ ω Bt := xF.tk MF hb ebF qh1
  have Mh1 := MF.tk (b := b) hb hlF Bh1 qh1 (show xK h1 = xK hF from kkh1)
  have loh1 : Lo k h h1 := loF.tr (Lo.fr (Fr.vc qh1) (by omega))
  have ebh1 : xN h1 k 22 = b + 1 := by rw [((Fr.vc qh1) k (by omega)).2.2]; exact ebF
  have hlh1 : b + 32 ≤ (xK h1).length := by rw [show xK h1 = xK hF from kkh1]; exact hlF
  have kh1 : xK h1 = AL P κ true := (show xK h1 = xK hF from kkh1).trans kF
  obtain ⟨sah1, sbh1, sch1⟩ := sh1
  refine r_aload_n C (dx dX7_wouldBy 11 rfl) rfl ?_
  refine r_getN (k := 7) (j := 22) (T := TX7) (N := 32) C rfl rfl rfl (by decide) f_X7_110 (dx dX7_wouldBy 12 rfl) ebh1 (Or.inr (by rw [Nat.add_sub_cancel]; exact Mh1.k7 (by omega) hlh1)) ?_
  refine r_some C ?_
  refine r_cvW (as := []) (st := []) C X I_X7_day l_X7_295 (c_X7_day Bh1) (by decide) (Nat.le_of_ble_eq_true rfl) (pfx_eq kh1) rfl rfl (Nat.le_of_ble_eq_true rfl) rfl (dx dX7_wouldBy 13 rfl) ?_
  rintro _ ⟨x2, rfl⟩
  exact F.2.1 _ _ _ _ rfl (dx dX7_wouldBy 14 rfl) kh1 ⟨⟨_, rfl⟩, Mh1, loh1, xh1⟩
set_option maxHeartbeats 4000000 in
theorem x_X7_says_y {l : Launch} {h : Hp} {P : List Nat} {k z : Nat} {v : Vg} {g : Sg} {κ τ : Bool} {ω : Vg} {Bt : Nat → Int32} (M : Md h P k v g z κ τ) (x0 : XT h k κ ω Bt) {σ η β : Nat} (hσ : σ < 8) (hη : 1 ≤ η ∧ η ≤ 5) (hβ : β < 100) (eT : gT g σ = nI (10 + η)) (eY : gY g σ = nI β) {x : Int32} (hq : inR x 6 = true) (hu : undV (nI η) x = true) (h0 : ¬ x = 0) : Ms l yX7_says cX7_says 3 (some .int) 10 [vr 7 k, vi (nI σ), vi x] h (AL P κ true) (fun r h' => PI r ∧ Md h' P k v g z κ true ∧ Lo k h h' ∧ XT h' k κ ω Bt) := by
  refine Ms.of (by decide) (Nat.le_of_ble_eq_true rfl) (fun G C X F => ?_)
  have C : Cx G cX7_says 3 RX7 := C
  show Rr G 0 [(0, vr 7 k), (1, vi (nI σ)), (2, vi x)] [] h
  have hm := M.1
  have hs := M.2.1
  have al := M.al
  have hk7 := M.hk
  have bP := hm.bP
  have bM := hm.bM
  have bN := hm.bN
  obtain ⟨o1, o2, o3⟩ := hs.hold hσ hη hβ eT eY
  refine r_iload_n C (dx dX7_says 0 rfl) rfl ?_
  refine r_i2l C (dx dX7_says 1 rfl) ?_
  refine r_lconst (v := 0) C (dx dX7_says 2 rfl) rfl ?_
  refine r_ldc2 C n_X7_77 (dx dX7_says 3 rfl) ?_
  refine r_csP (as := [vl ((nI σ).toInt64), vl 0, vl 7]) (st := []) (v := vi (b2i (inR (nI σ) 8))) C X I_X7_in l_X7_67 (c_inR (b := 7) (by decide) (by decide)) (by decide) (Nat.le_of_ble_eq_true rfl) (by first | exact List.prefix_rfl | (rw [al]; exact AL_pre id (fun _ => rfl))) (Nat.le_of_ble_eq_true rfl) rfl (dx dX7_says 4 rfl) ?_
  refine rb_eq (b := inR (nI σ) 8) (tgt := 24) C (dx dX7_says 5 rfl) (by decide) (fun c1 => ?_) (fun c1 => ?_)
  ·
    have c1 : (inR (nI σ) 8) = false := c1
    exact absurd ((inN (by omega) hσ).symm.trans c1) (by decide)
  ·
    have c1 : (inR (nI σ) 8) = true := c1
    refine r_iload_n C (dx dX7_says 6 rfl) rfl ?_
    refine r_i2l C (dx dX7_says 7 rfl) ?_
    refine r_lconst (v := 0) C (dx dX7_says 8 rfl) rfl ?_
    refine r_ldc2 C n_X7_94 (dx dX7_says 9 rfl) ?_
    refine r_csP (as := [vl x.toInt64, vl 0, vl 5]) (st := []) (v := vi (b2i (inR x 6))) C X I_X7_in l_X7_67 (c_inR (b := 5) (by decide) (by decide)) (by decide) (Nat.le_of_ble_eq_true rfl) (by first | exact List.prefix_rfl | (rw [al]; exact AL_pre id (fun _ => rfl))) (Nat.le_of_ble_eq_true rfl) rfl (dx dX7_says 10 rfl) ?_
    refine rb_ne (b := inR x 6) (tgt := 31) C (dx dX7_says 11 rfl) (by decide) (fun c2 => ?_) (fun c2 => ?_)
    ·
      have c2 : (inR x 6) = true := c2
      refine r_aload_n C (dx dX7_says 16 rfl) rfl ?_
      refine g_X7_7 C (dx dX7_says 17 rfl) ?_
      refine r_iload_n C (dx dX7_says 18 rfl) rfl ?_
      refine r_iald (j := σ) (x := nI 2) C rfl rfl (by decide) rfl (by omega) (dx dX7_says 19 rfl) o1 ?_
      refine r_iconst (v := nI 1) C (dx dX7_says 20 rfl) rfl ?_
      refine rn_eq (a := 2) (b := 1) (tgt := 64) C (by omega) (by omega) (dx dX7_says 21 rfl) (by decide) (fun c3 => ?_) (fun c3 => ?_)
      · first
        | (omega; done)
        | (
            have c3 : 2 = 1 := c3
            refine r_aload_n C (dx dX7_says 35 rfl) rfl ?_
            refine r_bipush (v := -3) C (dx dX7_says 36 rfl) rfl ?_
            refine r_cv (as := [vi (-3)]) (st := []) C X I_X7_refuse l_X7_83 (c_X7_refuse hm (x := -3) (j := 3) (by decide) (by decide)) (by decide) (Nat.le_of_ble_eq_true rfl) List.prefix_rfl (by first | exact List.prefix_rfl | (rw [al]; exact AL_pre id (fun _ => rfl))) rfl rfl (Nat.le_of_ble_eq_true rfl) rfl (dx dX7_says 37 rfl) ?_
            rintro _ h4 ⟨rfl, ⟨wh4, m9h4, s9h4⟩, qh4⟩ kkh4
            obtain ⟨vh4, mh4, zh4⟩ : ∃ v9, MilAt h4 k v9 ∧ Sz v v9 := ⟨_, m9h4, s9h4⟩
            have ph4 : Kp k h h4 := qh4
            have kh4 : xK h4 = xK h := kkh4
            obtain ⟨ah4, bh4, ch4⟩ := zh4
            exact F.1 _ _ _ _ .int rfl rfl (dx dX7_says 38 rfl) kh4 ⟨⟨_, rfl⟩, M, Lo.rf, x0⟩)
      · first
        | (omega; done)
        | (
            have c3 : ¬ 2 = 1 := c3
            refine r_aload_n C (dx dX7_says 22 rfl) rfl ?_
            refine g_X7_7 C (dx dX7_says 23 rfl) ?_
            refine r_iload_n C (dx dX7_says 24 rfl) rfl ?_
            refine r_iald (j := σ) (x := nI 2) C rfl rfl (by decide) rfl (by omega) (dx dX7_says 25 rfl) o1 ?_
            refine r_iconst (v := nI 2) C (dx dX7_says 26 rfl) rfl ?_
            refine rn_ne (a := 2) (b := 2) (tgt := 71) C (by omega) (by omega) (dx dX7_says 27 rfl) (by decide) (fun c5 => ?_) (fun c5 => ?_)
            · first
              | (omega; done)
              | (
                  have c5 : ¬ 2 = 2 := c5
                  refine r_aload_n C (dx dX7_says 39 rfl) rfl ?_
                  refine g_X7_7 C (dx dX7_says 40 rfl) ?_
                  refine r_iload_n C (dx dX7_says 41 rfl) rfl ?_
                  refine r_iald (j := σ) (x := nI 2) C rfl rfl (by decide) rfl (by omega) (dx dX7_says 42 rfl) o1 ?_
                  refine r_if_ne (tgt := 87) C (dx dX7_says 43 rfl) (by decide) (fun _ => ?_) (fun c6 => (show False from by revert c6; decide).elim)
                  refine r_iload_n C (dx dX7_says 48 rfl) rfl ?_
                  refine r_if_ne (tgt := 98) C (dx dX7_says 49 rfl) (by decide) (fun c7 => ?_) (fun c7 => ?_)
                  ·
                    have c7 : ¬ x = 0 := c7
                    refine r_aload_n C (dx dX7_says 55 rfl) rfl ?_
                    refine r_cv (as := []) (st := []) C X I_X7_fresh l_X7_102 (e_fresh M x0) (by decide) (Nat.le_of_ble_eq_true rfl) (by rw [M.al]; exact AL_pre id (fun _ => rfl)) (by first | exact List.prefix_rfl | (rw [al]; exact AL_pre id (fun _ => rfl))) rfl rfl (Nat.le_of_ble_eq_true rfl) rfl (dx dX7_says 56 rfl) ?_
                    rintro _ hF ⟨b, rfl, ebF, BF, MF, hb, hlF, loF, xF⟩ kF
                    obtain ⟨r1, r2, r3⟩ := MF.2.1.hold hσ hη hβ eT eY
                    refine r_aload_n C (dx dX7_says 57 rfl) rfl ?_
                    refine g_X7_28 C (dx dX7_says 58 rfl) ?_
                    refine r_iload_n C (dx dX7_says 59 rfl) rfl ?_
                    refine r_iald (j := σ) (x := nI η) C rfl rfl (by decide) rfl (by omega) (dx dX7_says 60 rfl) r2 ?_
                    refine r_aload_n C (dx dX7_says 61 rfl) rfl ?_
                    refine g_X7_31 C (dx dX7_says 62 rfl) ?_
                    refine r_iload_n C (dx dX7_says 63 rfl) rfl ?_
                    refine r_iald (j := σ) (x := nI β) C rfl rfl (by decide) rfl (by omega) (dx dX7_says 64 rfl) r3 ?_
                    refine r_cv (as := [vi (nI η), vi (nI β)]) (st := []) C X I_X7_holdAll l_X7_106 (c_X7_holdAll BF (κ := η) (b := β) (by omega) (by omega)) (by decide) (Nat.le_of_ble_eq_true rfl) List.prefix_rfl (pfx_eq kF) rfl rfl (Nat.le_of_ble_eq_true rfl) rfl (dx dX7_says 65 rfl) ?_
                    rintro _ h8 ⟨rfl, ⟨wh8, Bh8, sh8⟩, qh8⟩ kkh8
                    have xh8 : XT h8 k κ ω Bt := xF.tk MF hb ebF qh8
                    have Mh8 := MF.tk (b := b) hb hlF Bh8 qh8 (show xK h8 = xK hF from kkh8)
                    have loh8 : Lo k h h8 := loF.tr (Lo.fr (Fr.vc qh8) (by omega))
                    have ebh8 : xN h8 k 22 = b + 1 := by rw [((Fr.vc qh8) k (by omega)).2.2]; exact ebF
                    have hlh8 : b + 32 ≤ (xK h8).length := by rw [show xK h8 = xK hF from kkh8]; exact hlF
                    have kh8 : xK h8 = AL P κ true := (show xK h8 = xK hF from kkh8).trans kF
                    obtain ⟨sah8, sbh8, sch8⟩ := sh8
                    refine r_aload_n C (dx dX7_says 66 rfl) rfl ?_
                    refine r_getN (k := 7) (j := 22) (T := TX7) (N := 32) C rfl rfl rfl (by decide) f_X7_110 (dx dX7_says 67 rfl) ebh8 (Or.inr (by rw [Nat.add_sub_cancel]; exact Mh8.k7 (by omega) hlh8)) ?_
                    refine r_some C ?_
                    refine r_iload_n C (dx dX7_says 68 rfl) rfl ?_
                    refine r_iconst (v := nI 3) C (dx dX7_says 69 rfl) rfl ?_
                    refine r_icmp_ne (tgt := 130) C (dx dX7_says 70 rfl) (by decide) (fun c9 => ?_) (fun c9 => ?_)
                    ·
                      have c9 : ¬ x = nI 3 := c9
                      refine r_iconst (v := nI 0) C (dx dX7_says 73 rfl) rfl ?_
                      refine r_cvW (as := [vi (nI 0)]) (st := []) C X I_X7_held l_X7_114 (c_X7_held Bh8 false) (by decide) (Nat.le_of_ble_eq_true rfl) (pfx_eq kh8) rfl rfl (Nat.le_of_ble_eq_true rfl) rfl (dx dX7_says 74 rfl) ?_
                      rintro _ ⟨x10, rfl⟩
                      exact F.1 _ _ _ _ .int rfl rfl (dx dX7_says 75 rfl) kh8 ⟨⟨_, rfl⟩, Mh8, loh8, xh8⟩
                    ·
                      have c9 : x = nI 3 := c9
                      refine r_iconst (v := nI 1) C (dx dX7_says 71 rfl) rfl ?_
                      refine r_goto (tgt := 131) C (dx dX7_says 72 rfl) (by decide) ?_
                      refine r_cvW (as := [vi (nI 1)]) (st := []) C X I_X7_held l_X7_114 (c_X7_held Bh8 true) (by decide) (Nat.le_of_ble_eq_true rfl) (pfx_eq kh8) rfl rfl (Nat.le_of_ble_eq_true rfl) rfl (dx dX7_says 74 rfl) ?_
                      rintro _ ⟨x11, rfl⟩
                      exact F.1 _ _ _ _ .int rfl rfl (dx dX7_says 75 rfl) kh8 ⟨⟨_, rfl⟩, Mh8, loh8, xh8⟩
                  ·
                    have c7 : x = 0 := c7
                    exact absurd c7 h0)
            · first
              | (omega; done)
              | (
                  have c5 : 2 = 2 := c5
                  refine r_aload_n C (dx dX7_says 28 rfl) rfl ?_
                  refine g_X7_28 C (dx dX7_says 29 rfl) ?_
                  refine r_iload_n C (dx dX7_says 30 rfl) rfl ?_
                  refine r_iald (j := σ) (x := nI η) C rfl rfl (by decide) rfl (by omega) (dx dX7_says 31 rfl) o2 ?_
                  refine r_iload_n C (dx dX7_says 32 rfl) rfl ?_
                  refine r_csP (as := [vi (nI η), vi x]) (st := []) (v := vi (b2i (undV (nI η) x))) C X I_X7_isUnder l_X7_98 (c_X7_isUnder _ _) (by decide) (Nat.le_of_ble_eq_true rfl) (by first | exact List.prefix_rfl | (rw [al]; exact AL_pre id (fun _ => rfl))) (Nat.le_of_ble_eq_true rfl) rfl (dx dX7_says 33 rfl) ?_
                  refine rb_ne (b := undV (nI η) x) (tgt := 71) C (dx dX7_says 34 rfl) (by decide) (fun c12 => ?_) (fun c12 => ?_)
                  ·
                    have c12 : (undV (nI η) x) = true := c12
                    refine r_aload_n C (dx dX7_says 39 rfl) rfl ?_
                    refine g_X7_7 C (dx dX7_says 40 rfl) ?_
                    refine r_iload_n C (dx dX7_says 41 rfl) rfl ?_
                    refine r_iald (j := σ) (x := nI 2) C rfl rfl (by decide) rfl (by omega) (dx dX7_says 42 rfl) o1 ?_
                    refine r_if_ne (tgt := 87) C (dx dX7_says 43 rfl) (by decide) (fun _ => ?_) (fun c13 => (show False from by revert c13; decide).elim)
                    refine r_iload_n C (dx dX7_says 48 rfl) rfl ?_
                    refine r_if_ne (tgt := 98) C (dx dX7_says 49 rfl) (by decide) (fun c14 => ?_) (fun c14 => ?_)
                    ·
                      have c14 : ¬ x = 0 := c14
                      refine r_aload_n C (dx dX7_says 55 rfl) rfl ?_
                      refine r_cv (as := []) (st := []) C X I_X7_fresh l_X7_102 (e_fresh M x0) (by decide) (Nat.le_of_ble_eq_true rfl) (by rw [M.al]; exact AL_pre id (fun _ => rfl)) (by first | exact List.prefix_rfl | (rw [al]; exact AL_pre id (fun _ => rfl))) rfl rfl (Nat.le_of_ble_eq_true rfl) rfl (dx dX7_says 56 rfl) ?_
                      rintro _ hF ⟨b, rfl, ebF, BF, MF, hb, hlF, loF, xF⟩ kF
                      obtain ⟨r1, r2, r3⟩ := MF.2.1.hold hσ hη hβ eT eY
                      refine r_aload_n C (dx dX7_says 57 rfl) rfl ?_
                      refine g_X7_28 C (dx dX7_says 58 rfl) ?_
                      refine r_iload_n C (dx dX7_says 59 rfl) rfl ?_
                      refine r_iald (j := σ) (x := nI η) C rfl rfl (by decide) rfl (by omega) (dx dX7_says 60 rfl) r2 ?_
                      refine r_aload_n C (dx dX7_says 61 rfl) rfl ?_
                      refine g_X7_31 C (dx dX7_says 62 rfl) ?_
                      refine r_iload_n C (dx dX7_says 63 rfl) rfl ?_
                      refine r_iald (j := σ) (x := nI β) C rfl rfl (by decide) rfl (by omega) (dx dX7_says 64 rfl) r3 ?_
                      refine r_cv (as := [vi (nI η), vi (nI β)]) (st := []) C X I_X7_holdAll l_X7_106 (c_X7_holdAll BF (κ := η) (b := β) (by omega) (by omega)) (by decide) (Nat.le_of_ble_eq_true rfl) List.prefix_rfl (pfx_eq kF) rfl rfl (Nat.le_of_ble_eq_true rfl) rfl (dx dX7_says 65 rfl) ?_
                      rintro _ h15 ⟨rfl, ⟨wh15, Bh15, sh15⟩, qh15⟩ kkh15
                      have xh15 : XT h15 k κ ω Bt := xF.tk MF hb ebF qh15
                      have Mh15 := MF.tk (b := b) hb hlF Bh15 qh15 (show xK h15 = xK hF from kkh15)
                      have loh15 : Lo k h h15 := loF.tr (Lo.fr (Fr.vc qh15) (by omega))
                      have ebh15 : xN h15 k 22 = b + 1 := by rw [((Fr.vc qh15) k (by omega)).2.2]; exact ebF
                      have hlh15 : b + 32 ≤ (xK h15).length := by rw [show xK h15 = xK hF from kkh15]; exact hlF
                      have kh15 : xK h15 = AL P κ true := (show xK h15 = xK hF from kkh15).trans kF
                      obtain ⟨sah15, sbh15, sch15⟩ := sh15
                      refine r_aload_n C (dx dX7_says 66 rfl) rfl ?_
                      refine r_getN (k := 7) (j := 22) (T := TX7) (N := 32) C rfl rfl rfl (by decide) f_X7_110 (dx dX7_says 67 rfl) ebh15 (Or.inr (by rw [Nat.add_sub_cancel]; exact Mh15.k7 (by omega) hlh15)) ?_
                      refine r_some C ?_
                      refine r_iload_n C (dx dX7_says 68 rfl) rfl ?_
                      refine r_iconst (v := nI 3) C (dx dX7_says 69 rfl) rfl ?_
                      refine r_icmp_ne (tgt := 130) C (dx dX7_says 70 rfl) (by decide) (fun c16 => ?_) (fun c16 => ?_)
                      ·
                        have c16 : ¬ x = nI 3 := c16
                        refine r_iconst (v := nI 0) C (dx dX7_says 73 rfl) rfl ?_
                        refine r_cvW (as := [vi (nI 0)]) (st := []) C X I_X7_held l_X7_114 (c_X7_held Bh15 false) (by decide) (Nat.le_of_ble_eq_true rfl) (pfx_eq kh15) rfl rfl (Nat.le_of_ble_eq_true rfl) rfl (dx dX7_says 74 rfl) ?_
                        rintro _ ⟨x17, rfl⟩
                        exact F.1 _ _ _ _ .int rfl rfl (dx dX7_says 75 rfl) kh15 ⟨⟨_, rfl⟩, Mh15, loh15, xh15⟩
                      ·
                        have c16 : x = nI 3 := c16
                        refine r_iconst (v := nI 1) C (dx dX7_says 71 rfl) rfl ?_
                        refine r_goto (tgt := 131) C (dx dX7_says 72 rfl) (by decide) ?_
                        refine r_cvW (as := [vi (nI 1)]) (st := []) C X I_X7_held l_X7_114 (c_X7_held Bh15 true) (by decide) (Nat.le_of_ble_eq_true rfl) (pfx_eq kh15) rfl rfl (Nat.le_of_ble_eq_true rfl) rfl (dx dX7_says 74 rfl) ?_
                        rintro _ ⟨x18, rfl⟩
                        exact F.1 _ _ _ _ .int rfl rfl (dx dX7_says 75 rfl) kh15 ⟨⟨_, rfl⟩, Mh15, loh15, xh15⟩
                    ·
                      have c14 : x = 0 := c14
                      exact absurd c14 h0
                  ·
                    have c12 : (undV (nI η) x) = false := c12
                    exact absurd (hu.symm.trans c12) (by decide)))
    ·
      have c2 : (inR x 6) = false := c2
      exact absurd (hq.symm.trans c2) (by decide)
set_option maxHeartbeats 4000000 in
theorem x_X7_would_y {l : Launch} {h : Hp} {P : List Nat} {k z : Nat} {v : Vg} {g : Sg} {κ τ : Bool} {ω : Vg} {Bt : Nat → Int32} (M : Md h P k v g z κ τ) (x0 : XT h k κ ω Bt) {σ η β : Nat} (hσ : σ < 8) (hη : 1 ≤ η ∧ η ≤ 5) (hβ : β < 100) (eT : gT g σ = nI (10 + η)) (eY : gY g σ = nI β) : Ms l yX7_would cX7_would 3 (some .long) 11 [vr 7 k, vi (nI σ)] h (AL P κ true) (fun r h' => PL r ∧ Md h' P k v g z κ true ∧ Lo k h h' ∧ XT h' k κ ω Bt) := by
  refine Ms.of (by decide) (Nat.le_of_ble_eq_true rfl) (fun G C X F => ?_)
  have C : Cx G cX7_would 3 RX7 := C
  show Rr G 0 [(0, vr 7 k), (1, vi (nI σ))] [] h
  have hm := M.1
  have hs := M.2.1
  have al := M.al
  have hk7 := M.hk
  have bP := hm.bP
  have bM := hm.bM
  have bN := hm.bN
  have hq := nh_hold hσ (by omega) eT eY
  refine r_aload_n C (dx dX7_would 0 rfl) rfl ?_
  refine r_iload_n C (dx dX7_would 1 rfl) rfl ?_
  refine r_cv (as := [vi (nI σ)]) (st := []) C X I_X7_noHolding l_X7_292 (v_X7_noHolding M.1 M.2.1 (nI σ)) (by decide) (Nat.le_of_ble_eq_true rfl) List.prefix_rfl (by first | exact List.prefix_rfl | (rw [al]; exact AL_pre id (fun _ => rfl))) rfl rfl (Nat.le_of_ble_eq_true rfl) rfl (dx dX7_would 2 rfl) ?_
  rintro _ h1 ⟨rfl, mh1, qh1⟩ kkh1
  have Mh1 := M.kp mh1 qh1 kkh1
  have xh1 := x0.kp M qh1
  have loh1 : Lo k h h1 := Lo.tr (Lo.rf (a := k) (h := h)) (Lo.fr (Fr.vc qh1) (Nat.le_refl _))
  refine r_istore_n (ls' := [(0, vr 7 k), (1, vi (nI σ)), (2, vi (nhA g (nI σ)))]) C (dx dX7_would 3 rfl) (by decide) [1, 2, 0] rfl ?_
  refine r_iload_n C (dx dX7_would 4 rfl) rfl ?_
  refine r_if_eq (tgt := 15) C (dx dX7_would 5 rfl) (by decide) (fun c2 => ?_) (fun c2 => ?_)
  ·
    have c2 : nhA g (nI σ) = 0 := c2
    refine r_aload_n C (dx dX7_would 9 rfl) rfl ?_
    refine r_iload_n C (dx dX7_would 10 rfl) rfl ?_
    refine r_cv (as := [vi (nI σ)]) (st := []) C X I_X7_wouldBy l_X7_299 (x_X7_wouldBy_y Mh1 xh1 hσ hη hβ eT eY) (by decide) (Nat.le_of_ble_eq_true rfl) (by rw [Mh1.al]; exact AL_pre id (fun _ => rfl)) (by first | exact List.prefix_rfl | (rw [al]; exact AL_pre id (fun _ => rfl))) rfl rfl (Nat.le_of_ble_eq_true rfl) rfl (dx dX7_would 11 rfl) ?_
    rintro _ hF ⟨⟨yF, rfl⟩, MF, loF9, xF⟩ kF
    have loF := loh1.tr loF9
    exact F.2.1 _ _ _ _ rfl (dx dX7_would 12 rfl) kF ⟨⟨_, rfl⟩, MF, loF, xF⟩
  ·
    have c2 : ¬ nhA g (nI σ) = 0 := c2
    exact absurd hq c2
set_option maxHeartbeats 4000000 in
theorem x_X7_trust_y {l : Launch} {h : Hp} {P : List Nat} {k z : Nat} {v : Vg} {g : Sg} {κ τ : Bool} {ω : Vg} {Bt : Nat → Int32} (M : Md h P k v g z κ τ) (x0 : XT h k κ ω Bt) {o1 o2 : Int32} (q1 : inR o1 (vN v) = true) (q2 : inR o2 (vN v) = true) (q3 : ¬ o1 = o2) : Ms l yX7_trust cX7_trust 5 (some .long) 5 [vr 7 k, vi o1, vi o2] h (AL P κ true) (fun r h' => PL r ∧ Md h' P k v g z κ true ∧ Lo k h h' ∧ XT h' k κ ω Bt) := by
  refine Ms.of (by decide) (Nat.le_of_ble_eq_true rfl) (fun G C X F => ?_)
  have C : Cx G cX7_trust 5 RX7 := C
  show Rr G 0 [(0, vr 7 k), (1, vi o1), (2, vi o2)] [] h
  have hm := M.1
  have hs := M.2.1
  have al := M.al
  have hk7 := M.hk
  have bP := hm.bP
  have bM := hm.bM
  have bN := hm.bN
  refine r_aload_n C (dx dX7_trust 0 rfl) rfl ?_
  refine r_iload_n C (dx dX7_trust 1 rfl) rfl ?_
  refine r_cvP (as := [vi o1]) (st := []) (v := vi (b2i (inR o1 (vN v)))) C X I_X7_isOne l_X7_125 (c_X7_isOne hm _) (by decide) (Nat.le_of_ble_eq_true rfl) (by first | exact List.prefix_rfl | (rw [al]; exact AL_pre id (fun _ => rfl))) rfl rfl (Nat.le_of_ble_eq_true rfl) rfl (dx dX7_trust 2 rfl) ?_
  refine rb_eq (b := inR o1 (vN v)) (tgt := 21) C (dx dX7_trust 3 rfl) (by decide) (fun c1 => ?_) (fun c1 => ?_)
  ·
    have c1 : (inR o1 (vN v)) = false := c1
    exact absurd (q1.symm.trans c1) (by decide)
  ·
    have c1 : (inR o1 (vN v)) = true := c1
    refine r_aload_n C (dx dX7_trust 4 rfl) rfl ?_
    refine r_iload_n C (dx dX7_trust 5 rfl) rfl ?_
    refine r_cvP (as := [vi o2]) (st := []) (v := vi (b2i (inR o2 (vN v)))) C X I_X7_isOne l_X7_125 (c_X7_isOne hm _) (by decide) (Nat.le_of_ble_eq_true rfl) (by first | exact List.prefix_rfl | (rw [al]; exact AL_pre id (fun _ => rfl))) rfl rfl (Nat.le_of_ble_eq_true rfl) rfl (dx dX7_trust 6 rfl) ?_
    refine rb_eq (b := inR o2 (vN v)) (tgt := 21) C (dx dX7_trust 7 rfl) (by decide) (fun c2 => ?_) (fun c2 => ?_)
    ·
      have c2 : (inR o2 (vN v)) = false := c2
      exact absurd (q2.symm.trans c2) (by decide)
    ·
      have c2 : (inR o2 (vN v)) = true := c2
      refine r_iload_n C (dx dX7_trust 8 rfl) rfl ?_
      refine r_iload_n C (dx dX7_trust 9 rfl) rfl ?_
      refine r_icmp_ne (tgt := 33) C (dx dX7_trust 10 rfl) (by decide) (fun c3 => ?_) (fun c3 => ?_)
      ·
        have c3 : ¬ o1 = o2 := c3
        refine r_aload_n C (dx dX7_trust 18 rfl) rfl ?_
        refine r_cv (as := []) (st := []) C X I_X7_fresh l_X7_102 (e_fresh M x0) (by decide) (Nat.le_of_ble_eq_true rfl) (by rw [M.al]; exact AL_pre id (fun _ => rfl)) (by first | exact List.prefix_rfl | (rw [al]; exact AL_pre id (fun _ => rfl))) rfl rfl (Nat.le_of_ble_eq_true rfl) rfl (dx dX7_trust 19 rfl) ?_
        rintro _ hF ⟨b, rfl, ebF, BF, MF, hb, hlF, loF, xF⟩ kF
        refine r_astore_n (ls' := [(0, vr 7 k), (1, vi o1), (2, vi o2), (3, vr 7 b)]) C (dx dX7_trust 20 rfl) (by decide) [1, 2, 3, 0] rfl ?_
        refine r_iconst (v := nI 0) C (dx dX7_trust 21 rfl) rfl ?_
        refine r_istore (ls' := [(0, vr 7 k), (1, vi o1), (2, vi o2), (3, vr 7 b), (4, vi (nI 0))]) C (dx dX7_trust 22 rfl) (by decide) [1, 2, 3, 4, 0] rfl ?_
        refine loopU (Φ := fun p => ∀ h9 w9, Md h9 P k v g z κ true → MilAt h9 b w9 → Sz v w9 → Lo k h h9 → XT h9 k κ ω Bt → xN h9 k 22 = b + 1 → xK h9 = AL P κ true → Rr G 41 [(0, vr 7 k), (1, vi o1), (2, vi o2), (3, vr 7 b), (4, vi (nI p))] [] h9) (N := vP v) ?_ ?_ 0 (Nat.zero_le _) _ _ MF BF ⟨rfl, rfl, rfl⟩ loF xF ebF kF
        ·
          intro h9 w9 M9 B9 s9 lo9 x9 eb9 k9
          obtain ⟨sa9, sb9, sc9⟩ := s9
          have hl9 : b + 32 ≤ (xK h9).length := by rw [k9, ← kF]; exact hlF
          refine r_iload C (dx dX7_trust 23 rfl) rfl ?_
          refine r_aload_n C (dx dX7_trust 24 rfl) rfl ?_
          refine g_X7_64 (x := nI (vP v)) C (dx dX7_trust 25 rfl) M9.1.eP ?_
          refine rn_ge (a := vP v) (b := vP v) (tgt := 114) C (by omega) (by omega) (dx dX7_trust 26 rfl) (by decide) (fun c4 => ?_) (fun c4 => ?_)
          · first
            | (omega; done)
            | (
                have c4 : vP v ≤ vP v := c4
                refine r_aload_n C (dx dX7_trust 61 rfl) rfl ?_
                refine r_cvW (as := []) (st := []) C X I_X7_day l_X7_295 (c_X7_day B9) (by decide) (Nat.le_of_ble_eq_true rfl) (pfx_eq k9) rfl rfl (Nat.le_of_ble_eq_true rfl) rfl (dx dX7_trust 62 rfl) ?_
                rintro _ ⟨x5, rfl⟩
                refine r_aload_n C (dx dX7_trust 63 rfl) rfl ?_
                refine r_cvW (as := []) (st := [vl x5]) C X I_X7_day l_X7_295 (c_X7_day M9.1) (by decide) (Nat.le_of_ble_eq_true rfl) (pfx_eq k9) rfl rfl (Nat.le_of_ble_eq_true rfl) rfl (dx dX7_trust 64 rfl) ?_
                rintro _ ⟨x6, rfl⟩
                refine r_lsub C (dx dX7_trust 65 rfl) ?_
                exact F.2.1 _ _ _ _ rfl (dx dX7_trust 66 rfl) k9 ⟨⟨_, rfl⟩, M9, lo9, x9⟩)
          · first
            | (omega; done)
        ·
          intro p hp ih h9 w9 M9 B9 s9 lo9 x9 eb9 k9
          obtain ⟨sa9, sb9, sc9⟩ := s9
          have hl9 : b + 32 ≤ (xK h9).length := by rw [k9, ← kF]; exact hlF
          refine r_iload C (dx dX7_trust 23 rfl) rfl ?_
          refine r_aload_n C (dx dX7_trust 24 rfl) rfl ?_
          refine g_X7_64 (x := nI (vP v)) C (dx dX7_trust 25 rfl) M9.1.eP ?_
          refine rn_ge (a := p) (b := vP v) (tgt := 114) C (by omega) (by omega) (dx dX7_trust 26 rfl) (by decide) (fun c11 => ?_) (fun c11 => ?_)
          · first
            | (omega; done)
            | (
                have c11 : vP v ≤ p := c11
                refine r_aload_n C (dx dX7_trust 61 rfl) rfl ?_
                refine r_cvW (as := []) (st := []) C X I_X7_day l_X7_295 (c_X7_day B9) (by decide) (Nat.le_of_ble_eq_true rfl) (pfx_eq k9) rfl rfl (Nat.le_of_ble_eq_true rfl) rfl (dx dX7_trust 62 rfl) ?_
                rintro _ ⟨x12, rfl⟩
                refine r_aload_n C (dx dX7_trust 63 rfl) rfl ?_
                refine r_cvW (as := []) (st := [vl x12]) C X I_X7_day l_X7_295 (c_X7_day M9.1) (by decide) (Nat.le_of_ble_eq_true rfl) (pfx_eq k9) rfl rfl (Nat.le_of_ble_eq_true rfl) rfl (dx dX7_trust 64 rfl) ?_
                rintro _ ⟨x13, rfl⟩
                refine r_lsub C (dx dX7_trust 65 rfl) ?_
                exact F.2.1 _ _ _ _ rfl (dx dX7_trust 66 rfl) k9 ⟨⟨_, rfl⟩, M9, lo9, x9⟩)
          · first
            | (omega; done)
            | (
                have c11 : p < vP v := c11
                refine r_aload_n C (dx dX7_trust 27 rfl) rfl ?_
                refine g_X7_40 C (dx dX7_trust 28 rfl) ?_
                refine r_iload C (dx dX7_trust 29 rfl) rfl ?_
                refine r_aload_n C (dx dX7_trust 30 rfl) rfl ?_
                refine g_X7_40 C (dx dX7_trust 31 rfl) ?_
                refine r_iload C (dx dX7_trust 32 rfl) rfl ?_
                refine r_iald (j := p) (x := vF v 0 p) C rfl rfl (by decide) rfl (by omega) (dx dX7_trust 33 rfl) (M9.1.e0 (by omega)) ?_
                refine r_iload_n C (dx dX7_trust 34 rfl) rfl ?_
                refine r_icmp_ne (tgt := 71) C (dx dX7_trust 35 rfl) (by decide) (fun c14 => ?_) (fun c14 => ?_)
                ·
                  have c14 : ¬ vF v 0 p = o1 := c14
                  refine r_aload_n C (dx dX7_trust 38 rfl) rfl ?_
                  refine g_X7_40 C (dx dX7_trust 39 rfl) ?_
                  refine r_iload C (dx dX7_trust 40 rfl) rfl ?_
                  refine r_iald (j := p) (x := vF v 0 p) C rfl rfl (by decide) rfl (by omega) (dx dX7_trust 41 rfl) (M9.1.e0 (by omega)) ?_
                  refine r_iast (j := p) C rfl rfl (by decide) rfl (by omega) (dx dX7_trust 42 rfl) ?_
                  obtain ⟨wh15, Bh15, sh15⟩ : ∃ w99, MilAt (sI h9 (b + 18) p (vF v 0 p)) b w99 ∧ Sz w9 w99 := ⟨vset w9 0 p (vF v 0 p), B9.s0, ⟨rfl, rfl, rfl⟩⟩
                  have qh15 : Kp b h9 (sI h9 (b + 18) p (vF v 0 p)) := Kp.c (by omega) (by omega)
                  have xh15 : XT (sI h9 (b + 18) p (vF v 0 p)) k κ ω Bt := x9.tk M9 hb eb9 qh15
                  have Mh15 := M9.tk (b := b) hb hl9 Bh15 qh15 (show xK (sI h9 (b + 18) p (vF v 0 p)) = xK h9 from rfl)
                  have loh15 : Lo k h (sI h9 (b + 18) p (vF v 0 p)) := lo9.tr (Lo.fr (Fr.vc qh15) (by omega))
                  have ebh15 : xN (sI h9 (b + 18) p (vF v 0 p)) k 22 = b + 1 := by rw [((Fr.vc qh15) k (by omega)).2.2]; exact eb9
                  have hlh15 : b + 32 ≤ (xK (sI h9 (b + 18) p (vF v 0 p))).length := by rw [show xK (sI h9 (b + 18) p (vF v 0 p)) = xK h9 from rfl]; exact hl9
                  have kh15 : xK (sI h9 (b + 18) p (vF v 0 p)) = AL P κ true := (show xK (sI h9 (b + 18) p (vF v 0 p)) = xK h9 from rfl).trans k9
                  generalize sI h9 (b + 18) p (vF v 0 p) = h15 at Bh15 qh15 Mh15 loh15 ebh15 hlh15 kh15 xh15 ⊢
                  obtain ⟨sah15, sbh15, sch15⟩ := sh15
                  refine r_aload_n C (dx dX7_trust 43 rfl) rfl ?_
                  refine g_X7_43 C (dx dX7_trust 44 rfl) ?_
                  refine r_iload C (dx dX7_trust 45 rfl) rfl ?_
                  refine r_aload_n C (dx dX7_trust 46 rfl) rfl ?_
                  refine g_X7_43 C (dx dX7_trust 47 rfl) ?_
                  refine r_iload C (dx dX7_trust 48 rfl) rfl ?_
                  refine r_iald (j := p) (x := vF v 1 p) C rfl rfl (by decide) rfl (by omega) (dx dX7_trust 49 rfl) (Mh15.1.e1 (by omega)) ?_
                  refine r_iload_n C (dx dX7_trust 50 rfl) rfl ?_
                  refine r_icmp_ne (tgt := 100) C (dx dX7_trust 51 rfl) (by decide) (fun c16 => ?_) (fun c16 => ?_)
                  ·
                    have c16 : ¬ vF v 1 p = o1 := c16
                    refine r_aload_n C (dx dX7_trust 54 rfl) rfl ?_
                    refine g_X7_43 C (dx dX7_trust 55 rfl) ?_
                    refine r_iload C (dx dX7_trust 56 rfl) rfl ?_
                    refine r_iald (j := p) (x := vF v 1 p) C rfl rfl (by decide) rfl (by omega) (dx dX7_trust 57 rfl) (Mh15.1.e1 (by omega)) ?_
                    refine r_iast (j := p) C rfl rfl (by decide) rfl (by omega) (dx dX7_trust 58 rfl) ?_
                    obtain ⟨wh17, Bh17, sh17⟩ : ∃ w99, MilAt (sI h15 (b + 19) p (vF v 1 p)) b w99 ∧ Sz wh15 w99 := ⟨vset wh15 1 p (vF v 1 p), Bh15.s1, ⟨rfl, rfl, rfl⟩⟩
                    have qh17 : Kp b h15 (sI h15 (b + 19) p (vF v 1 p)) := Kp.c (by omega) (by omega)
                    have xh17 : XT (sI h15 (b + 19) p (vF v 1 p)) k κ ω Bt := xh15.tk Mh15 hb ebh15 qh17
                    have Mh17 := Mh15.tk (b := b) hb hlh15 Bh17 qh17 (show xK (sI h15 (b + 19) p (vF v 1 p)) = xK h15 from rfl)
                    have loh17 : Lo k h (sI h15 (b + 19) p (vF v 1 p)) := loh15.tr (Lo.fr (Fr.vc qh17) (by omega))
                    have ebh17 : xN (sI h15 (b + 19) p (vF v 1 p)) k 22 = b + 1 := by rw [((Fr.vc qh17) k (by omega)).2.2]; exact ebh15
                    have hlh17 : b + 32 ≤ (xK (sI h15 (b + 19) p (vF v 1 p))).length := by rw [show xK (sI h15 (b + 19) p (vF v 1 p)) = xK h15 from rfl]; exact hlh15
                    have kh17 : xK (sI h15 (b + 19) p (vF v 1 p)) = AL P κ true := (show xK (sI h15 (b + 19) p (vF v 1 p)) = xK h15 from rfl).trans kh15
                    generalize sI h15 (b + 19) p (vF v 1 p) = h17 at Bh17 qh17 Mh17 loh17 ebh17 hlh17 kh17 xh17 ⊢
                    obtain ⟨sah17, sbh17, sch17⟩ := sh17
                    refine rn_iinc (a := p) (k := 1) (ls' := [(0, vr 7 k), (1, vi o1), (2, vi o2), (3, vr 7 b), (4, vi (nI (p + 1)))]) C (dx dX7_trust 59 rfl) rfl rfl (by decide) [1, 2, 3, 4, 0] rfl ?_
                    refine r_goto (tgt := 41) C (dx dX7_trust 60 rfl) (by decide) ?_
                    exact ih _ _ Mh17 Bh17 ⟨by omega, by omega, by omega⟩ loh17 xh17 ebh17 kh17
                  ·
                    have c16 : vF v 1 p = o1 := c16
                    refine r_iload_n C (dx dX7_trust 52 rfl) rfl ?_
                    refine r_goto (tgt := 107) C (dx dX7_trust 53 rfl) (by decide) ?_
                    refine r_iast (j := p) C rfl rfl (by decide) rfl (by omega) (dx dX7_trust 58 rfl) ?_
                    obtain ⟨wh18, Bh18, sh18⟩ : ∃ w99, MilAt (sI h15 (b + 19) p o2) b w99 ∧ Sz wh15 w99 := ⟨vset wh15 1 p o2, Bh15.s1, ⟨rfl, rfl, rfl⟩⟩
                    have qh18 : Kp b h15 (sI h15 (b + 19) p o2) := Kp.c (by omega) (by omega)
                    have xh18 : XT (sI h15 (b + 19) p o2) k κ ω Bt := xh15.tk Mh15 hb ebh15 qh18
                    have Mh18 := Mh15.tk (b := b) hb hlh15 Bh18 qh18 (show xK (sI h15 (b + 19) p o2) = xK h15 from rfl)
                    have loh18 : Lo k h (sI h15 (b + 19) p o2) := loh15.tr (Lo.fr (Fr.vc qh18) (by omega))
                    have ebh18 : xN (sI h15 (b + 19) p o2) k 22 = b + 1 := by rw [((Fr.vc qh18) k (by omega)).2.2]; exact ebh15
                    have hlh18 : b + 32 ≤ (xK (sI h15 (b + 19) p o2)).length := by rw [show xK (sI h15 (b + 19) p o2) = xK h15 from rfl]; exact hlh15
                    have kh18 : xK (sI h15 (b + 19) p o2) = AL P κ true := (show xK (sI h15 (b + 19) p o2) = xK h15 from rfl).trans kh15
                    generalize sI h15 (b + 19) p o2 = h18 at Bh18 qh18 Mh18 loh18 ebh18 hlh18 kh18 xh18 ⊢
                    obtain ⟨sah18, sbh18, sch18⟩ := sh18
                    refine rn_iinc (a := p) (k := 1) (ls' := [(0, vr 7 k), (1, vi o1), (2, vi o2), (3, vr 7 b), (4, vi (nI (p + 1)))]) C (dx dX7_trust 59 rfl) rfl rfl (by decide) [1, 2, 3, 4, 0] rfl ?_
                    refine r_goto (tgt := 41) C (dx dX7_trust 60 rfl) (by decide) ?_
                    exact ih _ _ Mh18 Bh18 ⟨by omega, by omega, by omega⟩ loh18 xh18 ebh18 kh18
                ·
                  have c14 : vF v 0 p = o1 := c14
                  refine r_iload_n C (dx dX7_trust 36 rfl) rfl ?_
                  refine r_goto (tgt := 78) C (dx dX7_trust 37 rfl) (by decide) ?_
                  refine r_iast (j := p) C rfl rfl (by decide) rfl (by omega) (dx dX7_trust 42 rfl) ?_
                  obtain ⟨wh19, Bh19, sh19⟩ : ∃ w99, MilAt (sI h9 (b + 18) p o2) b w99 ∧ Sz w9 w99 := ⟨vset w9 0 p o2, B9.s0, ⟨rfl, rfl, rfl⟩⟩
                  have qh19 : Kp b h9 (sI h9 (b + 18) p o2) := Kp.c (by omega) (by omega)
                  have xh19 : XT (sI h9 (b + 18) p o2) k κ ω Bt := x9.tk M9 hb eb9 qh19
                  have Mh19 := M9.tk (b := b) hb hl9 Bh19 qh19 (show xK (sI h9 (b + 18) p o2) = xK h9 from rfl)
                  have loh19 : Lo k h (sI h9 (b + 18) p o2) := lo9.tr (Lo.fr (Fr.vc qh19) (by omega))
                  have ebh19 : xN (sI h9 (b + 18) p o2) k 22 = b + 1 := by rw [((Fr.vc qh19) k (by omega)).2.2]; exact eb9
                  have hlh19 : b + 32 ≤ (xK (sI h9 (b + 18) p o2)).length := by rw [show xK (sI h9 (b + 18) p o2) = xK h9 from rfl]; exact hl9
                  have kh19 : xK (sI h9 (b + 18) p o2) = AL P κ true := (show xK (sI h9 (b + 18) p o2) = xK h9 from rfl).trans k9
                  generalize sI h9 (b + 18) p o2 = h19 at Bh19 qh19 Mh19 loh19 ebh19 hlh19 kh19 xh19 ⊢
                  obtain ⟨sah19, sbh19, sch19⟩ := sh19
                  refine r_aload_n C (dx dX7_trust 43 rfl) rfl ?_
                  refine g_X7_43 C (dx dX7_trust 44 rfl) ?_
                  refine r_iload C (dx dX7_trust 45 rfl) rfl ?_
                  refine r_aload_n C (dx dX7_trust 46 rfl) rfl ?_
                  refine g_X7_43 C (dx dX7_trust 47 rfl) ?_
                  refine r_iload C (dx dX7_trust 48 rfl) rfl ?_
                  refine r_iald (j := p) (x := vF v 1 p) C rfl rfl (by decide) rfl (by omega) (dx dX7_trust 49 rfl) (Mh19.1.e1 (by omega)) ?_
                  refine r_iload_n C (dx dX7_trust 50 rfl) rfl ?_
                  refine r_icmp_ne (tgt := 100) C (dx dX7_trust 51 rfl) (by decide) (fun c20 => ?_) (fun c20 => ?_)
                  ·
                    have c20 : ¬ vF v 1 p = o1 := c20
                    refine r_aload_n C (dx dX7_trust 54 rfl) rfl ?_
                    refine g_X7_43 C (dx dX7_trust 55 rfl) ?_
                    refine r_iload C (dx dX7_trust 56 rfl) rfl ?_
                    refine r_iald (j := p) (x := vF v 1 p) C rfl rfl (by decide) rfl (by omega) (dx dX7_trust 57 rfl) (Mh19.1.e1 (by omega)) ?_
                    refine r_iast (j := p) C rfl rfl (by decide) rfl (by omega) (dx dX7_trust 58 rfl) ?_
                    obtain ⟨wh21, Bh21, sh21⟩ : ∃ w99, MilAt (sI h19 (b + 19) p (vF v 1 p)) b w99 ∧ Sz wh19 w99 := ⟨vset wh19 1 p (vF v 1 p), Bh19.s1, ⟨rfl, rfl, rfl⟩⟩
                    have qh21 : Kp b h19 (sI h19 (b + 19) p (vF v 1 p)) := Kp.c (by omega) (by omega)
                    have xh21 : XT (sI h19 (b + 19) p (vF v 1 p)) k κ ω Bt := xh19.tk Mh19 hb ebh19 qh21
                    have Mh21 := Mh19.tk (b := b) hb hlh19 Bh21 qh21 (show xK (sI h19 (b + 19) p (vF v 1 p)) = xK h19 from rfl)
                    have loh21 : Lo k h (sI h19 (b + 19) p (vF v 1 p)) := loh19.tr (Lo.fr (Fr.vc qh21) (by omega))
                    have ebh21 : xN (sI h19 (b + 19) p (vF v 1 p)) k 22 = b + 1 := by rw [((Fr.vc qh21) k (by omega)).2.2]; exact ebh19
                    have hlh21 : b + 32 ≤ (xK (sI h19 (b + 19) p (vF v 1 p))).length := by rw [show xK (sI h19 (b + 19) p (vF v 1 p)) = xK h19 from rfl]; exact hlh19
                    have kh21 : xK (sI h19 (b + 19) p (vF v 1 p)) = AL P κ true := (show xK (sI h19 (b + 19) p (vF v 1 p)) = xK h19 from rfl).trans kh19
                    generalize sI h19 (b + 19) p (vF v 1 p) = h21 at Bh21 qh21 Mh21 loh21 ebh21 hlh21 kh21 xh21 ⊢
                    obtain ⟨sah21, sbh21, sch21⟩ := sh21
                    refine rn_iinc (a := p) (k := 1) (ls' := [(0, vr 7 k), (1, vi o1), (2, vi o2), (3, vr 7 b), (4, vi (nI (p + 1)))]) C (dx dX7_trust 59 rfl) rfl rfl (by decide) [1, 2, 3, 4, 0] rfl ?_
                    refine r_goto (tgt := 41) C (dx dX7_trust 60 rfl) (by decide) ?_
                    exact ih _ _ Mh21 Bh21 ⟨by omega, by omega, by omega⟩ loh21 xh21 ebh21 kh21
                  ·
                    have c20 : vF v 1 p = o1 := c20
                    refine r_iload_n C (dx dX7_trust 52 rfl) rfl ?_
                    refine r_goto (tgt := 107) C (dx dX7_trust 53 rfl) (by decide) ?_
                    refine r_iast (j := p) C rfl rfl (by decide) rfl (by omega) (dx dX7_trust 58 rfl) ?_
                    obtain ⟨wh22, Bh22, sh22⟩ : ∃ w99, MilAt (sI h19 (b + 19) p o2) b w99 ∧ Sz wh19 w99 := ⟨vset wh19 1 p o2, Bh19.s1, ⟨rfl, rfl, rfl⟩⟩
                    have qh22 : Kp b h19 (sI h19 (b + 19) p o2) := Kp.c (by omega) (by omega)
                    have xh22 : XT (sI h19 (b + 19) p o2) k κ ω Bt := xh19.tk Mh19 hb ebh19 qh22
                    have Mh22 := Mh19.tk (b := b) hb hlh19 Bh22 qh22 (show xK (sI h19 (b + 19) p o2) = xK h19 from rfl)
                    have loh22 : Lo k h (sI h19 (b + 19) p o2) := loh19.tr (Lo.fr (Fr.vc qh22) (by omega))
                    have ebh22 : xN (sI h19 (b + 19) p o2) k 22 = b + 1 := by rw [((Fr.vc qh22) k (by omega)).2.2]; exact ebh19
                    have hlh22 : b + 32 ≤ (xK (sI h19 (b + 19) p o2)).length := by rw [show xK (sI h19 (b + 19) p o2) = xK h19 from rfl]; exact hlh19
                    have kh22 : xK (sI h19 (b + 19) p o2) = AL P κ true := (show xK (sI h19 (b + 19) p o2) = xK h19 from rfl).trans kh19
                    generalize sI h19 (b + 19) p o2 = h22 at Bh22 qh22 Mh22 loh22 ebh22 hlh22 kh22 xh22 ⊢
                    obtain ⟨sah22, sbh22, sch22⟩ := sh22
                    refine rn_iinc (a := p) (k := 1) (ls' := [(0, vr 7 k), (1, vi o1), (2, vi o2), (3, vr 7 b), (4, vi (nI (p + 1)))]) C (dx dX7_trust 59 rfl) rfl rfl (by decide) [1, 2, 3, 4, 0] rfl ?_
                    refine r_goto (tgt := 41) C (dx dX7_trust 60 rfl) (by decide) ?_
                    exact ih _ _ Mh22 Bh22 ⟨by omega, by omega, by omega⟩ loh22 xh22 ebh22 kh22)
      ·
        have c3 : o1 = o2 := c3
        exact absurd c3 q3
set_option maxHeartbeats 4000000 in
theorem x_try0 {l : Launch} {h : Hp} {P : List Nat} {k z b j : Nat} {v w : Vg} {g : Sg} {κ : Bool} {ω : Vg} {Bt : Nat → Int32} (M : Md h P k v g z κ true) (x0 : XT h k κ ω Bt) (B : MilAt h b w) (hb : b = k + 32 ∨ b = k + 64) (hl : b + 32 ≤ (xK h).length) (eb : xN h k 22 = b + 1) (s0 : Sz v w) (h4 : vN v ≤ 4) (h6 : vP v ≤ 6) (e : vP v = j) : Ms l yX7_tryFrom cX7_tryFrom 6 none (8 + 0) [vr 7 k, vr 7 b, vi (nI j)] h (xK h) (fun r h' => r = none ∧ (∃ w', Md h' P k v g z κ true ∧ MilAt h' b w' ∧ Sz v w') ∧ xN h' k 22 = b + 1 ∧ Lo k h h' ∧ XT h' k κ ω Bt) := by
  refine Ms.of (by decide) (Nat.le_of_ble_eq_true rfl) (fun G C X F => ?_)
  have C : Cx G cX7_tryFrom 6 RX7 := C
  show Rr G 0 [(0, vr 7 k), (1, vr 7 b), (2, vi (nI j))] [] h
  have hm := M.1
  have hk7 := M.hk
  have bP := hm.bP
  have bM := hm.bM
  have bN := hm.bN
  obtain ⟨sa0, sb0, sc0⟩ := s0
  refine r_iload_n C (dx dX7_tryFrom 0 rfl) rfl ?_
  refine r_aload_n C (dx dX7_tryFrom 1 rfl) rfl ?_
  refine g_X7_64 (x := nI (vP v)) C (dx dX7_tryFrom 2 rfl) hm.eP ?_
  refine rn_ne (a := j) (b := vP v) (tgt := 60) C (by omega) (by omega) (dx dX7_tryFrom 3 rfl) (by decide) (fun c1 => ?_) (fun c1 => ?_)
  · first
    | (omega; done)
  · first
    | (omega; done)
    | (
        have c1 : j = vP v := c1
        refine r_aload_n C (dx dX7_tryFrom 4 rfl) rfl ?_
        refine r_cvW (as := []) (st := []) C X I_X7_day l_X7_295 (c_X7_day B) (by omega) (Nat.le_of_ble_eq_true rfl) (pfx_eq rfl) rfl rfl (Nat.le_of_ble_eq_true rfl) rfl (dx dX7_tryFrom 5 rfl) ?_
        rintro _ ⟨x2, rfl⟩
        refine r_lstore_n (ls' := [(0, vr 7 k), (1, vr 7 b), (2, vi (nI j)), (3, vl x2)]) C (dx dX7_tryFrom 6 rfl) (by decide) [1, 2, 3, 0] rfl ?_
        refine r_lload_n C (dx dX7_tryFrom 7 rfl) rfl ?_
        refine r_aload_n C (dx dX7_tryFrom 8 rfl) rfl ?_
        refine g_X7_302 C (dx dX7_tryFrom 9 rfl) rfl ?_
        refine r_lcmp C (dx dX7_tryFrom 10 rfl) ?_
        refine r_if_le (tgt := 59) C (dx dX7_tryFrom 11 rfl) (by decide) (fun c3 => ?_) (fun c3 => ?_)
        ·
          have c3 : x2 ≤ xL h k 31 := (lg_cmp_le _ _).mp c3
          exact F.2.2.1 _ _ _ rfl (dx dX7_tryFrom 31 rfl) rfl ⟨rfl, ⟨_, M, B, ⟨by omega, by omega, by omega⟩⟩, eb, Lo.rf, x0⟩
        ·
          have c3 : ¬ (x2 ≤ xL h k 31) := fun q => c3 ((lg_cmp_le _ _).mpr q)
          refine r_aload_n C (dx dX7_tryFrom 12 rfl) rfl ?_
          refine r_lload_n C (dx dX7_tryFrom 13 rfl) rfl ?_
          refine p_X7_302 C (dx dX7_tryFrom 14 rfl) ?_
          have qh4 : Kp k h (sL h k 31 x2) := Kp.fL
          have Mh4 : Md (sL h k 31 x2) P k v g z κ true := M.kp (hm.fL) qh4 rfl
          have xh4 : XT (sL h k 31 x2) k κ ω Bt := x0.kp M qh4
          have Bh4 := B.fr (Fr.vc qh4) (by omega)
          have loh4 : Lo k h (sL h k 31 x2) := Lo.rf.tr (Lo.fr (Fr.vc qh4) (Nat.le_refl _))
          have ebh4 : xN (sL h k 31 x2) k 22 = b + 1 := by rw [qh4.2.1]; exact eb
          have hlh4 : b + 32 ≤ (xK (sL h k 31 x2)).length := hl
          have kh4 : xK (sL h k 31 x2) = xK h := rfl
          generalize sL h k 31 x2 = h4 at Bh4 qh4 Mh4 loh4 ebh4 hlh4 kh4 xh4 ⊢
          refine r_iconst (v := nI 0) C (dx dX7_tryFrom 15 rfl) rfl ?_
          refine r_istore (ls' := [(0, vr 7 k), (1, vr 7 b), (2, vi (nI j)), (3, vl x2), (5, vi (nI 0))]) C (dx dX7_tryFrom 16 rfl) (by decide) [1, 2, 3, 4, 0] rfl ?_
          refine loopU (Φ := fun p => ∀ h9, Md h9 P k v g z κ true → MilAt h9 b w → xN h9 k 22 = b + 1 → Lo k h h9 → XT h9 k κ ω Bt → xK h9 = xK h → Rr G 30 [(0, vr 7 k), (1, vr 7 b), (2, vi (nI j)), (3, vl x2), (5, vi (nI p))] [] h9) (N := vP v) ?_ ?_ 0 (Nat.zero_le _) _ Mh4 Bh4 ebh4 loh4 xh4 kh4
          ·
            intro h9 M9 B9 eb9 lo9 x9 k9
            have hl9 : b + 32 ≤ (xK h9).length := by rw [k9]; exact hl
            refine r_iload C (dx dX7_tryFrom 17 rfl) rfl ?_
            refine r_aload_n C (dx dX7_tryFrom 18 rfl) rfl ?_
            refine g_X7_64 (x := nI (vP v)) C (dx dX7_tryFrom 19 rfl) M9.1.eP ?_
            refine rn_ge (a := vP v) (b := vP v) (tgt := 59) C (by omega) (by omega) (dx dX7_tryFrom 20 rfl) (by decide) (fun c5 => ?_) (fun c5 => ?_)
            · first
              | (omega; done)
              | (
                  have c5 : vP v ≤ vP v := c5
                  exact F.2.2.1 _ _ _ rfl (dx dX7_tryFrom 31 rfl) k9 ⟨rfl, ⟨_, M9, B9, ⟨by omega, by omega, by omega⟩⟩, eb9, lo9, x9⟩)
            · first
              | (omega; done)
          ·
            intro p hp ih h9 M9 B9 eb9 lo9 x9 k9
            have hl9 : b + 32 ≤ (xK h9).length := by rw [k9]; exact hl
            refine r_iload C (dx dX7_tryFrom 17 rfl) rfl ?_
            refine r_aload_n C (dx dX7_tryFrom 18 rfl) rfl ?_
            refine g_X7_64 (x := nI (vP v)) C (dx dX7_tryFrom 19 rfl) M9.1.eP ?_
            refine rn_ge (a := p) (b := vP v) (tgt := 59) C (by omega) (by omega) (dx dX7_tryFrom 20 rfl) (by decide) (fun c7 => ?_) (fun c7 => ?_)
            · first
              | (omega; done)
              | (
                  have c7 : vP v ≤ p := c7
                  exact F.2.2.1 _ _ _ rfl (dx dX7_tryFrom 31 rfl) k9 ⟨rfl, ⟨_, M9, B9, ⟨by omega, by omega, by omega⟩⟩, eb9, lo9, x9⟩)
            · first
              | (omega; done)
              | (
                  have c7 : p < vP v := c7
                  refine r_aload_n C (dx dX7_tryFrom 21 rfl) rfl ?_
                  refine g_X7_61 C (dx dX7_tryFrom 22 rfl) ?_
                  refine r_iload C (dx dX7_tryFrom 23 rfl) rfl ?_
                  refine r_aload_n C (dx dX7_tryFrom 24 rfl) rfl ?_
                  refine g_X7_40 C (dx dX7_tryFrom 25 rfl) ?_
                  refine r_iload C (dx dX7_tryFrom 26 rfl) rfl ?_
                  refine r_iald (j := p) (x := vF w 0 p) C rfl rfl (by decide) rfl (by omega) (dx dX7_tryFrom 27 rfl) (B9.e0 (by omega)) ?_
                  refine r_iast (j := p) C rfl rfl (by decide) rfl (by omega) (dx dX7_tryFrom 28 rfl) ?_
                  have qh8 : Kp k h9 (sI h9 (k + 31) p (vF w 0 p)) := Kp.c (by omega) (by omega)
                  have Mh8 : Md (sI h9 (k + 31) p (vF w 0 p)) P k v g z κ true := M9.kp (M9.1.fr (Fr.sI (lo := k + 31) (hi := k + 32) (by omega) (by omega)) (by omega)) qh8 rfl
                  have xh8 : XT (sI h9 (k + 31) p (vF w 0 p)) k κ ω Bt := x9.kp M9 qh8
                  have Bh8 := B9.fr (Fr.vc qh8) (by omega)
                  have loh8 : Lo k h (sI h9 (k + 31) p (vF w 0 p)) := lo9.tr (Lo.fr (Fr.vc qh8) (Nat.le_refl _))
                  have ebh8 : xN (sI h9 (k + 31) p (vF w 0 p)) k 22 = b + 1 := by rw [qh8.2.1]; exact eb9
                  have hlh8 : b + 32 ≤ (xK (sI h9 (k + 31) p (vF w 0 p))).length := hl9
                  have kh8 : xK (sI h9 (k + 31) p (vF w 0 p)) = xK h := k9
                  generalize sI h9 (k + 31) p (vF w 0 p) = h8 at Bh8 qh8 Mh8 loh8 ebh8 hlh8 kh8 xh8 ⊢
                  refine rn_iinc (a := p) (k := 1) (ls' := [(0, vr 7 k), (1, vr 7 b), (2, vi (nI j)), (3, vl x2), (5, vi (nI (p + 1)))]) C (dx dX7_tryFrom 29 rfl) rfl rfl (by decide) [1, 2, 3, 4, 0] rfl ?_
                  refine r_goto (tgt := 30) C (dx dX7_tryFrom 30 rfl) (by decide) ?_
                  exact ih _ Mh8 Bh8 ebh8 loh8 xh8 kh8))
set_option maxHeartbeats 4000000 in
theorem x_tryS {l : Launch} {h : Hp} {P : List Nat} {k z b j : Nat} {v w : Vg} {g : Sg} {κ : Bool} {ω : Vg} {Bt : Nat → Int32} (M : Md h P k v g z κ true) (x0 : XT h k κ ω Bt) (B : MilAt h b w) (hb : b = k + 32 ∨ b = k + 64) (hl : b + 32 ≤ (xK h).length) (eb : xN h k 22 = b + 1) (s0 : Sz v w) (h4 : vN v ≤ 4) (h6 : vP v ≤ 6) {n : Nat} (ih : ∀ {h : Hp} {v w : Vg} (M : Md h P k v g z κ true) (x0 : XT h k κ ω Bt) (B : MilAt h b w) (hb : b = k + 32 ∨ b = k + 64) (hl : b + 32 ≤ (xK h).length) (eb : xN h k 22 = b + 1) (s0 : Sz v w) (h4 : vN v ≤ 4) (h6 : vP v ≤ 6) {j : Nat} (e : vP v = j + n), Ms l yX7_tryFrom cX7_tryFrom 6 none (8 + n) [vr 7 k, vr 7 b, vi (nI j)] h (xK h) (fun r h' => r = none ∧ (∃ w', Md h' P k v g z κ true ∧ MilAt h' b w' ∧ Sz v w') ∧ xN h' k 22 = b + 1 ∧ Lo k h h' ∧ XT h' k κ ω Bt)) (e : vP v = j + (n + 1)) : Ms l yX7_tryFrom cX7_tryFrom 6 none (8 + (n + 1)) [vr 7 k, vr 7 b, vi (nI j)] h (xK h) (fun r h' => r = none ∧ (∃ w', Md h' P k v g z κ true ∧ MilAt h' b w' ∧ Sz v w') ∧ xN h' k 22 = b + 1 ∧ Lo k h h' ∧ XT h' k κ ω Bt) := by
  refine Ms.of (by decide) (Nat.le_of_ble_eq_true rfl) (fun G C X F => ?_)
  have C : Cx G cX7_tryFrom 6 RX7 := C
  show Rr G 0 [(0, vr 7 k), (1, vr 7 b), (2, vi (nI j))] [] h
  have hm := M.1
  have hk7 := M.hk
  have bP := hm.bP
  have bM := hm.bM
  have bN := hm.bN
  obtain ⟨sa0, sb0, sc0⟩ := s0
  refine r_iload_n C (dx dX7_tryFrom 0 rfl) rfl ?_
  refine r_aload_n C (dx dX7_tryFrom 1 rfl) rfl ?_
  refine g_X7_64 (x := nI (vP v)) C (dx dX7_tryFrom 2 rfl) hm.eP ?_
  refine rn_ne (a := j) (b := vP v) (tgt := 60) C (by omega) (by omega) (dx dX7_tryFrom 3 rfl) (by decide) (fun c1 => ?_) (fun c1 => ?_)
  · first
    | (omega; done)
    | (
        have c1 : ¬ j = vP v := c1
        refine r_iconst (v := -1) C (dx dX7_tryFrom 32 rfl) rfl ?_
        refine r_istore_n (ls' := [(0, vr 7 k), (1, vr 7 b), (2, vi (nI j)), (3, vi (-1))]) C (dx dX7_tryFrom 33 rfl) (by decide) [1, 2, 3, 0] rfl ?_
        refine r_iload_n C (dx dX7_tryFrom 34 rfl) rfl ?_
        refine r_aload_n C (dx dX7_tryFrom 35 rfl) rfl ?_
        refine g_X7_74 (x := nI (vN v)) C (dx dX7_tryFrom 36 rfl) hm.eN ?_
        refine r_icmp_ge (tgt := 111) C (dx dX7_tryFrom 37 rfl) (by decide) (fun c2 => ?_) (fun c2 => ?_)
        ·
          have c2 : nI (vN v) ≤ -1 := c2
          exact absurd c2 (ge_nm1 (by omega))
        ·
          have c2 : ¬ nI (vN v) ≤ -1 := c2
          refine r_aload_n C (dx dX7_tryFrom 38 rfl) rfl ?_
          refine g_X7_40 C (dx dX7_tryFrom 39 rfl) ?_
          refine r_iload_n C (dx dX7_tryFrom 40 rfl) rfl ?_
          refine r_iconst (v := -1) C (dx dX7_tryFrom 41 rfl) rfl ?_
          refine r_iast (j := j) C rfl rfl (by decide) rfl (by omega) (dx dX7_tryFrom 42 rfl) ?_
          obtain ⟨wh3, Bh3, sh3⟩ : ∃ w99, MilAt (sI h (b + 18) j (-1)) b w99 ∧ Sz w w99 := ⟨vset w 0 j (-1), B.s0, ⟨rfl, rfl, rfl⟩⟩
          have qh3 : Kp b h (sI h (b + 18) j (-1)) := Kp.c (by omega) (by omega)
          have xh3 : XT (sI h (b + 18) j (-1)) k κ ω Bt := x0.tk M hb eb qh3
          have Mh3 := M.tk (b := b) hb hl Bh3 qh3 (show xK (sI h (b + 18) j (-1)) = xK h from rfl)
          have loh3 : Lo k h (sI h (b + 18) j (-1)) := Lo.rf.tr (Lo.fr (Fr.vc qh3) (by omega))
          have ebh3 : xN (sI h (b + 18) j (-1)) k 22 = b + 1 := by rw [((Fr.vc qh3) k (by omega)).2.2]; exact eb
          have hlh3 : b + 32 ≤ (xK (sI h (b + 18) j (-1))).length := by rw [show xK (sI h (b + 18) j (-1)) = xK h from rfl]; exact hl
          have kh3 : xK (sI h (b + 18) j (-1)) = xK h := (show xK (sI h (b + 18) j (-1)) = xK h from rfl).trans rfl
          generalize sI h (b + 18) j (-1) = h3 at Bh3 qh3 Mh3 loh3 ebh3 hlh3 kh3 xh3 ⊢
          obtain ⟨sah3, sbh3, sch3⟩ := sh3
          refine r_iload_n C (dx dX7_tryFrom 43 rfl) rfl ?_
          refine r_iconst (v := -1) C (dx dX7_tryFrom 44 rfl) rfl ?_
          refine r_icmp_eq (tgt := 90) C (dx dX7_tryFrom 45 rfl) (by decide) (fun c4 => ?_) (fun c4 => ?_)
          ·
            have c4 : (-1 : Int32) = -1 := c4
            refine r_aload_n C (dx dX7_tryFrom 50 rfl) rfl ?_
            refine g_X7_40 C (dx dX7_tryFrom 51 rfl) ?_
            refine r_iload_n C (dx dX7_tryFrom 52 rfl) rfl ?_
            refine r_iload_n C (dx dX7_tryFrom 53 rfl) rfl ?_
            refine r_iast (j := j) C rfl rfl (by decide) rfl (by omega) (dx dX7_tryFrom 54 rfl) ?_
            obtain ⟨wh5, Bh5, sh5⟩ : ∃ w99, MilAt (sI h3 (b + 18) j (-1)) b w99 ∧ Sz wh3 w99 := ⟨vset wh3 0 j (-1), Bh3.s0, ⟨rfl, rfl, rfl⟩⟩
            have qh5 : Kp b h3 (sI h3 (b + 18) j (-1)) := Kp.c (by omega) (by omega)
            have xh5 : XT (sI h3 (b + 18) j (-1)) k κ ω Bt := xh3.tk Mh3 hb ebh3 qh5
            have Mh5 := Mh3.tk (b := b) hb hlh3 Bh5 qh5 (show xK (sI h3 (b + 18) j (-1)) = xK h3 from rfl)
            have loh5 : Lo k h (sI h3 (b + 18) j (-1)) := loh3.tr (Lo.fr (Fr.vc qh5) (by omega))
            have ebh5 : xN (sI h3 (b + 18) j (-1)) k 22 = b + 1 := by rw [((Fr.vc qh5) k (by omega)).2.2]; exact ebh3
            have hlh5 : b + 32 ≤ (xK (sI h3 (b + 18) j (-1))).length := by rw [show xK (sI h3 (b + 18) j (-1)) = xK h3 from rfl]; exact hlh3
            have kh5 : xK (sI h3 (b + 18) j (-1)) = xK h := (show xK (sI h3 (b + 18) j (-1)) = xK h3 from rfl).trans kh3
            generalize sI h3 (b + 18) j (-1) = h5 at Bh5 qh5 Mh5 loh5 ebh5 hlh5 kh5 xh5 ⊢
            obtain ⟨sah5, sbh5, sch5⟩ := sh5
            refine r_aload_n C (dx dX7_tryFrom 55 rfl) rfl ?_
            refine r_aload_n C (dx dX7_tryFrom 56 rfl) rfl ?_
            refine r_iload_n C (dx dX7_tryFrom 57 rfl) rfl ?_
            refine r_iconst (v := nI 1) C (dx dX7_tryFrom 58 rfl) rfl ?_
            refine rn_iadd (a := j) (b := 1) C (dx dX7_tryFrom 59 rfl) ?_
            refine r_cv (as := [vr 7 b, vi (nI (j + 1))]) (st := []) C X I_X7_tryFrom l_X7_305 (ih Mh5 xh5 Bh5 hb hlh5 ebh5 ⟨by omega, by omega, by omega⟩ (by omega) (by omega) (j := j + 1) (by omega)) (by omega) (Nat.le_of_ble_eq_true rfl) List.prefix_rfl (pfx_eq kh5) rfl rfl (Nat.le_of_ble_eq_true rfl) rfl (dx dX7_tryFrom 60 rfl) ?_
            rintro _ h6 ⟨rfl, ⟨wh6, Mh6, Bh6, uh6⟩, ebh6, loh69, xh6⟩ kkh6
            have loh6 : Lo k h h6 := Lo.tr loh5 loh69
            have kh6 : xK h6 = xK h := kkh6.trans kh5
            have hlh6 : b + 32 ≤ (xK h6).length := by rw [kh6]; exact hl
            obtain ⟨uah6, ubh6, uch6⟩ := uh6
            refine r_iinc (ls' := [(0, vr 7 k), (1, vr 7 b), (2, vi (nI j)), (3, vi (-1 + (1)))]) C (dx dX7_tryFrom 61 rfl) rfl rfl (by decide) [1, 2, 3, 0] rfl ?_
            refine r_goto (tgt := 62) C (dx dX7_tryFrom 62 rfl) (by decide) ?_
            rw [show (-1 : Int32) + 1 = nI 0 by decide]
            refine loopU (Φ := fun p => ∀ h9 w9, Md h9 P k v g z κ true → MilAt h9 b w9 → Sz v w9 → xN h9 k 22 = b + 1 → Lo k h h9 → XT h9 k κ ω Bt → xK h9 = xK h → Rr G 62 [(0, vr 7 k), (1, vr 7 b), (2, vi (nI j)), (3, vi (nI p))] [] h9) (N := vN v) ?_ ?_ 0 (Nat.zero_le _) _ _ Mh6 Bh6 ⟨by omega, by omega, by omega⟩ ebh6 loh6 xh6 kh6
            ·
              intro h9 w9 M9 B9 u9 eb9 lo9 x9 k9
              obtain ⟨ua9, ub9, uc9⟩ := u9
              have hl9 : b + 32 ≤ (xK h9).length := by rw [k9]; exact hl
              refine r_iload_n C (dx dX7_tryFrom 34 rfl) rfl ?_
              refine r_aload_n C (dx dX7_tryFrom 35 rfl) rfl ?_
              refine g_X7_74 (x := nI (vN v)) C (dx dX7_tryFrom 36 rfl) M9.1.eN ?_
              refine rn_ge (a := vN v) (b := vN v) (tgt := 111) C (by omega) (by omega) (dx dX7_tryFrom 37 rfl) (by decide) (fun c7 => ?_) (fun c7 => ?_)
              · first
                | (omega; done)
                | (
                    have c7 : vN v ≤ vN v := c7
                    refine r_aload_n C (dx dX7_tryFrom 63 rfl) rfl ?_
                    refine g_X7_40 C (dx dX7_tryFrom 64 rfl) ?_
                    refine r_iload_n C (dx dX7_tryFrom 65 rfl) rfl ?_
                    refine r_iconst (v := -1) C (dx dX7_tryFrom 66 rfl) rfl ?_
                    refine r_iast (j := j) C rfl rfl (by decide) rfl (by omega) (dx dX7_tryFrom 67 rfl) ?_
                    obtain ⟨wh8, Bh8, sh8⟩ : ∃ w99, MilAt (sI h9 (b + 18) j (-1)) b w99 ∧ Sz w9 w99 := ⟨vset w9 0 j (-1), B9.s0, ⟨rfl, rfl, rfl⟩⟩
                    have qh8 : Kp b h9 (sI h9 (b + 18) j (-1)) := Kp.c (by omega) (by omega)
                    have xh8 : XT (sI h9 (b + 18) j (-1)) k κ ω Bt := x9.tk M9 hb eb9 qh8
                    have Mh8 := M9.tk (b := b) hb hl9 Bh8 qh8 (show xK (sI h9 (b + 18) j (-1)) = xK h9 from rfl)
                    have loh8 : Lo k h (sI h9 (b + 18) j (-1)) := lo9.tr (Lo.fr (Fr.vc qh8) (by omega))
                    have ebh8 : xN (sI h9 (b + 18) j (-1)) k 22 = b + 1 := by rw [((Fr.vc qh8) k (by omega)).2.2]; exact eb9
                    have hlh8 : b + 32 ≤ (xK (sI h9 (b + 18) j (-1))).length := by rw [show xK (sI h9 (b + 18) j (-1)) = xK h9 from rfl]; exact hl9
                    have kh8 : xK (sI h9 (b + 18) j (-1)) = xK h := (show xK (sI h9 (b + 18) j (-1)) = xK h9 from rfl).trans k9
                    generalize sI h9 (b + 18) j (-1) = h8 at Bh8 qh8 Mh8 loh8 ebh8 hlh8 kh8 xh8 ⊢
                    obtain ⟨sah8, sbh8, sch8⟩ := sh8
                    exact F.2.2.1 _ _ _ rfl (dx dX7_tryFrom 68 rfl) kh8 ⟨rfl, ⟨_, Mh8, Bh8, ⟨by omega, by omega, by omega⟩⟩, ebh8, loh8, xh8⟩)
              · first
                | (omega; done)
            ·
              intro p hp ihp h9 w9 M9 B9 u9 eb9 lo9 x9 k9
              obtain ⟨ua9, ub9, uc9⟩ := u9
              have hl9 : b + 32 ≤ (xK h9).length := by rw [k9]; exact hl
              refine r_iload_n C (dx dX7_tryFrom 34 rfl) rfl ?_
              refine r_aload_n C (dx dX7_tryFrom 35 rfl) rfl ?_
              refine g_X7_74 (x := nI (vN v)) C (dx dX7_tryFrom 36 rfl) M9.1.eN ?_
              refine rn_ge (a := p) (b := vN v) (tgt := 111) C (by omega) (by omega) (dx dX7_tryFrom 37 rfl) (by decide) (fun c13 => ?_) (fun c13 => ?_)
              · first
                | (omega; done)
                | (
                    have c13 : vN v ≤ p := c13
                    refine r_aload_n C (dx dX7_tryFrom 63 rfl) rfl ?_
                    refine g_X7_40 C (dx dX7_tryFrom 64 rfl) ?_
                    refine r_iload_n C (dx dX7_tryFrom 65 rfl) rfl ?_
                    refine r_iconst (v := -1) C (dx dX7_tryFrom 66 rfl) rfl ?_
                    refine r_iast (j := j) C rfl rfl (by decide) rfl (by omega) (dx dX7_tryFrom 67 rfl) ?_
                    obtain ⟨wh14, Bh14, sh14⟩ : ∃ w99, MilAt (sI h9 (b + 18) j (-1)) b w99 ∧ Sz w9 w99 := ⟨vset w9 0 j (-1), B9.s0, ⟨rfl, rfl, rfl⟩⟩
                    have qh14 : Kp b h9 (sI h9 (b + 18) j (-1)) := Kp.c (by omega) (by omega)
                    have xh14 : XT (sI h9 (b + 18) j (-1)) k κ ω Bt := x9.tk M9 hb eb9 qh14
                    have Mh14 := M9.tk (b := b) hb hl9 Bh14 qh14 (show xK (sI h9 (b + 18) j (-1)) = xK h9 from rfl)
                    have loh14 : Lo k h (sI h9 (b + 18) j (-1)) := lo9.tr (Lo.fr (Fr.vc qh14) (by omega))
                    have ebh14 : xN (sI h9 (b + 18) j (-1)) k 22 = b + 1 := by rw [((Fr.vc qh14) k (by omega)).2.2]; exact eb9
                    have hlh14 : b + 32 ≤ (xK (sI h9 (b + 18) j (-1))).length := by rw [show xK (sI h9 (b + 18) j (-1)) = xK h9 from rfl]; exact hl9
                    have kh14 : xK (sI h9 (b + 18) j (-1)) = xK h := (show xK (sI h9 (b + 18) j (-1)) = xK h9 from rfl).trans k9
                    generalize sI h9 (b + 18) j (-1) = h14 at Bh14 qh14 Mh14 loh14 ebh14 hlh14 kh14 xh14 ⊢
                    obtain ⟨sah14, sbh14, sch14⟩ := sh14
                    exact F.2.2.1 _ _ _ rfl (dx dX7_tryFrom 68 rfl) kh14 ⟨rfl, ⟨_, Mh14, Bh14, ⟨by omega, by omega, by omega⟩⟩, ebh14, loh14, xh14⟩)
              · first
                | (omega; done)
                | (
                    have c13 : p < vN v := c13
                    refine r_aload_n C (dx dX7_tryFrom 38 rfl) rfl ?_
                    refine g_X7_40 C (dx dX7_tryFrom 39 rfl) ?_
                    refine r_iload_n C (dx dX7_tryFrom 40 rfl) rfl ?_
                    refine r_iconst (v := -1) C (dx dX7_tryFrom 41 rfl) rfl ?_
                    refine r_iast (j := j) C rfl rfl (by decide) rfl (by omega) (dx dX7_tryFrom 42 rfl) ?_
                    obtain ⟨wh15, Bh15, sh15⟩ : ∃ w99, MilAt (sI h9 (b + 18) j (-1)) b w99 ∧ Sz w9 w99 := ⟨vset w9 0 j (-1), B9.s0, ⟨rfl, rfl, rfl⟩⟩
                    have qh15 : Kp b h9 (sI h9 (b + 18) j (-1)) := Kp.c (by omega) (by omega)
                    have xh15 : XT (sI h9 (b + 18) j (-1)) k κ ω Bt := x9.tk M9 hb eb9 qh15
                    have Mh15 := M9.tk (b := b) hb hl9 Bh15 qh15 (show xK (sI h9 (b + 18) j (-1)) = xK h9 from rfl)
                    have loh15 : Lo k h (sI h9 (b + 18) j (-1)) := lo9.tr (Lo.fr (Fr.vc qh15) (by omega))
                    have ebh15 : xN (sI h9 (b + 18) j (-1)) k 22 = b + 1 := by rw [((Fr.vc qh15) k (by omega)).2.2]; exact eb9
                    have hlh15 : b + 32 ≤ (xK (sI h9 (b + 18) j (-1))).length := by rw [show xK (sI h9 (b + 18) j (-1)) = xK h9 from rfl]; exact hl9
                    have kh15 : xK (sI h9 (b + 18) j (-1)) = xK h := (show xK (sI h9 (b + 18) j (-1)) = xK h9 from rfl).trans k9
                    generalize sI h9 (b + 18) j (-1) = h15 at Bh15 qh15 Mh15 loh15 ebh15 hlh15 kh15 xh15 ⊢
                    obtain ⟨sah15, sbh15, sch15⟩ := sh15
                    refine r_iload_n C (dx dX7_tryFrom 43 rfl) rfl ?_
                    refine r_iconst (v := -1) C (dx dX7_tryFrom 44 rfl) rfl ?_
                    refine r_icmp_eq (tgt := 90) C (dx dX7_tryFrom 45 rfl) (by decide) (fun c16 => ?_) (fun c16 => ?_)
                    ·
                      have c16 : nI p = -1 := c16
                      exact absurd c16 (nI_nm1 (by omega))
                    ·
                      have c16 : ¬ nI p = -1 := c16
                      refine r_aload_n C (dx dX7_tryFrom 46 rfl) rfl ?_
                      refine r_iload_n C (dx dX7_tryFrom 47 rfl) rfl ?_
                      refine r_cvW (as := [vi (nI p)]) (st := []) C X I_X7_hasRoom l_X7_135 (c_X7_hasRoom Bh15 (j := p) (by omega)) (by omega) (Nat.le_of_ble_eq_true rfl) (pfx_eq kh15) rfl rfl (Nat.le_of_ble_eq_true rfl) rfl (dx dX7_tryFrom 48 rfl) ?_
                      rintro _ ⟨x17, rfl⟩
                      refine rb_eq (b := x17) (tgt := 105) C (dx dX7_tryFrom 49 rfl) (by decide) (fun c18 => ?_) (fun c18 => ?_)
                      ·
                        have c18 : x17 = false := c18
                        refine rn_iinc (a := p) (k := 1) (ls' := [(0, vr 7 k), (1, vr 7 b), (2, vi (nI j)), (3, vi (nI (p + 1)))]) C (dx dX7_tryFrom 61 rfl) rfl rfl (by decide) [1, 2, 3, 0] rfl ?_
                        refine r_goto (tgt := 62) C (dx dX7_tryFrom 62 rfl) (by decide) ?_
                        exact ihp _ _ Mh15 Bh15 ⟨by omega, by omega, by omega⟩ ebh15 loh15 xh15 kh15
                      ·
                        have c18 : x17 = true := c18
                        refine r_aload_n C (dx dX7_tryFrom 50 rfl) rfl ?_
                        refine g_X7_40 C (dx dX7_tryFrom 51 rfl) ?_
                        refine r_iload_n C (dx dX7_tryFrom 52 rfl) rfl ?_
                        refine r_iload_n C (dx dX7_tryFrom 53 rfl) rfl ?_
                        refine r_iast (j := j) C rfl rfl (by decide) rfl (by omega) (dx dX7_tryFrom 54 rfl) ?_
                        obtain ⟨wh19, Bh19, sh19⟩ : ∃ w99, MilAt (sI h15 (b + 18) j (nI p)) b w99 ∧ Sz wh15 w99 := ⟨vset wh15 0 j (nI p), Bh15.s0, ⟨rfl, rfl, rfl⟩⟩
                        have qh19 : Kp b h15 (sI h15 (b + 18) j (nI p)) := Kp.c (by omega) (by omega)
                        have xh19 : XT (sI h15 (b + 18) j (nI p)) k κ ω Bt := xh15.tk Mh15 hb ebh15 qh19
                        have Mh19 := Mh15.tk (b := b) hb hlh15 Bh19 qh19 (show xK (sI h15 (b + 18) j (nI p)) = xK h15 from rfl)
                        have loh19 : Lo k h (sI h15 (b + 18) j (nI p)) := loh15.tr (Lo.fr (Fr.vc qh19) (by omega))
                        have ebh19 : xN (sI h15 (b + 18) j (nI p)) k 22 = b + 1 := by rw [((Fr.vc qh19) k (by omega)).2.2]; exact ebh15
                        have hlh19 : b + 32 ≤ (xK (sI h15 (b + 18) j (nI p))).length := by rw [show xK (sI h15 (b + 18) j (nI p)) = xK h15 from rfl]; exact hlh15
                        have kh19 : xK (sI h15 (b + 18) j (nI p)) = xK h := (show xK (sI h15 (b + 18) j (nI p)) = xK h15 from rfl).trans kh15
                        generalize sI h15 (b + 18) j (nI p) = h19 at Bh19 qh19 Mh19 loh19 ebh19 hlh19 kh19 xh19 ⊢
                        obtain ⟨sah19, sbh19, sch19⟩ := sh19
                        refine r_aload_n C (dx dX7_tryFrom 55 rfl) rfl ?_
                        refine r_aload_n C (dx dX7_tryFrom 56 rfl) rfl ?_
                        refine r_iload_n C (dx dX7_tryFrom 57 rfl) rfl ?_
                        refine r_iconst (v := nI 1) C (dx dX7_tryFrom 58 rfl) rfl ?_
                        refine rn_iadd (a := j) (b := 1) C (dx dX7_tryFrom 59 rfl) ?_
                        refine r_cv (as := [vr 7 b, vi (nI (j + 1))]) (st := []) C X I_X7_tryFrom l_X7_305 (ih Mh19 xh19 Bh19 hb hlh19 ebh19 ⟨by omega, by omega, by omega⟩ (by omega) (by omega) (j := j + 1) (by omega)) (by omega) (Nat.le_of_ble_eq_true rfl) List.prefix_rfl (pfx_eq kh19) rfl rfl (Nat.le_of_ble_eq_true rfl) rfl (dx dX7_tryFrom 60 rfl) ?_
                        rintro _ h20 ⟨rfl, ⟨wh20, Mh20, Bh20, uh20⟩, ebh20, loh209, xh20⟩ kkh20
                        have loh20 : Lo k h h20 := Lo.tr loh19 loh209
                        have kh20 : xK h20 = xK h := kkh20.trans kh19
                        have hlh20 : b + 32 ≤ (xK h20).length := by rw [kh20]; exact hl
                        obtain ⟨uah20, ubh20, uch20⟩ := uh20
                        refine rn_iinc (a := p) (k := 1) (ls' := [(0, vr 7 k), (1, vr 7 b), (2, vi (nI j)), (3, vi (nI (p + 1)))]) C (dx dX7_tryFrom 61 rfl) rfl rfl (by decide) [1, 2, 3, 0] rfl ?_
                        refine r_goto (tgt := 62) C (dx dX7_tryFrom 62 rfl) (by decide) ?_
                        exact ihp _ _ Mh20 Bh20 ⟨by omega, by omega, by omega⟩ ebh20 loh20 xh20 kh20)
          ·
            have c4 : ¬ (-1 : Int32) = -1 := c4
            exact absurd rfl c4)
  · first
    | (omega; done)
theorem x_tryN {l : Launch} {P : List Nat} {k z b : Nat} {g : Sg} {κ : Bool} {ω : Vg} {Bt : Nat → Int32} : ∀ (n : Nat) {h : Hp} {v w : Vg} (M : Md h P k v g z κ true) (x0 : XT h k κ ω Bt) (B : MilAt h b w) (hb : b = k + 32 ∨ b = k + 64) (hl : b + 32 ≤ (xK h).length) (eb : xN h k 22 = b + 1) (s0 : Sz v w) (h4 : vN v ≤ 4) (h6 : vP v ≤ 6) {j : Nat} (e : vP v = j + n), Ms l yX7_tryFrom cX7_tryFrom 6 none (8 + n) [vr 7 k, vr 7 b, vi (nI j)] h (xK h) (fun r h' => r = none ∧ (∃ w', Md h' P k v g z κ true ∧ MilAt h' b w' ∧ Sz v w') ∧ xN h' k 22 = b + 1 ∧ Lo k h h' ∧ XT h' k κ ω Bt)
  | 0, _, _, _, M, x0, B, hb, hl, eb, s0, h4, h6, _, e => x_try0 M x0 B hb hl eb s0 h4 h6 e
  | n + 1, _, _, _, M, x0, B, hb, hl, eb, s0, h4, h6, _, e => x_tryS M x0 B hb hl eb s0 h4 h6 (fun M x0 B hb hl eb s0 h4 h6 => x_tryN n M x0 B hb hl eb s0 h4 h6) e
set_option maxHeartbeats 4000000 in
theorem x_X7_findBest_y {l : Launch} {h : Hp} {P : List Nat} {k z : Nat} {v : Vg} {g : Sg} {κ τ : Bool} {ω : Vg} {Bt : Nat → Int32} (M : Md h P k v g z κ τ) (x0 : XT h k κ ω Bt) (h4 : vN v ≤ 4) (h6 : vP v ≤ 6) : Ms l yX7_findBest cX7_findBest 3 (some .boolean) 16 [vr 7 k] h (AL P κ true) (fun r h' => r = some (vi (b2i true)) ∧ Md h' P k v g z κ true ∧ Lo k h h' ∧ XT h' k κ ω Bt) := by
  refine Ms.of (by decide) (Nat.le_of_ble_eq_true rfl) (fun G C X F => ?_)
  have C : Cx G cX7_findBest 3 RX7 := C
  show Rr G 0 [(0, vr 7 k)] [] h
  have hm := M.1
  have hs := M.2.1
  have al := M.al
  have hk7 := M.hk
  have bP := hm.bP
  have bM := hm.bM
  have bN := hm.bN
  refine r_aload_n C (dx dX7_findBest 0 rfl) rfl ?_
  refine g_X7_74 (x := nI (vN v)) C (dx dX7_findBest 1 rfl) hm.eN ?_
  refine r_iconst (v := nI 4) C (dx dX7_findBest 2 rfl) rfl ?_
  refine rn_gt (a := vN v) (b := 4) (tgt := 17) C (by omega) (by omega) (dx dX7_findBest 3 rfl) (by decide) (fun c1 => ?_) (fun c1 => ?_)
  · first
    | (omega; done)
    | (
        have c1 : 4 < vN v := c1
        refine r_iconst (v := nI 0) C (dx dX7_findBest 8 rfl) rfl ?_
        exact F.1 _ _ _ _ .boolean rfl rfl (dx dX7_findBest 9 rfl) None ⟨rfl, M, Lo.rf, x0⟩)
  · first
    | (omega; done)
    | (
        have c1 : vN v ≤ 4 := c1
        refine r_aload_n C (dx dX7_findBest 4 rfl) rfl ?_
        refine g_X7_64 (x := nI (vP v)) C (dx dX7_findBest 5 rfl) hm.eP ?_
        refine r_bipush (v := nI 6) C (dx dX7_findBest 6 rfl) rfl ?_
        refine rn_le (a := vP v) (b := 6) (tgt := 19) C (by omega) (by omega) (dx dX7_findBest 7 rfl) (by decide) (fun c2 => ?_) (fun c2 => ?_)
        · first
          | (omega; done)
          | (
              have c2 : vP v ≤ 6 := c2
              refine r_aload_n C (dx dX7_findBest 10 rfl) rfl ?_
              refine r_cv (as := []) (st := []) C X I_X7_fresh l_X7_102 (e_fresh M x0) (by decide) (Nat.le_of_ble_eq_true rfl) (by rw [M.al]; exact AL_pre id (fun _ => rfl)) (by first | exact List.prefix_rfl | (rw [al]; exact AL_pre id (fun _ => rfl))) rfl rfl (Nat.le_of_ble_eq_true rfl) rfl (dx dX7_findBest 11 rfl) ?_
              rintro _ hF ⟨b, rfl, ebF, BF, MF, hb, hlF, loF, xF⟩ kF
              refine r_astore_n (ls' := [(0, vr 7 k), (1, vr 7 b)]) C (dx dX7_findBest 12 rfl) (by decide) [1, 0] rfl ?_
              refine r_iconst (v := nI 0) C (dx dX7_findBest 13 rfl) rfl ?_
              refine r_istore_n (ls' := [(0, vr 7 k), (1, vr 7 b), (2, vi (nI 0))]) C (dx dX7_findBest 14 rfl) (by decide) [1, 2, 0] rfl ?_
              refine loopU (Φ := fun p => ∀ h9 w9, Md h9 P k v g z κ true → MilAt h9 b w9 → Sz v w9 → Lo k h h9 → XT h9 k κ ω Bt → xN h9 k 22 = b + 1 → xK h9 = AL P κ true → Rr G 26 [(0, vr 7 k), (1, vr 7 b), (2, vi (nI p))] [] h9) (N := vP v) ?_ ?_ 0 (Nat.zero_le _) _ _ MF BF ⟨rfl, rfl, rfl⟩ loF xF ebF kF
              ·
                intro h9 w9 M9 B9 s9 lo9 x9 eb9 k9
                obtain ⟨sa9, sb9, sc9⟩ := s9
                have hl9 : b + 32 ≤ (xK h9).length := by rw [k9, ← kF]; exact hlF
                refine r_iload_n C (dx dX7_findBest 15 rfl) rfl ?_
                refine r_aload_n C (dx dX7_findBest 16 rfl) rfl ?_
                refine g_X7_64 (x := nI (vP v)) C (dx dX7_findBest 17 rfl) M9.1.eP ?_
                refine rn_ge (a := vP v) (b := vP v) (tgt := 54) C (by omega) (by omega) (dx dX7_findBest 18 rfl) (by decide) (fun c3 => ?_) (fun c3 => ?_)
                · first
                  | (omega; done)
                  | (
                      have c3 : vP v ≤ vP v := c3
                      refine r_aload_n C (dx dX7_findBest 31 rfl) rfl ?_
                      refine r_ldc2 C n_X7_309 (dx dX7_findBest 32 rfl) ?_
                      refine p_X7_302 C (dx dX7_findBest 33 rfl) ?_
                      have qh4 : Kp k h9 (sL h9 k 31 (-1)) := Kp.fL
                      have Mh4 : Md (sL h9 k 31 (-1)) P k v g z κ true := M9.kp (M9.1.fL) qh4 rfl
                      have xh4 : XT (sL h9 k 31 (-1)) k κ ω Bt := x9.kp M9 qh4
                      have Bh4 := B9.fr (Fr.vc qh4) (by omega)
                      have loh4 : Lo k h (sL h9 k 31 (-1)) := lo9.tr (Lo.fr (Fr.vc qh4) (Nat.le_refl _))
                      have ebh4 : xN (sL h9 k 31 (-1)) k 22 = b + 1 := by rw [qh4.2.1]; exact eb9
                      have hlh4 : b + 32 ≤ (xK (sL h9 k 31 (-1))).length := hl9
                      have kh4 : xK (sL h9 k 31 (-1)) = AL P κ true := k9
                      generalize sL h9 k 31 (-1) = h4 at Bh4 qh4 Mh4 loh4 ebh4 hlh4 kh4 xh4 ⊢
                      refine r_aload_n C (dx dX7_findBest 34 rfl) rfl ?_
                      refine r_aload_n C (dx dX7_findBest 35 rfl) rfl ?_
                      refine r_iconst (v := nI 0) C (dx dX7_findBest 36 rfl) rfl ?_
                      refine r_cv (as := [vr 7 b, vi (nI 0)]) (st := []) C X I_X7_tryFrom l_X7_305 (x_tryN (vP v) Mh4 xh4 Bh4 hb hlh4 ebh4 ⟨by omega, by omega, by omega⟩ (by omega) (by omega) (j := 0) (by omega)) (by omega) (Nat.le_of_ble_eq_true rfl) List.prefix_rfl (pfx_eq kh4) rfl rfl (Nat.le_of_ble_eq_true rfl) rfl (dx dX7_findBest 37 rfl) ?_
                      rintro _ h5 ⟨rfl, ⟨wh5, Mh5, Bh5, uh5⟩, ebh5, loh59, xh5⟩ kkh5
                      have loh5 : Lo k h h5 := Lo.tr loh4 loh59
                      have kh5 : xK h5 = AL P κ true := kkh5.trans kh4
                      obtain ⟨uah5, ubh5, uch5⟩ := uh5
                      refine r_iconst (v := nI 1) C (dx dX7_findBest 38 rfl) rfl ?_
                      exact F.1 _ _ _ _ .boolean rfl rfl (dx dX7_findBest 39 rfl) kh5 ⟨rfl, Mh5, loh5, xh5⟩)
                · first
                  | (omega; done)
              ·
                intro p hp ih h9 w9 M9 B9 s9 lo9 x9 eb9 k9
                obtain ⟨sa9, sb9, sc9⟩ := s9
                have hl9 : b + 32 ≤ (xK h9).length := by rw [k9, ← kF]; exact hlF
                refine r_iload_n C (dx dX7_findBest 15 rfl) rfl ?_
                refine r_aload_n C (dx dX7_findBest 16 rfl) rfl ?_
                refine g_X7_64 (x := nI (vP v)) C (dx dX7_findBest 17 rfl) M9.1.eP ?_
                refine rn_ge (a := p) (b := vP v) (tgt := 54) C (by omega) (by omega) (dx dX7_findBest 18 rfl) (by decide) (fun c8 => ?_) (fun c8 => ?_)
                · first
                  | (omega; done)
                  | (
                      have c8 : vP v ≤ p := c8
                      refine r_aload_n C (dx dX7_findBest 31 rfl) rfl ?_
                      refine r_ldc2 C n_X7_309 (dx dX7_findBest 32 rfl) ?_
                      refine p_X7_302 C (dx dX7_findBest 33 rfl) ?_
                      have qh9 : Kp k h9 (sL h9 k 31 (-1)) := Kp.fL
                      have Mh9 : Md (sL h9 k 31 (-1)) P k v g z κ true := M9.kp (M9.1.fL) qh9 rfl
                      have xh9 : XT (sL h9 k 31 (-1)) k κ ω Bt := x9.kp M9 qh9
                      have Bh9 := B9.fr (Fr.vc qh9) (by omega)
                      have loh9 : Lo k h (sL h9 k 31 (-1)) := lo9.tr (Lo.fr (Fr.vc qh9) (Nat.le_refl _))
                      have ebh9 : xN (sL h9 k 31 (-1)) k 22 = b + 1 := by rw [qh9.2.1]; exact eb9
                      have hlh9 : b + 32 ≤ (xK (sL h9 k 31 (-1))).length := hl9
                      have kh9 : xK (sL h9 k 31 (-1)) = AL P κ true := k9
                      generalize sL h9 k 31 (-1) = h9 at Bh9 qh9 Mh9 loh9 ebh9 hlh9 kh9 xh9 ⊢
                      refine r_aload_n C (dx dX7_findBest 34 rfl) rfl ?_
                      refine r_aload_n C (dx dX7_findBest 35 rfl) rfl ?_
                      refine r_iconst (v := nI 0) C (dx dX7_findBest 36 rfl) rfl ?_
                      refine r_cv (as := [vr 7 b, vi (nI 0)]) (st := []) C X I_X7_tryFrom l_X7_305 (x_tryN (vP v) Mh9 xh9 Bh9 hb hlh9 ebh9 ⟨by omega, by omega, by omega⟩ (by omega) (by omega) (j := 0) (by omega)) (by omega) (Nat.le_of_ble_eq_true rfl) List.prefix_rfl (pfx_eq kh9) rfl rfl (Nat.le_of_ble_eq_true rfl) rfl (dx dX7_findBest 37 rfl) ?_
                      rintro _ h10 ⟨rfl, ⟨wh10, Mh10, Bh10, uh10⟩, ebh10, loh109, xh10⟩ kkh10
                      have loh10 : Lo k h h10 := Lo.tr loh9 loh109
                      have kh10 : xK h10 = AL P κ true := kkh10.trans kh9
                      obtain ⟨uah10, ubh10, uch10⟩ := uh10
                      refine r_iconst (v := nI 1) C (dx dX7_findBest 38 rfl) rfl ?_
                      exact F.1 _ _ _ _ .boolean rfl rfl (dx dX7_findBest 39 rfl) kh10 ⟨rfl, Mh10, loh10, xh10⟩)
                · first
                  | (omega; done)
                  | (
                      have c8 : p < vP v := c8
                      refine r_aload_n C (dx dX7_findBest 19 rfl) rfl ?_
                      refine g_X7_40 C (dx dX7_findBest 20 rfl) ?_
                      refine r_iload_n C (dx dX7_findBest 21 rfl) rfl ?_
                      refine r_iconst (v := -1) C (dx dX7_findBest 22 rfl) rfl ?_
                      refine r_iast (j := p) C rfl rfl (by decide) rfl (by omega) (dx dX7_findBest 23 rfl) ?_
                      obtain ⟨wh11, Bh11, sh11⟩ : ∃ w99, MilAt (sI h9 (b + 18) p (-1)) b w99 ∧ Sz w9 w99 := ⟨vset w9 0 p (-1), B9.s0, ⟨rfl, rfl, rfl⟩⟩
                      have qh11 : Kp b h9 (sI h9 (b + 18) p (-1)) := Kp.c (by omega) (by omega)
                      have xh11 : XT (sI h9 (b + 18) p (-1)) k κ ω Bt := x9.tk M9 hb eb9 qh11
                      have Mh11 := M9.tk (b := b) hb hl9 Bh11 qh11 (show xK (sI h9 (b + 18) p (-1)) = xK h9 from rfl)
                      have loh11 : Lo k h (sI h9 (b + 18) p (-1)) := lo9.tr (Lo.fr (Fr.vc qh11) (by omega))
                      have ebh11 : xN (sI h9 (b + 18) p (-1)) k 22 = b + 1 := by rw [((Fr.vc qh11) k (by omega)).2.2]; exact eb9
                      have hlh11 : b + 32 ≤ (xK (sI h9 (b + 18) p (-1))).length := by rw [show xK (sI h9 (b + 18) p (-1)) = xK h9 from rfl]; exact hl9
                      have kh11 : xK (sI h9 (b + 18) p (-1)) = AL P κ true := (show xK (sI h9 (b + 18) p (-1)) = xK h9 from rfl).trans k9
                      generalize sI h9 (b + 18) p (-1) = h11 at Bh11 qh11 Mh11 loh11 ebh11 hlh11 kh11 xh11 ⊢
                      obtain ⟨sah11, sbh11, sch11⟩ := sh11
                      refine r_aload_n C (dx dX7_findBest 24 rfl) rfl ?_
                      refine g_X7_43 C (dx dX7_findBest 25 rfl) ?_
                      refine r_iload_n C (dx dX7_findBest 26 rfl) rfl ?_
                      refine r_iconst (v := -1) C (dx dX7_findBest 27 rfl) rfl ?_
                      refine r_iast (j := p) C rfl rfl (by decide) rfl (by omega) (dx dX7_findBest 28 rfl) ?_
                      obtain ⟨wh12, Bh12, sh12⟩ : ∃ w99, MilAt (sI h11 (b + 19) p (-1)) b w99 ∧ Sz wh11 w99 := ⟨vset wh11 1 p (-1), Bh11.s1, ⟨rfl, rfl, rfl⟩⟩
                      have qh12 : Kp b h11 (sI h11 (b + 19) p (-1)) := Kp.c (by omega) (by omega)
                      have xh12 : XT (sI h11 (b + 19) p (-1)) k κ ω Bt := xh11.tk Mh11 hb ebh11 qh12
                      have Mh12 := Mh11.tk (b := b) hb hlh11 Bh12 qh12 (show xK (sI h11 (b + 19) p (-1)) = xK h11 from rfl)
                      have loh12 : Lo k h (sI h11 (b + 19) p (-1)) := loh11.tr (Lo.fr (Fr.vc qh12) (by omega))
                      have ebh12 : xN (sI h11 (b + 19) p (-1)) k 22 = b + 1 := by rw [((Fr.vc qh12) k (by omega)).2.2]; exact ebh11
                      have hlh12 : b + 32 ≤ (xK (sI h11 (b + 19) p (-1))).length := by rw [show xK (sI h11 (b + 19) p (-1)) = xK h11 from rfl]; exact hlh11
                      have kh12 : xK (sI h11 (b + 19) p (-1)) = AL P κ true := (show xK (sI h11 (b + 19) p (-1)) = xK h11 from rfl).trans kh11
                      generalize sI h11 (b + 19) p (-1) = h12 at Bh12 qh12 Mh12 loh12 ebh12 hlh12 kh12 xh12 ⊢
                      obtain ⟨sah12, sbh12, sch12⟩ := sh12
                      refine rn_iinc (a := p) (k := 1) (ls' := [(0, vr 7 k), (1, vr 7 b), (2, vi (nI (p + 1)))]) C (dx dX7_findBest 29 rfl) rfl rfl (by decide) [1, 2, 0] rfl ?_
                      refine r_goto (tgt := 26) C (dx dX7_findBest 30 rfl) (by decide) ?_
                      exact ih _ _ Mh12 Bh12 ⟨by omega, by omega, by omega⟩ loh12 xh12 ebh12 kh12))
        · first
          | (omega; done)
          | (
              have c2 : 6 < vP v := c2
              refine r_iconst (v := nI 0) C (dx dX7_findBest 8 rfl) rfl ?_
              exact F.1 _ _ _ _ .boolean rfl rfl (dx dX7_findBest 9 rfl) None ⟨rfl, M, Lo.rf, x0⟩))
set_option maxHeartbeats 4000000 in
theorem x_X7_best_y {l : Launch} {h : Hp} {P : List Nat} {k z : Nat} {v : Vg} {g : Sg} {κ τ : Bool} {ω : Vg} {Bt : Nat → Int32} (M : Md h P k v g z κ τ) (x0 : XT h k κ ω Bt) {j : Nat} (hj : j < vP v) (h4 : vN v ≤ 4) (h6 : vP v ≤ 6) : Ms l yX7_best cX7_best 2 (some .int) 17 [vr 7 k, vi (nI j)] h (AL P κ true) (fun r h' => PI r ∧ Md h' P k v g z κ true ∧ Lo k h h' ∧ XT h' k κ ω Bt) := by
  refine Ms.of (by decide) (Nat.le_of_ble_eq_true rfl) (fun G C X F => ?_)
  have C : Cx G cX7_best 2 RX7 := C
  show Rr G 0 [(0, vr 7 k), (1, vi (nI j))] [] h
  have hm := M.1
  have hs := M.2.1
  have al := M.al
  have hk7 := M.hk
  have bP := hm.bP
  have bM := hm.bM
  have bN := hm.bN
  refine r_aload_n C (dx dX7_best 0 rfl) rfl ?_
  refine r_iload_n C (dx dX7_best 1 rfl) rfl ?_
  refine r_cvP (as := [vi (nI j)]) (st := []) (v := vi (b2i (inR (nI j) (vP v)))) C X I_X7_isPart l_X7_132 (c_X7_isPart hm _) (by decide) (Nat.le_of_ble_eq_true rfl) (by first | exact List.prefix_rfl | (rw [al]; exact AL_pre id (fun _ => rfl))) rfl rfl (Nat.le_of_ble_eq_true rfl) rfl (dx dX7_best 2 rfl) ?_
  refine rb_ne (b := inR (nI j) (vP v)) (tgt := 15) C (dx dX7_best 3 rfl) (by decide) (fun c1 => ?_) (fun c1 => ?_)
  ·
    have c1 : (inR (nI j) (vP v)) = true := c1
    refine r_aload_n C (dx dX7_best 8 rfl) rfl ?_
    refine r_cv (as := []) (st := []) C X I_X7_findBest l_X7_311 (x_X7_findBest_y M x0 h4 h6) (by decide) (Nat.le_of_ble_eq_true rfl) (by rw [M.al]; exact AL_pre id (fun _ => rfl)) (by first | exact List.prefix_rfl | (rw [al]; exact AL_pre id (fun _ => rfl))) rfl rfl (Nat.le_of_ble_eq_true rfl) rfl (dx dX7_best 9 rfl) ?_
    rintro _ hF ⟨rfl, MF, loF, xF⟩ kF
    refine rb_eq (b := true) (tgt := 31) C (dx dX7_best 10 rfl) (by decide) (fun c2 => ?_) (fun c2 => ?_)
    ·
      have c2 : true = false := c2
      exact absurd (rfl.symm.trans c2) (by decide)
    ·
      have c2 : true = true := c2
      refine r_aload_n C (dx dX7_best 11 rfl) rfl ?_
      refine g_X7_61 C (dx dX7_best 12 rfl) ?_
      refine r_iload_n C (dx dX7_best 13 rfl) rfl ?_
      refine r_iald (j := j) (x := xI hF (k + 31) j) C rfl rfl (by decide) rfl (by omega) (dx dX7_best 14 rfl) rfl ?_
      refine r_goto (tgt := 37) C (dx dX7_best 15 rfl) (by decide) ?_
      exact F.1 _ _ _ _ .int rfl rfl (dx dX7_best 19 rfl) kF ⟨⟨_, rfl⟩, MF, loF, xF⟩
  ·
    have c1 : (inR (nI j) (vP v)) = false := c1
    exact absurd ((inN (by omega) hj).symm.trans c1) (by decide)
set_option maxHeartbeats 4000000 in
theorem x_X7_bestDay_y {l : Launch} {h : Hp} {P : List Nat} {k z : Nat} {v : Vg} {g : Sg} {κ τ : Bool} {ω : Vg} {Bt : Nat → Int32} (M : Md h P k v g z κ τ) (x0 : XT h k κ ω Bt) (h4 : vN v ≤ 4) (h6 : vP v ≤ 6) : Ms l yX7_bestDay cX7_bestDay 1 (some .long) 17 [vr 7 k] h (AL P κ true) (fun r h' => PL r ∧ Md h' P k v g z κ true ∧ Lo k h h' ∧ XT h' k κ ω Bt) := by
  refine Ms.of (by decide) (Nat.le_of_ble_eq_true rfl) (fun G C X F => ?_)
  have C : Cx G cX7_bestDay 1 RX7 := C
  show Rr G 0 [(0, vr 7 k)] [] h
  have hm := M.1
  have hs := M.2.1
  have al := M.al
  have hk7 := M.hk
  have bP := hm.bP
  have bM := hm.bM
  have bN := hm.bN
  refine r_aload_n C (dx dX7_bestDay 0 rfl) rfl ?_
  refine r_cv (as := []) (st := []) C X I_X7_findBest l_X7_311 (x_X7_findBest_y M x0 h4 h6) (by decide) (Nat.le_of_ble_eq_true rfl) (by rw [M.al]; exact AL_pre id (fun _ => rfl)) (by first | exact List.prefix_rfl | (rw [al]; exact AL_pre id (fun _ => rfl))) rfl rfl (Nat.le_of_ble_eq_true rfl) rfl (dx dX7_bestDay 1 rfl) ?_
  rintro _ hF ⟨rfl, MF, loF, xF⟩ kF
  refine rb_eq (b := true) (tgt := 14) C (dx dX7_bestDay 2 rfl) (by decide) (fun c1 => ?_) (fun c1 => ?_)
  ·
    have c1 : true = false := c1
    exact absurd (rfl.symm.trans c1) (by decide)
  ·
    have c1 : true = true := c1
    refine r_aload_n C (dx dX7_bestDay 3 rfl) rfl ?_
    refine g_X7_302 C (dx dX7_bestDay 4 rfl) rfl ?_
    refine r_goto (tgt := 21) C (dx dX7_bestDay 5 rfl) (by decide) ?_
    exact F.2.1 _ _ _ _ rfl (dx dX7_bestDay 10 rfl) kF ⟨⟨_, rfl⟩, MF, loF, xF⟩
end
section
/-! PART 58: the reference, exactly: head, texts, the tape -/
/-- only village cells written, and not the fault's place -/
def Kq (k : Nat) (h h' : Hp) : Prop := Kp k h h' ∧ xI h' k 27 = xI h k 27
theorem Kq.rf {k : Nat} {h : Hp} : Kq k h h := ⟨Kp.rf, rfl⟩
theorem Kq.tr {k : Nat} {h h1 h2 : Hp} (a : Kq k h h1) (b : Kq k h1 h2) : Kq k h h2 := ⟨a.1.tr b.1, b.2.trans a.2⟩
theorem Kq.fr {k lo hi : Nat} {h h1 : Hp} (f : Fr lo hi h h1) (h1' : k + 17 ≤ lo) (h2 : hi ≤ k + 32) : Kq k h h1 := ⟨Kp.fr f h1' h2, by rw [(f k (by omega)).1]⟩
theorem Kq.f {k j : Nat} {h : Hp} {x : Int32} (hj : j ≠ 8 ∧ j ≠ 27) : Kq k h (sI h k j x) := ⟨Kp.f hj.1, by rw [sI_at, if_neg (Ne.symm hj.2)]⟩
theorem Kq.c {k b j : Nat} {h : Hp} {x : Int32} (h1 : k + 17 ≤ b) (h2 : b < k + 32) : Kq k h (sI h b j x) := ⟨Kp.c h1 h2, by rw [(oth_sI k (show k ≠ b by omega)).1]⟩
/-- what a text makes of a village; what is answered -/
def vlW (B : Nat → Int32) (z : Nat) (v : Vg) : Int32 × Tkn × Vg := riS B z 250 1 (stp B z 0) v
def vlA (B : Nat → Int32) (z : Nat) (v : Vg) : Int32 := if (vlW B z v).1 = -1 then -20 - nI (vlW B z v).2.1.2.1 else (vlW B z v).1
def vlV (B : Nat → Int32) (z : Nat) (v : Vg) : Vg := if (vlW B z v).1 = -1 then v else (vlW B z v).2.2
/-- a number's bytes behind the tape's -/
def fdB (Bt : Nat → Int32) (z : Nat) (x : Int32) (ν : Nat) : Nat → Nat → Int32
  | 0 => Bt
  | t + 1 => sf (fdB Bt z x ν t) (z + t) ((x >>> (nI (8 * (ν - 1 - t)) &&& 31)) &&& nI 255)
theorem fd_s {Bt : Nat → Int32} {z ν j : Nat} {x : Int32} (h : j + 1 ≤ ν) : fdB Bt z x ν (ν - j) = sf (fdB Bt z x ν (ν - (j + 1))) (z + ν - (j + 1)) ((x >>> (nI (8 * j) &&& 31)) &&& nI 255) := by
  rw [show ν - j = (ν - (j + 1)) + 1 by omega]
  simp only [fdB]
  rw [show z + (ν - (j + 1)) = z + ν - (j + 1) by omega, show ν - 1 - (ν - (j + 1)) = j by omega]
def feedB (Bt : Nat → Int32) (z : Nat) (x n : Int32) : Nat → Int32 := if feedZ z n = z then Bt else fdB Bt z x n.toNatClampNeg n.toNatClampNeg
def layV (v : Vg) (g : Sg) (s : Int32) : Vg := if nhA g s = 0 then hAR v (kdV g s).toNatClampNeg (byV g s).toNatClampNeg else v
theorem kd_hold {g : Sg} {σ η β : Nat} (hσ : σ < 8) (hη : η ≤ 5) (e : gT g σ = nI (10 + η)) (e2 : gY g σ = nI β) : kdV g (nI σ) = nI η := by
  unfold kdV
  rw [if_pos (sh_hold hσ hη e e2).2.1, clN (by omega), e, pk_sub (by omega), Nat.add_sub_cancel_left]
theorem lay_hold {v : Vg} {g : Sg} {σ η β : Nat} (hσ : σ < 8) (hη : η ≤ 5) (hβ : β < 100) (e : gT g σ = nI (10 + η)) (e2 : gY g σ = nI β) : layV v g (nI σ) = hAR v η β := by
  unfold layV
  rw [if_pos (nh_hold hσ hη e e2), kd_hold hσ hη e e2, (sh_hold hσ hη e e2).2.2.2.2.2.2.2, clN (by omega), clN (by omega)]
def Fx (h h9 : Hp) (k : Nat) (v : Vg) (g : Sg) (zz : Nat) (B : Nat → Int32) : Prop := Fk h h9 k v g zz ∧ ∀ i, i < 250 → xI h9 (k + 16) i = B i
theorem Fx.t {h h9 : Hp} {k j zz : Nat} {v : Vg} {g : Sg} {B : Nat → Int32} {x : Int32} (a : Fx h h9 k v g zz B) : Fx h (sI h9 (k + 16) j x) k v g zz (sf B j x) :=
  ⟨a.1.t, fun i hi => by rw [sI_at, a.2 i hi]; rfl⟩
theorem Fx.z {h h9 : Hp} {k zz z' : Nat} {v : Vg} {g : Sg} {B : Nat → Int32} (a : Fx h h9 k v g zz B) : Fx h (sI h9 k 8 (nI z')) k v g z' B :=
  ⟨a.1.z, fun i hi => by rw [sI_ne (by omega)]; exact a.2 i hi⟩
theorem Md.z0x {h : Hp} {P : List Nat} {k z : Nat} {v ω : Vg} {g : Sg} {κ τ : Bool} {Bt : Nat → Int32} (M : Md h P k v g z κ τ) (x0 : XT h k κ ω Bt) : XT (sI h k 8 (nI 0)) k κ ω Bt :=
  ⟨fun i hi => by rw [sI_ne (by omega)]; exact x0.1 i hi, fun e => by
    obtain ⟨c, e1, m⟩ := x0.2 e
    exact ⟨c, e1, m.fr (Fr.sI (lo := k) (hi := k + 1) (by omega) (by omega)) (by have := (M.kc e1).1; omega)⟩⟩
set_option maxHeartbeats 4000000 in
theorem q_refuse {l : Launch} {h : Hp} {k : Nat} {v : Vg} (hm : MilAt h k v) {x : Int32} {j : Nat} (e : -x = nI j) (hj : j < 8) : Ms l yX7_refuse cX7_refuse 2 (some .int) 1 [vr 7 k, vi x] h (xK h) (fun r h' => r = some (vi x) ∧ MilAt h' k v ∧ Kq k h h') := by
  refine Ms.of (by decide) (Nat.le_of_ble_eq_true rfl) (fun G C X F => ?_)
  have C : Cx G cX7_refuse 2 RX7 := C
  show Rr G 0 [(0, vr 7 k), (1, vi x)] [] h
  have bP := hm.bP
  have bM := hm.bM
  have bN := hm.bN
  refine r_aload_n C (dx dX7_refuse 0 rfl) rfl ?_
  refine g_X7_37 C (dx dX7_refuse 1 rfl) ?_
  refine r_iload_n C (dx dX7_refuse 2 rfl) rfl ?_
  refine r_ineg C (dx dX7_refuse 3 rfl) ?_
  refine r_dup2 C (dx dX7_refuse 4 rfl) ?_
  refine r_iald (j := (-x).toNatClampNeg) (x := xI h (k + 17) ((-x).toNatClampNeg)) C rfl rfl (by decide) (by rw [e, clN (by omega)]) (by rw [e, clN (by omega)]; exact hj) (dx dX7_refuse 5 rfl) rfl ?_
  refine r_iconst (v := nI 1) C (dx dX7_refuse 6 rfl) rfl ?_
  refine r_iadd C (dx dX7_refuse 7 rfl) ?_
  refine r_iast (j := (-x).toNatClampNeg) C rfl rfl (by decide) (by rw [e, clN (by omega)]) (by rw [e, clN (by omega)]; exact hj) (dx dX7_refuse 8 rfl) ?_
  have mh1 : MilAt (sI h (k + 17) ((-x).toNatClampNeg) ((xI h (k + 17) ((-x).toNatClampNeg)) + (nI 1))) k v := hm.fr (Fr.sI (lo := k + 17) (hi := k + 18) (by omega) (by omega)) (by omega)
  have ph1 : Kq k h (sI h (k + 17) ((-x).toNatClampNeg) ((xI h (k + 17) ((-x).toNatClampNeg)) + (nI 1))) := Kq.c (by omega) (by omega)
  have kh1 : xK (sI h (k + 17) ((-x).toNatClampNeg) ((xI h (k + 17) ((-x).toNatClampNeg)) + (nI 1))) = xK h := rfl
  generalize sI h (k + 17) ((-x).toNatClampNeg) ((xI h (k + 17) ((-x).toNatClampNeg)) + (nI 1)) = h1 at mh1 ph1 kh1 ⊢
  refine r_iload_n C (dx dX7_refuse 9 rfl) rfl ?_
  exact F.1 _ _ _ _ .int rfl rfl (dx dX7_refuse 10 rfl) kh1 ⟨rfl, by exact mh1, ph1⟩
set_option maxHeartbeats 4000000 in
theorem q_takeFrom {l : Launch} {h : Hp} {k : Nat} {v : Vg} (hm : MilAt h k v) {b : Nat} {w : Vg} (hw : MilAt h b w) (hd : k + 32 ≤ b ∨ b + 32 ≤ k) : Ms l yX7_takeFrom cX7_takeFrom 3 none 2 [vr 7 k, vr 7 b] h (xK h) (fun r h' => r = none ∧ MilAt h' k w ∧ Kq k h h') := by
  refine Ms.of (by decide) (Nat.le_of_ble_eq_true rfl) (fun G C X F => ?_)
  have C : Cx G cX7_takeFrom 3 RX7 := C
  show Rr G 0 [(0, vr 7 k), (1, vr 7 b)] [] h
  have bP := hm.bP
  have bM := hm.bM
  have bN := hm.bN
  have q0 : ¬ VC k b := by unfold VC; omega
  have q1 : un (VC k) (b + 18) (b + 31) := fun a h1 h2 => by unfold VC; omega
  refine r_aload_n C (dx dX7_takeFrom 0 rfl) rfl ?_
  refine r_aload_n C (dx dX7_takeFrom 1 rfl) rfl ?_
  refine g_X7_64 (x := nI (vP w)) C (dx dX7_takeFrom 2 rfl) hw.eP ?_
  refine p_X7_64 C (dx dX7_takeFrom 3 rfl) rfl rfl ?_
  have mh1 : MilAt (sI h k 10 (nI (vP w))) k (vsP v (vP w)) := hm.sP (n := vP w) hw.bP
  have ph1 : Kq k h (sI h k 10 (nI (vP w))) := Kq.f (by decide)
  have kh1 : xK (sI h k 10 (nI (vP w))) = xK h := rfl
  generalize sI h k 10 (nI (vP w)) = h1 at mh1 ph1 kh1 ⊢
  have bh1 : MilAt h1 b w := hw.ag ph1.1.2.2 q0 q1
  refine r_aload_n C (dx dX7_takeFrom 4 rfl) rfl ?_
  refine g_X7_40 C (dx dX7_takeFrom 5 rfl) ?_
  refine r_aload_n C (dx dX7_takeFrom 6 rfl) rfl ?_
  refine g_X7_40 C (dx dX7_takeFrom 7 rfl) ?_
  refine r_cs (as := [vr 20 (b + 18), vr 20 (k + 18)]) (st := []) C X I_X7_over l_X7_350 (c_over20 (show b + 18 ≠ k + 18 by omega)) (by decide) (Nat.le_of_ble_eq_true rfl) List.prefix_rfl (pfx_eq kh1) (Nat.le_of_ble_eq_true rfl) rfl (dx dX7_takeFrom 8 rfl) ?_
  rintro _ h2 ⟨rfl, qh2, fh2⟩ kkh2
  have mh2 : MilAt h2 k (vcp (vsP v (vP w)) 0 w) := mh1.o0 fh2 (fun i hi => (qh2 i hi).trans (bh1.e0 hi))
  have ph2 : Kq k h h2 := ph1.tr (Kq.fr fh2 (by omega) (by omega))
  have kh2 : xK h2 = xK h := (kkh2).trans kh1
  have bh2 : MilAt h2 b w := hw.ag ph2.1.2.2 q0 q1
  refine r_aload_n C (dx dX7_takeFrom 9 rfl) rfl ?_
  refine g_X7_43 C (dx dX7_takeFrom 10 rfl) ?_
  refine r_aload_n C (dx dX7_takeFrom 11 rfl) rfl ?_
  refine g_X7_43 C (dx dX7_takeFrom 12 rfl) ?_
  refine r_cs (as := [vr 20 (b + 19), vr 20 (k + 19)]) (st := []) C X I_X7_over l_X7_350 (c_over20 (show b + 19 ≠ k + 19 by omega)) (by decide) (Nat.le_of_ble_eq_true rfl) List.prefix_rfl (pfx_eq kh2) (Nat.le_of_ble_eq_true rfl) rfl (dx dX7_takeFrom 13 rfl) ?_
  rintro _ h3 ⟨rfl, qh3, fh3⟩ kkh3
  have mh3 : MilAt h3 k (vcp (vcp (vsP v (vP w)) 0 w) 1 w) := mh2.o1 fh3 (fun i hi => (qh3 i hi).trans (bh2.e1 hi))
  have ph3 : Kq k h h3 := ph2.tr (Kq.fr fh3 (by omega) (by omega))
  have kh3 : xK h3 = xK h := (kkh3).trans kh2
  have bh3 : MilAt h3 b w := hw.ag ph3.1.2.2 q0 q1
  refine r_aload_n C (dx dX7_takeFrom 14 rfl) rfl ?_
  refine r_aload_n C (dx dX7_takeFrom 15 rfl) rfl ?_
  refine g_X7_71 (x := nI (vM w)) C (dx dX7_takeFrom 16 rfl) bh3.eM ?_
  refine p_X7_71 C (dx dX7_takeFrom 17 rfl) rfl rfl ?_
  have mh4 : MilAt (sI h3 k 13 (nI (vM w))) k (vsM (vcp (vcp (vsP v (vP w)) 0 w) 1 w) (vM w)) := mh3.sM (n := vM w) hw.bM
  have ph4 : Kq k h (sI h3 k 13 (nI (vM w))) := ph3.tr (Kq.f (by decide))
  have kh4 : xK (sI h3 k 13 (nI (vM w))) = xK h := kh3
  generalize sI h3 k 13 (nI (vM w)) = h4 at mh4 ph4 kh4 ⊢
  have bh4 : MilAt h4 b w := hw.ag ph4.1.2.2 q0 q1
  refine r_aload_n C (dx dX7_takeFrom 18 rfl) rfl ?_
  refine g_X7_46 C (dx dX7_takeFrom 19 rfl) ?_
  refine r_aload_n C (dx dX7_takeFrom 20 rfl) rfl ?_
  refine g_X7_46 C (dx dX7_takeFrom 21 rfl) ?_
  refine r_cs (as := [vr 21 (b + 20), vr 21 (k + 20)]) (st := []) C X I_X7_over l_X7_350 (c_over21 (show b + 20 ≠ k + 20 by omega)) (by decide) (Nat.le_of_ble_eq_true rfl) List.prefix_rfl (pfx_eq kh4) (Nat.le_of_ble_eq_true rfl) rfl (dx dX7_takeFrom 22 rfl) ?_
  rintro _ h5 ⟨rfl, qh5, fh5⟩ kkh5
  have mh5 : MilAt h5 k (vcp (vsM (vcp (vcp (vsP v (vP w)) 0 w) 1 w) (vM w)) 2 w) := mh4.o2 fh5 (fun i hi => (qh5 i hi).trans (bh4.e2 hi))
  have ph5 : Kq k h h5 := ph4.tr (Kq.fr fh5 (by omega) (by omega))
  have kh5 : xK h5 = xK h := (kkh5).trans kh4
  have bh5 : MilAt h5 b w := hw.ag ph5.1.2.2 q0 q1
  refine r_aload_n C (dx dX7_takeFrom 23 rfl) rfl ?_
  refine g_X7_49 C (dx dX7_takeFrom 24 rfl) ?_
  refine r_aload_n C (dx dX7_takeFrom 25 rfl) rfl ?_
  refine g_X7_49 C (dx dX7_takeFrom 26 rfl) ?_
  refine r_cs (as := [vr 21 (b + 21), vr 21 (k + 21)]) (st := []) C X I_X7_over l_X7_350 (c_over21 (show b + 21 ≠ k + 21 by omega)) (by decide) (Nat.le_of_ble_eq_true rfl) List.prefix_rfl (pfx_eq kh5) (Nat.le_of_ble_eq_true rfl) rfl (dx dX7_takeFrom 27 rfl) ?_
  rintro _ h6 ⟨rfl, qh6, fh6⟩ kkh6
  have mh6 : MilAt h6 k (vcp (vcp (vsM (vcp (vcp (vsP v (vP w)) 0 w) 1 w) (vM w)) 2 w) 3 w) := mh5.o3 fh6 (fun i hi => (qh6 i hi).trans (bh5.e3 hi))
  have ph6 : Kq k h h6 := ph5.tr (Kq.fr fh6 (by omega) (by omega))
  have kh6 : xK h6 = xK h := (kkh6).trans kh5
  have bh6 : MilAt h6 b w := hw.ag ph6.1.2.2 q0 q1
  refine r_aload_n C (dx dX7_takeFrom 28 rfl) rfl ?_
  refine r_aload_n C (dx dX7_takeFrom 29 rfl) rfl ?_
  refine g_X7_74 (x := nI (vN w)) C (dx dX7_takeFrom 30 rfl) bh6.eN ?_
  refine p_X7_74 C (dx dX7_takeFrom 31 rfl) rfl rfl ?_
  have mh7 : MilAt (sI h6 k 16 (nI (vN w))) k (vsN (vcp (vcp (vsM (vcp (vcp (vsP v (vP w)) 0 w) 1 w) (vM w)) 2 w) 3 w) (vN w)) := mh6.sN (n := vN w) hw.bN
  have ph7 : Kq k h (sI h6 k 16 (nI (vN w))) := ph6.tr (Kq.f (by decide))
  have kh7 : xK (sI h6 k 16 (nI (vN w))) = xK h := kh6
  generalize sI h6 k 16 (nI (vN w)) = h7 at mh7 ph7 kh7 ⊢
  have bh7 : MilAt h7 b w := hw.ag ph7.1.2.2 q0 q1
  refine r_iconst (v := nI 0) C (dx dX7_takeFrom 32 rfl) rfl ?_
  refine r_istore_n (ls' := [(0, vr 7 k), (1, vr 7 b), (2, vi (nI 0))]) C (dx dX7_takeFrom 33 rfl) (by decide) [1, 2, 0] rfl ?_
  refine loopU (Φ := fun p => ∀ h9, MilAt h9 k (vrow (vsN (vcp (vcp (vsM (vcp (vcp (vsP v (vP w)) 0 w) 1 w) (vM w)) 2 w) 3 w) (vN w)) w p) → Kq k h h9 → xK h9 = xK h → Rr G 70 [(0, vr 7 k), (1, vr 7 b), (2, vi (nI p))] [] h9) (N := 8) ?_ ?_ 0 (by omega) _ mh7.r0 ph7 kh7
  ·
    intro h9 m9 p9 k9
    have b9 : MilAt h9 b w := hw.ag p9.1.2.2 q0 q1
    refine r_iload_n C (dx dX7_takeFrom 34 rfl) rfl ?_
    refine r_bipush (v := nI 8) C (dx dX7_takeFrom 35 rfl) rfl ?_
    refine rn_ge (a := 8) (b := 8) (tgt := 97) C (by omega) (by omega) (dx dX7_takeFrom 36 rfl) (by decide) (fun c8 => ?_) (fun c8 => ?_)
    · first
      | (omega; done)
      | (
          have c8 : 8 ≤ 8 := c8
          refine r_aload_n C (dx dX7_takeFrom 48 rfl) rfl ?_
          refine r_aload_n C (dx dX7_takeFrom 49 rfl) rfl ?_
          refine g_X7_339 (x := xI h9 b 18) C (dx dX7_takeFrom 50 rfl) rfl ?_
          refine p_X7_339 C (dx dX7_takeFrom 51 rfl) rfl rfl ?_
          have mh9 : MilAt (sI h9 k 18 (xI h9 b 18)) k (vrow (vsN (vcp (vcp (vsM (vcp (vcp (vsP v (vP w)) 0 w) 1 w) (vM w)) 2 w) 3 w) (vN w)) w 8) := m9.f (by decide) (by decide) (by decide) (by decide)
          have ph9 : Kq k h (sI h9 k 18 (xI h9 b 18)) := p9.tr (Kq.f (by decide))
          have kh9 : xK (sI h9 k 18 (xI h9 b 18)) = xK h := k9
          generalize sI h9 k 18 (xI h9 b 18) = h9 at mh9 ph9 kh9 ⊢
          have bh9 : MilAt h9 b w := hw.ag ph9.1.2.2 q0 q1
          refine r_aload_n C (dx dX7_takeFrom 52 rfl) rfl ?_
          refine r_aload_n C (dx dX7_takeFrom 53 rfl) rfl ?_
          refine g_X7_347 (x := xI h9 b 19) C (dx dX7_takeFrom 54 rfl) rfl ?_
          refine p_X7_347 C (dx dX7_takeFrom 55 rfl) rfl rfl ?_
          have mh10 : MilAt (sI h9 k 19 (xI h9 b 19)) k (vrow (vsN (vcp (vcp (vsM (vcp (vcp (vsP v (vP w)) 0 w) 1 w) (vM w)) 2 w) 3 w) (vN w)) w 8) := mh9.f (by decide) (by decide) (by decide) (by decide)
          have ph10 : Kq k h (sI h9 k 19 (xI h9 b 19)) := ph9.tr (Kq.f (by decide))
          have kh10 : xK (sI h9 k 19 (xI h9 b 19)) = xK h := kh9
          generalize sI h9 k 19 (xI h9 b 19) = h10 at mh10 ph10 kh10 ⊢
          have bh10 : MilAt h10 b w := hw.ag ph10.1.2.2 q0 q1
          refine r_aload_n C (dx dX7_takeFrom 56 rfl) rfl ?_
          refine r_aload_n C (dx dX7_takeFrom 57 rfl) rfl ?_
          refine g_X7_57 (x := vS w) C (dx dX7_takeFrom 58 rfl) bh10.eS ?_
          refine p_X7_57 C (dx dX7_takeFrom 59 rfl) rfl rfl ?_
          have mh11 : MilAt (sI h10 k 20 (vS w)) k (vsS (vrow (vsN (vcp (vcp (vsM (vcp (vcp (vsP v (vP w)) 0 w) 1 w) (vM w)) 2 w) 3 w) (vN w)) w 8) (vS w)) := mh10.sS (x := vS w)
          have ph11 : Kq k h (sI h10 k 20 (vS w)) := ph10.tr (Kq.f (by decide))
          have kh11 : xK (sI h10 k 20 (vS w)) = xK h := kh10
          generalize sI h10 k 20 (vS w) = h11 at mh11 ph11 kh11 ⊢
          have bh11 : MilAt h11 b w := hw.ag ph11.1.2.2 q0 q1
          exact F.2.2.1 _ _ _ rfl (dx dX7_takeFrom 60 rfl) kh11 ⟨rfl, mh11.to rfl rfl rfl rfl (fun _ => rfl) (fun _ => rfl) (fun _ => rfl) (fun _ => rfl) (fun o ho c hc => if_pos ⟨by omega, ho⟩), ph11⟩)
    · first
      | (omega; done)
  ·
    intro p hp ih h9 m9 p9 k9
    have b9 : MilAt h9 b w := hw.ag p9.1.2.2 q0 q1
    refine r_iload_n C (dx dX7_takeFrom 34 rfl) rfl ?_
    refine r_bipush (v := nI 8) C (dx dX7_takeFrom 35 rfl) rfl ?_
    refine rn_ge (a := p) (b := 8) (tgt := 97) C (by omega) (by omega) (dx dX7_takeFrom 36 rfl) (by decide) (fun c13 => ?_) (fun c13 => ?_)
    · first
      | (omega; done)
      | (
          have c13 : 8 ≤ p := c13
          refine r_aload_n C (dx dX7_takeFrom 48 rfl) rfl ?_
          refine r_aload_n C (dx dX7_takeFrom 49 rfl) rfl ?_
          refine g_X7_339 (x := xI h9 b 18) C (dx dX7_takeFrom 50 rfl) rfl ?_
          refine p_X7_339 C (dx dX7_takeFrom 51 rfl) rfl rfl ?_
          have mh14 : MilAt (sI h9 k 18 (xI h9 b 18)) k (vrow (vsN (vcp (vcp (vsM (vcp (vcp (vsP v (vP w)) 0 w) 1 w) (vM w)) 2 w) 3 w) (vN w)) w p) := m9.f (by decide) (by decide) (by decide) (by decide)
          have ph14 : Kq k h (sI h9 k 18 (xI h9 b 18)) := p9.tr (Kq.f (by decide))
          have kh14 : xK (sI h9 k 18 (xI h9 b 18)) = xK h := k9
          generalize sI h9 k 18 (xI h9 b 18) = h14 at mh14 ph14 kh14 ⊢
          have bh14 : MilAt h14 b w := hw.ag ph14.1.2.2 q0 q1
          refine r_aload_n C (dx dX7_takeFrom 52 rfl) rfl ?_
          refine r_aload_n C (dx dX7_takeFrom 53 rfl) rfl ?_
          refine g_X7_347 (x := xI h14 b 19) C (dx dX7_takeFrom 54 rfl) rfl ?_
          refine p_X7_347 C (dx dX7_takeFrom 55 rfl) rfl rfl ?_
          have mh15 : MilAt (sI h14 k 19 (xI h14 b 19)) k (vrow (vsN (vcp (vcp (vsM (vcp (vcp (vsP v (vP w)) 0 w) 1 w) (vM w)) 2 w) 3 w) (vN w)) w p) := mh14.f (by decide) (by decide) (by decide) (by decide)
          have ph15 : Kq k h (sI h14 k 19 (xI h14 b 19)) := ph14.tr (Kq.f (by decide))
          have kh15 : xK (sI h14 k 19 (xI h14 b 19)) = xK h := kh14
          generalize sI h14 k 19 (xI h14 b 19) = h15 at mh15 ph15 kh15 ⊢
          have bh15 : MilAt h15 b w := hw.ag ph15.1.2.2 q0 q1
          refine r_aload_n C (dx dX7_takeFrom 56 rfl) rfl ?_
          refine r_aload_n C (dx dX7_takeFrom 57 rfl) rfl ?_
          refine g_X7_57 (x := vS w) C (dx dX7_takeFrom 58 rfl) bh15.eS ?_
          refine p_X7_57 C (dx dX7_takeFrom 59 rfl) rfl rfl ?_
          have mh16 : MilAt (sI h15 k 20 (vS w)) k (vsS (vrow (vsN (vcp (vcp (vsM (vcp (vcp (vsP v (vP w)) 0 w) 1 w) (vM w)) 2 w) 3 w) (vN w)) w p) (vS w)) := mh15.sS (x := vS w)
          have ph16 : Kq k h (sI h15 k 20 (vS w)) := ph15.tr (Kq.f (by decide))
          have kh16 : xK (sI h15 k 20 (vS w)) = xK h := kh15
          generalize sI h15 k 20 (vS w) = h16 at mh16 ph16 kh16 ⊢
          have bh16 : MilAt h16 b w := hw.ag ph16.1.2.2 q0 q1
          exact F.2.2.1 _ _ _ rfl (dx dX7_takeFrom 60 rfl) kh16 ⟨rfl, mh16.to rfl rfl rfl rfl (fun _ => rfl) (fun _ => rfl) (fun _ => rfl) (fun _ => rfl) (fun o ho c hc => if_pos ⟨by omega, ho⟩), ph16⟩)
    · first
      | (omega; done)
      | (
          have c13 : p < 8 := c13
          refine r_aload_n C (dx dX7_takeFrom 37 rfl) rfl ?_
          refine g_X7_54 C (dx dX7_takeFrom 38 rfl) ?_
          refine r_iload_n C (dx dX7_takeFrom 39 rfl) rfl ?_
          refine r_aald4 (j := p) C rfl rfl (by decide) rfl (by omega) (dx dX7_takeFrom 40 rfl) ?_
          refine r_aload_n C (dx dX7_takeFrom 41 rfl) rfl ?_
          refine g_X7_54 C (dx dX7_takeFrom 42 rfl) ?_
          refine r_iload_n C (dx dX7_takeFrom 43 rfl) rfl ?_
          refine r_aald4 (j := p) C rfl rfl (by decide) rfl (by omega) (dx dX7_takeFrom 44 rfl) ?_
          refine r_cs (as := [vr 27 (b + 23 + p), vr 27 (k + 23 + p)]) (st := []) C X I_X7_over l_X7_350 (c_over27 (show b + 23 + p ≠ k + 23 + p by omega)) (by decide) (Nat.le_of_ble_eq_true rfl) List.prefix_rfl (pfx_eq k9) (Nat.le_of_ble_eq_true rfl) rfl (dx dX7_takeFrom 45 rfl) ?_
          rintro _ h17 ⟨rfl, qh17, fh17⟩ kkh17
          have mh17 : MilAt h17 k (vrow (vsN (vcp (vcp (vsM (vcp (vcp (vsP v (vP w)) 0 w) 1 w) (vM w)) 2 w) 3 w) (vN w)) w (p + 1)) := m9.rs fh17 (fun i hi => (qh17 i hi).trans (b9.eo (by omega) hi))
          have ph17 : Kq k h h17 := p9.tr (Kq.fr fh17 (by omega) (by omega))
          have kh17 : xK h17 = xK h := (kkh17).trans k9
          have bh17 : MilAt h17 b w := hw.ag ph17.1.2.2 q0 q1
          refine rn_iinc (a := p) (k := 1) (ls' := [(0, vr 7 k), (1, vr 7 b), (2, vi (nI (p + 1)))]) C (dx dX7_takeFrom 46 rfl) rfl rfl (by decide) [1, 2, 0] rfl ?_
          refine r_goto (tgt := 70) C (dx dX7_takeFrom 47 rfl) (by decide) ?_
          exact ih _ mh17 ph17 kh17)
set_option maxHeartbeats 4000000 in
theorem y_head {l : Launch} {h : Hp} {P : List Nat} {k z : Nat} {v : Vg} {g : Sg} {κ τ : Bool} {ω : Vg} {Bt : Nat → Int32} (M : Md h P k v g z κ τ) (x0 : XT h k κ ω Bt)  : Ms l yX7_head cX7_head 7 (some .int) 11 [vr 7 k] h (AL P κ (τ || hdB g 8)) (fun r h' => PI r ∧ Md h' P k v g z κ (τ || hdB g 8) ∧ Lo k h h' ∧ XT h' k κ ω Bt) := by
  refine Ms.of (by decide) (Nat.le_of_ble_eq_true rfl) (fun G C X F => ?_)
  have C : Cx G cX7_head 7 RX7 := C
  show Rr G 0 [(0, vr 7 k)] [] h
  have hm := M.1
  have hs := M.2.1
  have al := M.al
  have hk7 := M.hk
  have bP := hm.bP
  have bM := hm.bM
  have bN := hm.bN
  refine r_iconst (v := -1) C (dx dX7_head 0 rfl) rfl ?_
  refine r_istore_n (ls' := [(0, vr 7 k), (1, vi (-1))]) C (dx dX7_head 1 rfl) (by decide) [1, 0] rfl ?_
  refine r_lconst (v := 0) C (dx dX7_head 2 rfl) rfl ?_
  refine r_lstore_n (ls' := [(0, vr 7 k), (1, vi (-1)), (2, vl 0)]) C (dx dX7_head 3 rfl) (by decide) [1, 2, 0] rfl ?_
  refine r_iconst (v := nI 0) C (dx dX7_head 4 rfl) rfl ?_
  refine r_istore (ls' := [(0, vr 7 k), (1, vi (-1)), (2, vl 0), (4, vi (nI 0))]) C (dx dX7_head 5 rfl) (by decide) [1, 2, 3, 0] rfl ?_
  refine loopU (Φ := fun p => ∀ (x1 : Int32) (x2 : Int64) (h9 : Hp), Md h9 P k v g z κ (τ || hdB g p) → Lo k h h9 → XT h9 k κ ω Bt → xK h9 = AL P κ (τ || hdB g p) → Rr G 7 [(0, vr 7 k), (1, vi x1), (2, vl x2), (4, vi (nI p))] [] h9) (N := 8) ?_ ?_ 0 (by omega) _ _ _ (by rw [show hdB g 0 = false from rfl, Bool.or_false]; exact M) Lo.rf x0 (by rw [show hdB g 0 = false from rfl, Bool.or_false]; exact al)
  ·
    intro x1 x2 h9 M9 lo9 x9 k9
    have hs := M9.2.1
    refine r_iload C (dx dX7_head 6 rfl) rfl ?_
    refine r_bipush (v := nI 8) C (dx dX7_head 7 rfl) rfl ?_
    refine rn_ge (a := 8) (b := 8) (tgt := 57) C (by omega) (by omega) (dx dX7_head 8 rfl) (by decide) (fun c1 => ?_) (fun c1 => ?_)
    · first
      | (omega; done)
      | (
          have c1 : 8 ≤ 8 := c1
          refine r_iload_n C (dx dX7_head 32 rfl) rfl ?_
          refine r_iconst (v := -1) C (dx dX7_head 33 rfl) rfl ?_
          refine r_icmp_ne (tgt := 71) C (dx dX7_head 34 rfl) (by decide) (fun c2 => ?_) (fun c2 => ?_)
          ·
            have c2 : ¬ x1 = -1 := c2
            refine r_iload_n C (dx dX7_head 39 rfl) rfl ?_
            exact F.1 _ _ _ _ .int rfl rfl (dx dX7_head 40 rfl) k9 ⟨⟨_, rfl⟩, M9, lo9, x9⟩
          ·
            have c2 : x1 = -1 := c2
            refine r_aload_n C (dx dX7_head 35 rfl) rfl ?_
            refine r_bipush (v := -5) C (dx dX7_head 36 rfl) rfl ?_
            refine r_cv (as := [vi (-5)]) (st := []) C X I_X7_refuse l_X7_83 (q_refuse M9.1 (x := -5) (j := 5) (by decide) (by decide)) (by decide) (Nat.le_of_ble_eq_true rfl) List.prefix_rfl (pfx_eq k9) rfl rfl (Nat.le_of_ble_eq_true rfl) rfl (dx dX7_head 37 rfl) ?_
            rintro _ h3 ⟨rfl, mh3, qh3⟩ kkh3
            have Mh3 := M9.kp mh3 qh3.1 kkh3
            have xh3 := x9.kp M9 qh3.1
            have loh3 : Lo k h h3 := Lo.tr lo9 (Lo.fr (Fr.vc qh3.1) (Nat.le_refl _))
            have kh3 := kkh3.trans k9
            refine r_goto (tgt := 72) C (dx dX7_head 38 rfl) (by decide) ?_
            exact F.1 _ _ _ _ .int rfl rfl (dx dX7_head 40 rfl) kh3 ⟨⟨_, rfl⟩, Mh3, loh3, xh3⟩)
    · first
      | (omega; done)
  ·
    intro p hp ih x1 x2 h9 M9 lo9 x9 k9
    have hs := M9.2.1
    refine r_iload C (dx dX7_head 6 rfl) rfl ?_
    refine r_bipush (v := nI 8) C (dx dX7_head 7 rfl) rfl ?_
    refine rn_ge (a := p) (b := 8) (tgt := 57) C (by omega) (by omega) (dx dX7_head 8 rfl) (by decide) (fun c5 => ?_) (fun c5 => ?_)
    · first
      | (omega; done)
      | (
          have c5 : 8 ≤ p := c5
          refine r_iload_n C (dx dX7_head 32 rfl) rfl ?_
          refine r_iconst (v := -1) C (dx dX7_head 33 rfl) rfl ?_
          refine r_icmp_ne (tgt := 71) C (dx dX7_head 34 rfl) (by decide) (fun c6 => ?_) (fun c6 => ?_)
          ·
            have c6 : ¬ x1 = -1 := c6
            refine r_iload_n C (dx dX7_head 39 rfl) rfl ?_
            exact F.1 _ _ _ _ .int rfl rfl (dx dX7_head 40 rfl) k9 ⟨⟨_, rfl⟩, M9, lo9, x9⟩
          ·
            have c6 : x1 = -1 := c6
            refine r_aload_n C (dx dX7_head 35 rfl) rfl ?_
            refine r_bipush (v := -5) C (dx dX7_head 36 rfl) rfl ?_
            refine r_cv (as := [vi (-5)]) (st := []) C X I_X7_refuse l_X7_83 (q_refuse M9.1 (x := -5) (j := 5) (by decide) (by decide)) (by decide) (Nat.le_of_ble_eq_true rfl) List.prefix_rfl (pfx_eq k9) rfl rfl (Nat.le_of_ble_eq_true rfl) rfl (dx dX7_head 37 rfl) ?_
            rintro _ h7 ⟨rfl, mh7, qh7⟩ kkh7
            have Mh7 := M9.kp mh7 qh7.1 kkh7
            have xh7 := x9.kp M9 qh7.1
            have loh7 : Lo k h h7 := Lo.tr lo9 (Lo.fr (Fr.vc qh7.1) (Nat.le_refl _))
            have kh7 := kkh7.trans k9
            refine r_goto (tgt := 72) C (dx dX7_head 38 rfl) (by decide) ?_
            exact F.1 _ _ _ _ .int rfl rfl (dx dX7_head 40 rfl) kh7 ⟨⟨_, rfl⟩, Mh7, loh7, xh7⟩)
    · first
      | (omega; done)
      | (
          have c5 : p < 8 := c5
          rcases hs p hp with ⟨a11, a21⟩ | ⟨τ1, ν1, a11, a21, a31, a41, a51, a61, a71, a81⟩ | ⟨κ1, b1, a11, a21, a31, a41, a51, a61, a71, a81⟩
          ·
            obtain ⟨e01, e11, e21, e31, e41, e51, e61⟩ := sh_bare hp a21
            have hd : (τ || hdB g (p + 1)) = (τ || hdB g p) := by simp [hdB, e11]
            refine r_aload_n C (dx dX7_head 9 rfl) rfl ?_
            refine g_X7_7 C (dx dX7_head 10 rfl) ?_
            refine r_iload C (dx dX7_head 11 rfl) rfl ?_
            refine r_iald (j := p) (x := nI 0) C rfl rfl (by decide) rfl (by omega) (dx dX7_head 12 rfl) a11 ?_
            refine r_iconst (v := nI 2) C (dx dX7_head 13 rfl) rfl ?_
            refine rn_ne (a := 0) (b := 2) (tgt := 51) C (by omega) (by omega) (dx dX7_head 14 rfl) (by decide) (fun c8 => ?_) (fun c8 => ?_)
            · first
              | (omega; done)
              | (
                  have c8 : ¬ 0 = 2 := c8
                  refine rn_iinc (a := p) (k := 1) (ls' := [(0, vr 7 k), (1, vi x1), (2, vl x2), (4, vi (nI (p + 1)))]) C (dx dX7_head 30 rfl) rfl rfl (by decide) [1, 2, 3, 0] rfl ?_
                  refine r_goto (tgt := 7) C (dx dX7_head 31 rfl) (by decide) ?_
                  exact ih x1 x2 _ (by rw [hd]; exact M9) lo9 x9 (by rw [hd]; exact k9))
            · first
              | (omega; done)
              | (
                  have c8 : 0 = 2 := c8
                  refine r_aload_n C (dx dX7_head 15 rfl) rfl ?_
                  refine r_iload C (dx dX7_head 16 rfl) rfl ?_
                  refine r_cv (as := [vi (nI p)]) (st := []) C X I_X7_wouldBy l_X7_299 (x_X7_wouldBy_y M9 x9 hp ⟨a11, a21⟩ a31 a71 a81) (by decide) (Nat.le_of_ble_eq_true rfl) (by rw [M9.al]; exact AL_pre id (fun _ => rfl)) (by rw [hT]; exact List.prefix_rfl) rfl rfl (Nat.le_of_ble_eq_true rfl) rfl (dx dX7_head 17 rfl) ?_
                  rintro _ hF ⟨⟨yF, rfl⟩, MF, loF9, xF⟩ kF
                  have loF := lo9.tr loF9
                  refine r_lstore (ls' := [(0, vr 7 k), (1, vi x1), (2, vl x2), (4, vi (nI p)), (5, vl yF)]) C (dx dX7_head 18 rfl) (by decide) [1, 2, 3, 4, 0] rfl ?_
                  refine r_iload_n C (dx dX7_head 19 rfl) rfl ?_
                  refine r_iconst (v := -1) C (dx dX7_head 20 rfl) rfl ?_
                  refine r_icmp_eq (tgt := 45) C (dx dX7_head 21 rfl) (by decide) (fun c9 => ?_) (fun c9 => ?_)
                  ·
                    have c9 : x1 = -1 := c9
                    refine r_iload C (dx dX7_head 26 rfl) rfl ?_
                    refine r_istore_n (ls' := [(0, vr 7 k), (1, vi (nI p)), (2, vl x2), (4, vi (nI p)), (5, vl yF)]) C (dx dX7_head 27 rfl) (by decide) [1, 0, 2, 3, 4] rfl ?_
                    refine r_lload C (dx dX7_head 28 rfl) rfl ?_
                    refine r_lstore_n (ls' := [(0, vr 7 k), (1, vi (nI p)), (2, vl yF), (4, vi (nI p)), (5, vl yF)]) C (dx dX7_head 29 rfl) (by decide) [1, 2, 0, 3, 4] rfl ?_
                    refine rn_iinc (a := p) (k := 1) (ls' := [(0, vr 7 k), (1, vi (nI p)), (2, vl yF), (4, vi (nI (p + 1))), (5, vl yF)]) C (dx dX7_head 30 rfl) rfl rfl (by decide) [1, 2, 3, 0, 4] rfl ?_
                    refine r_goto (tgt := 7) C (dx dX7_head 31 rfl) (by decide) ?_
                    refine r_weak C [0, 1, 2, 3] rfl ?_
                    exact ih (nI p) yF _ (by rw [hd]; exact MF) loF xF (by rw [hd]; exact kF)
                  ·
                    have c9 : ¬ x1 = -1 := c9
                    refine r_lload C (dx dX7_head 22 rfl) rfl ?_
                    refine r_lload_n C (dx dX7_head 23 rfl) rfl ?_
                    refine r_lcmp C (dx dX7_head 24 rfl) ?_
                    refine r_if_le (tgt := 51) C (dx dX7_head 25 rfl) (by decide) (fun c10 => ?_) (fun c10 => ?_)
                    ·
                      have c10 : yF ≤ x2 := (lg_cmp_le _ _).mp c10
                      refine rn_iinc (a := p) (k := 1) (ls' := [(0, vr 7 k), (1, vi x1), (2, vl x2), (4, vi (nI (p + 1))), (5, vl yF)]) C (dx dX7_head 30 rfl) rfl rfl (by decide) [1, 2, 3, 0, 4] rfl ?_
                      refine r_goto (tgt := 7) C (dx dX7_head 31 rfl) (by decide) ?_
                      refine r_weak C [0, 1, 2, 3] rfl ?_
                      exact ih x1 x2 _ (by rw [hd]; exact MF) loF xF (by rw [hd]; exact kF)
                    ·
                      have c10 : ¬ (yF ≤ x2) := fun q => c10 ((lg_cmp_le _ _).mpr q)
                      refine r_iload C (dx dX7_head 26 rfl) rfl ?_
                      refine r_istore_n (ls' := [(0, vr 7 k), (1, vi (nI p)), (2, vl x2), (4, vi (nI p)), (5, vl yF)]) C (dx dX7_head 27 rfl) (by decide) [1, 0, 2, 3, 4] rfl ?_
                      refine r_lload C (dx dX7_head 28 rfl) rfl ?_
                      refine r_lstore_n (ls' := [(0, vr 7 k), (1, vi (nI p)), (2, vl yF), (4, vi (nI p)), (5, vl yF)]) C (dx dX7_head 29 rfl) (by decide) [1, 2, 0, 3, 4] rfl ?_
                      refine rn_iinc (a := p) (k := 1) (ls' := [(0, vr 7 k), (1, vi (nI p)), (2, vl yF), (4, vi (nI (p + 1))), (5, vl yF)]) C (dx dX7_head 30 rfl) rfl rfl (by decide) [1, 2, 3, 0, 4] rfl ?_
                      refine r_goto (tgt := 7) C (dx dX7_head 31 rfl) (by decide) ?_
                      refine r_weak C [0, 1, 2, 3] rfl ?_
                      exact ih (nI p) yF _ (by rw [hd]; exact MF) loF xF (by rw [hd]; exact kF))
          ·
            obtain ⟨e01, e11, e21, e31, e41, e51, e61⟩ := sh_row hp a11 a61 a71
            have hd : (τ || hdB g (p + 1)) = (τ || hdB g p) := by simp [hdB, e11]
            refine r_aload_n C (dx dX7_head 9 rfl) rfl ?_
            refine g_X7_7 C (dx dX7_head 10 rfl) ?_
            refine r_iload C (dx dX7_head 11 rfl) rfl ?_
            refine r_iald (j := p) (x := nI 1) C rfl rfl (by decide) rfl (by omega) (dx dX7_head 12 rfl) a31 ?_
            refine r_iconst (v := nI 2) C (dx dX7_head 13 rfl) rfl ?_
            refine rn_ne (a := 1) (b := 2) (tgt := 51) C (by omega) (by omega) (dx dX7_head 14 rfl) (by decide) (fun c11 => ?_) (fun c11 => ?_)
            · first
              | (omega; done)
              | (
                  have c11 : ¬ 1 = 2 := c11
                  refine rn_iinc (a := p) (k := 1) (ls' := [(0, vr 7 k), (1, vi x1), (2, vl x2), (4, vi (nI (p + 1)))]) C (dx dX7_head 30 rfl) rfl rfl (by decide) [1, 2, 3, 0] rfl ?_
                  refine r_goto (tgt := 7) C (dx dX7_head 31 rfl) (by decide) ?_
                  exact ih x1 x2 _ (by rw [hd]; exact M9) lo9 x9 (by rw [hd]; exact k9))
            · first
              | (omega; done)
              | (
                  have c11 : 1 = 2 := c11
                  refine r_aload_n C (dx dX7_head 15 rfl) rfl ?_
                  refine r_iload C (dx dX7_head 16 rfl) rfl ?_
                  refine r_cv (as := [vi (nI p)]) (st := []) C X I_X7_wouldBy l_X7_299 (x_X7_wouldBy_y M9 x9 hp ⟨a11, a21⟩ a31 a71 a81) (by decide) (Nat.le_of_ble_eq_true rfl) (by rw [M9.al]; exact AL_pre id (fun _ => rfl)) (by rw [hT]; exact List.prefix_rfl) rfl rfl (Nat.le_of_ble_eq_true rfl) rfl (dx dX7_head 17 rfl) ?_
                  rintro _ hF ⟨⟨yF, rfl⟩, MF, loF9, xF⟩ kF
                  have loF := lo9.tr loF9
                  refine r_lstore (ls' := [(0, vr 7 k), (1, vi x1), (2, vl x2), (4, vi (nI p)), (5, vl yF)]) C (dx dX7_head 18 rfl) (by decide) [1, 2, 3, 4, 0] rfl ?_
                  refine r_iload_n C (dx dX7_head 19 rfl) rfl ?_
                  refine r_iconst (v := -1) C (dx dX7_head 20 rfl) rfl ?_
                  refine r_icmp_eq (tgt := 45) C (dx dX7_head 21 rfl) (by decide) (fun c12 => ?_) (fun c12 => ?_)
                  ·
                    have c12 : x1 = -1 := c12
                    refine r_iload C (dx dX7_head 26 rfl) rfl ?_
                    refine r_istore_n (ls' := [(0, vr 7 k), (1, vi (nI p)), (2, vl x2), (4, vi (nI p)), (5, vl yF)]) C (dx dX7_head 27 rfl) (by decide) [1, 0, 2, 3, 4] rfl ?_
                    refine r_lload C (dx dX7_head 28 rfl) rfl ?_
                    refine r_lstore_n (ls' := [(0, vr 7 k), (1, vi (nI p)), (2, vl yF), (4, vi (nI p)), (5, vl yF)]) C (dx dX7_head 29 rfl) (by decide) [1, 2, 0, 3, 4] rfl ?_
                    refine rn_iinc (a := p) (k := 1) (ls' := [(0, vr 7 k), (1, vi (nI p)), (2, vl yF), (4, vi (nI (p + 1))), (5, vl yF)]) C (dx dX7_head 30 rfl) rfl rfl (by decide) [1, 2, 3, 0, 4] rfl ?_
                    refine r_goto (tgt := 7) C (dx dX7_head 31 rfl) (by decide) ?_
                    refine r_weak C [0, 1, 2, 3] rfl ?_
                    exact ih (nI p) yF _ (by rw [hd]; exact MF) loF xF (by rw [hd]; exact kF)
                  ·
                    have c12 : ¬ x1 = -1 := c12
                    refine r_lload C (dx dX7_head 22 rfl) rfl ?_
                    refine r_lload_n C (dx dX7_head 23 rfl) rfl ?_
                    refine r_lcmp C (dx dX7_head 24 rfl) ?_
                    refine r_if_le (tgt := 51) C (dx dX7_head 25 rfl) (by decide) (fun c13 => ?_) (fun c13 => ?_)
                    ·
                      have c13 : yF ≤ x2 := (lg_cmp_le _ _).mp c13
                      refine rn_iinc (a := p) (k := 1) (ls' := [(0, vr 7 k), (1, vi x1), (2, vl x2), (4, vi (nI (p + 1))), (5, vl yF)]) C (dx dX7_head 30 rfl) rfl rfl (by decide) [1, 2, 3, 0, 4] rfl ?_
                      refine r_goto (tgt := 7) C (dx dX7_head 31 rfl) (by decide) ?_
                      refine r_weak C [0, 1, 2, 3] rfl ?_
                      exact ih x1 x2 _ (by rw [hd]; exact MF) loF xF (by rw [hd]; exact kF)
                    ·
                      have c13 : ¬ (yF ≤ x2) := fun q => c13 ((lg_cmp_le _ _).mpr q)
                      refine r_iload C (dx dX7_head 26 rfl) rfl ?_
                      refine r_istore_n (ls' := [(0, vr 7 k), (1, vi (nI p)), (2, vl x2), (4, vi (nI p)), (5, vl yF)]) C (dx dX7_head 27 rfl) (by decide) [1, 0, 2, 3, 4] rfl ?_
                      refine r_lload C (dx dX7_head 28 rfl) rfl ?_
                      refine r_lstore_n (ls' := [(0, vr 7 k), (1, vi (nI p)), (2, vl yF), (4, vi (nI p)), (5, vl yF)]) C (dx dX7_head 29 rfl) (by decide) [1, 2, 0, 3, 4] rfl ?_
                      refine rn_iinc (a := p) (k := 1) (ls' := [(0, vr 7 k), (1, vi (nI p)), (2, vl yF), (4, vi (nI (p + 1))), (5, vl yF)]) C (dx dX7_head 30 rfl) rfl rfl (by decide) [1, 2, 3, 0, 4] rfl ?_
                      refine r_goto (tgt := 7) C (dx dX7_head 31 rfl) (by decide) ?_
                      refine r_weak C [0, 1, 2, 3] rfl ?_
                      exact ih (nI p) yF _ (by rw [hd]; exact MF) loF xF (by rw [hd]; exact kF))
          ·
            obtain ⟨e01, e11, e21, e31, e41, e51, e61, e71⟩ := sh_hold hp a21 a71 a81
            have hd : (τ || hdB g (p + 1)) = true := by simp [hdB, e11]
            have hT : (τ || hdB g 8) = true := by rw [hd_all e11 8 hp, Bool.or_true]
            refine r_aload_n C (dx dX7_head 9 rfl) rfl ?_
            refine g_X7_7 C (dx dX7_head 10 rfl) ?_
            refine r_iload C (dx dX7_head 11 rfl) rfl ?_
            refine r_iald (j := p) (x := nI 2) C rfl rfl (by decide) rfl (by omega) (dx dX7_head 12 rfl) a41 ?_
            refine r_iconst (v := nI 2) C (dx dX7_head 13 rfl) rfl ?_
            refine rn_ne (a := 2) (b := 2) (tgt := 51) C (by omega) (by omega) (dx dX7_head 14 rfl) (by decide) (fun c14 => ?_) (fun c14 => ?_)
            · first
              | (omega; done)
              | (
                  have c14 : ¬ 2 = 2 := c14
                  refine rn_iinc (a := p) (k := 1) (ls' := [(0, vr 7 k), (1, vi x1), (2, vl x2), (4, vi (nI (p + 1)))]) C (dx dX7_head 30 rfl) rfl rfl (by decide) [1, 2, 3, 0] rfl ?_
                  refine r_goto (tgt := 7) C (dx dX7_head 31 rfl) (by decide) ?_
                  exact ih x1 x2 _ (by rw [hd]; exact M9) lo9 x9 (by rw [hd]; exact k9))
            · first
              | (omega; done)
              | (
                  have c14 : 2 = 2 := c14
                  refine r_aload_n C (dx dX7_head 15 rfl) rfl ?_
                  refine r_iload C (dx dX7_head 16 rfl) rfl ?_
                  refine r_cv (as := [vi (nI p)]) (st := []) C X I_X7_wouldBy l_X7_299 (x_X7_wouldBy_y M9 x9 hp ⟨a11, a21⟩ a31 a71 a81) (by decide) (Nat.le_of_ble_eq_true rfl) (by rw [M9.al]; exact AL_pre id (fun _ => rfl)) (by rw [hT]; exact List.prefix_rfl) rfl rfl (Nat.le_of_ble_eq_true rfl) rfl (dx dX7_head 17 rfl) ?_
                  rintro _ hF ⟨⟨yF, rfl⟩, MF, loF9, xF⟩ kF
                  have loF := lo9.tr loF9
                  refine r_lstore (ls' := [(0, vr 7 k), (1, vi x1), (2, vl x2), (4, vi (nI p)), (5, vl yF)]) C (dx dX7_head 18 rfl) (by decide) [1, 2, 3, 4, 0] rfl ?_
                  refine r_iload_n C (dx dX7_head 19 rfl) rfl ?_
                  refine r_iconst (v := -1) C (dx dX7_head 20 rfl) rfl ?_
                  refine r_icmp_eq (tgt := 45) C (dx dX7_head 21 rfl) (by decide) (fun c15 => ?_) (fun c15 => ?_)
                  ·
                    have c15 : x1 = -1 := c15
                    refine r_iload C (dx dX7_head 26 rfl) rfl ?_
                    refine r_istore_n (ls' := [(0, vr 7 k), (1, vi (nI p)), (2, vl x2), (4, vi (nI p)), (5, vl yF)]) C (dx dX7_head 27 rfl) (by decide) [1, 0, 2, 3, 4] rfl ?_
                    refine r_lload C (dx dX7_head 28 rfl) rfl ?_
                    refine r_lstore_n (ls' := [(0, vr 7 k), (1, vi (nI p)), (2, vl yF), (4, vi (nI p)), (5, vl yF)]) C (dx dX7_head 29 rfl) (by decide) [1, 2, 0, 3, 4] rfl ?_
                    refine rn_iinc (a := p) (k := 1) (ls' := [(0, vr 7 k), (1, vi (nI p)), (2, vl yF), (4, vi (nI (p + 1))), (5, vl yF)]) C (dx dX7_head 30 rfl) rfl rfl (by decide) [1, 2, 3, 0, 4] rfl ?_
                    refine r_goto (tgt := 7) C (dx dX7_head 31 rfl) (by decide) ?_
                    refine r_weak C [0, 1, 2, 3] rfl ?_
                    exact ih (nI p) yF _ (by rw [hd]; exact MF) loF xF (by rw [hd]; exact kF)
                  ·
                    have c15 : ¬ x1 = -1 := c15
                    refine r_lload C (dx dX7_head 22 rfl) rfl ?_
                    refine r_lload_n C (dx dX7_head 23 rfl) rfl ?_
                    refine r_lcmp C (dx dX7_head 24 rfl) ?_
                    refine r_if_le (tgt := 51) C (dx dX7_head 25 rfl) (by decide) (fun c16 => ?_) (fun c16 => ?_)
                    ·
                      have c16 : yF ≤ x2 := (lg_cmp_le _ _).mp c16
                      refine rn_iinc (a := p) (k := 1) (ls' := [(0, vr 7 k), (1, vi x1), (2, vl x2), (4, vi (nI (p + 1))), (5, vl yF)]) C (dx dX7_head 30 rfl) rfl rfl (by decide) [1, 2, 3, 0, 4] rfl ?_
                      refine r_goto (tgt := 7) C (dx dX7_head 31 rfl) (by decide) ?_
                      refine r_weak C [0, 1, 2, 3] rfl ?_
                      exact ih x1 x2 _ (by rw [hd]; exact MF) loF xF (by rw [hd]; exact kF)
                    ·
                      have c16 : ¬ (yF ≤ x2) := fun q => c16 ((lg_cmp_le _ _).mpr q)
                      refine r_iload C (dx dX7_head 26 rfl) rfl ?_
                      refine r_istore_n (ls' := [(0, vr 7 k), (1, vi (nI p)), (2, vl x2), (4, vi (nI p)), (5, vl yF)]) C (dx dX7_head 27 rfl) (by decide) [1, 0, 2, 3, 4] rfl ?_
                      refine r_lload C (dx dX7_head 28 rfl) rfl ?_
                      refine r_lstore_n (ls' := [(0, vr 7 k), (1, vi (nI p)), (2, vl yF), (4, vi (nI p)), (5, vl yF)]) C (dx dX7_head 29 rfl) (by decide) [1, 2, 0, 3, 4] rfl ?_
                      refine rn_iinc (a := p) (k := 1) (ls' := [(0, vr 7 k), (1, vi (nI p)), (2, vl yF), (4, vi (nI (p + 1))), (5, vl yF)]) C (dx dX7_head 30 rfl) rfl rfl (by decide) [1, 2, 3, 0, 4] rfl ?_
                      refine r_goto (tgt := 7) C (dx dX7_head 31 rfl) (by decide) ?_
                      refine r_weak C [0, 1, 2, 3] rfl ?_
                      exact ih (nI p) yF _ (by rw [hd]; exact MF) loF xF (by rw [hd]; exact kF)))
set_option maxHeartbeats 4000000 in
theorem y_village {l : Launch} {h : Hp} {P : List Nat} {k z : Nat} {v : Vg} {g : Sg} {κ τ : Bool} {ω : Vg} {Bt : Nat → Int32} (M : Md h P k v g z κ τ) (x0 : XT h k κ ω Bt)  : Ms l yX7_village cX7_village 3 (some .int) 12 [vr 7 k] h (AL P κ true) (fun r h' => r = some (vi (vlA Bt z v)) ∧ Md h' P k (vlV Bt z v) g 0 κ true ∧ Lo k h h' ∧ XT h' k κ ω Bt) := by
  refine Ms.of (by decide) (Nat.le_of_ble_eq_true rfl) (fun G C X F => ?_)
  have C : Cx G cX7_village 3 RX7 := C
  show Rr G 0 [(0, vr 7 k)] [] h
  have hm := M.1
  have hs := M.2.1
  have al := M.al
  have hk7 := M.hk
  have bP := hm.bP
  have bM := hm.bM
  have bN := hm.bN
  refine r_aload_n C (dx dX7_village 0 rfl) rfl ?_
  refine r_cv (as := []) (st := []) C X I_X7_fresh l_X7_102 (e_fresh M x0) (by decide) (Nat.le_of_ble_eq_true rfl) (by rw [M.al]; exact AL_pre id (fun _ => rfl)) (by first | exact List.prefix_rfl | (rw [al]; exact AL_pre id (fun _ => rfl))) rfl rfl (Nat.le_of_ble_eq_true rfl) rfl (dx dX7_village 1 rfl) ?_
  rintro _ hF ⟨b, rfl, ebF, BF, MF, hb, hlF, loF, xF⟩ kF
  refine r_astore_n (ls' := [(0, vr 7 k), (1, vr 7 b)]) C (dx dX7_village 2 rfl) (by decide) [1, 0] rfl ?_
  refine r_aload_n C (dx dX7_village 3 rfl) rfl ?_
  refine r_cv (as := []) (st := []) C X I_X7_readAll l_X7_234 (e_readAll MF.1 MF.e8 MF.bz (fun i hi => xF.1 i hi)) (by decide) (Nat.le_of_ble_eq_true rfl) List.prefix_rfl (pfx_eq kF) rfl rfl (Nat.le_of_ble_eq_true rfl) rfl (dx dX7_village 4 rfl) ?_
  rintro _ h1 ⟨bh1, rfl, gh1⟩ kkh1
  have qh1 : Kp k hF h1 := gh1.2.2.2.2.1
  have Bh1 := BF.fr (Fr.vc qh1) (by omega)
  have xh1 := xF.kp MF qh1
  have loh1 : Lo k h h1 := loF.tr (Lo.fr (Fr.vc qh1) (Nat.le_refl _))
  have kh1 := kkh1.trans kF
  have dh1 : bh1 = decide (¬ (vlW Bt z v).1 = -1) := gh1.1
  rcases Bool.eq_false_or_eq_true bh1 with cb | cb
  ·
    obtain ⟨mh1, wh1⟩ := gh1.2.2.1 cb
    have W9 : ¬ (vlW Bt z v).1 = -1 := of_decide_eq_true (dh1.symm.trans cb)
    have Mh1 : Md h1 P k ((vlW Bt z v).2.2) g z κ true := MF.kp mh1 qh1 kkh1
    rw [cb]
    refine r_istore_n (ls' := [(0, vr 7 k), (1, vr 7 b), (2, vi (b2i true))]) C (dx dX7_village 5 rfl) (by decide) [1, 2, 0] rfl ?_
    refine r_aload_n C (dx dX7_village 6 rfl) rfl ?_
    refine r_iconst (v := nI 0) C (dx dX7_village 7 rfl) rfl ?_
    refine p_X7_138 C (dx dX7_village 8 rfl) rfl rfl ?_
    have Mh2 := Mh1.z0
    have xh2 := Mh1.z0x xh1
    have Bh2 : MilAt (sI h1 k 8 (nI 0)) b v := Bh1.fr (Fr.sI (lo := k) (hi := k + 1) (by omega) (by omega)) (by omega)
    have loh2 : Lo k h (sI h1 k 8 (nI 0)) := loh1.tr (Lo.sI (Nat.le_refl _))
    have kh2 : xK (sI h1 k 8 (nI 0)) = AL P κ true := kh1
    have fh2 : xI (sI h1 k 8 (nI 0)) k 29 = (vlW Bt z v).1 := by rw [sI_at, if_neg (by decide)]; exact wh1
    generalize sI h1 k 8 (nI 0) = h2 at Mh2 Bh2 loh2 kh2 xh2 fh2 ⊢
    refine r_iload_n C (dx dX7_village 9 rfl) rfl ?_
    refine rb_ne (b := true) (tgt := 39) C (dx dX7_village 10 rfl) (by decide) (fun c3 => ?_) (fun c3 => ?_)
    ·
      have c3 : true = true := c3
      refine r_aload_n C (dx dX7_village 23 rfl) rfl ?_
      refine g_X7_228 (x := (vlW Bt z v).1) C (dx dX7_village 24 rfl) fh2 ?_
      have eA : vlA Bt z v = (vlW Bt z v).1 := by unfold vlA; rw [if_neg W9]
      have eV : vlV Bt z v = (vlW Bt z v).2.2 := by unfold vlV; rw [if_neg W9]
      exact F.1 _ _ _ _ .int rfl rfl (dx dX7_village 25 rfl) kh2 ⟨by rw [eA], by rw [eV]; exact Mh2, loh2, xh2⟩
    · exact absurd c3 (by decide)
  ·
    obtain ⟨vh1, mh1⟩ := gh1.2.1
    have wh1 : xI h1 k 27 = nI (vlW Bt z v).2.1.2.1 := gh1.2.2.2.1 cb
    have W9 : (vlW Bt z v).1 = -1 := Classical.not_not.mp (of_decide_eq_false (dh1.symm.trans cb))
    have Mh1 : Md h1 P k vh1 g z κ true := MF.kp mh1 qh1 kkh1
    rw [cb]
    refine r_istore_n (ls' := [(0, vr 7 k), (1, vr 7 b), (2, vi (b2i false))]) C (dx dX7_village 5 rfl) (by decide) [1, 2, 0] rfl ?_
    refine r_aload_n C (dx dX7_village 6 rfl) rfl ?_
    refine r_iconst (v := nI 0) C (dx dX7_village 7 rfl) rfl ?_
    refine p_X7_138 C (dx dX7_village 8 rfl) rfl rfl ?_
    have Mh4 := Mh1.z0
    have xh4 := Mh1.z0x xh1
    have Bh4 : MilAt (sI h1 k 8 (nI 0)) b v := Bh1.fr (Fr.sI (lo := k) (hi := k + 1) (by omega) (by omega)) (by omega)
    have loh4 : Lo k h (sI h1 k 8 (nI 0)) := loh1.tr (Lo.sI (Nat.le_refl _))
    have kh4 : xK (sI h1 k 8 (nI 0)) = AL P κ true := kh1
    have fh4 : xI (sI h1 k 8 (nI 0)) k 27 = nI (vlW Bt z v).2.1.2.1 := by rw [sI_at, if_neg (by decide)]; exact wh1
    generalize sI h1 k 8 (nI 0) = h4 at Mh4 Bh4 loh4 kh4 xh4 fh4 ⊢
    refine r_iload_n C (dx dX7_village 9 rfl) rfl ?_
    refine rb_ne (b := false) (tgt := 39) C (dx dX7_village 10 rfl) (by decide) (fun c5 => ?_) (fun c5 => ?_)
    · exact absurd c5 (by decide)
    ·
      have c5 : false = false := c5
      refine r_aload_n C (dx dX7_village 11 rfl) rfl ?_
      refine r_aload_n C (dx dX7_village 12 rfl) rfl ?_
      refine r_cv (as := [vr 7 b]) (st := []) C X I_X7_takeFrom l_X7_237 (q_takeFrom Mh4.1 Bh4 (by omega)) (by decide) (Nat.le_of_ble_eq_true rfl) List.prefix_rfl (pfx_eq kh4) rfl rfl (Nat.le_of_ble_eq_true rfl) rfl (dx dX7_village 13 rfl) ?_
      rintro _ h6 ⟨rfl, mh6, qh6⟩ kkh6
      have Mh6 := Mh4.kp mh6 qh6.1 kkh6
      have xh6 := xh4.kp Mh4 qh6.1
      have fh6 := qh6.2.trans fh4
      have loh6 : Lo k h h6 := loh4.tr (Lo.fr (Fr.vc qh6.1) (Nat.le_refl _))
      have kh6 := kkh6.trans kh4
      refine r_aload_n C (dx dX7_village 14 rfl) rfl ?_
      refine r_bipush (v := -2) C (dx dX7_village 15 rfl) rfl ?_
      refine r_cv (as := [vi (-2)]) (st := []) C X I_X7_refuse l_X7_83 (q_refuse Mh6.1 (x := -2) (j := 2) (by decide) (by decide)) (by decide) (Nat.le_of_ble_eq_true rfl) List.prefix_rfl (pfx_eq kh6) rfl rfl (Nat.le_of_ble_eq_true rfl) rfl (dx dX7_village 16 rfl) ?_
      rintro _ h7 ⟨rfl, mh7, qh7⟩ kkh7
      have Mh7 := Mh6.kp mh7 qh7.1 kkh7
      have xh7 := xh6.kp Mh6 qh7.1
      have fh7 := qh7.2.trans fh6
      have loh7 : Lo k h h7 := Lo.tr loh6 (Lo.fr (Fr.vc qh7.1) (Nat.le_refl _))
      have kh7 := kkh7.trans kh6
      refine r_popI C (dx dX7_village 17 rfl) ?_
      refine r_bipush (v := -20) C (dx dX7_village 18 rfl) rfl ?_
      refine r_aload_n C (dx dX7_village 19 rfl) rfl ?_
      refine g_X7_164 (x := nI ((vlW Bt z v).2.1.2.1)) C (dx dX7_village 20 rfl) fh7 ?_
      refine r_isub C (dx dX7_village 21 rfl) ?_
      have eA : vlA Bt z v = (-20) - (nI ((vlW Bt z v).2.1.2.1)) := by unfold vlA; rw [if_pos W9]
      have eV : vlV Bt z v = v := by unfold vlV; rw [if_pos W9]
      exact F.1 _ _ _ _ .int rfl rfl (dx dX7_village 22 rfl) kh7 ⟨by rw [eA], by rw [eV]; exact Mh7, loh7, xh7⟩
set_option maxHeartbeats 4000000 in
theorem y_feed {l : Launch} {h : Hp} {P : List Nat} {k z : Nat} {v : Vg} {g : Sg} {κ τ : Bool} {ω : Vg} {Bt : Nat → Int32} (M : Md h P k v g z κ τ) (x0 : XT h k κ ω Bt) (x n : Int32) : Ms l yX7_feed cX7_feed 4 (some .int) 4 [vr 7 k, vi x, vi n] h (xK h) (fun r h' => r = some (vi (feedA z n)) ∧ Md h' P k v g (feedZ z n) κ τ ∧ Lo k h h' ∧ XT h' k κ ω (feedB Bt z x n)) := by
  refine Ms.of (by decide) (Nat.le_of_ble_eq_true rfl) (fun G C X F => ?_)
  have C : Cx G cX7_feed 4 RX7 := C
  show Rr G 0 [(0, vr 7 k), (1, vi x), (2, vi n)] [] h
  have hm := M.1
  have hs := M.2.1
  have al := M.al
  have hk7 := M.hk
  have bP := hm.bP
  have bM := hm.bM
  have bN := hm.bN
  have hz := M.bz
  refine r_iload_n C (dx dX7_feed 0 rfl) rfl ?_
  refine r_i2l C (dx dX7_feed 1 rfl) ?_
  refine r_lconst (v := 1) C (dx dX7_feed 2 rfl) rfl ?_
  refine r_ldc2 C n_X7_79 (dx dX7_feed 3 rfl) ?_
  refine r_csP (as := [vl n.toInt64, vl 1, vl 4]) (st := []) (v := vi (b2i (btwB n 1 4))) C X I_X7_in l_X7_67 (c_inB (a := 1) (b := 4) (by decide) (by decide)) (by decide) (Nat.le_of_ble_eq_true rfl) (pfx_eq rfl) (Nat.le_of_ble_eq_true rfl) rfl (dx dX7_feed 4 rfl) ?_
  refine rb_ne (b := btwB n 1 4) (tgt := 19) C (dx dX7_feed 5 rfl) (by decide) (fun c1 => ?_) (fun c1 => ?_)
  ·
    have c1 : (btwB n 1 4) = true := c1
    obtain ⟨ν, hν, hν2, rfl⟩ := btw_ex (a := 1) (b := 4) (by omega) (by omega) c1
    refine r_iload_n C (dx dX7_feed 10 rfl) rfl ?_
    refine r_sipush (v := nI 250) C (dx dX7_feed 11 rfl) rfl ?_
    refine r_aload_n C (dx dX7_feed 12 rfl) rfl ?_
    refine g_X7_138 (x := nI z) C (dx dX7_feed 13 rfl) M.e8 ?_
    refine rn_isub (a := 250) (b := z) C (by omega) (dx dX7_feed 14 rfl) ?_
    refine rn_le (a := ν) (b := 250 - z) (tgt := 38) C (by omega) (by omega) (dx dX7_feed 15 rfl) (by decide) (fun c2 => ?_) (fun c2 => ?_)
    · first
      | (omega; done)
      | (
          have c2 : ν ≤ 250 - z := c2
          refine r_iload_n C (dx dX7_feed 20 rfl) rfl ?_
          refine r_iconst (v := nI 1) C (dx dX7_feed 21 rfl) rfl ?_
          refine rn_isub (a := ν) (b := 1) C (by omega) (dx dX7_feed 22 rfl) ?_
          refine r_istore_n (ls' := [(0, vr 7 k), (1, vi x), (2, vi (nI ν)), (3, vi (nI (ν - 1)))]) C (dx dX7_feed 23 rfl) (by decide) [1, 2, 3, 0] rfl ?_
          have key : ∀ j, j ≤ ν → ∀ h9, Fx h h9 k v g (z + ν - j) (fdB Bt z x ν (ν - j)) → Rr G 42 [(0, vr 7 k), (1, vi x), (2, vi (nI ν)), (3, vi (nI j - nI 1))] [] h9 := by
            refine loopDn (Φ := fun j => j ≤ ν → ∀ h9, Fx h h9 k v g (z + ν - j) (fdB Bt z x ν (ν - j)) → Rr G 42 [(0, vr 7 k), (1, vi x), (2, vi (nI ν)), (3, vi (nI j - nI 1))] [] h9) ?_ ?_
            ·
              intro hj h9 f9
              rw [show nI 0 - nI 1 = -1 from by decide]
              refine r_iload_n C (dx dX7_feed 24 rfl) rfl ?_
              refine r_if_lt (tgt := 78) C (dx dX7_feed 25 rfl) (by decide) (fun c3 => ?_) (fun c3 => ?_)
              ·
                have c3 : (-1 : Int32) < 0 := c3
                refine r_aload_n C (dx dX7_feed 45 rfl) rfl ?_
                refine g_X7_138 (x := nI (z + ν - 0)) C (dx dX7_feed 46 rfl) f9.1.2.2.1 ?_
                have fe := feed_in (z := z) hν hν2
                rw [if_pos (by omega), if_pos (by omega)] at fe
                have zq : z + ν - 0 = z + ν := by omega
                have eB : feedB Bt z x (nI ν) = fdB Bt z x ν (ν - 0) := by unfold feedB; rw [fe.2, if_neg (by omega), clN (by omega)]; rfl
                exact F.1 _ _ _ _ _ rfl rfl (dx dX7_feed 47 rfl) f9.1.2.2.2.2.2 (show some (vi (nI (z + ν - 0))) = some (vi (feedA z (nI ν))) ∧ Md h9 P k v g (feedZ z (nI ν)) κ τ ∧ Lo k h h9 ∧ XT h9 k κ ω (feedB Bt z x (nI ν)) from by rw [fe.1, fe.2, eB]; exact ⟨by rw [zq], by have q := f9.1.md M (by omega); rw [zq] at q; exact q, Lo.fr f9.1.2.2.2.2.1 (Nat.le_refl _), x0.tp M f9.1.2.2.2.1 f9.1.2.2.2.2.1 f9.2⟩)
              · exact absurd (show (-1 : Int32) < 0 by decide) c3
            ·
              intro j ihj hj h9 f9
              rw [show nI (j + 1) - nI 1 = nI j from pk_sub (a := j + 1) (b := 1) (by omega)]
              refine r_iload_n C (dx dX7_feed 24 rfl) rfl ?_
              refine r_if_lt (tgt := 78) C (dx dX7_feed 25 rfl) (by decide) (fun c4 => ?_) (fun c4 => ?_)
              · exact absurd c4 (nI_pos (by omega))
              ·
                have c4 : ¬ nI j < 0 := c4
                refine r_aload_n C (dx dX7_feed 26 rfl) rfl ?_
                refine g_X7_34 C (dx dX7_feed 27 rfl) ?_
                refine r_aload_n C (dx dX7_feed 28 rfl) rfl ?_
                refine r_dupR C (dx dX7_feed 29 rfl) ?_
                refine g_X7_138 (x := nI (z + ν - (j + 1))) C (dx dX7_feed 30 rfl) f9.1.2.2.1 ?_
                refine r_dup_x1 C (dx dX7_feed 31 rfl) ?_
                refine r_iconst (v := nI 1) C (dx dX7_feed 32 rfl) rfl ?_
                refine rn_iadd (a := z + ν - (j + 1)) (b := 1) C (dx dX7_feed 33 rfl) ?_
                refine p_X7_138 C (dx dX7_feed 34 rfl) rfl rfl ?_
                have fh5 : Fx h (sI h9 k 8 (nI (z + ν - (j + 1) + 1))) k v g (z + ν - (j + 1) + 1) (fdB Bt z x ν (ν - (j + 1))) := f9.z
                generalize sI h9 k 8 (nI (z + ν - (j + 1) + 1)) = h5 at fh5 ⊢
                refine r_iload_n C (dx dX7_feed 35 rfl) rfl ?_
                refine r_bipush (v := nI 8) C (dx dX7_feed 36 rfl) rfl ?_
                refine r_iload_n C (dx dX7_feed 37 rfl) rfl ?_
                refine rn_imul (a := 8) (b := j) C (dx dX7_feed 38 rfl) ?_
                refine r_ishr C (dx dX7_feed 39 rfl) ?_
                refine r_sipush (v := nI 255) C (dx dX7_feed 40 rfl) rfl ?_
                refine r_iand C (dx dX7_feed 41 rfl) ?_
                refine r_iast (j := z + ν - (j + 1)) C rfl rfl (by decide) rfl (by omega) (dx dX7_feed 42 rfl) ?_
                have fh6 : Fx h (sI h5 (k + 16) (z + ν - (j + 1)) ((x >>> ((nI (8 * j)) &&& 31)) &&& (nI 255))) k v g (z + ν - (j + 1) + 1) (sf (fdB Bt z x ν (ν - (j + 1))) (z + ν - (j + 1)) ((x >>> ((nI (8 * j)) &&& 31)) &&& (nI 255))) := fh5.t
                generalize sI h5 (k + 16) (z + ν - (j + 1)) ((x >>> ((nI (8 * j)) &&& 31)) &&& (nI 255)) = h6 at fh6 ⊢
                refine r_iinc (ls' := [(0, vr 7 k), (1, vi x), (2, vi (nI ν)), (3, vi (nI j + (-1)))]) C (dx dX7_feed 43 rfl) rfl rfl (by decide) [1, 2, 3, 0] rfl ?_
                refine r_goto (tgt := 42) C (dx dX7_feed 44 rfl) (by decide) ?_
                rw [add_m1]
                exact ihj (by omega) _ (by rw [show z + ν - j = z + ν - (j + 1) + 1 by omega, fd_s (by omega)]; exact fh6)
          have k9 := key ν (Nat.le_refl _) h ⟨⟨hm, hs, by rw [M.e8, show z + ν - ν = z by omega], rfl, Fr.rf, rfl⟩, by rw [Nat.sub_self]; exact x0.1⟩
          rw [pk_sub (a := ν) (b := 1) (by omega)] at k9
          exact k9)
    · first
      | (omega; done)
      | (
          have c2 : 250 - z < ν := c2
          refine r_aload_n C (dx dX7_feed 16 rfl) rfl ?_
          refine r_bipush (v := -6) C (dx dX7_feed 17 rfl) rfl ?_
          refine r_cv (as := [vi (-6)]) (st := []) C X I_X7_refuse l_X7_83 (q_refuse M.1 (x := -6) (j := 6) (by decide) (by decide)) (by decide) (Nat.le_of_ble_eq_true rfl) List.prefix_rfl (pfx_eq rfl) rfl rfl (Nat.le_of_ble_eq_true rfl) rfl (dx dX7_feed 18 rfl) ?_
          rintro _ h7 ⟨rfl, mh7, qh7⟩ kkh7
          have Mh7 := M.kp mh7 qh7.1 kkh7
          have xh7 := x0.kp M qh7.1
          have loh7 : Lo k h h7 := Lo.tr (Lo.rf (a := k) (h := h)) (Lo.fr (Fr.vc qh7.1) (Nat.le_refl _))
          have kh7 := kkh7.trans rfl
          have fe := feed_in (z := z) hν hν2
          rw [if_neg (by omega), if_neg (by omega)] at fe
          have eB : feedB Bt z x (nI ν) = Bt := by unfold feedB; rw [fe.2, if_pos rfl]
          exact F.1 _ _ _ _ _ rfl rfl (dx dX7_feed 19 rfl) kh7 (show some (vi (-6)) = some (vi (feedA z (nI ν))) ∧ Md h7 P k v g (feedZ z (nI ν)) κ τ ∧ Lo k h h7 ∧ XT h7 k κ ω (feedB Bt z x (nI ν)) from by rw [fe.1, fe.2, eB]; exact ⟨rfl, Mh7, loh7, xh7⟩))
  ·
    have c1 : (btwB n 1 4) = false := c1
    refine r_aload_n C (dx dX7_feed 6 rfl) rfl ?_
    refine r_bipush (v := -2) C (dx dX7_feed 7 rfl) rfl ?_
    refine r_cv (as := [vi (-2)]) (st := []) C X I_X7_refuse l_X7_83 (q_refuse M.1 (x := -2) (j := 2) (by decide) (by decide)) (by decide) (Nat.le_of_ble_eq_true rfl) List.prefix_rfl (pfx_eq rfl) rfl rfl (Nat.le_of_ble_eq_true rfl) rfl (dx dX7_feed 8 rfl) ?_
    rintro _ h8 ⟨rfl, mh8, qh8⟩ kkh8
    have Mh8 := M.kp mh8 qh8.1 kkh8
    have xh8 := x0.kp M qh8.1
    have loh8 : Lo k h h8 := Lo.tr (Lo.rf (a := k) (h := h)) (Lo.fr (Fr.vc qh8.1) (Nat.le_refl _))
    have kh8 := kkh8.trans rfl
    have fe := feed_no (z := z) c1
    have eB : feedB Bt z x n = Bt := by unfold feedB; rw [fe.2, if_pos rfl]
    exact F.1 _ _ _ _ _ rfl rfl (dx dX7_feed 9 rfl) kh8 (show some (vi (-2)) = some (vi (feedA z n)) ∧ Md h8 P k v g (feedZ z n) κ τ ∧ Lo k h h8 ∧ XT h8 k κ ω (feedB Bt z x n) from by rw [fe.1, fe.2, eB]; exact ⟨rfl, Mh8, loh8, xh8⟩)
set_option maxHeartbeats 4000000 in
theorem y_wipe {l : Launch} {h : Hp} {P : List Nat} {k z : Nat} {v : Vg} {g : Sg} {κ τ : Bool} {ω : Vg} {Bt : Nat → Int32} (M : Md h P k v g z κ τ) (x0 : XT h k κ ω Bt)  : Ms l yX7_wipe cX7_wipe 2 (some .int) 4 [vr 7 k] h (xK h) (fun r h' => r = some (vi (nI z)) ∧ Md h' P k v g 0 κ τ ∧ Lo k h h' ∧ XT h' k κ ω Bt) := by
  refine Ms.of (by decide) (Nat.le_of_ble_eq_true rfl) (fun G C X F => ?_)
  have C : Cx G cX7_wipe 2 RX7 := C
  show Rr G 0 [(0, vr 7 k)] [] h
  have hm := M.1
  have hs := M.2.1
  have al := M.al
  have hk7 := M.hk
  have bP := hm.bP
  have bM := hm.bM
  have bN := hm.bN
  refine r_aload_n C (dx dX7_wipe 0 rfl) rfl ?_
  refine g_X7_138 (x := nI z) C (dx dX7_wipe 1 rfl) M.e8 ?_
  refine r_istore_n (ls' := [(0, vr 7 k), (1, vi (nI z))]) C (dx dX7_wipe 2 rfl) (by decide) [1, 0] rfl ?_
  refine r_aload_n C (dx dX7_wipe 3 rfl) rfl ?_
  refine r_iconst (v := nI 0) C (dx dX7_wipe 4 rfl) rfl ?_
  refine p_X7_138 C (dx dX7_wipe 5 rfl) rfl rfl ?_
  refine r_iload_n C (dx dX7_wipe 6 rfl) rfl ?_
  exact F.1 _ _ _ _ _ rfl rfl (dx dX7_wipe 7 rfl) rfl ⟨rfl, M.z0, Lo.sI (Nat.le_refl _), M.z0x x0⟩
set_option maxHeartbeats 4000000 in
theorem e_lay_y {l : Launch} {h : Hp} {k : Nat} {v : Vg} {g : Sg} (hm : MilAt h k v) (hs : MshAt h k g) {σ η β : Nat} (hσ : σ < 8) (hη : 1 ≤ η ∧ η ≤ 5) (hβ : β < 100) (eT : gT g σ = nI (10 + η)) (eY : gY g σ = nI β) : Ms l yX7_lay cX7_lay 3 (some .int) 10 [vr 7 k, vi (nI σ)] h (xK h) (fun r h' => PI r ∧ MilAt h' k (hAR v η β) ∧ Kp k h h') := by
  refine Ms.of (by decide) (Nat.le_of_ble_eq_true rfl) (fun G C X F => ?_)
  have C : Cx G cX7_lay 3 RX7 := C
  show Rr G 0 [(0, vr 7 k), (1, vi (nI σ))] [] h
  have bP := hm.bP
  have bM := hm.bM
  have bN := hm.bN
  obtain ⟨o1, o2, o3⟩ := hs.hold hσ hη hβ eT eY
  have hq := nh_hold hσ (by omega) eT eY
  refine r_aload_n C (dx dX7_lay 0 rfl) rfl ?_
  refine r_iload_n C (dx dX7_lay 1 rfl) rfl ?_
  refine r_cv (as := [vi (nI σ)]) (st := []) C X I_X7_noHolding l_X7_292 (v_X7_noHolding hm hs (nI σ)) (by decide) (Nat.le_of_ble_eq_true rfl) List.prefix_rfl List.prefix_rfl rfl rfl (Nat.le_of_ble_eq_true rfl) rfl (dx dX7_lay 2 rfl) ?_
  rintro _ h1 ⟨rfl, m9h1, qh1⟩ kkh1
  have mh1 : MilAt h1 k v := m9h1
  have ph1 : Kp k h h1 := qh1
  have kh1 : xK h1 = xK h := kkh1
  obtain ⟨r1, r2, r3⟩ := (hs.kp ph1).hold hσ hη hβ eT eY
  refine r_istore_n (ls' := [(0, vr 7 k), (1, vi (nI σ)), (2, vi (nhA g (nI σ)))]) C (dx dX7_lay 3 rfl) (by decide) [1, 2, 0] rfl ?_
  refine r_iload_n C (dx dX7_lay 4 rfl) rfl ?_
  refine r_if_eq (tgt := 12) C (dx dX7_lay 5 rfl) (by decide) (fun c2 => ?_) (fun c2 => ?_)
  ·
    have c2 : nhA g (nI σ) = 0 := c2
    refine r_aload_n C (dx dX7_lay 8 rfl) rfl ?_
    refine r_aload_n C (dx dX7_lay 9 rfl) rfl ?_
    refine g_X7_28 C (dx dX7_lay 10 rfl) ?_
    refine r_iload_n C (dx dX7_lay 11 rfl) rfl ?_
    refine r_iald (j := σ) (x := nI η) C rfl rfl (by decide) rfl (by omega) (dx dX7_lay 12 rfl) r2 ?_
    refine r_aload_n C (dx dX7_lay 13 rfl) rfl ?_
    refine g_X7_31 C (dx dX7_lay 14 rfl) ?_
    refine r_iload_n C (dx dX7_lay 15 rfl) rfl ?_
    refine r_iald (j := σ) (x := nI β) C rfl rfl (by decide) rfl (by omega) (dx dX7_lay 16 rfl) r3 ?_
    refine r_cv (as := [vi (nI η), vi (nI β)]) (st := []) C X I_X7_holdAll l_X7_106 (e_holdAll mh1 (κ := η) (b := β) (by omega) (by omega)) (by decide) (Nat.le_of_ble_eq_true rfl) List.prefix_rfl (pfx_eq kh1) rfl rfl (Nat.le_of_ble_eq_true rfl) rfl (dx dX7_lay 17 rfl) ?_
    rintro _ h3 ⟨rfl, m9h3, qh3⟩ kkh3
    have mh3 : MilAt h3 k (hAR v η β) := m9h3
    have ph3 : Kp k h h3 := ph1.tr (qh3)
    have kh3 : xK h3 = xK h := (kkh3).trans kh1
    refine r_aload_n C (dx dX7_lay 18 rfl) rfl ?_
    refine r_iconst (v := nI 0) C (dx dX7_lay 19 rfl) rfl ?_
    refine r_cvP (as := [vi (nI 0)]) (st := []) (v := vi (nI (cnt (fun p => decide (¬ vF (hAR v η β) 0 p = -1)) (vP (hAR v η β))))) C X I_X7_held l_X7_114 (e_held mh3 false) (by decide) (Nat.le_of_ble_eq_true rfl) (pfx_eq kh3) rfl rfl (Nat.le_of_ble_eq_true rfl) rfl (dx dX7_lay 20 rfl) ?_
    exact F.1 _ _ _ _ .int rfl rfl (dx dX7_lay 21 rfl) kh3 ⟨⟨_, rfl⟩, mh3, ph3⟩
  ·
    have c2 : ¬ nhA g (nI σ) = 0 := c2
    exact absurd hq c2
set_option maxHeartbeats 4000000 in
theorem e_lay_n {l : Launch} {h : Hp} {k : Nat} {v : Vg} {g : Sg} (hm : MilAt h k v) (hs : MshAt h k g) (s : Int32) (hq : ¬ nhA g s = 0) : Ms l yX7_lay cX7_lay 3 (some .int) 10 [vr 7 k, vi s] h (xK h) (fun r h' => PI r ∧ MilAt h' k v ∧ Kp k h h') := by
  refine Ms.of (by decide) (Nat.le_of_ble_eq_true rfl) (fun G C X F => ?_)
  have C : Cx G cX7_lay 3 RX7 := C
  show Rr G 0 [(0, vr 7 k), (1, vi s)] [] h
  have bP := hm.bP
  have bM := hm.bM
  have bN := hm.bN
  refine r_aload_n C (dx dX7_lay 0 rfl) rfl ?_
  refine r_iload_n C (dx dX7_lay 1 rfl) rfl ?_
  refine r_cv (as := [vi s]) (st := []) C X I_X7_noHolding l_X7_292 (v_X7_noHolding hm hs s) (by decide) (Nat.le_of_ble_eq_true rfl) List.prefix_rfl List.prefix_rfl rfl rfl (Nat.le_of_ble_eq_true rfl) rfl (dx dX7_lay 2 rfl) ?_
  rintro _ h1 ⟨rfl, m9h1, qh1⟩ kkh1
  have mh1 : MilAt h1 k v := m9h1
  have ph1 : Kp k h h1 := qh1
  have kh1 : xK h1 = xK h := kkh1
  refine r_istore_n (ls' := [(0, vr 7 k), (1, vi s), (2, vi (nhA g s))]) C (dx dX7_lay 3 rfl) (by decide) [1, 2, 0] rfl ?_
  refine r_iload_n C (dx dX7_lay 4 rfl) rfl ?_
  refine r_if_eq (tgt := 12) C (dx dX7_lay 5 rfl) (by decide) (fun c2 => ?_) (fun c2 => ?_)
  ·
    have c2 : nhA g s = 0 := c2
    exact absurd c2 hq
  ·
    have c2 : ¬ nhA g s = 0 := c2
    refine r_iload_n C (dx dX7_lay 6 rfl) rfl ?_
    exact F.1 _ _ _ _ .int rfl rfl (dx dX7_lay 7 rfl) kh1 ⟨⟨_, rfl⟩, mh1, ph1⟩
end
section
/-! PART 59: the reference, exactly: its calls in one form -/
theorem VOk.hd {v : Vg} (h : VOk v) : HdOk v := h.2.2.2.2.1
theorem Ms.c {l : Launch} {y : MethodName} {cc : ByteArray} {nL : Nat} {ret : Option FieldType} {d : Nat} {as : List V} {h : Hp} {al : List Nat} {post post' : Option V → Hp → Prop} (e : post = post') (c : Ms l y cc nL ret d as h al post) : Ms l y cc nL ret d as h al post' := e ▸ c
theorem y7_row {l : Launch} {h : Hp} {P : List Nat} {k z : Nat} {v : Vg} {g : Sg} {κ τ : Bool} {ω : Vg} {Bt : Nat → Int32} (M : Md h P k v g z κ τ) (x0 : XT h k κ ω Bt) (ok : VOk v) (s t n : Int32) : MxF l yX7_row cX7_row 5 (some .int) 4 [vr 7 k, vi s, vi t, vi n] h P k v (rowG g s t n) z κ ω Bt (fun r => r = some (vi (rowA s t n))) := MxF.kt M x0 (v_X7_row M.1 M.2.1 s t n)
theorem y7_set {l : Launch} {h : Hp} {P : List Nat} {k z : Nat} {v : Vg} {g : Sg} {κ τ : Bool} {ω : Vg} {Bt : Nat → Int32} (M : Md h P k v g z κ τ) (x0 : XT h k κ ω Bt) (ok : VOk v) (s i : Int32) (v9 : Int64) : MxF l yX7_set cX7_set 6 (some .int) 6 [vr 7 k, vi s, vi i, vl v9] h P k v (setG g s i v9) z κ ω Bt (fun r => r = some (vi (setA g s i))) := MxF.kt M x0 (v_X7_set M.1 M.2.1 s i v9)
theorem y7_copy {l : Launch} {h : Hp} {P : List Nat} {k z : Nat} {v : Vg} {g : Sg} {κ τ : Bool} {ω : Vg} {Bt : Nat → Int32} (M : Md h P k v g z κ τ) (x0 : XT h k κ ω Bt) (ok : VOk v) (p q i j n : Int32) : MxF l yX7_copy cX7_copy 7 (some .int) 4 [vr 7 k, vi p, vi q, vi i, vi j, vi n] h P k v (copG g p q i j n) z κ ω Bt (fun r => r = some (vi (copA g p q i j n))) := MxF.kt M x0 (v_X7_copy M.1 M.2.1 p q i j n)
theorem y7_element {l : Launch} {h : Hp} {P : List Nat} {k z : Nat} {v : Vg} {g : Sg} {κ τ : Bool} {ω : Vg} {Bt : Nat → Int32} (M : Md h P k v g z κ τ) (x0 : XT h k κ ω Bt) (ok : VOk v) (s i : Int32) : MxF l yX7_element cX7_element 3 (some .long) 5 [vr 7 k, vi s, vi i] h P k v g z κ ω Bt (fun r => r = some (vl (elV g s i))) := MxF.kt M x0 (v_X7_element M.1 M.2.1 s i)
theorem y7_holds {l : Launch} {h : Hp} {P : List Nat} {k z : Nat} {v : Vg} {g : Sg} {κ τ : Bool} {ω : Vg} {Bt : Nat → Int32} (M : Md h P k v g z κ τ) (x0 : XT h k κ ω Bt) (ok : VOk v) (s : Int32) : MxF l yX7_holds cX7_holds 2 (some .int) 5 [vr 7 k, vi s] h P k v g z κ ω Bt (fun r => r = some (vi (tOn g s))) := MxF.kt M x0 (v_X7_holds M.1 M.2.1 s)
theorem y7_holding {l : Launch} {h : Hp} {P : List Nat} {k z : Nat} {v : Vg} {g : Sg} {κ τ : Bool} {ω : Vg} {Bt : Nat → Int32} (M : Md h P k v g z κ τ) (x0 : XT h k κ ω Bt) (ok : VOk v) (s k9 a : Int32) : MxF l yX7_holding cX7_holding 4 (some .int) 4 [vr 7 k, vi s, vi k9, vi a] h P k v (hldG g s k9 a) z κ ω Bt (fun r => r = some (vi (hldA s k9 a))) := MxF.kt M x0 (v_X7_holding M.1 M.2.1 s k9 a)
theorem y7_part {l : Launch} {h : Hp} {P : List Nat} {k z : Nat} {v : Vg} {g : Sg} {κ τ : Bool} {ω : Vg} {Bt : Nat → Int32} (M : Md h P k v g z κ τ) (x0 : XT h k κ ω Bt) (ok : VOk v)  : MxF l yX7_part cX7_part 1 (some .int) 3 [vr 7 k] h P k (partV v) g z κ ω Bt (fun r => r = some (vi (partA v))) := MxF.kp M x0 (e_part M.1 )
theorem y7_machine {l : Launch} {h : Hp} {P : List Nat} {k z : Nat} {v : Vg} {g : Sg} {κ τ : Bool} {ω : Vg} {Bt : Nat → Int32} (M : Md h P k v g z κ τ) (x0 : XT h k κ ω Bt) (ok : VOk v) (x y : Int32) : MxF l yX7_machine cX7_machine 3 (some .int) 3 [vr 7 k, vi x, vi y] h P k (machV v x y) g z κ ω Bt (fun r => r = some (vi (machA v x y))) := MxF.kp M x0 (e_machine M.1 x y)
theorem y7_one {l : Launch} {h : Hp} {P : List Nat} {k z : Nat} {v : Vg} {g : Sg} {κ τ : Bool} {ω : Vg} {Bt : Nat → Int32} (M : Md h P k v g z κ τ) (x0 : XT h k κ ω Bt) (ok : VOk v) (x y : Int32) : MxF l yX7_one cX7_one 3 (some .int) 3 [vr 7 k, vi x, vi y] h P k (oneV v x y) g z κ ω Bt (fun r => r = some (vi (oneAn v x y))) := MxF.kp M x0 (e_one M.1 x y)
theorem y7_away {l : Launch} {h : Hp} {P : List Nat} {k z : Nat} {v : Vg} {g : Sg} {κ τ : Bool} {ω : Vg} {Bt : Nat → Int32} (M : Md h P k v g z κ τ) (x0 : XT h k κ ω Bt) (ok : VOk v) (o1 y : Int32) : MxF l yX7_away cX7_away 4 (some .int) 4 [vr 7 k, vi o1, vi y] h P k (awayV v o1 y) g z κ ω Bt (fun r => r = some (vi (awayA v o1 y))) := MxF.kp M x0 (e_away M.1 o1 y)
theorem y7_cross {l : Launch} {h : Hp} {P : List Nat} {k z : Nat} {v : Vg} {g : Sg} {κ τ : Bool} {ω : Vg} {Bt : Nat → Int32} (M : Md h P k v g z κ τ) (x0 : XT h k κ ω Bt) (ok : VOk v) (o1 : Int32) (b : Bool) : MxF l yX7_cross cX7_cross 4 (some .int) 4 [vr 7 k, vi o1, vi (b2i b)] h P k (crossV v o1 b) g z κ ω Bt (fun r => r = some (vi (crossA v o1 b))) := MxF.kp M x0 (e_cross M.1 o1 b)
theorem y7_give {l : Launch} {h : Hp} {P : List Nat} {k z : Nat} {v : Vg} {g : Sg} {κ τ : Bool} {ω : Vg} {Bt : Nat → Int32} (M : Md h P k v g z κ τ) (x0 : XT h k κ ω Bt) (ok : VOk v) (p o1 : Int32) (b : Bool) : MxF l yX7_give cX7_give 6 (some .int) 4 [vr 7 k, vi p, vi o1, vi (b2i b)] h P k (giveV v p o1 b) g z κ ω Bt (fun r => r = some (vi (giveA v p o1 b))) := MxF.kp M x0 (e_give M.1 p o1 b)
theorem y7_partOf {l : Launch} {h : Hp} {P : List Nat} {k z : Nat} {v : Vg} {g : Sg} {κ τ : Bool} {ω : Vg} {Bt : Nat → Int32} (M : Md h P k v g z κ τ) (x0 : XT h k κ ω Bt) (ok : VOk v) (p x : Int32) : MxF l yX7_partOf cX7_partOf 3 (some .int) 4 [vr 7 k, vi p, vi x] h P k v g z κ ω Bt PI := MxF.kp M x0 (v_X7_partOf M.1 p x)
theorem y7_machineOf {l : Launch} {h : Hp} {P : List Nat} {k z : Nat} {v : Vg} {g : Sg} {κ τ : Bool} {ω : Vg} {Bt : Nat → Int32} (M : Md h P k v g z κ τ) (x0 : XT h k κ ω Bt) (ok : VOk v) (m x : Int32) : MxF l yX7_machineOf cX7_machineOf 3 (some .int) 4 [vr 7 k, vi m, vi x] h P k v g z κ ω Bt PI := MxF.kp M x0 (v_X7_machineOf M.1 m x)
theorem y7_oneOf {l : Launch} {h : Hp} {P : List Nat} {k z : Nat} {v : Vg} {g : Sg} {κ τ : Bool} {ω : Vg} {Bt : Nat → Int32} (M : Md h P k v g z κ τ) (x0 : XT h k κ ω Bt) (ok : VOk v) (o1 x : Int32) : MxF l yX7_oneOf cX7_oneOf 3 (some .int) 4 [vr 7 k, vi o1, vi x] h P k v g z κ ω Bt PI := MxF.kp M x0 (v_X7_oneOf M.1 o1 x)
theorem y7_has {l : Launch} {h : Hp} {P : List Nat} {k z : Nat} {v : Vg} {g : Sg} {κ τ : Bool} {ω : Vg} {Bt : Nat → Int32} (M : Md h P k v g z κ τ) (x0 : XT h k κ ω Bt) (ok : VOk v) (x : Int32) : MxF l yX7_has cX7_has 2 (some .int) 5 [vr 7 k, vi x] h P k v g z κ ω Bt PI := MxF.kp M x0 (v_X7_has M.1 x)
theorem y7_works {l : Launch} {h : Hp} {P : List Nat} {k z : Nat} {v : Vg} {g : Sg} {κ τ : Bool} {ω : Vg} {Bt : Nat → Int32} (M : Md h P k v g z κ τ) (x0 : XT h k κ ω Bt) (ok : VOk v) (m x : Int32) : MxF l yX7_works cX7_works 3 (some .int) 5 [vr 7 k, vi m, vi x] h P k v g z κ ω Bt PI := MxF.kp M x0 (v_X7_works M.1 m x)
theorem y7_both {l : Launch} {h : Hp} {P : List Nat} {k z : Nat} {v : Vg} {g : Sg} {κ τ : Bool} {ω : Vg} {Bt : Nat → Int32} (M : Md h P k v g z κ τ) (x0 : XT h k κ ω Bt) (ok : VOk v) (m n x : Int32) : MxF l yX7_both cX7_both 4 (some .int) 6 [vr 7 k, vi m, vi n, vi x] h P k v g z κ ω Bt PI := MxF.kp M x0 (v_X7_both M.1 m n x)
theorem y7_odds {l : Launch} {h : Hp} {P : List Nat} {k z : Nat} {v : Vg} {g : Sg} {κ τ : Bool} {ω : Vg} {Bt : Nat → Int32} (M : Md h P k v g z κ τ) (x0 : XT h k κ ω Bt) (ok : VOk v) (m : Int32) : MxF l yX7_odds cX7_odds 2 (some .long) 8 [vr 7 k, vi m] h P k v g z κ ω Bt PL := MxF.kp M x0 (v_X7_odds M.1 m)
theorem y7_atOnce {l : Launch} {h : Hp} {P : List Nat} {k z : Nat} {v : Vg} {g : Sg} {κ τ : Bool} {ω : Vg} {Bt : Nat → Int32} (M : Md h P k v g z κ τ) (x0 : XT h k κ ω Bt) (ok : VOk v) (m n : Int32) : MxF l yX7_atOnce cX7_atOnce 3 (some .long) 8 [vr 7 k, vi m, vi n] h P k v g z κ ω Bt PL := MxF.kp M x0 (v_X7_atOnce M.1 m n)
theorem y7_day {l : Launch} {h : Hp} {P : List Nat} {k z : Nat} {v : Vg} {g : Sg} {κ τ : Bool} {ω : Vg} {Bt : Nat → Int32} (M : Md h P k v g z κ τ) (x0 : XT h k κ ω Bt) (ok : VOk v)  : MxF l yX7_day cX7_day 8 (some .long) 3 [vr 7 k] h P k v g z κ ω Bt PL := MxF.kp M x0 ((c_X7_day M.1).mono (fun r h' ⟨q, e⟩ _ => ⟨q, by rw [e]; exact M.1, by rw [e]; exact Kp.rf⟩))
theorem y7_power {l : Launch} {h : Hp} {P : List Nat} {k z : Nat} {v : Vg} {g : Sg} {κ τ : Bool} {ω : Vg} {Bt : Nat → Int32} (M : Md h P k v g z κ τ) (x0 : XT h k κ ω Bt) (ok : VOk v) (m o1 : Int32) : MxF l yX7_power cX7_power 3 (some .int) 8 [vr 7 k, vi m, vi o1] h P k v g z κ ω Bt PI := MxF.kp M x0 (v_X7_power M.1 m o1)
theorem y7_first {l : Launch} {h : Hp} {P : List Nat} {k z : Nat} {v : Vg} {g : Sg} {κ τ : Bool} {ω : Vg} {Bt : Nat → Int32} (M : Md h P k v g z κ τ) (x0 : XT h k κ ω Bt) (ok : VOk v)  : MxF l yX7_first cX7_first 6 (some .int) 8 [vr 7 k] h P k v g z κ ω Bt PI := MxF.kp M x0 (v_X7_first M.1 )
theorem y7_bears {l : Launch} {h : Hp} {P : List Nat} {k z : Nat} {v : Vg} {g : Sg} {κ τ : Bool} {ω : Vg} {Bt : Nat → Int32} (M : Md h P k v g z κ τ) (x0 : XT h k κ ω Bt) (ok : VOk v) (m : Int32) : MxF l yX7_bears cX7_bears 3 (some .int) 8 [vr 7 k, vi m] h P k v g z κ ω Bt PI := MxF.kp M x0 (v_X7_bears M.1 m)
theorem y7_harms {l : Launch} {h : Hp} {P : List Nat} {k z : Nat} {v : Vg} {g : Sg} {κ τ : Bool} {ω : Vg} {Bt : Nat → Int32} (M : Md h P k v g z κ τ) (x0 : XT h k κ ω Bt) (ok : VOk v)  : MxF l yX7_harms cX7_harms 7 (some .int) 8 [vr 7 k] h P k v g z κ ω Bt PI := MxF.kp M x0 (v_X7_harms M.1 )
theorem y7_least {l : Launch} {h : Hp} {P : List Nat} {k z : Nat} {v : Vg} {g : Sg} {κ τ : Bool} {ω : Vg} {Bt : Nat → Int32} (M : Md h P k v g z κ τ) (x0 : XT h k κ ω Bt) (ok : VOk v)  : MxF l yX7_least cX7_least 3 (some .int) 8 [vr 7 k] h P k v g z κ ω Bt PI := MxF.kp M x0 (v_X7_least M.1 )
theorem y7_stolen {l : Launch} {h : Hp} {P : List Nat} {k z : Nat} {v : Vg} {g : Sg} {κ τ : Bool} {ω : Vg} {Bt : Nat → Int32} (M : Md h P k v g z κ τ) (x0 : XT h k κ ω Bt) (ok : VOk v)  : MxF l yX7_stolen cX7_stolen 3 (some .int) 8 [vr 7 k] h P k v g z κ ω Bt PI := MxF.kp M x0 (v_X7_stolen M.1 )
theorem y7_spare {l : Launch} {h : Hp} {P : List Nat} {k z : Nat} {v : Vg} {g : Sg} {κ τ : Bool} {ω : Vg} {Bt : Nat → Int32} (M : Md h P k v g z κ τ) (x0 : XT h k κ ω Bt) (ok : VOk v)  : MxF l yX7_spare cX7_spare 8 (some .int) 8 [vr 7 k] h P k v g z κ ω Bt PI := MxF.kp M x0 (v_X7_spare M.1 )
theorem y7_gift {l : Launch} {h : Hp} {P : List Nat} {k z : Nat} {v : Vg} {g : Sg} {κ τ : Bool} {ω : Vg} {Bt : Nat → Int32} (M : Md h P k v g z κ τ) (x0 : XT h k κ ω Bt) (ok : VOk v) (p o1 : Int32) : MxF l yX7_gift cX7_gift 8 (some .long) 8 [vr 7 k, vi p, vi o1] h P k v g z κ ω Bt PL := MxF.kp M x0 (v_X7_gift M.1 p o1)
theorem y7_never {l : Launch} {h : Hp} {P : List Nat} {k z : Nat} {v : Vg} {g : Sg} {κ τ : Bool} {ω : Vg} {Bt : Nat → Int32} (M : Md h P k v g z κ τ) (x0 : XT h k κ ω Bt) (ok : VOk v) (b : Bool) : MxF l yX7_never cX7_never 4 (some .int) 8 [vr 7 k, vi (b2i b)] h P k v g z κ ω Bt PI := MxF.kp M x0 (v_X7_never M.1 b)
theorem y7_with {l : Launch} {h : Hp} {P : List Nat} {k z : Nat} {v : Vg} {g : Sg} {κ τ : Bool} {ω : Vg} {Bt : Nat → Int32} (M : Md h P k v g z κ τ) (x0 : XT h k κ ω Bt) (ok : VOk v) (m : Int32) : MxF l yX7_with cX7_with 4 (some .int) 8 [vr 7 k, vi m] h P k v g z κ ω Bt PI := MxF.kp M x0 (v_X7_with M.1 m)
theorem y7_safe {l : Launch} {h : Hp} {P : List Nat} {k z : Nat} {v : Vg} {g : Sg} {κ τ : Bool} {ω : Vg} {Bt : Nat → Int32} (M : Md h P k v g z κ τ) (x0 : XT h k κ ω Bt) (ok : VOk v) (x : Int32) : MxF l yX7_safe cX7_safe 4 (some .int) 8 [vr 7 k, vi x] h P k v g z κ ω Bt PI := MxF.kp M x0 (v_X7_safe M.1 x)
theorem y7_alone {l : Launch} {h : Hp} {P : List Nat} {k z : Nat} {v : Vg} {g : Sg} {κ τ : Bool} {ω : Vg} {Bt : Nat → Int32} (M : Md h P k v g z κ τ) (x0 : XT h k κ ω Bt) (ok : VOk v) (o1 : Int32) : MxF l yX7_alone cX7_alone 4 (some .int) 8 [vr 7 k, vi o1] h P k v g z κ ω Bt PI := MxF.kp M x0 (v_X7_alone M.1 o1)
theorem y7_key {l : Launch} {h : Hp} {P : List Nat} {k z : Nat} {v : Vg} {g : Sg} {κ τ : Bool} {ω : Vg} {Bt : Nat → Int32} (M : Md h P k v g z κ τ) (x0 : XT h k κ ω Bt) (ok : VOk v)  : MxF l yX7_key cX7_key 7 (some .int) 8 [vr 7 k] h P k v g z κ ω Bt PI := MxF.kp M x0 (v_X7_key M.1 )
theorem y7_idle {l : Launch} {h : Hp} {P : List Nat} {k z : Nat} {v : Vg} {g : Sg} {κ τ : Bool} {ω : Vg} {Bt : Nat → Int32} (M : Md h P k v g z κ τ) (x0 : XT h k κ ω Bt) (ok : VOk v)  : MxF l yX7_idle cX7_idle 5 (some .int) 8 [vr 7 k] h P k v g z κ ω Bt PI := MxF.kp M x0 (v_X7_idle M.1 )
theorem y7_room {l : Launch} {h : Hp} {P : List Nat} {k z : Nat} {v : Vg} {g : Sg} {κ τ : Bool} {ω : Vg} {Bt : Nat → Int32} (M : Md h P k v g z κ τ) (x0 : XT h k κ ω Bt) (ok : VOk v)  : MxF l yX7_room cX7_room 3 (some .int) 8 [vr 7 k] h P k v g z κ ω Bt PI := MxF.kp M x0 (v_X7_room M.1 )
theorem y7_swap {l : Launch} {h : Hp} {P : List Nat} {k z : Nat} {v : Vg} {g : Sg} {κ τ : Bool} {ω : Vg} {Bt : Nat → Int32} (M : Md h P k v g z κ τ) (x0 : XT h k κ ω Bt) (ok : VOk v) (p q : Int32) : MxF l yX7_swap cX7_swap 4 (some .int) 8 [vr 7 k, vi p, vi q] h P k (swapV v p q) g z κ ω Bt (fun r => r = some (vi (swapA v p q))) := MxF.kp M x0 (e_swap M.1 p q)
theorem y7_judge {l : Launch} {h : Hp} {P : List Nat} {k z : Nat} {v : Vg} {g : Sg} {κ τ : Bool} {ω : Vg} {Bt : Nat → Int32} (M : Md h P k v g z κ τ) (x0 : XT h k κ ω Bt) (ok : VOk v) (m s n : Int32) : MxF l yX7_judge cX7_judge 6 (some .int) 8 [vr 7 k, vi m, vi s, vi n] h P k v g z κ ω Bt PI := MxF.kp M x0 (v_X7_judge M.1 M.2.1 m s n)
theorem y7_told {l : Launch} {h : Hp} {P : List Nat} {k z : Nat} {v : Vg} {g : Sg} {κ τ : Bool} {ω : Vg} {Bt : Nat → Int32} (M : Md h P k v g z κ τ) (x0 : XT h k κ ω Bt) (ok : VOk v) (s n : Int32) : MxF l yX7_told cX7_told 7 (some .int) 8 [vr 7 k, vi s, vi n] h P k v g z κ ω Bt PI := MxF.kp M x0 (v_X7_told M.1 M.2.1 s n)
theorem y7_days {l : Launch} {h : Hp} {P : List Nat} {k z : Nat} {v : Vg} {g : Sg} {κ τ : Bool} {ω : Vg} {Bt : Nat → Int32} (M : Md h P k v g z κ τ) (x0 : XT h k κ ω Bt) (ok : VOk v) (n : Int32) : MxF l yX7_days cX7_days 4 (some .int) 8 [vr 7 k, vi n] h P k (daysX v n) g z κ ω Bt (fun r => r = some (vi (daysA v n))) := MxF.kp M x0 (e_days M.1 ok.hd n)
theorem y7_seed {l : Launch} {h : Hp} {P : List Nat} {k z : Nat} {v : Vg} {g : Sg} {κ τ : Bool} {ω : Vg} {Bt : Nat → Int32} (M : Md h P k v g z κ τ) (x0 : XT h k κ ω Bt) (ok : VOk v) (x : Int32) : MxF l yX7_seed cX7_seed 3 (some .int) 8 [vr 7 k, vi x] h P k (vsS v x) g z κ ω Bt (fun r => r = some (vi (vS v))) := MxF.kp M x0 (e_seed M.1 x)
theorem y7_status {l : Launch} {h : Hp} {P : List Nat} {k z : Nat} {v : Vg} {g : Sg} {κ τ : Bool} {ω : Vg} {Bt : Nat → Int32} (M : Md h P k v g z κ τ) (x0 : XT h k κ ω Bt) (ok : VOk v) (x : Int32) : MxF l yX7_status cX7_status 4 (some .int) 8 [vr 7 k, vi x] h P k v g z κ ω Bt PI := MxF.kp M x0 (v_X7_status M.1 x)
theorem y7_says {l : Launch} {h : Hp} {P : List Nat} {k z : Nat} {v : Vg} {g : Sg} {κ τ : Bool} {ω : Vg} {Bt : Nat → Int32} (M : Md h P k v g z κ τ) (x0 : XT h k κ ω Bt) (ok : VOk v) (s x : Int32) : MxF l yX7_says cX7_says 3 (some .int) 10 [vr 7 k, vi s, vi x] h P k v g z κ ω Bt PI := by
  by_cases q : ∃ σ η β, σ < 8 ∧ s = nI σ ∧ (1 ≤ η ∧ η ≤ 5) ∧ β < 100 ∧ gT g σ = nI (10 + η) ∧ gY g σ = nI β ∧ inR x 6 = true ∧ undV (nI η) x = true ∧ ¬ x = 0
  · obtain ⟨σ, η, β, hσ, rfl, hη, hβ, eT, eY, hq, hu, h0⟩ := q
    exact MxF.md M (x_X7_says_y M x0 hσ hη hβ eT eY hq hu h0)
  · exact MxF.kp M x0 (v_X7_says_n M.1 M.2.1 s x q)
theorem y7_lay {l : Launch} {h : Hp} {P : List Nat} {k z : Nat} {v : Vg} {g : Sg} {κ τ : Bool} {ω : Vg} {Bt : Nat → Int32} (M : Md h P k v g z κ τ) (x0 : XT h k κ ω Bt) (ok : VOk v) (s : Int32) : MxF l yX7_lay cX7_lay 3 (some .int) 10 [vr 7 k, vi s] h P k (layV v g s) g z κ ω Bt PI := by
  by_cases q : nhA g s = 0
  · obtain ⟨σ, hσ, rfl, η, β, h1, h2, h3, -, -, -, eT, eY⟩ := nh_ok M.2.1 q
    rw [lay_hold hσ h2 h3 eT eY]
    exact MxF.kp M x0 (e_lay_y M.1 M.2.1 hσ ⟨h1, h2⟩ h3 eT eY)
  · rw [show layV v g s = v from if_neg q]
    exact MxF.kp M x0 (e_lay_n M.1 M.2.1 s q)
theorem y7_feed {l : Launch} {h : Hp} {P : List Nat} {k z : Nat} {v : Vg} {g : Sg} {κ τ : Bool} {ω : Vg} {Bt : Nat → Int32} (M : Md h P k v g z κ τ) (x0 : XT h k κ ω Bt) (ok : VOk v) (x n : Int32) : MxF l yX7_feed cX7_feed 4 (some .int) 4 [vr 7 k, vi x, vi n] h P k v g (feedZ z n) κ ω (feedB Bt z x n) (fun r => r = some (vi (feedA z n))) := MxF.sm M (y_feed M x0 x n)
theorem y7_wipe {l : Launch} {h : Hp} {P : List Nat} {k z : Nat} {v : Vg} {g : Sg} {κ τ : Bool} {ω : Vg} {Bt : Nat → Int32} (M : Md h P k v g z κ τ) (x0 : XT h k κ ω Bt) (ok : VOk v)  : MxF l yX7_wipe cX7_wipe 2 (some .int) 4 [vr 7 k] h P k v g 0 κ ω Bt (fun r => r = some (vi (nI z))) := MxF.sm M (y_wipe M x0)
theorem y7_village {l : Launch} {h : Hp} {P : List Nat} {k z : Nat} {v : Vg} {g : Sg} {κ τ : Bool} {ω : Vg} {Bt : Nat → Int32} (M : Md h P k v g z κ τ) (x0 : XT h k κ ω Bt) (ok : VOk v)  : MxF l yX7_village cX7_village 3 (some .int) 12 [vr 7 k] h P k (vlV Bt z v) g 0 κ ω Bt (fun r => r = some (vi (vlA Bt z v))) := MxF.md M (y_village M x0)
theorem y7_would {l : Launch} {h : Hp} {P : List Nat} {k z : Nat} {v : Vg} {g : Sg} {κ τ : Bool} {ω : Vg} {Bt : Nat → Int32} (M : Md h P k v g z κ τ) (x0 : XT h k κ ω Bt) (ok : VOk v) (s : Int32) : MxF l yX7_would cX7_would 3 (some .long) 11 [vr 7 k, vi s] h P k v g z κ ω Bt PL := by
  by_cases q : nhA g s = 0
  · obtain ⟨σ, hσ, rfl, η, β, h1, h2, h3, -, -, -, eT, eY⟩ := nh_ok M.2.1 q
    exact MxF.md M (x_X7_would_y M x0 hσ ⟨h1, h2⟩ h3 eT eY)
  · exact MxF.kp M x0 (v_X7_would_n M.1 M.2.1 s q)
theorem y7_head {l : Launch} {h : Hp} {P : List Nat} {k z : Nat} {v : Vg} {g : Sg} {κ τ : Bool} {ω : Vg} {Bt : Nat → Int32} (M : Md h P k v g z κ τ) (x0 : XT h k κ ω Bt) (ok : VOk v)  : MxF l yX7_head cX7_head 7 (some .int) 11 [vr 7 k] h P k v g z κ ω Bt PI := ⟨τ || hdB g 8, by rw [M.al]; exact AL_pre id (fun q => by rw [q]; rfl), y_head M x0⟩
theorem y7_best {l : Launch} {h : Hp} {P : List Nat} {k z : Nat} {v : Vg} {g : Sg} {κ τ : Bool} {ω : Vg} {Bt : Nat → Int32} (M : Md h P k v g z κ τ) (x0 : XT h k κ ω Bt) (ok : VOk v) (x : Int32) : MxF l yX7_best cX7_best 2 (some .int) 17 [vr 7 k, vi x] h P k v g z κ ω Bt PI := by
  by_cases q : inR x (vP v) = true ∧ vN v ≤ 4 ∧ vP v ≤ 6
  · obtain ⟨q1, q2, q3⟩ := q
    obtain ⟨j, hj, rfl⟩ := inR_ex (by omega) q1
    exact MxF.md M (x_X7_best_y M x0 hj q2 q3)
  · exact MxF.kp M x0 (v_X7_best_n M.1 M.2.1 x (fun c => by
      rcases Nat.lt_or_ge 4 (vN v) with z | z
      · exact Or.inl z
      · exact Or.inr (Nat.lt_of_not_le (fun y => q ⟨c, z, y⟩))))
theorem y7_bestDay {l : Launch} {h : Hp} {P : List Nat} {k z : Nat} {v : Vg} {g : Sg} {κ τ : Bool} {ω : Vg} {Bt : Nat → Int32} (M : Md h P k v g z κ τ) (x0 : XT h k κ ω Bt) (ok : VOk v)  : MxF l yX7_bestDay cX7_bestDay 1 (some .long) 17 [vr 7 k] h P k v g z κ ω Bt PL := by
  by_cases q : vN v ≤ 4 ∧ vP v ≤ 6
  · exact MxF.md M (x_X7_bestDay_y M x0 q.1 q.2)
  · exact MxF.kp M x0 (v_X7_bestDay_n M.1 M.2.1 (by omega))
theorem y7_trust {l : Launch} {h : Hp} {P : List Nat} {k z : Nat} {v : Vg} {g : Sg} {κ τ : Bool} {ω : Vg} {Bt : Nat → Int32} (M : Md h P k v g z κ τ) (x0 : XT h k κ ω Bt) (ok : VOk v) (o1 o2 : Int32) : MxF l yX7_trust cX7_trust 5 (some .long) 5 [vr 7 k, vi o1, vi o2] h P k v g z κ ω Bt PL := by
  by_cases q : inR o1 (vN v) = true ∧ inR o2 (vN v) = true ∧ ¬ o1 = o2
  · exact MxF.md M (x_X7_trust_y M x0 q.1 q.2.1 q.2.2)
  · exact MxF.kp M x0 (v_X7_trust_n M.1 M.2.1 o1 o2 q)
theorem y7_image {l : Launch} {h : Hp} {P : List Nat} {k z : Nat} {v : Vg} {g : Sg} {κ τ : Bool} {ω : Vg} {Bt : Nat → Int32} (M : Md h P k v g z κ τ) (x0 : XT h k κ ω Bt) (ok : VOk v)  : MxF l yX7_image cX7_image 1 (some .int) 3 [vr 7 k] h P k v g z true v Bt (fun r => r = some (vi (nI 1))) := ⟨τ, by rw [M.al]; exact AL_pre (fun _ => rfl) id, e_image M x0⟩
theorem y7_back {l : Launch} {h : Hp} {P : List Nat} {k z : Nat} {v : Vg} {g : Sg} {κ τ : Bool} {ω : Vg} {Bt : Nat → Int32} (M : Md h P k v g z κ τ) (x0 : XT h k κ ω Bt) (ok : VOk v)  : MxF l yX7_back cX7_back 1 (some .int) 3 [vr 7 k] h P k (if κ then ω else v) g z κ ω Bt (fun r => r = some (vi (if κ then nI 1 else -5))) := MxF.sm M (e_back M x0)
end
