/-! PART 55: holdings by worth: the reference's are the class's; all together -/
theorem inB_bt {x : Int32} {q : Nat} (hq : q < 32) : inB x (nI q) = bt x q := by
  unfold inB
  rw [decide_eq_true (show ¬ nI q = -1 from fun z => nI_nm1 (by omega) z), Bool.true_and]
  cases e : bt x q
  · exact decide_eq_false (not_not_intro ((pow_0 x hq).mpr e))
  · exact decide_eq_true (fun z => by rw [(pow_0 x hq).mp z] at e; cases e)
theorem inB_or {x : Int32} {p q : Nat} (hp : p < 32) (hq : q < 32) : inB (x ||| (nI 1 <<< (nI p &&& 31))) (nI q) = (inB x (nI q) || decide (q = p)) := by
  rw [inB_bt hq, inB_bt hq, bt_or, bt_pow2 ⟨p, hp⟩ ⟨q, hq⟩]
theorem onS_a {f : Nat → Int32} {nd : Int32} {o : Nat} (ho : o < 32) : ∀ n, n ≤ 32 → (∀ p, p < n → f p = -1 ∨ ∃ j, j < 8 ∧ f p = nI j) → bt (onS f nd n) o = anyB (fun p => inB nd (nI p) && decide (f p = nI o)) n
  | 0, _, _ => bt_0 o
  | n + 1, hn, h => by
    have ih := onS_a (nd := nd) ho n (by omega) (fun p hp => h p (by omega))
    simp only [onS, anyB]
    by_cases q : nd &&& (nI 1 <<< (nI n &&& 31)) = 0
    · rw [if_neg (fun z => z.1 q), ih]
      have : inB nd (nI n) = false := by unfold inB; simp [q]
      rw [this, Bool.false_and, Bool.or_false]
    · have e1 : inB nd (nI n) = true := by
        unfold inB
        rw [decide_eq_true (show ¬ nI n = -1 from fun z => nI_nm1 (by omega) z), decide_eq_true q]; rfl
      rcases h n (by omega) with z | ⟨j, hj, z⟩
      · rw [if_neg (fun w => w.2 z), ih, z, decide_eq_false (show ¬ (-1 : Int32) = nI o from fun w => nI_nm1 (by omega) w.symm), Bool.and_false, Bool.or_false]
      · rw [if_pos ⟨q, fun w => nI_nm1 (o := j) (by omega) (z ▸ w)⟩, bt_or, ih, z, bt_pow2 ⟨j, by omega⟩ ⟨o, ho⟩, e1, Bool.true_and]
        congr 1
        by_cases w : o = j
        · subst w; simp
        · rw [decide_eq_false w, decide_eq_false (fun x => w ((nI_eq (by omega) (by omega)).mp x).symm)]
theorem any_set {F : Nat → Int32} {nd : Int32} {p o j : Nat} (h1 : F p = -1) (h2 : inB nd (nI p) = true) (ho : o < 32) (hj : j < 32) : ∀ n, anyB (fun q => inB nd (nI q) && decide (sf F p (nI o) q = nI j)) n = (anyB (fun q => inB nd (nI q) && decide (F q = nI j)) n || (decide (p < n) && decide (j = o)))
  | 0 => by simp [anyB]
  | n + 1 => by
    simp only [anyB]
    rw [any_set h1 h2 ho hj n]
    by_cases e : n = p
    · subst e
      rw [sfx_at, h2, h1, decide_eq_false (show ¬ (-1 : Int32) = nI j from fun w => nI_nm1 (by omega) w.symm), decide_eq_false (Nat.lt_irrefl n), decide_eq_true (Nat.lt_succ_self n)]
      simp only [Bool.true_and, Bool.false_and, Bool.or_false]
      congr 1
      by_cases w : j = o
      · subst w; simp
      · rw [decide_eq_false w, decide_eq_false (fun x => w ((nI_eq (by omega) (by omega)).mp x).symm)]
    · rw [sfx_ne e, show decide (p < n + 1) = decide (p < n) from decide_eq_decide.mpr (by omega)]
      cases anyB (fun q => inB nd (nI q) && decide (F q = nI j)) n <;> cases (inB nd (nI n) && decide (F n = nI j)) <;> simp
theorem fw_full {w : Vg} {Q : Nat → Bool} {am : Nat} (h : ∀ o, o < am → hasRm w (nI o) = false) : fstF (fun o => Q o && hasRm w (nI o)) nI am 0 = -1 := by
  rcases fst_sat (fun o => Q o && hasRm w (nI o)) nI am 0 with ⟨e, _⟩ | ⟨j, a, b, c, _⟩
  · exact e
  · simp only [Bool.and_eq_true] at c
    rw [h j (by omega)] at c; exact absurd c.2 (by decide)
theorem fwA_full {w : Vg} {am : Nat} (h : ∀ o, o < am → hasRm w (nI o) = false) : fwA w am = -1 := by
  unfold fwA
  rcases fst_sat (fun o => hasRm w (nI o)) nI am 0 with ⟨e, _⟩ | ⟨j, a, b, c, _⟩
  · exact e
  · rw [h j (by omega)] at c; exact absurd c (by decide)
theorem fwA_no {w : Vg} {am : Nat} (ha : am ≤ 8) (e : fwA w am = -1) : ∀ o, o < am → hasRm w (nI o) = false := by
  unfold fwA at e
  rcases fst_sat (fun o => hasRm w (nI o)) nI am 0 with ⟨_, q⟩ | ⟨j, a, b, c, d⟩
  · exact fun o ho => q o (by omega) (by omega)
  · exact absurd (d.symm.trans e) (nI_nm1 (by omega))
theorem fwA_sat {w : Vg} {am : Nat} : fwA w am = -1 ∨ ∃ o, o < am ∧ hasRm w (nI o) = true ∧ fwA w am = nI o := by
  unfold fwA
  rcases fst_sat (fun o => hasRm w (nI o)) nI am 0 with ⟨e, _⟩ | ⟨j, a, b, c, d⟩
  · exact Or.inl e
  · exact Or.inr ⟨j, by omega, c, d⟩
theorem fwM_sat {w : Vg} {am m : Nat} : fwM w am m = -1 ∨ ∃ o, o < am ∧ hasRm w (nI o) = true ∧ fwM w am m = nI o := by
  unfold fwM
  rcases fst_sat (fun o => anyB (ownB w (vF w 2 m) o) (vP w) && hasRm w (nI o)) nI am 0 with ⟨e, _⟩ | ⟨j, a, b, c, d⟩
  · exact Or.inl e
  · simp only [Bool.and_eq_true] at c
    exact Or.inr ⟨j, by omega, c.2, d⟩
theorem pkR_sat {u : Vg} {am b : Nat} {F : Nat → Int32} : (pkR u am b F = -1 ∧ fwA (vcol u 0 F) am = -1) ∨ ∃ o, o < am ∧ hasRm (vcol u 0 F) (nI o) = true ∧ pkR u am b F = nI o := by
  unfold pkR
  by_cases c : fwM (vcol u 0 F) am b = -1
  · rw [if_pos c]
    rcases fwA_sat (w := vcol u 0 F) (am := am) with e | e
    · exact Or.inl ⟨e, e⟩
    · exact Or.inr e
  · rw [if_neg c]
    exact Or.inr (fwM_sat.resolve_left c)
theorem bt_full {n o : Nat} (hn : n ≤ 12) (ho : o < n) : bt (full n) o = true := by
  unfold full
  rw [bt_nI _ (by omega), Nat.testBit_two_pow_sub_one]
  exact decide_eq_true ho
theorem fwR_full {w : Vg} {r : Nat → Int32} {am : Nat} (h : RRm w r) (hN : vN w ≤ 8) (hP : vP w ≤ 12) (ha : am ≤ vN w) : fwR r (full (vN w)) am = fwA w am := by
  unfold fwR fwA
  refine fst_c _ _ (fun j _ hj => ⟨?_, rfl⟩)
  unfold fwP
  rw [rr_has h hN hP (by omega), decide_eq_true (show ¬ full (vN w) &&& (nI 1 <<< (nI j &&& 31)) = 0 from fun z => by
    have := (pow_0 _ (by omega)).mp z
    rw [bt_full (by omega) (by omega)] at this; cases this), Bool.true_and]
theorem fwR_ow {w : Vg} {r : Nat → Int32} {ow : Int32} {am m : Nat} (h : RRm w r) (hN : vN w ≤ 8) (hP : vP w ≤ 12) (ha : am ≤ vN w) (hw : ∀ o, o < 32 → bt ow o = anyB (ownB w (vF w 2 m) o) (vP w)) : fwR r ow am = fwM w am m := by
  unfold fwR fwM
  refine fst_c _ _ (fun j _ hj => ⟨?_, rfl⟩)
  unfold fwP
  rw [rr_has h hN hP (by omega), ← hw j (by omega)]
  congr 1
  cases e : bt ow j
  · exact decide_eq_false (not_not_intro ((pow_0 ow (by omega)).mpr e))
  · exact decide_eq_true (fun z => by rw [(pow_0 ow (by omega)).mp z] at e; cases e)
/-- nobody has room -/
def FUL (u : Vg) (am : Nat) (F : Nat → Int32) : Prop := ∀ o, o < am → hasRm (vcol u 0 F) (nI o) = false
def HK (u : Vg) (F : Nat → Int32) : Prop := ∀ q, q < vP u → F q = -1 ∨ ∃ j, j < vN u ∧ F q = nI j
def GI (u : Vg) (am : Nat) (F : Nat → Int32) (gn : Int32) (a : Nat) : Prop := ∀ q, a ≤ q → q < vP u → (inB gn (nI q) = false → F q = -1) ∧ (inB gn (nI q) = true → F q = -1 → FUL u am F)
theorem hk_set {u : Vg} {F : Nat → Int32} {p o : Nat} (h : HK u F) (ho : o < vN u) : HK u (sf F p (nI o)) := fun q hq => by
  by_cases e : q = p
  · rw [e, sfx_at]; exact Or.inr ⟨o, ho, rfl⟩
  · rw [sfx_ne e]; exact h q hq
theorem nd_eq {u : Vg} {am β : Nat} {F0 r0 : Nat → Int32} {ow0 gn0 : Int32} (hN : vN u ≤ 8) (hP : vP u ≤ 12) (ha : am ≤ vN u) (h1 : RRm (vcol u 0 F0) r0) (h2 : ∀ o, o < 32 → bt ow0 o = anyB (ownB (vcol u 0 F0) (vF u 2 β) o) (vP u)) (h3 : HK u F0) (h4 : GI u am F0 gn0 0) : ∀ p, p ≤ vP u →
    (ndS (vN u) F0 r0 ow0 (vF u 2 β) am p).1 = (hnF u am β F0 gn0 p).1 ∧ RRm (vcol u 0 (hnF u am β F0 gn0 p).1) (ndS (vN u) F0 r0 ow0 (vF u 2 β) am p).2.1 ∧ (∀ o, o < 32 → bt (ndS (vN u) F0 r0 ow0 (vF u 2 β) am p).2.2 o = anyB (ownB (vcol u 0 (hnF u am β F0 gn0 p).1) (vF u 2 β) o) (vP u)) ∧ HK u (hnF u am β F0 gn0 p).1 ∧ GI u am (hnF u am β F0 gn0 p).1 (hnF u am β F0 gn0 p).2 0
  | 0, _ => ⟨rfl, h1, h2, h3, h4⟩
  | p + 1, hp => by
    obtain ⟨i1, i2, i3, i4, i5⟩ := nd_eq hN hP ha h1 h2 h3 h4 p (by omega)
    have eN : ndS (vN u) F0 r0 ow0 (vF u 2 β) am (p + 1) = if ¬ (vF u 2 β &&& (nI 1 <<< (nI p &&& 31))) = 0 ∧ (ndS (vN u) F0 r0 ow0 (vF u 2 β) am p).1 p = -1 ∧ ¬ pck (vN u) (ndS (vN u) F0 r0 ow0 (vF u 2 β) am p).2.1 (ndS (vN u) F0 r0 ow0 (vF u 2 β) am p).2.2 am = -1 then
      (sf (ndS (vN u) F0 r0 ow0 (vF u 2 β) am p).1 p (pck (vN u) (ndS (vN u) F0 r0 ow0 (vF u 2 β) am p).2.1 (ndS (vN u) F0 r0 ow0 (vF u 2 β) am p).2.2 am), tkn (ndS (vN u) F0 r0 ow0 (vF u 2 β) am p).2.1 (pck (vN u) (ndS (vN u) F0 r0 ow0 (vF u 2 β) am p).2.1 (ndS (vN u) F0 r0 ow0 (vF u 2 β) am p).2.2 am),
        (ndS (vN u) F0 r0 ow0 (vF u 2 β) am p).2.2 ||| (nI 1 <<< (pck (vN u) (ndS (vN u) F0 r0 ow0 (vF u 2 β) am p).2.1 (ndS (vN u) F0 r0 ow0 (vF u 2 β) am p).2.2 am &&& 31)))
      else ndS (vN u) F0 r0 ow0 (vF u 2 β) am p := rfl
    have eH : hnF u am β F0 gn0 (p + 1) = if inB (vF u 2 β) (nI p) = true ∧ inB (hnF u am β F0 gn0 p).2 (nI p) = false then
      (sf (hnF u am β F0 gn0 p).1 p (pkR u am β (hnF u am β F0 gn0 p).1), (hnF u am β F0 gn0 p).2 ||| (nI 1 <<< (nI p &&& 31))) else hnF u am β F0 gn0 p := rfl
    have epk : pck (vN u) (ndS (vN u) F0 r0 ow0 (vF u 2 β) am p).2.1 (ndS (vN u) F0 r0 ow0 (vF u 2 β) am p).2.2 am = pkR u am β (hnF u am β F0 gn0 p).1 := by
      unfold pck pkR
      rw [fwR_ow (w := vcol u 0 (hnF u am β F0 gn0 p).1) (m := β) i2 hN hP ha i3, show fwR (ndS (vN u) F0 r0 ow0 (vF u 2 β) am p).2.1 (full (vN u)) am = fwA (vcol u 0 (hnF u am β F0 gn0 p).1) am from fwR_full (w := vcol u 0 (hnF u am β F0 gn0 p).1) i2 hN hP ha]
    rw [epk, i1] at eN
    generalize ndS (vN u) F0 r0 ow0 (vF u 2 β) am p = S at i1 i2 i3 eN
    generalize ndS (vN u) F0 r0 ow0 (vF u 2 β) am (p + 1) = S' at eN
    generalize hnF u am β F0 gn0 p = T at i1 i2 i3 i4 i5 eN eH epk
    generalize hnF u am β F0 gn0 (p + 1) = T' at eH
    obtain ⟨F, gn⟩ := T
    simp only at i1 i2 i3 i4 i5 eN eH epk
    have eb : (¬ (vF u 2 β &&& (nI 1 <<< (nI p &&& 31))) = 0) ↔ inB (vF u 2 β) (nI p) = true := by
      rw [inB_bt (by omega), pow_0 _ (by omega)]; simp
    by_cases cn : inB (vF u 2 β) (nI p) = true
    · by_cases cg : inB gn (nI p) = false
      · have fp := (i5 p (by omega) (by omega)).1 cg
        rw [if_pos ⟨cn, cg⟩] at eH
        have gi : ∀ F', (∀ q, ¬ q = p → F' q = F q) → (F' p = -1 → FUL u am F') → (∀ q, q < vP u → ¬ q = p → inB gn (nI q) = true → F q = -1 → FUL u am F') → GI u am F' (gn ||| (nI 1 <<< (nI p &&& 31))) 0 := fun F' a b c q _ hq => by
          rw [inB_or (by omega) (by omega)]
          by_cases e : q = p
          · subst e
            refine ⟨fun z => ?_, fun _ z => b z⟩
            rw [decide_eq_true rfl, Bool.or_true] at z; cases z
          · rw [decide_eq_false e, Bool.or_false, a q e]
            exact ⟨(i5 q (by omega) hq).1, fun z1 z2 => c q hq e z1 z2⟩
        rcases pkR_sat (u := u) (am := am) (b := β) (F := F) with ⟨e, ea⟩ | ⟨o, ho, hr, e⟩
        · rw [e, if_neg (fun z => z.2.2 rfl)] at eN
          rw [e, sf_id fp] at eH
          subst eN; subst eH
          exact ⟨i1, i2, i3, i4, gi F (fun _ _ => rfl) (fun _ => fwA_no (by omega) ea) (fun q hq e z1 z2 => (i5 q (by omega) hq).2 z1 z2)⟩
        · have n1 : ¬ nI o = -1 := nI_nm1 (by omega)
          rw [e, if_pos ⟨eb.mpr cn, fp, n1⟩] at eN
          rw [e] at eH
          subst eN; subst eH
          have hoN : o < vN u := by omega
          refine ⟨rfl, rr_put' i2 (Or.inl rfl) (by omega) fp hN hP hoN hr, fun j hj => ?_, hk_set i4 hoN, gi _ (fun q hq => sfx_ne hq) (fun z => absurd (sfx_at.symm.trans z) n1) (fun q hq e z1 z2 => ?_)⟩
          · show bt (S.2.2 ||| (nI 1 <<< (nI o &&& 31))) j = anyB (fun q => inB (vF u 2 β) (nI q) && decide (sf F p (nI o) q = nI j)) (vP u)
            rw [bt_or, i3 j hj, bt_pow2 ⟨o, by omega⟩ ⟨j, hj⟩, any_set fp cn (by omega) hj, decide_eq_true (show p < vP u by omega), Bool.true_and]
            rfl
          · have := (i5 q (by omega) hq).2 z1 z2 o ho
            rw [hr] at this; cases this
      · rw [Bool.not_eq_false] at cg
        rw [if_neg (fun z => by rw [cg] at z; exact absurd z.2 (by decide))] at eH
        have nN : ¬ (¬ (vF u 2 β &&& (nI 1 <<< (nI p &&& 31))) = 0 ∧ F p = -1 ∧ ¬ pkR u am β F = -1) := fun z => by
          have fl := (i5 p (by omega) (by omega)).2 cg z.2.1
          apply z.2.2
          unfold pkR
          rw [show fwM (vcol u 0 F) am β = -1 from fw_full fl, if_pos rfl]
          exact fwA_full fl
        rw [if_neg nN] at eN
        subst eN; subst eH
        exact ⟨i1, i2, i3, i4, i5⟩
    · rw [if_neg (fun z => cn z.1)] at eH
      rw [if_neg (fun z => cn (eb.mp z.1))] at eN
      subst eN; subst eH
      exact ⟨i1, i2, i3, i4, i5⟩
/-- what a village keeps to -/
def VOk (v : Vg) : Prop := (∀ o, o < vN v → ∃ H, H ≤ 9 ∧ vF v 4 o = nI H) ∧ (∀ o, o < vN v → ∃ A, A ≤ 10 ∧ vF v 5 o = nI A) ∧ (∀ m, m < vM v → ∃ W, 1 ≤ W ∧ W ≤ 99 ∧ vF v 3 m = nI W) ∧ (∀ o, o < vN v → vF v 6 o = nI 0 ∨ vF v 6 o = nI 1) ∧ (∀ p, p < vP v → vF v 0 p = -1 ∨ ∃ o, o < vN v ∧ vF v 0 p = nI o) ∧ (∀ p, p < vP v → vF v 1 p = -1 ∨ ∃ o, o < vN v ∧ vF v 1 p = nI o) ∧ (∀ m, m < vM v → ∃ S, 1 ≤ S ∧ S < 2 ^ vP v ∧ vF v 2 m = nI S) ∧ vP v ≤ 12 ∧ vM v ≤ 6 ∧ vN v ≤ 8
theorem wt_eq {u : Vg} {D : Int32} (hM : vM u ≤ 6) (hW : ∀ m, m < vM u → ∃ W, 1 ≤ W ∧ W ≤ 99 ∧ vF u 3 m = nI W) : ∀ n, n ≤ vM u → (wtS u D n).1 = bsF u D n ∧ (wtS u D n).2 = if bsF u D n = -1 then nI 0 else vF u 3 (bsF u D n).toNatClampNeg
  | 0, _ => ⟨rfl, rfl⟩
  | n + 1, hn => by
    obtain ⟨i1, i2⟩ := wt_eq (D := D) hM hW n (by omega)
    obtain ⟨W, w1, w2, eW⟩ := hW n (by omega)
    have eS : bsF u D (n + 1) = if inB D (nI n) = false ∧ (bsF u D n = -1 ∨ vF u 3 (bsF u D n).toNatClampNeg < vF u 3 n) then nI n else bsF u D n := rfl
    have eU : wtS u D (n + 1) = if D &&& (nI 1 <<< (nI n &&& 31)) = 0 ∧ ¬ vF u 3 n ≤ (wtS u D n).2 then (nI n, vF u 3 n) else wtS u D n := rfl
    have n1 : ¬ nI n = -1 := nI_nm1 (by omega)
    have eb : (D &&& (nI 1 <<< (nI n &&& 31)) = 0) ↔ inB D (nI n) = false := by rw [inB_bt (by omega), pow_0 _ (by omega)]
    rw [eS, eU, i2]
    by_cases hb : inB D (nI n) = false
    · have hb2 := eb.mpr hb
      by_cases q : bsF u D n = -1
      · have lt : ¬ vF u 3 n ≤ nI 0 := by rw [eW]; intro z; have := nI_le0 (by omega) (show nI W ≤ 0 from z); omega
        rw [if_pos q, if_pos (show D &&& (nI 1 <<< (nI n &&& 31)) = 0 ∧ ¬ vF u 3 n ≤ nI 0 from ⟨hb2, lt⟩), if_pos (show inB D (nI n) = false ∧ (bsF u D n = -1 ∨ vF u 3 (bsF u D n).toNatClampNeg < vF u 3 n) from ⟨hb, Or.inl q⟩), if_neg n1, clN (show n < 2 ^ 31 by omega)]
        exact ⟨rfl, rfl⟩
      · rw [if_neg q]
        by_cases lt : vF u 3 (bsF u D n).toNatClampNeg < vF u 3 n
        · rw [if_pos (show D &&& (nI 1 <<< (nI n &&& 31)) = 0 ∧ ¬ vF u 3 n ≤ vF u 3 (bsF u D n).toNatClampNeg from ⟨hb2, Int32.not_le.mpr lt⟩), if_pos (show inB D (nI n) = false ∧ (bsF u D n = -1 ∨ vF u 3 (bsF u D n).toNatClampNeg < vF u 3 n) from ⟨hb, Or.inr lt⟩), if_neg n1, clN (show n < 2 ^ 31 by omega)]
          exact ⟨rfl, rfl⟩
        · rw [if_neg (show ¬ (D &&& (nI 1 <<< (nI n &&& 31)) = 0 ∧ ¬ vF u 3 n ≤ vF u 3 (bsF u D n).toNatClampNeg) from fun z => lt (Int32.not_le.mp z.2)), if_neg (show ¬ (inB D (nI n) = false ∧ (bsF u D n = -1 ∨ vF u 3 (bsF u D n).toNatClampNeg < vF u 3 n)) from fun z => z.2.elim q lt), if_neg q]
          exact ⟨i1, i2.trans (if_neg q)⟩
    · rw [if_neg (show ¬ (D &&& (nI 1 <<< (nI n &&& 31)) = 0 ∧ ¬ vF u 3 n ≤ (if bsF u D n = -1 then nI 0 else vF u 3 (bsF u D n).toNatClampNeg)) from fun z => hb (eb.mp z.1)), if_neg (show ¬ (inB D (nI n) = false ∧ (bsF u D n = -1 ∨ vF u 3 (bsF u D n).toNatClampNeg < vF u 3 n)) from fun z => hb z.1)]
      exact ⟨i1, i2⟩
theorem wh_eq {u : Vg} {am : Nat} {f0 r0 : Nat → Int32} (hN : vN u ≤ 8) (hP : vP u ≤ 12) (hM : vM u ≤ 6) (ha : am ≤ vN u) (hW : ∀ m, m < vM u → ∃ W, 1 ≤ W ∧ W ≤ 99 ∧ vF u 3 m = nI W) (h1 : RRm (vcol u 0 f0) r0) (h3 : ∀ q, q < vP u → f0 q = -1) : ∀ t, t ≤ vM u →
    (whS u f0 r0 am t).1 = (hwF u am f0 t).1 ∧ (whS u f0 r0 am t).2.2 = (hwF u am f0 t).2.1 ∧ RRm (vcol u 0 (hwF u am f0 t).1) (whS u f0 r0 am t).2.1 ∧ HK u (hwF u am f0 t).1 ∧ GI u am (hwF u am f0 t).1 (hwF u am f0 t).2.2 0
  | 0, _ => ⟨rfl, rfl, h1, fun q hq => Or.inl (h3 q hq), fun q _ hq => ⟨fun _ => h3 q hq, fun z => absurd (z.symm.trans (show inB (nI 0) (nI q) = false from (inB_bt (by omega)).trans (bt_0 q))) (by decide)⟩⟩
  | t + 1, ht => by
    obtain ⟨i1, i2, i3, i4, i5⟩ := wh_eq hN hP hM ha hW h1 h3 t (by omega)
    obtain ⟨β, hβ, eβ⟩ := hw_best (hw_cnt u am f0 hM t (by omega)) (by omega) (bs_ex u (hwF u am f0 t).2.1 (vM u) (by omega))
    have ew : (wtS u (hwF u am f0 t).2.1 (vM u)).1 = nI β := ((wt_eq hM hW (vM u) (Nat.le_refl _)).1).trans eβ
    have on := fun o (ho : o < 32) => onS_a (f := (hwF u am f0 t).1) (nd := vF u 2 β) (o := o) ho (vP u) (by omega) (fun p hp => (i4 p hp).imp id (fun ⟨j, a, b⟩ => ⟨j, by omega, b⟩))
    have nd := nd_eq (β := β) hN hP ha i3 on i4 i5 (vP u) (Nat.le_refl _)
    simp only [whS, hwF]
    rw [i1, i2, ew, eβ, if_neg (nI_nm1 (by omega)), clN (show β < 2 ^ 31 by omega)]
    exact ⟨nd.1, rfl, nd.2.1, nd.2.2.2.1, nd.2.2.2.2⟩
theorem fi_eq {u : Vg} {am : Nat} {f r : Nat → Int32} {gn : Int32} (hN : vN u ≤ 8) (hP : vP u ≤ 12) (ha : am ≤ vN u) (h1 : RRm (vcol u 0 f) r) (h4 : GI u am f gn 0) : ∀ p, p ≤ vP u →
    (fiS (vN u) f r am p).1 = hfF u am gn f p ∧ RRm (vcol u 0 (hfF u am gn f p)) (fiS (vN u) f r am p).2 ∧ GI u am (hfF u am gn f p) gn p
  | 0, _ => ⟨rfl, h1, h4⟩
  | p + 1, hp => by
    obtain ⟨i1, i2, i3⟩ := fi_eq hN hP ha h1 h4 p (by omega)
    have eF : fiS (vN u) f r am (p + 1) = if (fiS (vN u) f r am p).1 p = -1 then (sf (fiS (vN u) f r am p).1 p (fwR (fiS (vN u) f r am p).2 (full (vN u)) am), tkn (fiS (vN u) f r am p).2 (fwR (fiS (vN u) f r am p).2 (full (vN u)) am)) else fiS (vN u) f r am p := rfl
    have eH : hfF u am gn f (p + 1) = sf (hfF u am gn f p) p (if inB gn (nI p) = true then hfF u am gn f p p else fwA (vcol u 0 (hfF u am gn f p)) am) := rfl
    rw [i1, show fwR (fiS (vN u) f r am p).2 (full (vN u)) am = fwA (vcol u 0 (hfF u am gn f p)) am from fwR_full (w := vcol u 0 (hfF u am gn f p)) i2 hN hP ha] at eF
    generalize fiS (vN u) f r am p = S at i1 i2 eF
    generalize fiS (vN u) f r am (p + 1) = S' at eF
    generalize hfF u am gn f p = T at i1 i2 i3 eF eH
    generalize hfF u am gn f (p + 1) = T' at eH
    have up : ∀ q, p + 1 ≤ q → q < vP u → (inB gn (nI q) = false → T q = -1) ∧ (inB gn (nI q) = true → T q = -1 → FUL u am T) := fun q h hq => i3 q (by omega) hq
    by_cases cg : inB gn (nI p) = true
    · rw [if_pos cg, sf_id rfl] at eH
      by_cases fp : T p = -1
      · have fl := (i3 p (Nat.le_refl _) (by omega)).2 cg fp
        rw [if_pos fp, fwA_full fl, sf_id fp, tkn_n1] at eF
        subst eF; subst eH
        exact ⟨rfl, i2, up⟩
      · rw [if_neg fp] at eF
        subst eF; subst eH
        exact ⟨i1, i2, up⟩
    · have fp := (i3 p (Nat.le_refl _) (by omega)).1 (by simpa using cg)
      rw [if_neg cg] at eH
      rw [if_pos fp] at eF
      rcases fwA_sat (w := vcol u 0 T) (am := am) with e | ⟨o, ho, hr, e⟩
      · rw [e, sf_id fp] at eH
        rw [e, sf_id fp, tkn_n1] at eF
        subst eF; subst eH
        exact ⟨rfl, i2, up⟩
      · rw [e] at eH eF
        subst eF; subst eH
        have hoN : o < vN u := by omega
        refine ⟨rfl, rr_put' i2 (Or.inl rfl) (by omega) fp hN hP hoN hr, fun q h hq => ?_⟩
        rw [sfx_ne (show ¬ q = p by omega)]
        refine ⟨(up q h hq).1, fun z1 z2 => ?_⟩
        have := (up q h hq).2 z1 z2 o ho
        rw [hr] at this; cases this
theorem hWh_eq {u : Vg} {am : Nat} {r : Nat → Int32} (hN : vN u ≤ 8) (hP : vP u ≤ 12) (hM : vM u ≤ 6) (ha : am ≤ vN u) (hW : ∀ m, m < vM u → ∃ W, 1 ≤ W ∧ W ≤ 99 ∧ vF u 3 m = nI W) (h1 : RRm u r) (h3 : ∀ q, q < vP u → vF u 0 q = -1) : (hWh u r am).1 = hWR u am (vF u 0) := by
  have w := wh_eq (f0 := vF u 0) (r0 := r) hN hP hM ha hW (by rw [vc_0]; exact h1) h3 (vM u) (Nat.le_refl _)
  unfold hWh hWR
  have f := fi_eq (am := am) hN hP ha w.2.2.1 w.2.2.2.2 (vP u) (Nat.le_refl _)
  rw [w.1]
  exact f.1
theorem pcs_clr {v : Vg} {j : Nat} (hj : j < 2 ^ 30) : ∀ n, n ≤ vP v → pcs (clr v (vP v)) (nI j) n = 0
  | 0, _ => rfl
  | n + 1, hn => by
    have nj : ¬ (-1 : Int32) = nI j := fun q => nI_nm1 (by omega) q.symm
    have e : ∀ c, c < 2 → vF (clr v (vP v)) c n = -1 := fun c hc => by simp only [clr, vF]; rw [if_pos ⟨hc, by omega⟩]
    simp only [pcs]
    rw [pcs_clr hj n (by omega), e 0 (by decide), e 1 (by decide), if_neg nj]
theorem rst_e {n b : Nat} (hn : n ≤ 8) (hb : b < 100) : rst n (nI b) = nI (if n = 0 then 0 else b % n) := by
  unfold rst
  by_cases h : n = 0
  · subst h; rfl
  · rw [if_neg h, if_neg (fun z => h (nI_zz z)), pmod (by omega) (by omega) (by omega)]
/-- a holding told anew: the reference's village is the class's -/
theorem tell_eq {v : Vg} {r : Nat → Int32} {κ b : Nat} (h : VOk v) (hκ : 1 ≤ κ ∧ κ ≤ 5) (hb : b < 100) : hAR v κ b = tellV v r b κ := by
  obtain ⟨o1, o2, o3, -, -, -, -, hP, hM, hN⟩ := h
  have e0 : ∀ q, q < vP v → vF (clr v (vP v)) 0 q = -1 := fun q hq => by simp only [clr, vF]; rw [if_pos ⟨by decide, hq⟩]
  have e1 : ∀ q, q < vP v → vF (clr v (vP v)) 1 q = -1 := fun q hq => by simp only [clr, vF]; rw [if_pos ⟨by decide, hq⟩]
  have ek : ∀ c i, 2 ≤ c → vF (clr v (vP v)) c i = vF v c i := fun c i hc => by simp only [clr, vF]; rw [if_neg (by omega)]
  have RR : RRm (clr v (vP v)) (r1 v r (vN v)) := fun o ho => by
    have ho : o < vN v := ho
    obtain ⟨H, h1, h2⟩ := o1 o ho
    have z := pcs_clr (v := v) (j := o) (by omega) (vP v) (Nat.le_refl _)
    refine ⟨H, h1, (ek 4 o (by decide)).trans h2, ?_⟩
    show pcs (clr v (vP v)) (nI o) (vP v) ≤ H ∧ r1 v r (vN v) o = nI (H - pcs (clr v (vP v)) (nI o) (vP v))
    rw [z]
    exact ⟨Nat.zero_le _, by unfold r1; rw [if_pos ho, h2]; rfl⟩
  have hW : ∀ m, m < vM (clr v (vP v)) → ∃ W, 1 ≤ W ∧ W ≤ 99 ∧ vF (clr v (vP v)) 3 m = nI W := fun m hm => by rw [ek 3 m (by decide)]; exact o3 m hm
  have hA : ∀ o, o < vN (clr v (vP v)) → ∃ A, A ≤ 10 ∧ vF (clr v (vP v)) 5 o = nI A := fun o ho => by rw [ek 5 o (by decide)]; exact o2 o ho
  have RR0 : RRm (vcol (clr v (vP v)) 0 (vF (clr v (vP v)) 0)) (r1 v r (vN v)) := by rw [vc_0]; exact RR
  have pl : plc v b ≤ vN v := by unfold plc; split; omega; exact Nat.le_of_lt (Nat.mod_lt _ (by omega))
  have er : rst (vN (clr v (vP v))) (nI b) = nI (plc v b) := rst_e hN hb
  have rd := rg_eq (u := clr v (vP v)) (c := 0) (a := plc v b) (bt := fun _ => -1) (b2 := fun _ _ => -1) (Or.inl rfl) hN hP (fun _ _ => rfl) RR0 pl e0 (vP v) (Nat.le_refl _)
  obtain ⟨k1, k5⟩ := hκ
  unfold hAR tellV
  have wh : ∀ am, am ≤ vN v → (hWh (clr v (vP v)) (r1 v r (vN v)) am).1 = hWR (clr v (vP v)) am (vF (clr v (vP v)) 0) := fun am ha => hWh_eq hN hP hM ha hW RR e0
  match κ, k1, k5 with
  | 1, _, _ =>
    rw [if_pos (Or.inl rfl), if_neg (fun z => by omega)]
    show _ = vcol (clr v (vP v)) 0 (hWh (clr v (vP v)) (r1 v r (vN v)) (vN v)).1
    rw [wh (vN v) (Nat.le_refl _)]
  | 2, _, _ =>
    rw [if_neg (by omega), if_neg (by omega), show decide (2 = 4) = false from rfl, rn_rg]
    show _ = vcol (clr v (vP v)) 0 (hRd (clr v (vP v)) (r1 v r (vN v)) (nI b)).1
    unfold hRd
    rw [er]
    exact congrArg (vcol (clr v (vP v)) 0) rd.1.symm
  | 3, _, _ =>
    rw [if_neg (by omega), if_pos rfl, rn_rg, rs_rg]
    show _ = vcol (vcol (clr v (vP v)) 0 (hRd (clr v (vP v)) (r1 v r (vN v)) (nI b)).1) 1 (hAg (vcol (clr v (vP v)) 0 (hRd (clr v (vP v)) (r1 v r (vN v)) (nI b)).1) (hRd (clr v (vP v)) (r1 v r (vN v)) (nI b)).2.1 (hRd (clr v (vP v)) (r1 v r (vN v)) (nI b)).2.2).1
    have eR : hRd (clr v (vP v)) (r1 v r (vN v)) (nI b) = gvR (vN (clr v (vP v))) (fun _ _ => -1) (vF (clr v (vP v)) 0) (r1 v r (vN v)) (nI (plc v b)) (vP v) := by unfold hRd; rw [er]; rfl
    rw [eR]
    generalize gvR (vN (clr v (vP v))) (fun _ _ => -1) (vF (clr v (vP v)) 0) (r1 v r (vN v)) (nI (plc v b)) (vP v) = S at rd
    obtain ⟨d1, d2, d3, d4, d5⟩ := rd
    rw [d1, d3]
    have ag := rg_eq (u := vcol (clr v (vP v)) 0 (rgF (clr v (vP v)) 0 (fun _ => -1) (vF (clr v (vP v)) 0) (plc v b) (vP v)).1) (c := 1) (f := vF (clr v (vP v)) 1) (r := S.2.1) (a := (rgF (clr v (vP v)) 0 (fun _ => -1) (vF (clr v (vP v)) 0) (plc v b) (vP v)).2) (bt := fun p => vF (vcol (clr v (vP v)) 0 (rgF (clr v (vP v)) 0 (fun _ => -1) (vF (clr v (vP v)) 0) (plc v b) (vP v)).1) 0 p) (b2 := fun _ i => vF (vcol (clr v (vP v)) 0 (rgF (clr v (vP v)) 0 (fun _ => -1) (vF (clr v (vP v)) 0) (plc v b) (vP v)).1) 0 i) (Or.inr rfl) hN hP (fun _ _ => rfl)
      (by have e9 : vcol (vcol (clr v (vP v)) 0 (rgF (clr v (vP v)) 0 (fun _ => -1) (vF (clr v (vP v)) 0) (plc v b) (vP v)).1) 1 (vF (clr v (vP v)) 1) = vcol (clr v (vP v)) 0 (rgF (clr v (vP v)) 0 (fun _ => -1) (vF (clr v (vP v)) 0) (plc v b) (vP v)).1 := vcol_id (v := vcol (clr v (vP v)) 0 (rgF (clr v (vP v)) 0 (fun _ => -1) (vF (clr v (vP v)) 0) (plc v b) (vP v)).1) (c := 1)
          rw [e9]; exact d2) d4 e1 (vP v) (Nat.le_refl _)
    exact congrArg (vcol (vcol (clr v (vP v)) 0 (rgF (clr v (vP v)) 0 (fun _ => -1) (vF (clr v (vP v)) 0) (plc v b) (vP v)).1) 1) ag.1.symm
  | 4, _, _ =>
    rw [if_neg (by omega), if_neg (by omega), show decide (4 = 4) = true from rfl]
    show _ = vcol (clr v (vP v)) 0 (hSu (clr v (vP v)) (r1 v r (vN v))).1
    exact congrArg (vcol (clr v (vP v)) 0) (sg_eq (u := clr v (vP v)) (a := plc v b) hN hP RR0 hA e0 (vP v) (Nat.le_refl _)).1.symm
  | 5, _, _ =>
    rw [if_pos (Or.inr rfl)]
    show _ = vcol (clr v (vP v)) 0 (hWh (clr v (vP v)) (r1 v r (vN v)) (fewN (vN v) b)).1
    have ef : (if 5 = 5 ∧ 0 < b ∧ b < vN v then b else vN v) = fewN (vN v) b := by unfold fewN; split <;> split <;> (try split) <;> omega
    rw [ef, wh _ few_le]

