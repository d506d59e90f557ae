/-! PART 57e: the same answers, second part -/
theorem wk_n {v : Vg} {m : Nat} (hm : m < vM v) (hM : vM v ≤ 6) (ps : Int32) : wkW v (nI m) ps = needW v ps m := by
  unfold wkW
  rw [inN (show m < 2 ^ 31 by omega) hm, clN (show m < 2 ^ 31 by omega), Bool.true_and]
theorem sumIf_c2 {p q : Nat → Bool} {f : Nat → Int32} : ∀ n, (∀ i, i < n → p i = q i) → sumIf p f n = sumIf q f n
  | 0, _ => rfl
  | n + 1, h => by simp only [sumIf]; rw [sumIf_c2 n (fun i hi => h i (by omega)), h n (by omega)]
theorem pwt_eq {v : Vg} (ok : VOk v) {m o s : Nat} (hm : m < vM v) (ho : o < vN v) (hs : s < 2 ^ vN v) : pwP v m o s = turnP v m o s := by
  have hP := ok.2.2.2.2.2.2.2.1
  have hM := ok.2.2.2.2.2.2.2.2.1
  have hN := ok.2.2.2.2.2.2.2.2.2
  have l : s ||| 2 ^ o < 2 ^ vN v := Nat.or_lt_two_pow hs (Nat.pow_lt_pow_right (by omega) ho)
  unfold pwP turnP
  rw [inB_N (show o < 32 by omega), wk_n hm hM, wk_n hm hM, gat_has hP hN ok.ho hs, gat_has hP hN ok.ho l, sh1 (show o < 13 by omega), nI_or]
theorem pow_eq {v : Vg} (ok : VOk v) {m o : Nat} (hm : m < vM v) (ho : o < vN v) : sumIf (pwP v m o) (turnF v) (2 ^ vN v) = turnV v m o := sumIf_c2 _ (fun s hs => pwt_eq ok hm ho hs)
theorem powA_eq {v : Vg} (ok : VOk v) (m o : Int32) : powR v m o = powA v m o := by
  have hM := ok.2.2.2.2.2.2.2.2.1
  have hN := ok.2.2.2.2.2.2.2.2.2
  unfold powR powA
  by_cases c : (inR m (vM v) && inR o (vN v)) = true
  · rw [if_pos c, if_pos c]
    simp only [Bool.and_eq_true] at c
    obtain ⟨a, ha, rfl⟩ := inR_ex (by omega) c.1
    obtain ⟨b, hb, rfl⟩ := inR_ex (by omega) c.2
    rw [clN (show a < 2 ^ 31 by omega), clN (show b < 2 ^ 31 by omega)]
    exact pow_eq ok ha hb
  · rw [if_neg c, if_neg c]
theorem minIf_c {p q : Nat → Bool} {f : Nat → Int32} {z : Int32} : ∀ n, (∀ i, i < n → p i = q i) → minIf p f z n = minIf q f z n
  | 0, _ => rfl
  | n + 1, h => by simp only [minIf]; rw [minIf_c n (fun i hi => h i (by omega)), h n (by omega)]
theorem minIf_up {p : Nat → Bool} {f : Nat → Int32} {z : Int32} {a : Nat} : ∀ d, (∀ i, a ≤ i → i < a + d → p i = false) → minIf p f z (a + d) = minIf p f z a
  | 0, _ => rfl
  | d + 1, h => by
    show minIf p f z ((a + d) + 1) = _
    simp only [minIf]
    rw [h (a + d) (by omega) (by omega), if_neg (by decide), minIf_up d (fun i h1 h2 => h i h1 (by omega))]
theorem minIf_r {p : Nat → Bool} {f : Nat → Nat} : ∀ n, (∀ s, s < n → f s < 100) → ∃ j, j ≤ 9 ∧ minIf p (fun s => nI (f s)) (nI 9) n = nI j
  | 0, _ => ⟨9, Nat.le_refl _, rfl⟩
  | n + 1, h => by
    obtain ⟨j, hj, e⟩ := minIf_r (p := p) (f := f) n (fun s hs => h s (by omega))
    have hn := h n (by omega)
    simp only [minIf]
    rw [e]
    split
    · split
      · next c => exact ⟨f n, by have := (nI_ltI (show f n < 2 ^ 31 by omega) (show j < 2 ^ 31 by omega)).mp c; omega, rfl⟩
      · exact ⟨j, hj, rfl⟩
    · exact ⟨j, hj, rfl⟩
theorem z_shl {n : Nat} (hn : n < 32) : nI 0 <<< (nI n &&& 31) = 0 := by
  have key : ∀ n : Fin 32, nI 0 <<< (nI n.val &&& 31) = 0 := by decide +kernel
  exact key ⟨n, hn⟩
theorem cr_eq {v : Vg} (ok : VOk v) : ∀ n, n ≤ vN v → crR v n = bset (fun o => decide (¬ vF v 6 o = 0)) n
  | 0, _ => rfl
  | n + 1, h => by
    have hN := ok.2.2.2.2.2.2.2.2.2
    rcases ok.2.2.2.1 n (by omega) with e | e
    · have b1 : bset (fun o => decide (¬ vF v 6 o = 0)) (n + 1) = bset (fun o => decide (¬ vF v 6 o = 0)) n := by
        simp only [bset]
        exact if_neg (show ¬ (decide (¬ vF v 6 n = 0)) = true by rw [e]; decide)
      rw [b1, crR, cr_eq ok n (by omega), e, z_shl (by omega), Int32.or_zero]
    · have b1 : bset (fun o => decide (¬ vF v 6 o = 0)) (n + 1) = bset (fun o => decide (¬ vF v 6 o = 0)) n ||| (nI 1 <<< (nI n &&& 31)) := by
        simp only [bset]
        exact if_pos (show (decide (¬ vF v 6 n = 0)) = true by rw [e]; decide)
      rw [b1, crR, cr_eq ok n (by omega), e]
theorem crs_eq {v : Vg} (ok : VOk v) : crR v (vN v) = crs v := cr_eq ok _ (Nat.le_refl _)
theorem come_eq {v : Vg} (ok : VOk v) : come9 v = nI (willN v) := by
  have hN := ok.2.2.2.2.2.2.2.2.2
  have p8 := pow8 hN
  unfold come9 willN
  rw [crs_eq ok, crs_N (by omega)]
  unfold full
  exact nI_dif (by omega)
theorem will_lt {v : Vg} (ok : VOk v) : willN v < 2 ^ vN v := by
  have p8 := pow8 ok.2.2.2.2.2.2.2.2.2
  exact Nat.lt_of_le_of_lt (dif_le _ _) (by omega)
theorem ws_eq {v : Vg} (ok : VOk v) {m s : Nat} (hm : m < vM v) (hs : s < 2 ^ vN v) : wsP v m s = standP v m (willN v) s := by
  have hP := ok.2.2.2.2.2.2.2.1
  have hM := ok.2.2.2.2.2.2.2.2.1
  have hN := ok.2.2.2.2.2.2.2.2.2
  have p8 := pow8 hN
  have lw := will_lt ok
  unfold wsP standP
  rw [come_eq ok, nI_dif (a := s) (b := willN v) (by omega), nI_dif (a := willN v) (b := s) (by omega), wk_n hm hM, gat_has hP hN ok.ho (show dif (willN v) s < 2 ^ vN v from Nat.lt_of_le_of_lt (dif_le _ _) lw)]
theorem dif_0 {s W : Nat} (hs : s < 4096) (h : dif s W = 0) : s ≤ W := by
  have e : s = s &&& W := by
    apply Nat.eq_of_testBit_eq
    intro i
    rw [Nat.testBit_and]
    by_cases c : i < 12
    · have q := congrArg (fun z => Nat.testBit z i) h
      have q2 : (s.testBit i && ((4095 : Nat).testBit i ^^ W.testBit i)) = false := by
        have := q
        simp only [dif, Nat.testBit_and, Nat.testBit_xor, Nat.zero_testBit] at this
        exact this
      rw [show (4095 : Nat) = 2 ^ 12 - 1 from rfl, Nat.testBit_two_pow_sub_one, decide_eq_true c] at q2
      revert q2
      cases s.testBit i <;> cases W.testBit i <;> decide
    · have : s.testBit i = false := Nat.testBit_lt_two_pow (Nat.lt_of_lt_of_le hs (Nat.le_trans (by decide : 4096 ≤ 2 ^ 12) (Nat.pow_le_pow_right (by omega) (by omega))))
      rw [this]; rfl
  exact Nat.le_trans (Nat.le_of_eq e) Nat.and_le_right
theorem worst_eq {v : Vg} (ok : VOk v) {m : Nat} (hm : m < vM v) : minIf (wsP v m) (fun s => nI (pcn s)) (nI 9) (2 ^ vN v) = minIf (standP v m (willN v)) (fun s => nI (pcn s)) (nI 9) (willN v + 1) := by
  have hN := ok.2.2.2.2.2.2.2.2.2
  have p8 := pow8 hN
  have lw := will_lt ok
  rw [minIf_c _ (fun s hs => ws_eq ok hm hs)]
  obtain ⟨d, hd⟩ : ∃ d, 2 ^ vN v = (willN v + 1) + d := ⟨2 ^ vN v - (willN v + 1), by omega⟩
  rw [hd]
  refine minIf_up _ (fun i h1 h2 => ?_)
  unfold standP
  rw [decide_eq_false (fun q => ?_), Bool.false_and]
  have l : dif i (willN v) ≤ i := dif_le _ _
  have q0 : dif i (willN v) = 0 := (nI_eq (show dif i (willN v) < 2 ^ 31 by omega) (show 0 < 2 ^ 31 by decide)).mp q
  have := dif_0 (by omega) q0
  omega
theorem worst_r {v : Vg} (ok : VOk v) (p : Nat → Bool) : ∃ j, j ≤ 9 ∧ minIf p (fun s => nI (pcn s)) (nI 9) (willN v + 1) = nI j := by
  have hN := ok.2.2.2.2.2.2.2.2.2
  have p8 := pow8 hN
  have lw := will_lt ok
  exact minIf_r _ (fun s hs => by have := pcn_12 (a := s) (by omega); omega)
theorem bea_eq {v : Vg} (ok : VOk v) (m : Int32) : beaR v m = beaA v m := by
  have hM := ok.2.2.2.2.2.2.2.2.1
  unfold beaR beaA
  by_cases c : inR m (vM v) = true
  · rw [if_pos c, if_pos c]
    obtain ⟨a, ha, rfl⟩ := inR_ex (by omega) c
    rw [clN (show a < 2 ^ 31 by omega)]
    unfold bornV
    rw [worst_eq ok ha]
    obtain ⟨j, hj, e⟩ := worst_r ok (standP v a (willN v))
    rw [e]
    have key : ∀ j : Fin 10, (if nI j.val = 0 then (-5 : Int32) else nI j.val - nI 1) = (if nI j.val - nI 1 = -1 then (-5 : Int32) else nI j.val - nI 1) := by decide +kernel
    exact key ⟨j, by omega⟩
  · rw [if_neg c, if_neg c]
theorem saf_eq {v : Vg} (ok : VOk v) (k : Int32) : safR v k = safA v k := by
  have hM := ok.2.2.2.2.2.2.2.2.1
  unfold safR safA
  by_cases c : inR k 9 = true
  · rw [if_pos c, if_pos c]
    obtain ⟨η, hη, rfl⟩ := inR_ex (by omega) c
    refine bset_c _ (fun m hm => ?_)
    unfold bornV
    rw [worst_eq ok hm]
    obtain ⟨j, hj, e⟩ := worst_r ok (standP v m (willN v))
    rw [e]
    have key : ∀ e : Fin 9, ∀ j : Fin 10, decide (nI e.val < nI j.val) = decide (nI e.val ≤ nI j.val - nI 1) := by decide +kernel
    exact key ⟨η, by omega⟩ ⟨j, by omega⟩
  · rw [if_neg c, if_neg c]
theorem wiF_c {P Q : Nat → Bool} : ∀ n, (∀ i, i < n → P i = Q i) → wiF P n = wiF Q n
  | 0, _ => rfl
  | n + 1, h => by simp only [wiF]; rw [wiF_c n (fun i hi => h i (by omega)), h n (by omega)]
theorem wt2_eq {v : Vg} (ok : VOk v) (m : Int32) : wtR v m = wtA v m := by
  have hP := ok.2.2.2.2.2.2.2.1
  have hM := ok.2.2.2.2.2.2.2.2.1
  have hN := ok.2.2.2.2.2.2.2.2.2
  unfold wtR wtA
  by_cases c : inR m (vM v) = true
  · rw [if_pos c, if_pos c]
    obtain ⟨a, ha, rfl⟩ := inR_ex (by omega) c
    rw [clN (show a < 2 ^ 31 by omega), wiF_c (P := fun s => needW v (hasP v (nI s)) a) (Q := fun s => wkW v (nI a) (gat v s (vN v))) _ (fun s hs => by rw [wk_n ha hM, gat_has hP hN ok.ho hs])]
  · rw [if_neg c, if_neg c]
theorem ls_A {P : Nat → Bool} {z : Nat} : ∀ n, n ≤ z → (lsF P z n = z ∧ ∀ s, s < n → P s = true → pcn z ≤ pcn s) ∨ (lsF P z n < n ∧ P (lsF P z n) = true ∧ ∀ s, s < n → P s = true → pcn (lsF P z n) < pcn s ∨ (pcn (lsF P z n) = pcn s ∧ lsF P z n ≤ s))
  | 0, _ => Or.inl ⟨rfl, fun s hs => absurd hs (by omega)⟩
  | n + 1, h => by
    have ih := ls_A (P := P) (z := z) n (by omega)
    by_cases c : pcn n < pcn (lsF P z n) ∧ P n = true
    · have e : lsF P z (n + 1) = n := lsF_y c.1 c.2
      rw [e]
      refine Or.inr ⟨by omega, c.2, fun s hs hP => ?_⟩
      by_cases es : s = n
      · subst es; exact Or.inr ⟨rfl, Nat.le_refl _⟩
      · rcases ih with ⟨i1, i2⟩ | ⟨i1, i2, i3⟩
        · have := i2 s (by omega) hP
          rw [i1] at c
          exact Or.inl (by omega)
        · have := i3 s (by omega) hP
          exact Or.inl (by omega)
    · have e : lsF P z (n + 1) = lsF P z n := by simp only [lsF]; rw [if_neg c]
      rw [e]
      rcases ih with ⟨i1, i2⟩ | ⟨i1, i2, i3⟩
      · refine Or.inl ⟨i1, fun s hs hP => ?_⟩
        by_cases es : s = n
        · subst es
          rw [i1] at c
          exact Nat.le_of_not_lt (fun q => c ⟨q, hP⟩)
        · exact i2 s (by omega) hP
      · refine Or.inr ⟨by omega, i2, fun s hs hP => ?_⟩
        by_cases es : s = n
        · subst es
          have := Nat.le_of_not_lt (fun q => c ⟨q, hP⟩)
          omega
        · exact i3 s (by omega) hP
theorem ld_B {P : Nat → Bool} {z : Nat} : ∀ n, n ≤ z + 1 → (ldF P z n = z ∧ ∀ s, z + 1 - n ≤ s → s < z → P s = true → pcn z < pcn s) ∨ (z + 1 - n ≤ ldF P z n ∧ ldF P z n ≤ z ∧ P (ldF P z n) = true ∧ ∀ s, z + 1 - n ≤ s → s ≤ z → P s = true → pcn (ldF P z n) < pcn s ∨ (pcn (ldF P z n) = pcn s ∧ ldF P z n ≤ s))
  | 0, _ => Or.inl ⟨rfl, fun s h1 h2 => absurd h1 (by omega)⟩
  | n + 1, h => by
    have ih := ld_B (P := P) (z := z) n (by omega)
    by_cases c : P (z - n) = true ∧ pcn (z - n) ≤ pcn (ldF P z n)
    · have e : ldF P z (n + 1) = z - n := by simp only [ldF]; rw [if_pos c]
      rw [e]
      refine Or.inr ⟨by omega, by omega, c.1, fun s h1 h2 hP => ?_⟩
      by_cases es : s = z - n
      · subst es; exact Or.inr ⟨rfl, Nat.le_refl _⟩
      · rcases ih with ⟨i1, i2⟩ | ⟨i1, i2, i3, i4⟩
        · rw [i1] at c
          by_cases ez : s = z
          · subst ez; omega
          · have := i2 s (by omega) (by omega) hP
            exact Or.inl (by omega)
        · have := i4 s (by omega) h2 hP
          omega
    · have e : ldF P z (n + 1) = ldF P z n := by simp only [ldF]; rw [if_neg c]
      rw [e]
      rcases ih with ⟨i1, i2⟩ | ⟨i1, i2, i3, i4⟩
      · refine Or.inl ⟨i1, fun s h1 h2 hP => ?_⟩
        by_cases es : s = z - n
        · subst es
          rw [i1] at c
          exact Nat.lt_of_not_le (fun q => c ⟨hP, q⟩)
        · exact i2 s (by omega) h2 hP
      · refine Or.inr ⟨by omega, i2, i3, fun s h1 h2 hP => ?_⟩
        by_cases es : s = z - n
        · subst es
          exact Or.inl (Nat.lt_of_not_le (fun q => c ⟨hP, q⟩))
        · exact i4 s (by omega) h2 hP
theorem ls_ld {P : Nat → Bool} {z : Nat} (top : ∀ s, s < z → pcn s < pcn z) : ldF P z (z + 1) = lsF P z z := by
  have a := ls_A (P := P) (z := z) z (Nat.le_refl _)
  have b := ld_B (P := P) (z := z) (z + 1) (Nat.le_refl _)
  have n : ∀ s, s < z → P s = true → (lsF P z z = z → False) := fun s hs hP e => by
    rcases a with ⟨a1, a2⟩ | ⟨a1, a2, a3⟩
    · have := a2 s hs hP; have := top s hs; omega
    · omega
  rcases a with ⟨a1, a2⟩ | ⟨a1, a2, a3⟩
  · rcases b with ⟨b1, b2⟩ | ⟨b1, b2, b3, b4⟩
    · omega
    · by_cases c : ldF P z (z + 1) < z
      · exact (n _ c b3 a1).elim
      · omega
  · have t := top _ a1
    rcases b with ⟨b1, b2⟩ | ⟨b1, b2, b3, b4⟩
    · have := b2 _ (by omega) a1 a2; omega
    · have q := b4 _ (by omega) (by omega) a2
      by_cases c : ldF P z (z + 1) < z
      · have q2 := a3 _ c b3; omega
      · have : ldF P z (z + 1) = z := by omega
        rw [this] at q; omega
theorem pcn_top {n s : Nat} (hn : n ≤ 12) (hs : s < 2 ^ n - 1) : pcn s < pcn (2 ^ n - 1) := by
  have key : ∀ n : Fin 13, ∀ a : Fin 64, ∀ b : Fin 64, 64 * a.val + b.val < 2 ^ n.val - 1 → pcn (64 * a.val + b.val) < pcn (2 ^ n.val - 1) := by decide +kernel
  have l : 2 ^ n ≤ 2 ^ 12 := Nat.pow_le_pow_right (by omega) hn
  have l : 2 ^ n ≤ 4096 := l
  have q := key ⟨n, by omega⟩ ⟨s / 64, by omega⟩ ⟨s % 64, by omega⟩
  simp only [show 64 * (s / 64) + s % 64 = s by omega] at q
  exact q hs
theorem mac_0 {v : Vg} (hM : vM v ≤ 6) (ps : Int32) : decide (macW v ps = 0) = allF (fun m => !needW v ps m) (vM v) := by
  rw [Bool.eq_iff_iff]
  rw [decide_eq_true_eq, all_iff, z_bt]
  unfold macW
  constructor
  · intro h i hi
    have := h i (by omega)
    rw [bt_bset _ (by omega) _ (by omega), decide_eq_true hi, Bool.true_and] at this
    simp only [this, Bool.not_false]
  · intro h i hi
    rw [bt_bset _ (by omega) _ (by omega)]
    by_cases c : i < vM v
    · have := h i c
      simp only [Bool.not_eq_true'] at this
      rw [this, Bool.and_false]
    · rw [decide_eq_false c, Bool.false_and]
theorem leaP_eq {v : Vg} (ok : VOk v) {s : Nat} (_hs : s ≤ 2 ^ vN v) : leaQ v (2 ^ vN v) s = leaP v s := by
  have hP := ok.2.2.2.2.2.2.2.1
  have hM := ok.2.2.2.2.2.2.2.2.1
  have hN := ok.2.2.2.2.2.2.2.2.2
  have p8 := pow8 hN
  unfold leaP leaQ
  rw [mac_0 hM]
  refine allF_c _ (fun m hm => ?_)
  have l : dif (2 ^ vN v - 1) s < 2 ^ vN v := Nat.lt_of_le_of_lt (dif_le _ _) (by omega)
  unfold anP needW
  rw [nI_dif (a := 2 ^ vN v - 1) (b := s) (by omega), ← gat_has hP hN ok.ho l, nI_0, Int32.or_zero, decide_not]
theorem lsF_c {P Q : Nat → Bool} {z : Nat} : ∀ n, (∀ s, s < n → P s = Q s) → lsF P z n = lsF Q z n
  | 0, _ => rfl
  | n + 1, h => by simp only [lsF]; rw [lsF_c n (fun i hi => h i (by omega)), h n (by omega)]
theorem lea_eq {v : Vg} (ok : VOk v) : leaR v = leaA v := by
  have hN := ok.2.2.2.2.2.2.2.2.2
  have p8 := pow8 hN
  unfold leaR leaA
  have e := ls_ld (P := leaQ v (2 ^ vN v)) (z := 2 ^ vN v - 1) (fun s hs => pcn_top (by omega) hs)
  rw [show 2 ^ vN v - 1 + 1 = 2 ^ vN v by omega] at e
  rw [e, lsF_c _ (fun s hs => leaP_eq ok (by omega))]
theorem cm_or (h x : Int32) : (h ^^^ -1) ||| x = (h &&& (x ^^^ -1)) ^^^ -1 := by
  refine bt_ext (fun i hi => ?_)
  rw [bt_or, bt_cm _ hi, bt_cm _ hi, bt_and, bt_cm _ hi]
  cases bt h i <;> cases bt x i <;> rfl
theorem stoP_eq {v : Vg} (ok : VOk v) (s : Nat) : stoQ v s = stoP v s := by
  have hM := ok.2.2.2.2.2.2.2.2.1
  unfold stoP stoQ
  rw [mac_0 hM]
  refine allF_c _ (fun m hm => ?_)
  unfold anP needW
  rw [cm_or, decide_not]
theorem sto_eq {v : Vg} (ok : VOk v) : stoR v = stoA v := by
  have hP := ok.2.2.2.2.2.2.2.1
  have p12 := pow12 hP
  unfold stoR stoA
  have e := ls_ld (P := stoQ v) (z := 2 ^ vP v - 1) (fun s hs => pcn_top (by omega) hs)
  rw [show 2 ^ vP v - 1 + 1 = 2 ^ vP v by omega] at e
  rw [e, lsF_c _ (fun s hs => stoP_eq ok s)]
theorem tch_eq {v : Vg} (ok : VOk v) {o : Nat} (ho : o < 8) : tchR v o (vM v) = touch v (ownP v (nI o)) := by
  unfold tchR touch
  rw [own_eq ok ho]
theorem kyC_in (v : Vg) : ∀ n, ∃ a, a ≤ n ∧ (kyC v n).1 = nI a
  | 0 => ⟨0, Nat.le_refl _, rfl⟩
  | n + 1 => by
    obtain ⟨a, ha, e⟩ := kyC_in v n
    simp only [kyC]
    split
    · exact ⟨n, by omega, rfl⟩
    · exact ⟨a, by omega, e⟩
theorem ky_eq {v : Vg} (ok : VOk v) : ∀ n, n + 1 ≤ vN v → kyR v (n + 1) = kyC v (n + 1)
  | 0, h => by
    have hN := ok.2.2.2.2.2.2.2.2.2
    have e1 : kyR v (0 + 1) = (nI 0, nI (tchR v 0 (vM v))) := by
      show (if (kyR v 0).1 = -1 ∨ (kyR v 0).2 < nI (tchR v 0 (vM v)) then (nI 0, nI (tchR v 0 (vM v))) else kyR v 0) = _
      exact if_pos (Or.inl rfl)
    have e2 : kyC v (0 + 1) = (nI 0, nI (touch v (ownP v (nI 0)))) := by
      show (if (kyC v 0).2 < nI (touch v (ownP v (nI 0))) then (nI 0, nI (touch v (ownP v (nI 0)))) else kyC v 0) = _
      refine if_pos (show (-1 : Int32) < nI (touch v (ownP v (nI 0))) from ?_)
      have t : touch v (ownP v (nI 0)) < 2 ^ 31 := by
        have hM := ok.2.2.2.2.2.2.2.2.1
        have : ∀ (p : Nat → Bool) n, cnt p n ≤ n := fun p n => by
          induction n with
          | zero => exact Nat.le_refl _
          | succ n ih => simp only [cnt]; split <;> omega
        exact Nat.lt_of_le_of_lt (this _ _) (by omega)
      rw [Int32.lt_iff_toInt_lt, nI_toInt t, show (-1 : Int32).toInt = -1 by decide]; omega
    rw [e1, e2, tch_eq ok (by omega)]
  | n + 1, h => by
    have hN := ok.2.2.2.2.2.2.2.2.2
    have ih := ky_eq ok n (by omega)
    rw [kyR, kyC, ih, tch_eq ok (by omega)]
    obtain ⟨a, ha, e⟩ := kyC_in v (n + 1)
    by_cases c : (kyC v (n + 1)).2 < nI (touch v (ownP v (nI (n + 1))))
    · rw [if_pos (Or.inr c), if_pos c]
    · rw [if_neg (fun z => z.elim (fun y => nI_nm1 (show a < 2 ^ 31 by omega) (e ▸ y)) c), if_neg c]
theorem key_eq {v : Vg} (ok : VOk v) : keyR v = keyA v := by
  have hN := ok.2.2.2.2.2.2.2.2.2
  unfold keyR keyA
  by_cases c : vN v = 0
  · rw [c]; rfl
  · rw [if_neg (show ¬ nI (vN v) = 0 from fun q => c ((nI_eq (show vN v < 2 ^ 31 by omega) (show 0 < 2 ^ 31 by decide)).mp q))]
    obtain ⟨n, hn⟩ : ∃ n, vN v = n + 1 := ⟨vN v - 1, by omega⟩
    have e := ky_eq ok n (by omega)
    rw [← hn] at e
    rw [e]
    obtain ⟨a, ha, e2⟩ := kyC_in v (vN v)
    rw [e2, if_neg (nI_nm1 (show a < 2 ^ 31 by omega))]
theorem sumIf_b {p : Nat → Bool} {f : Nat → Int32} {b : Nat} : ∀ n, (∀ i, i < n → p i = true → ∃ K, K ≤ b ∧ f i = nI K) → ∃ K, K ≤ n * b ∧ sumIf p f n = nI K
  | 0, _ => ⟨0, by omega, rfl⟩
  | n + 1, h => by
    obtain ⟨K, k1, k2⟩ := sumIf_b (p := p) (f := f) (b := b) n (fun i hi => h i (by omega))
    simp only [sumIf]
    rw [k2, Nat.succ_mul]
    by_cases c : p n = true
    · obtain ⟨J, j1, j2⟩ := h n (by omega) c
      rw [if_pos c, j2]
      exact ⟨K + J, by omega, nI_add _ _⟩
    · rw [if_neg c]
      exact ⟨K, by omega, rfl⟩
theorem fct_b : ∀ n : Fin 9, ∀ a : Fin 9, a.val ≤ n.val - 1 → fct a.val * fct (n.val - 1 - a.val) ≤ 5040 := by decide +kernel
theorem turn_b {v : Vg} (ok : VOk v) {m o : Nat} (ho : o < vN v) : ∃ T, T ≤ 1290240 ∧ turnV v m o = nI T := by
  have hN := ok.2.2.2.2.2.2.2.2.2
  have p8 := pow8 hN
  obtain ⟨K, k1, k2⟩ := sumIf_b (p := turnP v m o) (f := turnF v) (b := 5040) (2 ^ vN v) (fun s hs hp => by
    unfold turnP at hp
    simp only [Bool.and_eq_true, Bool.not_eq_true'] at hp
    have l := pcn_no ho hN hs hp.1
    exact ⟨_, fct_b ⟨vN v, by omega⟩ ⟨pcn s, by omega⟩ l, rfl⟩)
  refine ⟨K, ?_, k2⟩
  have : 2 ^ vN v * 5040 ≤ 256 * 5040 := Nat.mul_le_mul_right _ p8.2
  omega
theorem smT_eq {v : Vg} (ok : VOk v) {o : Nat} (ho : o < vN v) : ∀ n, n ≤ vM v → ∃ K, K ≤ n * 127733760 ∧ smT v o n = nI K ∧ sumL (fun m => (vF v 3 m).toInt64 * (turnV v m o).toInt64) n = (nI K).toInt64
  | 0, _ => ⟨0, Nat.zero_le _, rfl, rfl⟩
  | n + 1, h => by
    have hM := ok.2.2.2.2.2.2.2.2.1
    obtain ⟨K, k1, k2, k3⟩ := smT_eq ok ho n (by omega)
    obtain ⟨W, w1, w2, e⟩ := ok.2.2.1 n (by omega)
    obtain ⟨T, t1, t2⟩ := turn_b ok (m := n) ho
    simp only [smT, sumL]
    rw [pow_eq ok (by omega) ho, k2, k3, e, t2, pk_mul, nI_add]
    have b : W * T ≤ 99 * 1290240 := Nat.mul_le_mul w2 t1
    have c : K ≤ 5 * 127733760 := Nat.le_trans k1 (Nat.mul_le_mul_right _ (by omega))
    refine ⟨K + W * T, by rw [Nat.succ_mul]; omega, rfl, ?_⟩
    rw [nl (show W < 2 ^ 31 by omega), nl (show T < 2 ^ 31 by omega), nl (show K < 2 ^ 31 by omega), nl (show K + W * T < 2 ^ 31 by omega), ← Int64.ofNat_mul, ← Int64.ofNat_add]
theorem sm_w {v : Vg} (ok : VOk v) {o : Nat} (ho : o < vN v) : ∃ K, K < 2 ^ 31 ∧ smT v o (vM v) = nI K ∧ worthT v o = (nI K).toInt64 := by
  have hM := ok.2.2.2.2.2.2.2.2.1
  obtain ⟨K, k1, k2, k3⟩ := smT_eq ok ho (vM v) (Nat.le_refl _)
  refine ⟨K, ?_, k2, k3⟩
  have : vM v * 127733760 ≤ 6 * 127733760 := Nat.mul_le_mul_right _ hM
  omega
theorem fi_in {v : Vg} (ok : VOk v) : ∀ n, n + 1 ≤ vN v → ∃ a K, a ≤ n ∧ K < 2 ^ 31 ∧ fiR v (n + 1) = (nI a, nI K) ∧ fiC v (n + 1) = (nI a, (nI K).toInt64)
  | 0, h => by
    obtain ⟨K, k1, k2, k3⟩ := sm_w ok (o := 0) (by omega)
    refine ⟨0, K, Nat.le_refl _, k1, ?_, ?_⟩
    · show (if (fiR v 0).1 = -1 ∨ (fiR v 0).2 < smT v 0 (vM v) then (nI 0, smT v 0 (vM v)) else fiR v 0) = _
      rw [k2]
      exact if_pos (Or.inl rfl)
    · show (if worthT v 0 ≤ (fiC v 0).2 then fiC v 0 else (nI 0, worthT v 0)) = _
      rw [k3]
      refine if_neg (show ¬ (nI K).toInt64 ≤ -1 from ?_)
      intro q
      rw [Int64.le_iff_toInt_le, Int32.toInt_toInt64, nI_toInt k1, show (-1 : Int64).toInt = -1 by decide] at q
      omega
  | n + 1, h => by
    have hN := ok.2.2.2.2.2.2.2.2.2
    obtain ⟨a, K, h1, h2, h3, h4⟩ := fi_in ok n (by omega)
    obtain ⟨J, j1, j2, j3⟩ := sm_w ok (o := n + 1) (by omega)
    rw [fiR, fiC, h3, h4, j2, j3]
    have cmp : ((nI J).toInt64 ≤ (nI K).toInt64) ↔ ¬ nI K < nI J := by rw [i64, Int32.not_lt]
    by_cases c : nI K < nI J
    · rw [if_pos (Or.inr c), if_neg (fun z => cmp.mp z c)]
      exact ⟨n + 1, J, by omega, j1, rfl, rfl⟩
    · rw [if_neg (fun z => z.elim (nI_nm1 (show a < 2 ^ 31 by omega)) c), if_pos (cmp.mpr c)]
      exact ⟨a, K, by omega, h2, rfl, rfl⟩
theorem fir_eq {v : Vg} (ok : VOk v) : firR v = firA v := by
  have hN := ok.2.2.2.2.2.2.2.2.2
  unfold firR firA
  by_cases c : vN v = 0
  · rw [c]; rfl
  · rw [if_neg (show ¬ nI (vN v) = 0 from fun q => c ((nI_eq (show vN v < 2 ^ 31 by omega) (show 0 < 2 ^ 31 by decide)).mp q))]
    obtain ⟨n, hn⟩ : ∃ n, vN v = n + 1 := ⟨vN v - 1, by omega⟩
    obtain ⟨a, K, h1, h2, h3, h4⟩ := fi_in ok n (by omega)
    rw [hn, h3, h4]
    exact if_neg (nI_nm1 (show a < 2 ^ 31 by omega))
theorem worth_0 {v : Vg} (ok : VOk v) {o : Nat} (ho : o < vN v) : ∀ n, n ≤ vM v → ∃ K, K ≤ n * 127733760 ∧ sumL (fun m => (vF v 3 m).toInt64 * (turnV v m o).toInt64) n = (nI K).toInt64 ∧ (decide (K = 0) = !anyB (trnB v o) n)
  | 0, _ => ⟨0, Nat.zero_le _, rfl, rfl⟩
  | n + 1, h => by
    have hM := ok.2.2.2.2.2.2.2.2.1
    obtain ⟨K, k1, k3, k4⟩ := worth_0 ok ho n (by omega)
    obtain ⟨W, w1, w2, e⟩ := ok.2.2.1 n (by omega)
    obtain ⟨T, t1, t2⟩ := turn_b ok (m := n) ho
    simp only [sumL, anyB]
    rw [k3, e, t2]
    have b : W * T ≤ 99 * 1290240 := Nat.mul_le_mul w2 t1
    have c : K ≤ 5 * 127733760 := Nat.le_trans k1 (Nat.mul_le_mul_right _ (by omega))
    refine ⟨K + W * T, by rw [Nat.succ_mul]; omega, ?_, ?_⟩
    · rw [nl (show W < 2 ^ 31 by omega), nl (show T < 2 ^ 31 by omega), nl (show K < 2 ^ 31 by omega), nl (show K + W * T < 2 ^ 31 by omega), ← Int64.ofNat_mul, ← Int64.ofNat_add]
    · have et : trnB v o n = !decide (T = 0) := by
        unfold trnB
        rw [pow_eq ok (by omega) ho, t2, decide_not]
        congr 1
        refine decide_eq_decide.mpr ⟨fun q => ?_, fun q => by rw [q]; decide⟩
        rw [show (0 : Int32) = nI 0 from rfl] at q
        have := (nI_leI (by omega) (by omega)).mp q
        omega
      rw [et, Bool.not_or, ← k4, Bool.not_not, ← Bool.decide_and]
      refine decide_eq_decide.mpr ⟨fun q => ?_, fun q => by rw [q.1, q.2, Nat.mul_zero]⟩
      have hK : K = 0 := by omega
      have hT : W * T = 0 := by omega
      rcases Nat.mul_eq_zero.mp hT with z | z
      · omega
      · exact ⟨hK, z⟩
theorem idl_eq {v : Vg} (ok : VOk v) : idlR v = idlA v := by
  have hM := ok.2.2.2.2.2.2.2.2.1
  unfold idlR idlA
  refine bset_c _ (fun o ho => ?_)
  obtain ⟨K, k1, k2, k3⟩ := worth_0 ok ho (vM v) (Nat.le_refl _)
  have b : K ≤ 6 * 127733760 := Nat.le_trans k1 (Nat.mul_le_mul_right _ hM)
  rw [← k3, show worthT v o = (nI K).toInt64 from k2]
  refine decide_eq_decide.mpr ⟨fun q => by rw [q]; decide, fun q => ?_⟩
  have q2 := congrArg Int64.toInt q
  rw [Int32.toInt_toInt64, nI_toInt (by omega), show (0 : Int64).toInt = 0 by decide] at q2
  omega
theorem cmO_eq {v : Vg} (ok : VOk v) (g : Sg) (s d : Int32) : hasP v (cmO v g s d) = tdP v g s d := by
  unfold cmO tdP
  rw [crs_eq ok]
theorem jdF_c {P Q : Nat → Bool} : ∀ n, (∀ i, i < n → P i = Q i) → jdF P n = jdF Q n
  | 0, _ => rfl
  | n + 1, h => by simp only [jdF]; rw [jdF_c n (fun i hi => h i (by omega)), h n (by omega)]
theorem jud_eq {v : Vg} (ok : VOk v) (g : Sg) (m s n : Int32) : judR v g m s n = judA v g m s n := by
  have hM := ok.2.2.2.2.2.2.2.2.1
  unfold judR judA
  by_cases c : inR m (vM v) = true
  · rw [if_pos c, if_pos c]
    obtain ⟨a, ha, rfl⟩ := inR_ex (by omega) c
    rw [clN (show a < 2 ^ 31 by omega), jdF_c (P := fun d => needW v (hasP v (cmO v g s (nI d))) a) (Q := fun d => wkW v (nI a) (tdP v g s (nI d))) _ (fun d _ => by rw [wk_n ha hM, cmO_eq ok])]
  · rw [if_neg c, if_neg c]
theorem tdI_s (v : Vg) (x c : Int32) : ∀ n, tdI v x c n = x + sumIf (needW v (hasP v c)) (fun m => vF v 3 m) n
  | 0 => by simp only [tdI, sumIf]; rw [nI_0, Int32.add_zero]
  | n + 1 => by
    simp only [tdI, sumIf]
    rw [tdI_s v x c n]
    by_cases q : needW v (hasP v c) n = true
    · rw [if_pos q, if_pos q, Int32.add_assoc]
    · rw [if_neg q, if_neg q, nI_0, Int32.add_zero]
theorem td_eq {v : Vg} (ok : VOk v) (g : Sg) (s : Int32) : ∀ n, tdR v g s n = tdS v g s n
  | 0 => rfl
  | n + 1 => by
    simp only [tdR, tdS]
    rw [tdI_s, td_eq ok g s n, cmO_eq ok]
    rfl
theorem tol_eq {v : Vg} (ok : VOk v) (g : Sg) (s n : Int32) : tolR v g s n = tolA v g s n := by
  unfold tolR tolA
  rw [td_eq ok]

