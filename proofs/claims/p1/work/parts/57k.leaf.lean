/-! PART 57k: the search for the best: its leaves -/
/-- the village with these holders, no seconds -/
def hldV (v : Vg) (f : Nat → Int32) : Vg := vcol (clr v (vP v)) 0 f
theorem hld_0 (v : Vg) (f : Nat → Int32) (i : Nat) : vF (hldV v f) 0 i = f i := by
  show (if 0 = 0 then f i else vF (clr v (vP v)) 0 i) = f i
  rw [if_pos rfl]
theorem hld_c (v : Vg) (f : Nat → Int32) {c : Nat} (hc : 2 ≤ c) (i : Nat) : vF (hldV v f) c i = vF v c i := by
  show (if c = 0 then f i else vF (clr v (vP v)) c i) = _
  rw [if_neg (by omega)]
  exact if_neg (fun z => by omega)
theorem hld_1 (v : Vg) (f : Nat → Int32) {i : Nat} (hi : i < vP v) : vF (hldV v f) 1 i = -1 := by
  show (if 1 = 0 then f i else vF (clr v (vP v)) 1 i) = _
  rw [if_neg (by decide)]
  exact if_pos ⟨by decide, hi⟩
/-- each is held by one of the people, or by nobody -/
def FOk (v : Vg) (f : Nat → Int32) : Prop := ∀ p, p < vP v → f p = -1 ∨ ∃ o, o < vN v ∧ f p = nI o
theorem ok_hld {v : Vg} (ok : VOk v) {f : Nat → Int32} (hf : FOk v f) : VOk (hldV v f) := ok_vcol (ok_clr ok) (Or.inl rfl) hf
theorem sumL_0 : ∀ n, sumL (fun _ => 0) n = 0
  | 0 => rfl
  | n + 1 => by simp only [sumL]; rw [sumL_0 n, Int64.add_zero]
theorem sumL_add {f g : Nat → Int64} : ∀ n, sumL (fun i => f i + g i) n = sumL f n + sumL g n
  | 0 => by simp only [sumL]; rw [Int64.add_zero]
  | n + 1 => by
    simp only [sumL]
    rw [sumL_add n]
    ac_rfl
theorem sumL_mul {f : Nat → Int64} (a : Int64) : ∀ n, a * sumL f n = sumL (fun i => a * f i) n
  | 0 => by simp only [sumL]; rw [Int64.mul_zero]
  | n + 1 => by simp only [sumL]; rw [Int64.mul_add, sumL_mul a n]
theorem sumL_swap {A : Nat → Nat → Int64} (M : Nat) : ∀ S, sumL (fun s => sumL (fun m => A s m) M) S = sumL (fun m => sumL (fun s => A s m) S) M
  | 0 => by simp only [sumL]; rw [sumL_0]
  | S + 1 => by
    simp only [sumL]
    rw [sumL_swap M S, ← sumL_add]
theorem sumL_split {f : Nat → Int64} (a : Nat) : ∀ b, sumL f (a + b) = sumL f a + sumL (fun i => f (a + i)) b
  | 0 => by simp only [sumL]; rw [Int64.add_zero]; rfl
  | b + 1 => by
    show sumL f ((a + b) + 1) = _
    simp only [sumL]
    rw [sumL_split a b, Int64.add_assoc]
/-- the day as a sum over machines -/
theorem day_sw {v : Vg} (ok : VOk v) : dayC v = sumL (fun m => (vF v 3 m).toInt64 * sumL (fun s => if needW v (gat v s (vN v)) m = true then wgt v s (vN v) else 0) (2 ^ vN v)) (vM v) := by
  unfold dayC
  have e : ∀ s, s < 2 ^ vN v → wgt v s (vN v) * (worthS v (gat v s (vN v))).toInt64 = sumL (fun m => (vF v 3 m).toInt64 * (if needW v (gat v s (vN v)) m = true then wgt v s (vN v) else 0)) (vM v) := fun s _ => by
    obtain ⟨K, k1, k2, k3⟩ := wor_eq ok (gat v s (vN v)) (vM v) (Nat.le_refl _)
    unfold worthS
    rw [k2, ← k3, sumL_mul]
    refine sumL_c _ (fun m hm => ?_)
    by_cases c : needW v (gat v s (vN v)) m = true
    · rw [if_pos c, if_pos c, Int64.mul_comm]
    · rw [if_neg c, if_neg c, Int64.mul_zero, Int64.mul_zero]
  rw [sumL_c _ e, sumL_swap]
  refine sumL_c _ (fun m hm => ?_)
  rw [sumL_mul]
/-- whom a machine's parts ask for: bits of people, 16: nobody holds one -/
def ownN (v : Vg) (f : Nat → Int32) (m : Nat) : Nat → Nat
  | 0 => 0
  | i + 1 => if bt (vF v 2 m) i = true then ownN v f m i ||| (if f i = -1 then 16 else 2 ^ (f i).toNatClampNeg) else ownN v f m i
def ndB (v : Vg) (f : Nat → Int32) (m s : Nat) : Nat → Bool := allF (fun p => !bt (vF v 2 m) p || inB (nI s) (f p))
theorem ndh_eq {v : Vg} (ok : VOk v) {f : Nat → Int32} {m : Nat} (hm : m < vM v) (s : Nat) : needW (hldV v f) (hasP (hldV v f) (nI s)) m = ndB v f m s (vP v) := by
  have hP := ok.2.2.2.2.2.2.2.1
  unfold needW ndB
  rw [Bool.eq_iff_iff, decide_eq_true_eq, z_bt, all_iff]
  have en : vF (hldV v f) 2 m = vF v 2 m := hld_c v f (by omega) m
  have eh : ∀ i, i < 32 → bt (hasP (hldV v f) (nI s)) i = (decide (i < vP v) && inB (nI s) (f i)) := fun i hi => by
    unfold hasP
    rw [bt_bset _ hi _ (show vP (hldV v f) ≤ 12 from hP)]
    show (decide (i < vP v) && _) = _
    by_cases c : i < vP v
    · rw [decide_eq_true c, Bool.true_and, Bool.true_and, hld_0, hld_1 v f c, inB_none, Bool.or_false]
    · rw [decide_eq_false c, Bool.false_and, Bool.false_and]
  constructor
  · intro h i hi
    have q := h i (by omega)
    rw [en, bt_and, bt_cm _ (by omega), eh i (by omega), decide_eq_true hi, Bool.true_and] at q
    revert q
    cases bt (vF v 2 m) i <;> cases inB (nI s) (f i) <;> simp
  · intro h i hi
    rw [en, bt_and, bt_cm _ hi, eh i hi]
    by_cases c : i < vP v
    · have q := h i c
      rw [decide_eq_true c, Bool.true_and]
      revert q
      cases bt (vF v 2 m) i <;> cases inB (nI s) (f i) <;> simp
    · rw [nd_hi ok hm hi (by omega), Bool.false_and]
theorem own_lt {v : Vg} {f : Nat → Int32} (h4 : vN v ≤ 4) (hf : FOk v f) (m : Nat) : ∀ i, i ≤ vP v → ownN v f m i < 32
  | 0, _ => by simp [ownN]
  | i + 1, h => by
    have ih := own_lt h4 hf m i (by omega)
    simp only [ownN]
    split
    · refine Nat.or_lt_two_pow (n := 5) ih ?_
      rcases hf i (by omega) with e | ⟨o, ho, e⟩
      · rw [if_pos e]; decide
      · rw [e, if_neg (nI_nm1 (by omega)), clN (by omega)]
        exact Nat.lt_of_lt_of_le (Nat.pow_lt_pow_right (by omega) (show o < 4 by omega)) (by decide)
    · exact ih
theorem own_nd {v : Vg} {f : Nat → Int32} (h4 : vN v ≤ 4) (hf : FOk v f) (m s : Nat) : ∀ i, i ≤ vP v → ndB v f m s i = (!(ownN v f m i).testBit 4 && allF (fun o => !(ownN v f m i).testBit o || s.testBit o) (vN v))
  | 0, _ => by
    have : allF (fun o => !(0 : Nat).testBit o || s.testBit o) (vN v) = true := (all_iff _).mpr (fun i _ => by rw [Nat.zero_testBit]; rfl)
    show true = (!(0 : Nat).testBit 4 && allF (fun o => !(0 : Nat).testBit o || s.testBit o) (vN v))
    rw [this, Nat.zero_testBit]; rfl
  | i + 1, h => by
    have ih := own_nd h4 hf m s i (by omega)
    show (ndB v f m s i && (!bt (vF v 2 m) i || inB (nI s) (f i))) = _
    rw [ih]
    simp only [ownN]
    by_cases c : bt (vF v 2 m) i = true
    · rw [if_pos c, c]
      generalize ownN v f m i = w
      rcases hf i (by omega) with e | ⟨o, ho, e⟩
      · rw [if_pos e, e, inB_none]
        rw [Nat.testBit_or, show (16 : Nat).testBit 4 = true from rfl, Bool.or_true]
        simp
      · rw [e, if_neg (nI_nm1 (show o < 2 ^ 31 by omega)), clN (show o < 2 ^ 31 by omega), inB_N (show o < 32 by omega)]
        rw [Nat.testBit_or, Nat.testBit_two_pow, decide_eq_false (show ¬ o = 4 by omega), Bool.or_false]
        rw [Bool.eq_iff_iff]
        simp only [Bool.and_eq_true, Bool.not_true, Bool.false_or]
        rw [all_iff, all_iff]
        constructor
        · rintro ⟨⟨h1, h2⟩, h3⟩
          refine ⟨h1, fun q hq => ?_⟩
          have := h2 q hq
          rw [Nat.testBit_or, Nat.testBit_two_pow]
          by_cases eq : o = q
          · subst eq; rw [h3, Bool.or_true]
          · rw [decide_eq_false eq, Bool.or_false]; exact this
        · rintro ⟨h1, h2⟩
          refine ⟨⟨h1, fun q hq => ?_⟩, ?_⟩
          · have := h2 q hq
            rw [Nat.testBit_or] at this
            revert this
            cases w.testBit q <;> cases s.testBit q <;> simp
          · have := h2 o ho
            rw [Nat.testBit_or, Nat.testBit_two_pow, decide_eq_true rfl, Bool.or_true] at this
            simpa using this
    · rw [if_neg c, Bool.eq_false_iff.mpr c]
      simp
theorem fac_10 {v : Vg} (ok : VOk v) {o : Nat} (ho : o < vN v) : (fac v o false).toInt64 + (fac v o true).toInt64 = 10 := by
  obtain ⟨A, hA, eA⟩ := ok.2.1 o ho
  unfold fac
  rcases ok.2.2.2.1 o ho with e | e
  · rw [e, if_pos (show nI 0 = 0 from rfl), eA]
    show (nI A).toInt64 + (nI 10 - nI A).toInt64 = 10
    rw [pk_sub hA, nl (by omega), nl (by omega), ← Int64.ofNat_add, show A + (10 - A) = 10 by omega]; rfl
  · rw [e, if_neg (show ¬ nI 1 = 0 by decide)]; decide
/-- how likely these all come -/
def ctP (v : Vg) (mask : Nat) : Nat → Int64
  | 0 => 1
  | o + 1 => ctP v mask o * (if mask.testBit o = true then (fac v o true).toInt64 else 10)
theorem ct_eq {v : Vg} (ok : VOk v) (mask : Nat) : ∀ n, n ≤ vN v → sumL (fun s => if allF (fun o => !mask.testBit o || s.testBit o) n = true then wgt v s n else 0) (2 ^ n) = ctP v mask n
  | 0, _ => by
    show (0 : Int64) + (if true = true then (1 : Int64) else 0) = 1
    decide
  | n + 1, h => by
    have ih := ct_eq ok mask n (by omega)
    rw [pow_s, sumL_split]
    have lo : sumL (fun s => if allF (fun o => !mask.testBit o || s.testBit o) (n + 1) = true then wgt v s (n + 1) else 0) (2 ^ n) = ctP v mask n * (if mask.testBit n = true then 0 else (fac v n false).toInt64) := by
      rw [← ih, Int64.mul_comm, sumL_mul]
      refine sumL_c _ (fun s hs => ?_)
      have b : s.testBit n = false := Nat.testBit_lt_two_pow hs
      rw [wgt_at v hs]
      have hb : allF (fun o => !mask.testBit o || s.testBit o) (n + 1) = (allF (fun o => !mask.testBit o || s.testBit o) n && !mask.testBit n) := by
        show (allF (fun o => !mask.testBit o || s.testBit o) n && (!mask.testBit n || s.testBit n)) = _
        rw [b, Bool.or_false]
      rw [hb]
      by_cases c : mask.testBit n = true
      · rw [c, if_pos rfl, Bool.not_true, Bool.and_false, if_neg (by decide), Int64.zero_mul]
      · rw [if_neg c, Bool.eq_false_iff.mpr c, Bool.not_false, Bool.and_true]
        by_cases d : allF (fun o => !mask.testBit o || s.testBit o) n = true
        · rw [if_pos d, if_pos d, Int64.mul_comm]
        · rw [if_neg d, if_neg d, Int64.mul_zero]
    have hi : sumL (fun i => if allF (fun o => !mask.testBit o || (2 ^ n + i).testBit o) (n + 1) = true then wgt v (2 ^ n + i) (n + 1) else 0) (2 ^ n) = ctP v mask n * (fac v n true).toInt64 := by
      rw [← ih, Int64.mul_comm, sumL_mul]
      refine sumL_c _ (fun s hs => ?_)
      have b : (2 ^ n + s).testBit n = true := by rw [Nat.testBit_two_pow_add_eq, Nat.testBit_lt_two_pow hs]; rfl
      have a : allF (fun o => !mask.testBit o || (2 ^ n + s).testBit o) n = allF (fun o => !mask.testBit o || s.testBit o) n := allF_c _ (fun o ho => by rw [Nat.testBit_two_pow_add_gt ho])
      rw [Nat.add_comm (2 ^ n) s, wgt_hi v hs, ← Nat.add_comm (2 ^ n) s]
      have hb : allF (fun o => !mask.testBit o || (2 ^ n + s).testBit o) (n + 1) = allF (fun o => !mask.testBit o || s.testBit o) n := by
        show (allF (fun o => !mask.testBit o || (2 ^ n + s).testBit o) n && (!mask.testBit n || (2 ^ n + s).testBit n)) = _
        rw [a, b, Bool.or_true, Bool.and_true]
      rw [hb]
      by_cases d : allF (fun o => !mask.testBit o || s.testBit o) n = true
      · rw [if_pos d, if_pos d, Int64.mul_comm]
      · rw [if_neg d, if_neg d, Int64.mul_zero]
    rw [lo, hi, ← Int64.mul_add]
    simp only [ctP]
    by_cases c : mask.testBit n = true
    · rw [if_pos c, if_pos c, Int64.zero_add]
    · rw [if_neg c, if_neg c, fac_10 ok (by omega)]
theorem prd_eq {v : Vg} (ok : VOk v) {mask : Nat} (hm : mask < 256) : ∀ n, n ≤ vN v → ctP v mask n = prdL v mask n
  | 0, _ => rfl
  | n + 1, h => by
    have hN := ok.2.2.2.2.2.2.2.2.2
    simp only [ctP, prdL]
    rw [prd_eq ok hm n (by omega)]
    congr 1
    rw [sh1 (show n < 13 by omega)]
    by_cases c : mask.testBit n = true
    · rw [if_pos c, if_neg (fun q => by rw [(and_pow (by omega) hm).mp q] at c; exact absurd c (by decide))]
      unfold fac
      by_cases d : vF v 6 n = 0
      · rw [if_pos d, if_pos d]; rfl
      · rw [if_neg d, if_neg d]; decide
    · rw [if_neg c, if_pos ((and_pow (by omega) hm).mpr (Bool.eq_false_iff.mpr c))]
/-- what the class adds up -/
def odW (v : Vg) (w : Nat) : Int64 := if w < 16 then prdL v w (vN v) else 0
def wghV (v : Vg) (f : Nat → Int32) : Int64 := sumL (fun m => (vF v 3 m).toInt64 * odW v (ownN v f m (vP v))) (vM v)
theorem leaf_eq {v : Vg} (ok : VOk v) {f : Nat → Int32} (h4 : vN v ≤ 4) (hf : FOk v f) : dayC (hldV v f) = wghV v f := by
  have okf := ok_hld ok hf
  have hP := ok.2.2.2.2.2.2.2.1
  have hN := ok.2.2.2.2.2.2.2.2.2
  rw [day_sw okf]
  show sumL (fun m => (vF (hldV v f) 3 m).toInt64 * sumL (fun s => if needW (hldV v f) (gat (hldV v f) s (vN v)) m = true then wgt (hldV v f) s (vN v) else 0) (2 ^ vN v)) (vM v) = _
  unfold wghV
  refine sumL_c _ (fun m hm => ?_)
  rw [hld_c v f (by omega) m]
  congr 1
  have lw := own_lt h4 hf m (vP v) (Nat.le_refl _)
  have e : ∀ s, s < 2 ^ vN v → (if needW (hldV v f) (gat (hldV v f) s (vN v)) m = true then wgt (hldV v f) s (vN v) else 0) = (if (ownN v f m (vP v)).testBit 4 = true then 0 else (if allF (fun o => !(ownN v f m (vP v)).testBit o || s.testBit o) (vN v) = true then wgt v s (vN v) else 0)) := fun s hs => by
    have g9 : gat (hldV v f) s (vN v) = hasP (hldV v f) (nI s) := gat_has (v := hldV v f) hP hN okf.ho hs
    rw [g9, ndh_eq ok hm, own_nd h4 hf m s _ (Nat.le_refl _), wgt_c (fun i => hld_c v f (by omega) i) (fun i => hld_c v f (by omega) i)]
    cases (ownN v f m (vP v)).testBit 4 with
    | true => rfl
    | false => rfl
  rw [sumL_c _ e]
  unfold odW
  by_cases c : (ownN v f m (vP v)).testBit 4 = true
  · simp only [c, if_true]
    rw [sumL_0, if_neg (fun q => by rw [Nat.testBit_lt_two_pow (x := ownN v f m (vP v)) (i := 4) q] at c; exact absurd c (by decide))]
  · have c' : (ownN v f m (vP v)).testBit 4 = false := Bool.eq_false_iff.mpr c
    have l : ownN v f m (vP v) < 16 := by
      have key : ∀ w : Fin 32, w.val.testBit 4 = false → w.val < 16 := by decide +kernel
      exact key ⟨_, lw⟩ c'
    rw [c']
    simp only [Bool.false_eq_true, if_false]
    rw [ct_eq ok _ _ (Nat.le_refl _), prd_eq ok (by omega) _ (Nat.le_refl _), if_pos l]

