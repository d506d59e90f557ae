section
/-! PART 46: the reference, exactly: what writes in its village -/
theorem vset_same (v : Vg) (c i : Nat) : vset v c i (vF v c i) = v := by
  obtain ⟨a, b, n, f, s⟩ := v
  simp only [vset, vF, vP, vM, vN, vS, Prod.mk.injEq, true_and, and_true]
  funext c' i'
  by_cases h1 : c' = c
  · by_cases h2 : i' = i
    · simp [h1, h2]
    · simp [h1, h2]
  · simp [h1]
theorem vset_two (v : Vg) (c i : Nat) (x y : Int32) : vset (vset v c i x) c i y = vset v c i y := by
  obtain ⟨a, b, n, f, s⟩ := v
  simp only [vset, vF, vP, vM, vN, vS, Prod.mk.injEq, true_and, and_true]
  funext c' i'
  by_cases h1 : c' = c
  · by_cases h2 : i' = i
    · simp [h1, h2]
    · simp [h1, h2]
  · simp [h1]
theorem vF_set (v : Vg) (c i : Nat) (x : Int32) : vF (vset v c i x) c i = x := by simp [vset, vF]
/-- a new one's row, p of its cells cleared -/
def nwV (v : Vg) (p : Nat) : Vg := (vP v, vM v, vN v, fun c i => if 4 ≤ c ∧ c < 4 + p ∧ i = vN v then 0 else vF v c i, vS v)
theorem nw_0 (v : Vg) : nwV v 0 = v := by
  obtain ⟨a, b, n, f, s⟩ := v
  simp only [nwV, vF, vP, vM, vN, vS, Prod.mk.injEq, true_and, and_true]
  funext c i
  exact if_neg (by omega)
theorem nw_s (v : Vg) (p : Nat) : vset (nwV v p) (4 + p) (vN v) 0 = nwV v (p + 1) := by
  obtain ⟨a, b, n, f, s⟩ := v
  simp only [nwV, vset, vF, vP, vM, vN, vS, Prod.mk.injEq, true_and, and_true]
  funext c i
  by_cases h1 : c = 4 + p
  · by_cases h2 : i = n
    · simp [h1, h2]
    · simp [h1, h2]
  · by_cases h3 : 4 ≤ c ∧ c < 4 + p ∧ i = n
    · simp [h1, h3, show c < 4 + (p + 1) by omega]
    · have : ¬ (4 ≤ c ∧ c < 4 + (p + 1) ∧ i = n) := fun q => h3 ⟨q.1, by omega, q.2.2⟩
      simp [h1, h3, this]
theorem one_eq (v : Vg) (x y : Int32) : vsN (vset (vset (nwV v 4) 4 (vN v) x) 5 (vN v) y) (vN v + 1) = addOneV v x y := by
  obtain ⟨a, b, n, f, s⟩ := v
  simp only [addOneV, nwV, vsN, vset, vF, vP, vM, vN, vS, Prod.mk.injEq, true_and, and_true]
  funext c i
  by_cases h : i = n
  · by_cases q4 : c = 4
    · simp [q4, h]
    · by_cases q5 : c = 5
      · simp [q5, h]
      · by_cases q6 : c = 6
        · simp [q6, h]
        · by_cases q7 : c = 7
          · simp [q7, h]
          · simp [q4, q5, q6, q7]; intros; omega
  · simp [h]
theorem btw9 {x : Int32} {b : Nat} : btwB x 0 b = (!decide (x < 0) && !decide (nI b < x)) := by unfold btwB; rw [nI_0, decide_not, decide_not]
theorem btw99 {x : Int32} {a b : Nat} : btwB x a b = (!decide (x < nI a) && !decide (nI b < x)) := by unfold btwB; rw [decide_not, decide_not]
theorem inL_1F {x : Int32} {n : Nat} (hn : n ≤ 12) : inL x.toInt64 1 (full n).toInt64 = (!decide (x = 0) && inR x (2 ^ n)) := by
  have := pow12 hn
  unfold full
  rw [show (1 : Int64) = (nI 1).toInt64 by decide, inL_B]
  rw [Bool.eq_iff_iff]
  unfold btwB
  simp only [Bool.and_eq_true, decide_eq_true_eq, Bool.not_eq_true', decide_eq_false_iff_not]
  constructor
  · rintro ⟨h0, h1⟩
    have h2 : ¬ x < nI 0 := fun q => h0 (Int32.lt_trans q (by decide))
    have e := inR_mid (n := 2 ^ n - 1) (by omega) h2 h1
    refine ⟨fun q => h0 (by rw [q]; decide), by rwa [show 2 ^ n - 1 + 1 = 2 ^ n by omega] at e⟩
  · rintro ⟨h0, h⟩
    obtain ⟨j, hj, rfl⟩ := inR_ex (by omega) h
    refine ⟨fun q => h0 ?_, fun q => by have := (nI_ltI (by omega) (by omega)).mp q; omega⟩
    have := (nI_ltI (by omega) (by omega)).mp q
    rw [show j = 0 by omega, nI_0]
theorem crossV_e {v : Vg} {o : Int32} {b : Bool} : crossV v o b = if inR o (vN v) = true then vset v 6 o.toNatClampNeg (b2i b) else v := by
  unfold crossV
  by_cases h : inR o (vN v) = true
  · rw [if_pos h, if_pos h]
    by_cases q : vF v 6 o.toNatClampNeg = b2i b
    · rw [if_pos q, ← q, vset_same]
    · rw [if_neg q]
  · rw [if_neg h, if_neg h]
theorem sw_f {v : Vg} {p q : Nat} : vF (vset (vset v 0 p (vF v 0 q)) 0 q (vF v 0 p)) 0 p = vF v 0 q := by
  by_cases h : p = q
  · subst h; rw [vF_set]
  · simp [vset, vF, h]
theorem swapV_e {v : Vg} {p q : Int32} : swapV v p q = if (inR p (vP v) && inR q (vP v)) = true then vset (vset v 0 p.toNatClampNeg (vF v 0 q.toNatClampNeg)) 0 q.toNatClampNeg (vF v 0 p.toNatClampNeg) else v := by
  unfold swapV
  by_cases h : (inR p (vP v) && inR q (vP v)) = true
  · rw [if_pos h, if_pos h]
    by_cases e : vF v 0 p.toNatClampNeg = vF v 0 q.toNatClampNeg
    · rw [if_pos e, ← e, vset_same, e, vset_same]
    · rw [if_neg e]
  · rw [if_neg h, if_neg h]
theorem machB_e {v : Vg} {x y : Int32} (hp : vP v ≤ 12) : machB v x y = (inL x.toInt64 1 (nI 1 <<< (nI (vP v) &&& 31) - nI 1).toInt64 && btwB y 1 99) := by rw [full_sh hp, inL_1F hp, btw99]; rfl
theorem oneB_e {x y : Int32} : oneB x y = (inR x 10 && inR y 11) := by rw [← btw_R (b := 9) (by omega), ← btw_R (b := 10) (by omega), btw9, btw9]; rfl
theorem awayB_e {v : Vg} {o x : Int32} : awayB v o x = (inR o (vN v) && inR x 11) := by rw [← btw_R (b := 10) (by omega), btw9]; rfl
def ownB (v : Vg) (nd : Int32) (o p : Nat) : Bool := inB nd (nI p) && decide (vF v 0 p = nI o)
def anyB (f : Nat → Bool) : Nat → Bool
  | 0 => false
  | n + 1 => anyB f n || f n
/-- holders are people -/
def HdOk (v : Vg) : Prop := ∀ p, p < vP v → vF v 0 p = -1 ∨ ∃ o, o < vN v ∧ vF v 0 p = nI o
theorem own_a {v : Vg} {nd : Int32} {o : Nat} (ho : o < 32) : ∀ n, n ≤ 32 → (∀ p, p < n → vF v 0 p = -1 ∨ ∃ o, o < 8 ∧ vF v 0 p = nI o) → bt (ownS v nd n) o = anyB (ownB v nd o) n
  | 0, _, _ => bt_0 o
  | n + 1, hn, h => by
    have ih := own_a (nd := nd) ho n (by omega) (fun p hp => h p (by omega))
    simp only [ownS, anyB]
    by_cases q : nd &&& (nI 1 <<< (nI n &&& 31)) = 0
    · rw [if_neg (fun z => z.1 q), ih]
      have : ownB v nd o n = false := by unfold ownB inB; simp [q]
      rw [this, Bool.or_false]
    · have e1 : inB nd (nI n) = true := by
        unfold inB
        rw [decide_eq_true (show ¬ nI n = -1 from fun z => nI_nm1 (by omega) z), decide_eq_true q]; rfl
      rcases h n (by omega) with z | ⟨j, hj, z⟩
      · rw [if_neg (fun w => w.2 z), ih]
        have : ownB v nd o n = false := by unfold ownB; rw [z, decide_eq_false (fun w => nI_nm1 (by omega) w.symm), Bool.and_false]
        rw [this, Bool.or_false]
      · rw [if_pos ⟨q, fun w => nI_nm1 (o := j) (by omega) (z ▸ w)⟩, bt_or, ih, z, bt_pow2 ⟨j, by omega⟩ ⟨o, ho⟩]
        unfold ownB
        rw [e1, z, Bool.true_and]
        congr 1
        by_cases w : o = j
        · subst w; simp
        · rw [decide_eq_false w, decide_eq_false (fun x => w ((nI_eq (by omega) (by omega)).mp x).symm)]
theorem own_b {v : Vg} {nd : Int32} {o : Nat} (ho : o < 8) (hn : vP v ≤ 12) (hN : vN v ≤ 8) (h : HdOk v) : (¬ ownS v nd (vP v) &&& (nI 1 <<< (nI o &&& 31)) = 0) ↔ anyB (ownB v nd o) (vP v) = true := by
  rw [pow_0 _ (by omega), own_a (by omega) _ (by omega) (fun p hp => (h p hp).imp id (fun ⟨a, b, c⟩ => ⟨a, by omega, c⟩))]
  simp
/-- the shares in plain steps -/
theorem shr_step {u : Vg} {nd : Int32} {q : Nat} {x : Int32} (hq : q < 8) (hn : vP u ≤ 12) (hN : vN u ≤ 8) (h : HdOk u) (hx : x = vF (shrV u nd q) 7 q + (if anyB (ownB u nd q) (vP u) = true then nI 1 else nI 0)) : vset (shrV u nd q) 7 q x = shrV u nd (q + 1) := by
  rw [shrV_s, hx]
  by_cases e : anyB (ownB u nd q) (vP u) = true
  · rw [if_pos e, if_pos ((own_b hq hn hN h).mpr e)]
  · rw [if_neg e, if_neg (fun z => e ((own_b hq hn hN h).mp z)), nI_0, Int32.add_zero, vset_same]
theorem shr_0 (u : Vg) (nd : Int32) : shrV u nd 0 = u := by
  refine vg_ext rfl rfl rfl (fun c i => ?_) rfl
  simp [shrV, vF]
theorem anyB_c {f g : Nat → Bool} (h : ∀ p, f p = g p) : ∀ n, anyB f n = anyB g n
  | 0 => rfl
  | n + 1 => by simp only [anyB, h, anyB_c h n]

theorem b2i_or1 (b : Bool) : b2i b ||| nI 1 = b2i true := by cases b <;> decide
theorem cm_n {v : Vg} {n : Nat} (h : ¬ vF v 6 n = 0) : cmS v (n + 1) = cmS v n := by rw [cmS, if_neg h]
theorem cm_a {v : Vg} {n : Nat} (h : vF v 6 n = 0) (h2 : drw (cmS v n).2 < vF v 5 n) : cmS v (n + 1) = ((cmS v n).1, lcg (cmS v n).2) := by rw [cmS, if_pos h, if_pos h2]
theorem cm_b {v : Vg} {n : Nat} (h : vF v 6 n = 0) (h2 : ¬ drw (cmS v n).2 < vF v 5 n) : cmS v (n + 1) = ((cmS v n).1 ||| (nI 1 <<< (nI n &&& 31)), lcg (cmS v n).2) := by rw [cmS, if_pos h, if_neg h2]
theorem go_has {v : Vg} {ps s x : Int32} {n : Nat} : hasP (goV v ps s n) x = hasP v x := by
  unfold hasP
  simp only [goV_c v ps s (c := 0) (by decide), goV_c v ps s (c := 1) (by decide)]
  rfl
theorem go_need {v : Vg} {ps s x : Int32} {n m : Nat} : needW (goV v ps s n) (hasP (goV v ps s n) x) m = needW v (hasP v x) m := by rw [go_has]; exact needW_c (fun i => goV_c v ps s (c := 2) (by decide) i n) _ _
theorem go_step {v : Vg} {ps s x : Int32} {n m q : Nat} (hq : q < 8) (hn : vP v ≤ 12) (hN : vN v ≤ 8) (h : HdOk v) (hx : x = vF (shrV (goV v ps s n) (vF v 2 m) q) 7 q + (if anyB (ownB v (vF v 2 m) q) (vP v) = true then nI 1 else nI 0)) : vset (shrV (goV v ps s n) (vF v 2 m) q) 7 q x = shrV (goV v ps s n) (vF v 2 m) (q + 1) := by
  have e0 : ∀ p, vF (goV v ps s n) 0 p = vF v 0 p := fun p => goV_c v ps s (c := 0) (by decide) p n
  refine shr_step hq hn hN (fun p hp => by rw [e0]; exact h p hp) ?_
  rw [hx, show anyB (ownB (goV v ps s n) (vF v 2 m) q) (vP (goV v ps s n)) = anyB (ownB v (vF v 2 m) q) (vP v) from anyB_c (fun p => by unfold ownB; rw [e0]) _]
theorem e_works_go {l : Launch} {h : Hp} {k n m : Nat} {v : Vg} {ps s : Int32} (hm : MilAt h k (goV v ps s n)) (hj : m < vM v) (x : Int32) : Mp l yX7_worksOf cX7_worksOf 3 (some .boolean) 3 [vr 7 k, vi (nI m), vi x] h (vi (b2i (needW v (hasP v x) m))) := by
  rw [← go_need (ps := ps) (s := s) (n := n)]; exact e_worksOf hm hj x
theorem hd_day {v : Vg} (h : HdOk v) : HdOk (dayV v) := fun p hp => by
  have e : vF (dayV v) 0 p = vF v 0 p := goV_c v (dayP v) _ (c := 0) (by decide) p _
  rw [e]; exact h p hp
theorem hd_days {v : Vg} (h : HdOk v) : ∀ n, HdOk (daysV v n)
  | 0 => h
  | n + 1 => hd_day (hd_days h n)
theorem dysB_e {n : Int32} : dysB n = btwB n 1 60 := btw99.symm
set_option maxHeartbeats 4000000 in
theorem e_refuse {l : Launch} {h : Hp} {k : Nat} {v : Vg} (hm : MilAt h k v) {x : Int32} {j : Nat} (e : -x = nI j) (hj : j < 8) : Ms l yX7_refuse cX7_refuse 2 (some .int) 1 [vr 7 k, vi x] h (xK h) (fun r h' => r = some (vi x) ∧ MilAt h' k v ∧ Kp k h h') := by
  refine Ms.of (by decide) (Nat.le_of_ble_eq_true rfl) (fun G C X F => ?_)
  have C : Cx G cX7_refuse 2 RX7 := C
  show Rr G 0 [(0, vr 7 k), (1, vi x)] [] h
  have bP := hm.bP
  have bM := hm.bM
  have bN := hm.bN
  refine r_aload_n C (dx dX7_refuse 0 rfl) rfl ?_
  refine g_X7_37 C (dx dX7_refuse 1 rfl) ?_
  refine r_iload_n C (dx dX7_refuse 2 rfl) rfl ?_
  refine r_ineg C (dx dX7_refuse 3 rfl) ?_
  refine r_dup2 C (dx dX7_refuse 4 rfl) ?_
  refine r_iald (j := (-x).toNatClampNeg) (x := xI h (k + 17) ((-x).toNatClampNeg)) C rfl rfl (by decide) (by rw [e, clN (by omega)]) (by rw [e, clN (by omega)]; exact hj) (dx dX7_refuse 5 rfl) rfl ?_
  refine r_iconst (v := nI 1) C (dx dX7_refuse 6 rfl) rfl ?_
  refine r_iadd C (dx dX7_refuse 7 rfl) ?_
  refine r_iast (j := (-x).toNatClampNeg) C rfl rfl (by decide) (by rw [e, clN (by omega)]) (by rw [e, clN (by omega)]; exact hj) (dx dX7_refuse 8 rfl) ?_
  have mh1 : MilAt (sI h (k + 17) ((-x).toNatClampNeg) ((xI h (k + 17) ((-x).toNatClampNeg)) + (nI 1))) k v := hm.fr (Fr.sI (lo := k + 17) (hi := k + 18) (by omega) (by omega)) (by omega)
  have ph1 : Kp k h (sI h (k + 17) ((-x).toNatClampNeg) ((xI h (k + 17) ((-x).toNatClampNeg)) + (nI 1))) := Kp.c (by omega) (by omega)
  have kh1 : xK (sI h (k + 17) ((-x).toNatClampNeg) ((xI h (k + 17) ((-x).toNatClampNeg)) + (nI 1))) = xK h := rfl
  generalize sI h (k + 17) ((-x).toNatClampNeg) ((xI h (k + 17) ((-x).toNatClampNeg)) + (nI 1)) = h1 at mh1 ph1 kh1 ⊢
  refine r_iload_n C (dx dX7_refuse 9 rfl) rfl ?_
  exact F.1 _ _ _ _ .int rfl rfl (dx dX7_refuse 10 rfl) kh1 ⟨rfl, by exact mh1, ph1⟩
set_option maxHeartbeats 4000000 in
theorem e_newOne {l : Launch} {h : Hp} {k : Nat} {v : Vg} (hm : MilAt h k v) (h8 : vN v < 8) : Ms l yX7_newOne cX7_newOne 2 none 1 [vr 7 k] h (xK h) (fun r h' => r = none ∧ MilAt h' k (nwV v 4) ∧ Kp k h h') := by
  refine Ms.of (by decide) (Nat.le_of_ble_eq_true rfl) (fun G C X F => ?_)
  have C : Cx G cX7_newOne 2 RX7 := C
  show Rr G 0 [(0, vr 7 k)] [] h
  have bP := hm.bP
  have bM := hm.bM
  have bN := hm.bN
  refine r_iconst (v := nI 0) C (dx dX7_newOne 0 rfl) rfl ?_
  refine r_istore_n (ls' := [(0, vr 7 k), (1, vi (nI 0))]) C (dx dX7_newOne 1 rfl) (by decide) [1, 0] rfl ?_
  refine loopU (Φ := fun p => ∀ h9, MilAt h9 k (nwV v p) → Kp k h h9 → xK h9 = xK h → Rr G 2 [(0, vr 7 k), (1, vi (nI p))] [] h9) (N := 4) ?_ ?_ 0 (by omega) h (by rw [nw_0]; exact hm) Kp.rf rfl
  ·
    intro h9 m9 p9 k9
    refine r_iload_n C (dx dX7_newOne 2 rfl) rfl ?_
    refine r_iconst (v := nI 4) C (dx dX7_newOne 3 rfl) rfl ?_
    refine rn_ge (a := 4) (b := 4) (tgt := 25) C (by omega) (by omega) (dx dX7_newOne 4 rfl) (by decide) (fun c1 => ?_) (fun c1 => ?_)
    · first
      | (omega; done)
      | (
          have c1 : 4 ≤ 4 := c1
          exact F.2.2.1 _ _ _ rfl (dx dX7_newOne 15 rfl) k9 ⟨rfl, by exact m9, p9⟩)
    · first
      | (omega; done)
  ·
    intro p hp ih h9 m9 p9 k9
    refine r_iload_n C (dx dX7_newOne 2 rfl) rfl ?_
    refine r_iconst (v := nI 4) C (dx dX7_newOne 3 rfl) rfl ?_
    refine rn_ge (a := p) (b := 4) (tgt := 25) C (by omega) (by omega) (dx dX7_newOne 4 rfl) (by decide) (fun c3 => ?_) (fun c3 => ?_)
    · first
      | (omega; done)
      | (
          have c3 : 4 ≤ p := c3
          have eV : nwV v 4 = nwV v p := by rfl
          exact F.2.2.1 _ _ _ rfl (dx dX7_newOne 15 rfl) k9 ⟨rfl, by rw [eV]; exact m9, p9⟩)
    · first
      | (omega; done)
      | (
          have c3 : p < 4 := c3
          refine r_aload_n C (dx dX7_newOne 5 rfl) rfl ?_
          refine g_X7_54 C (dx dX7_newOne 6 rfl) ?_
          refine r_aload_n C (dx dX7_newOne 7 rfl) rfl ?_
          refine g_X7_74 (x := nI (vN v)) C (dx dX7_newOne 8 rfl) m9.eN ?_
          refine r_aald4 (j := vN v) C rfl rfl (by decide) rfl (by omega) (dx dX7_newOne 9 rfl) ?_
          refine r_iload_n C (dx dX7_newOne 10 rfl) rfl ?_
          refine r_iconst (v := nI 0) C (dx dX7_newOne 11 rfl) rfl ?_
          refine r_iast (j := p) C rfl rfl (by decide) rfl (by omega) (dx dX7_newOne 12 rfl) ?_
          have mh4 : MilAt (sI h9 (k + 23 + (vN v)) p (nI 0)) k (vset (nwV v p) (4 + p) (vN v) (nI 0)) := m9.so (by omega) (by omega)
          have ph4 : Kp k h (sI h9 (k + 23 + (vN v)) p (nI 0)) := p9.tr (Kp.c (by omega) (by omega))
          have kh4 : xK (sI h9 (k + 23 + (vN v)) p (nI 0)) = xK h := k9
          generalize sI h9 (k + 23 + (vN v)) p (nI 0) = h4 at mh4 ph4 kh4 ⊢
          refine rn_iinc (a := p) (k := 1) (ls' := [(0, vr 7 k), (1, vi (nI (p + 1)))]) C (dx dX7_newOne 13 rfl) rfl rfl (by decide) [1, 0] rfl ?_
          refine r_goto (tgt := 2) C (dx dX7_newOne 14 rfl) (by decide) ?_
          exact ih h4 (by rw [← nw_s]; exact mh4) ph4 kh4)
set_option maxHeartbeats 4000000 in
theorem e_part {l : Launch} {h : Hp} {k : Nat} {v : Vg} (hm : MilAt h k v)  : Ms l yX7_part cX7_part 1 (some .int) 3 [vr 7 k] h (xK h) (fun r h' => r = some (vi (partA v)) ∧ MilAt h' k (partV v) ∧ Kp k h h') := by
  refine Ms.of (by decide) (Nat.le_of_ble_eq_true rfl) (fun G C X F => ?_)
  have C : Cx G cX7_part 1 RX7 := C
  show Rr G 0 [(0, vr 7 k)] [] h
  have bP := hm.bP
  have bM := hm.bM
  have bN := hm.bN
  refine r_aload_n C (dx dX7_part 0 rfl) rfl ?_
  refine g_X7_64 (x := nI (vP v)) C (dx dX7_part 1 rfl) hm.eP ?_
  refine r_bipush (v := nI 12) C (dx dX7_part 2 rfl) rfl ?_
  refine rn_ne (a := vP v) (b := 12) (tgt := 16) C (by omega) (by omega) (dx dX7_part 3 rfl) (by decide) (fun c1 => ?_) (fun c1 => ?_)
  · first
    | (omega; done)
    | (
        have c1 : ¬ vP v = 12 := c1
        refine r_aload_n C (dx dX7_part 8 rfl) rfl ?_
        refine g_X7_40 C (dx dX7_part 9 rfl) ?_
        refine r_aload_n C (dx dX7_part 10 rfl) rfl ?_
        refine g_X7_64 (x := nI (vP v)) C (dx dX7_part 11 rfl) hm.eP ?_
        refine r_iconst (v := -1) C (dx dX7_part 12 rfl) rfl ?_
        refine r_iast (j := vP v) C rfl rfl (by decide) rfl (by omega) (dx dX7_part 13 rfl) ?_
        have mh2 : MilAt (sI h (k + 18) (vP v) (-1)) k (vset v 0 (vP v) (-1)) := hm.s0
        have ph2 : Kp k h (sI h (k + 18) (vP v) (-1)) := Kp.c (by omega) (by omega)
        have kh2 : xK (sI h (k + 18) (vP v) (-1)) = xK h := rfl
        generalize sI h (k + 18) (vP v) (-1) = h2 at mh2 ph2 kh2 ⊢
        refine r_aload_n C (dx dX7_part 14 rfl) rfl ?_
        refine g_X7_43 C (dx dX7_part 15 rfl) ?_
        refine r_aload_n C (dx dX7_part 16 rfl) rfl ?_
        refine g_X7_64 (x := nI (vP v)) C (dx dX7_part 17 rfl) mh2.eP ?_
        refine r_iconst (v := -1) C (dx dX7_part 18 rfl) rfl ?_
        refine r_iast (j := vP v) C rfl rfl (by decide) rfl (by omega) (dx dX7_part 19 rfl) ?_
        have mh3 : MilAt (sI h2 (k + 19) (vP v) (-1)) k (vset (vset v 0 (vP v) (-1)) 1 (vP v) (-1)) := mh2.s1
        have ph3 : Kp k h (sI h2 (k + 19) (vP v) (-1)) := ph2.tr (Kp.c (by omega) (by omega))
        have kh3 : xK (sI h2 (k + 19) (vP v) (-1)) = xK h := kh2
        generalize sI h2 (k + 19) (vP v) (-1) = h3 at mh3 ph3 kh3 ⊢
        refine r_aload_n C (dx dX7_part 20 rfl) rfl ?_
        refine r_dupR C (dx dX7_part 21 rfl) ?_
        refine g_X7_64 (x := nI (vP v)) C (dx dX7_part 22 rfl) mh3.eP ?_
        refine r_dup_x1 C (dx dX7_part 23 rfl) ?_
        refine r_iconst (v := nI 1) C (dx dX7_part 24 rfl) rfl ?_
        refine rn_iadd (a := vP v) (b := 1) C (dx dX7_part 25 rfl) ?_
        refine p_X7_64 C (dx dX7_part 26 rfl) rfl rfl ?_
        have mh4 : MilAt (sI h3 k 10 (nI (vP v + 1))) k (vsP (vset (vset v 0 (vP v) (-1)) 1 (vP v) (-1)) (vP v + 1)) := mh3.sP (n := vP v + 1) (by omega)
        have ph4 : Kp k h (sI h3 k 10 (nI (vP v + 1))) := ph3.tr (Kp.f (by decide))
        have kh4 : xK (sI h3 k 10 (nI (vP v + 1))) = xK h := kh3
        generalize sI h3 k 10 (nI (vP v + 1)) = h4 at mh4 ph4 kh4 ⊢
        have eV : partV v = vsP (vset (vset v 0 (vP v) (-1)) 1 (vP v) (-1)) (vP v + 1) := by (simp [partA, partV, addPartV, c1, (show vP v < 12 by omega)] <;> rfl)
        have eA : partA v = nI (vP v) := by (simp [partA, partV, addPartV, c1, (show vP v < 12 by omega)] <;> rfl)
        exact F.1 _ _ _ _ .int rfl rfl (dx dX7_part 27 rfl) kh4 ⟨by rw [eA], by rw [eV]; exact mh4, ph4⟩)
  · first
    | (omega; done)
    | (
        have c1 : vP v = 12 := c1
        refine r_aload_n C (dx dX7_part 4 rfl) rfl ?_
        refine r_bipush (v := -6) C (dx dX7_part 5 rfl) rfl ?_
        refine r_cv (as := [vi (-6)]) (st := []) C X I_X7_refuse l_X7_83 (e_refuse hm (x := -6) (j := 6) (by decide) (by decide)) (by decide) (Nat.le_of_ble_eq_true rfl) List.prefix_rfl List.prefix_rfl rfl rfl (Nat.le_of_ble_eq_true rfl) rfl (dx dX7_part 6 rfl) ?_
        rintro _ h5 ⟨rfl, m9h5, qh5⟩ kkh5
        have mh5 : MilAt h5 k v := m9h5
        have ph5 : Kp k h h5 := qh5
        have kh5 : xK h5 = xK h := kkh5
        have eV : partV v = v := by (simp [partA, partV, addPartV, c1, (show ¬ vP v < 12 by omega)] <;> rfl)
        have eA : partA v = -6 := by (simp [partA, partV, addPartV, c1, (show ¬ vP v < 12 by omega)] <;> rfl)
        exact F.1 _ _ _ _ .int rfl rfl (dx dX7_part 7 rfl) kh5 ⟨by rw [eA], by rw [eV]; exact mh5, ph5⟩)
set_option maxHeartbeats 4000000 in
theorem e_machine {l : Launch} {h : Hp} {k : Nat} {v : Vg} (hm : MilAt h k v) (x y : Int32) : Ms l yX7_machine cX7_machine 3 (some .int) 3 [vr 7 k, vi x, vi y] h (xK h) (fun r h' => r = some (vi (machA v x y)) ∧ MilAt h' k (machV v x y) ∧ Kp k h h') := by
  refine Ms.of (by decide) (Nat.le_of_ble_eq_true rfl) (fun G C X F => ?_)
  have C : Cx G cX7_machine 3 RX7 := C
  show Rr G 0 [(0, vr 7 k), (1, vi x), (2, vi y)] [] h
  have bP := hm.bP
  have bM := hm.bM
  have bN := hm.bN
  refine r_iload_n C (dx dX7_machine 0 rfl) rfl ?_
  refine r_i2l C (dx dX7_machine 1 rfl) ?_
  refine r_lconst (v := 1) C (dx dX7_machine 2 rfl) rfl ?_
  refine r_iconst (v := nI 1) C (dx dX7_machine 3 rfl) rfl ?_
  refine r_aload_n C (dx dX7_machine 4 rfl) rfl ?_
  refine g_X7_64 (x := nI (vP v)) C (dx dX7_machine 5 rfl) hm.eP ?_
  refine r_ishl C (dx dX7_machine 6 rfl) ?_
  refine r_iconst (v := nI 1) C (dx dX7_machine 7 rfl) rfl ?_
  refine r_isub C (dx dX7_machine 8 rfl) ?_
  refine r_i2l C (dx dX7_machine 9 rfl) ?_
  refine r_csP (as := [vl x.toInt64, vl 1, vl ((((nI 1) <<< ((nI (vP v)) &&& 31)) - (nI 1)).toInt64)]) (st := []) (v := vi (b2i (inL x.toInt64 1 ((((nI 1) <<< ((nI (vP v)) &&& 31)) - (nI 1)).toInt64)))) C X I_X7_in l_X7_67 (c_X7_in _ _ _) (by decide) (Nat.le_of_ble_eq_true rfl) List.prefix_rfl (Nat.le_of_ble_eq_true rfl) rfl (dx dX7_machine 10 rfl) ?_
  refine rb_eq (b := inL x.toInt64 1 ((((nI 1) <<< ((nI (vP v)) &&& 31)) - (nI 1)).toInt64)) (tgt := 30) C (dx dX7_machine 11 rfl) (by decide) (fun c1 => ?_) (fun c1 => ?_)
  ·
    have c1 : (inL x.toInt64 1 ((((nI 1) <<< ((nI (vP v)) &&& 31)) - (nI 1)).toInt64)) = false := c1
    refine r_aload_n C (dx dX7_machine 18 rfl) rfl ?_
    refine r_bipush (v := -2) C (dx dX7_machine 19 rfl) rfl ?_
    refine r_cv (as := [vi (-2)]) (st := []) C X I_X7_refuse l_X7_83 (e_refuse hm (x := -2) (j := 2) (by decide) (by decide)) (by decide) (Nat.le_of_ble_eq_true rfl) List.prefix_rfl List.prefix_rfl rfl rfl (Nat.le_of_ble_eq_true rfl) rfl (dx dX7_machine 20 rfl) ?_
    rintro _ h2 ⟨rfl, m9h2, qh2⟩ kkh2
    have mh2 : MilAt h2 k v := m9h2
    have ph2 : Kp k h h2 := qh2
    have kh2 : xK h2 = xK h := kkh2
    have eV : machV v x y = v := by (simp [machA, machV, machB_e bP, c1] <;> rfl)
    have eA : machA v x y = -2 := by (simp [machA, machV, machB_e bP, c1] <;> rfl)
    exact F.1 _ _ _ _ .int rfl rfl (dx dX7_machine 21 rfl) kh2 ⟨by rw [eA], by rw [eV]; exact mh2, ph2⟩
  ·
    have c1 : (inL x.toInt64 1 ((((nI 1) <<< ((nI (vP v)) &&& 31)) - (nI 1)).toInt64)) = true := c1
    refine r_iload_n C (dx dX7_machine 12 rfl) rfl ?_
    refine r_i2l C (dx dX7_machine 13 rfl) ?_
    refine r_lconst (v := 1) C (dx dX7_machine 14 rfl) rfl ?_
    refine r_ldc2 C n_X7_96 (dx dX7_machine 15 rfl) ?_
    refine r_csP (as := [vl y.toInt64, vl 1, vl 99]) (st := []) (v := vi (b2i (btwB y 1 99))) C X I_X7_in l_X7_67 (c_inB (a := 1) (b := 99) (by decide) (by decide)) (by decide) (Nat.le_of_ble_eq_true rfl) List.prefix_rfl (Nat.le_of_ble_eq_true rfl) rfl (dx dX7_machine 16 rfl) ?_
    refine rb_ne (b := btwB y 1 99) (tgt := 37) C (dx dX7_machine 17 rfl) (by decide) (fun c3 => ?_) (fun c3 => ?_)
    ·
      have c3 : (btwB y 1 99) = true := c3
      refine r_aload_n C (dx dX7_machine 22 rfl) rfl ?_
      refine g_X7_71 (x := nI (vM v)) C (dx dX7_machine 23 rfl) hm.eM ?_
      refine r_bipush (v := nI 6) C (dx dX7_machine 24 rfl) rfl ?_
      refine rn_ne (a := vM v) (b := 6) (tgt := 53) C (by omega) (by omega) (dx dX7_machine 25 rfl) (by decide) (fun c4 => ?_) (fun c4 => ?_)
      · first
        | (omega; done)
        | (
            have c4 : ¬ vM v = 6 := c4
            refine r_aload_n C (dx dX7_machine 30 rfl) rfl ?_
            refine g_X7_46 C (dx dX7_machine 31 rfl) ?_
            refine r_aload_n C (dx dX7_machine 32 rfl) rfl ?_
            refine g_X7_71 (x := nI (vM v)) C (dx dX7_machine 33 rfl) hm.eM ?_
            refine r_iload_n C (dx dX7_machine 34 rfl) rfl ?_
            refine r_iast (j := vM v) C rfl rfl (by decide) rfl (by omega) (dx dX7_machine 35 rfl) ?_
            have mh5 : MilAt (sI h (k + 20) (vM v) x) k (vset v 2 (vM v) x) := hm.s2
            have ph5 : Kp k h (sI h (k + 20) (vM v) x) := Kp.c (by omega) (by omega)
            have kh5 : xK (sI h (k + 20) (vM v) x) = xK h := rfl
            generalize sI h (k + 20) (vM v) x = h5 at mh5 ph5 kh5 ⊢
            refine r_aload_n C (dx dX7_machine 36 rfl) rfl ?_
            refine g_X7_49 C (dx dX7_machine 37 rfl) ?_
            refine r_aload_n C (dx dX7_machine 38 rfl) rfl ?_
            refine g_X7_71 (x := nI (vM v)) C (dx dX7_machine 39 rfl) mh5.eM ?_
            refine r_iload_n C (dx dX7_machine 40 rfl) rfl ?_
            refine r_iast (j := vM v) C rfl rfl (by decide) rfl (by omega) (dx dX7_machine 41 rfl) ?_
            have mh6 : MilAt (sI h5 (k + 21) (vM v) y) k (vset (vset v 2 (vM v) x) 3 (vM v) y) := mh5.s3
            have ph6 : Kp k h (sI h5 (k + 21) (vM v) y) := ph5.tr (Kp.c (by omega) (by omega))
            have kh6 : xK (sI h5 (k + 21) (vM v) y) = xK h := kh5
            generalize sI h5 (k + 21) (vM v) y = h6 at mh6 ph6 kh6 ⊢
            refine r_aload_n C (dx dX7_machine 42 rfl) rfl ?_
            refine r_dupR C (dx dX7_machine 43 rfl) ?_
            refine g_X7_71 (x := nI (vM v)) C (dx dX7_machine 44 rfl) mh6.eM ?_
            refine r_dup_x1 C (dx dX7_machine 45 rfl) ?_
            refine r_iconst (v := nI 1) C (dx dX7_machine 46 rfl) rfl ?_
            refine rn_iadd (a := vM v) (b := 1) C (dx dX7_machine 47 rfl) ?_
            refine p_X7_71 C (dx dX7_machine 48 rfl) rfl rfl ?_
            have mh7 : MilAt (sI h6 k 13 (nI (vM v + 1))) k (vsM (vset (vset v 2 (vM v) x) 3 (vM v) y) (vM v + 1)) := mh6.sM (n := vM v + 1) (by omega)
            have ph7 : Kp k h (sI h6 k 13 (nI (vM v + 1))) := ph6.tr (Kp.f (by decide))
            have kh7 : xK (sI h6 k 13 (nI (vM v + 1))) = xK h := kh6
            generalize sI h6 k 13 (nI (vM v + 1)) = h7 at mh7 ph7 kh7 ⊢
            have eV : machV v x y = vsM (vset (vset v 2 (vM v) x) 3 (vM v) y) (vM v + 1) := by (simp [machA, machV, machB_e bP, c1, c3, c4, (show vM v < 6 by omega)] <;> rfl)
            have eA : machA v x y = nI (vM v) := by (simp [machA, machV, machB_e bP, c1, c3, c4, (show vM v < 6 by omega)] <;> rfl)
            exact F.1 _ _ _ _ .int rfl rfl (dx dX7_machine 49 rfl) kh7 ⟨by rw [eA], by rw [eV]; exact mh7, ph7⟩)
      · first
        | (omega; done)
        | (
            have c4 : vM v = 6 := c4
            refine r_aload_n C (dx dX7_machine 26 rfl) rfl ?_
            refine r_bipush (v := -6) C (dx dX7_machine 27 rfl) rfl ?_
            refine r_cv (as := [vi (-6)]) (st := []) C X I_X7_refuse l_X7_83 (e_refuse hm (x := -6) (j := 6) (by decide) (by decide)) (by decide) (Nat.le_of_ble_eq_true rfl) List.prefix_rfl List.prefix_rfl rfl rfl (Nat.le_of_ble_eq_true rfl) rfl (dx dX7_machine 28 rfl) ?_
            rintro _ h8 ⟨rfl, m9h8, qh8⟩ kkh8
            have mh8 : MilAt h8 k v := m9h8
            have ph8 : Kp k h h8 := qh8
            have kh8 : xK h8 = xK h := kkh8
            have eV : machV v x y = v := by (simp [machA, machV, machB_e bP, c1, c3, c4, (show ¬ vM v < 6 by omega)] <;> rfl)
            have eA : machA v x y = -6 := by (simp [machA, machV, machB_e bP, c1, c3, c4, (show ¬ vM v < 6 by omega)] <;> rfl)
            exact F.1 _ _ _ _ .int rfl rfl (dx dX7_machine 29 rfl) kh8 ⟨by rw [eA], by rw [eV]; exact mh8, ph8⟩)
    ·
      have c3 : (btwB y 1 99) = false := c3
      refine r_aload_n C (dx dX7_machine 18 rfl) rfl ?_
      refine r_bipush (v := -2) C (dx dX7_machine 19 rfl) rfl ?_
      refine r_cv (as := [vi (-2)]) (st := []) C X I_X7_refuse l_X7_83 (e_refuse hm (x := -2) (j := 2) (by decide) (by decide)) (by decide) (Nat.le_of_ble_eq_true rfl) List.prefix_rfl List.prefix_rfl rfl rfl (Nat.le_of_ble_eq_true rfl) rfl (dx dX7_machine 20 rfl) ?_
      rintro _ h9 ⟨rfl, m9h9, qh9⟩ kkh9
      have mh9 : MilAt h9 k v := m9h9
      have ph9 : Kp k h h9 := qh9
      have kh9 : xK h9 = xK h := kkh9
      have eV : machV v x y = v := by (simp [machA, machV, machB_e bP, c1, c3] <;> rfl)
      have eA : machA v x y = -2 := by (simp [machA, machV, machB_e bP, c1, c3] <;> rfl)
      exact F.1 _ _ _ _ .int rfl rfl (dx dX7_machine 21 rfl) kh9 ⟨by rw [eA], by rw [eV]; exact mh9, ph9⟩
set_option maxHeartbeats 4000000 in
theorem e_one {l : Launch} {h : Hp} {k : Nat} {v : Vg} (hm : MilAt h k v) (x y : Int32) : Ms l yX7_one cX7_one 3 (some .int) 3 [vr 7 k, vi x, vi y] h (xK h) (fun r h' => r = some (vi (oneAn v x y)) ∧ MilAt h' k (oneV v x y) ∧ Kp k h h') := by
  refine Ms.of (by decide) (Nat.le_of_ble_eq_true rfl) (fun G C X F => ?_)
  have C : Cx G cX7_one 3 RX7 := C
  show Rr G 0 [(0, vr 7 k), (1, vi x), (2, vi y)] [] h
  have bP := hm.bP
  have bM := hm.bM
  have bN := hm.bN
  refine r_iload_n C (dx dX7_one 0 rfl) rfl ?_
  refine r_i2l C (dx dX7_one 1 rfl) ?_
  refine r_lconst (v := 0) C (dx dX7_one 2 rfl) rfl ?_
  refine r_ldc2 C n_X7_118 (dx dX7_one 3 rfl) ?_
  refine r_csP (as := [vl x.toInt64, vl 0, vl 9]) (st := []) (v := vi (b2i (inR x 10))) C X I_X7_in l_X7_67 (c_inR (b := 9) (by decide) (by decide)) (by decide) (Nat.le_of_ble_eq_true rfl) List.prefix_rfl (Nat.le_of_ble_eq_true rfl) rfl (dx dX7_one 4 rfl) ?_
  refine rb_eq (b := inR x 10) (tgt := 24) C (dx dX7_one 5 rfl) (by decide) (fun c1 => ?_) (fun c1 => ?_)
  ·
    have c1 : (inR x 10) = false := c1
    refine r_aload_n C (dx dX7_one 12 rfl) rfl ?_
    refine r_bipush (v := -2) C (dx dX7_one 13 rfl) rfl ?_
    refine r_cv (as := [vi (-2)]) (st := []) C X I_X7_refuse l_X7_83 (e_refuse hm (x := -2) (j := 2) (by decide) (by decide)) (by decide) (Nat.le_of_ble_eq_true rfl) List.prefix_rfl List.prefix_rfl rfl rfl (Nat.le_of_ble_eq_true rfl) rfl (dx dX7_one 14 rfl) ?_
    rintro _ h2 ⟨rfl, m9h2, qh2⟩ kkh2
    have mh2 : MilAt h2 k v := m9h2
    have ph2 : Kp k h h2 := qh2
    have kh2 : xK h2 = xK h := kkh2
    have eV : oneV v x y = v := by (simp [oneAn, oneV, oneB_e, one_eq, c1] <;> rfl)
    have eA : oneAn v x y = -2 := by (simp [oneAn, oneV, oneB_e, one_eq, c1] <;> rfl)
    exact F.1 _ _ _ _ .int rfl rfl (dx dX7_one 15 rfl) kh2 ⟨by rw [eA], by rw [eV]; exact mh2, ph2⟩
  ·
    have c1 : (inR x 10) = true := c1
    refine r_iload_n C (dx dX7_one 6 rfl) rfl ?_
    refine r_i2l C (dx dX7_one 7 rfl) ?_
    refine r_lconst (v := 0) C (dx dX7_one 8 rfl) rfl ?_
    refine r_ldc2 C n_X7_120 (dx dX7_one 9 rfl) ?_
    refine r_csP (as := [vl y.toInt64, vl 0, vl 10]) (st := []) (v := vi (b2i (inR y 11))) C X I_X7_in l_X7_67 (c_inR (b := 10) (by decide) (by decide)) (by decide) (Nat.le_of_ble_eq_true rfl) List.prefix_rfl (Nat.le_of_ble_eq_true rfl) rfl (dx dX7_one 10 rfl) ?_
    refine rb_ne (b := inR y 11) (tgt := 31) C (dx dX7_one 11 rfl) (by decide) (fun c3 => ?_) (fun c3 => ?_)
    ·
      have c3 : (inR y 11) = true := c3
      refine r_aload_n C (dx dX7_one 16 rfl) rfl ?_
      refine g_X7_74 (x := nI (vN v)) C (dx dX7_one 17 rfl) hm.eN ?_
      refine r_bipush (v := nI 8) C (dx dX7_one 18 rfl) rfl ?_
      refine rn_ne (a := vN v) (b := 8) (tgt := 47) C (by omega) (by omega) (dx dX7_one 19 rfl) (by decide) (fun c4 => ?_) (fun c4 => ?_)
      · first
        | (omega; done)
        | (
            have c4 : ¬ vN v = 8 := c4
            refine r_aload_n C (dx dX7_one 24 rfl) rfl ?_
            refine r_cv (as := []) (st := []) C X I_X7_newOne l_X7_122 (e_newOne hm (by omega)) (by decide) (Nat.le_of_ble_eq_true rfl) List.prefix_rfl List.prefix_rfl rfl rfl (Nat.le_of_ble_eq_true rfl) rfl (dx dX7_one 25 rfl) ?_
            rintro _ h5 ⟨rfl, m9h5, qh5⟩ kkh5
            have mh5 : MilAt h5 k (nwV v 4) := m9h5
            have ph5 : Kp k h h5 := qh5
            have kh5 : xK h5 = xK h := kkh5
            refine r_aload_n C (dx dX7_one 26 rfl) rfl ?_
            refine g_X7_54 C (dx dX7_one 27 rfl) ?_
            refine r_aload_n C (dx dX7_one 28 rfl) rfl ?_
            refine g_X7_74 (x := nI (vN v)) C (dx dX7_one 29 rfl) mh5.eN ?_
            refine r_aald4 (j := vN v) C rfl rfl (by decide) rfl (by omega) (dx dX7_one 30 rfl) ?_
            refine r_iconst (v := nI 0) C (dx dX7_one 31 rfl) rfl ?_
            refine r_iload_n C (dx dX7_one 32 rfl) rfl ?_
            refine r_iast (j := 0) C rfl rfl (by decide) rfl (by omega) (dx dX7_one 33 rfl) ?_
            have mh6 : MilAt (sI h5 (k + 23 + (vN v)) 0 x) k (vset (nwV v 4) 4 (vN v) x) := mh5.so (by omega) (by omega)
            have ph6 : Kp k h (sI h5 (k + 23 + (vN v)) 0 x) := ph5.tr (Kp.c (by omega) (by omega))
            have kh6 : xK (sI h5 (k + 23 + (vN v)) 0 x) = xK h := kh5
            generalize sI h5 (k + 23 + (vN v)) 0 x = h6 at mh6 ph6 kh6 ⊢
            refine r_aload_n C (dx dX7_one 34 rfl) rfl ?_
            refine g_X7_54 C (dx dX7_one 35 rfl) ?_
            refine r_aload_n C (dx dX7_one 36 rfl) rfl ?_
            refine g_X7_74 (x := nI (vN v)) C (dx dX7_one 37 rfl) mh6.eN ?_
            refine r_aald4 (j := vN v) C rfl rfl (by decide) rfl (by omega) (dx dX7_one 38 rfl) ?_
            refine r_iconst (v := nI 1) C (dx dX7_one 39 rfl) rfl ?_
            refine r_iload_n C (dx dX7_one 40 rfl) rfl ?_
            refine r_iast (j := 1) C rfl rfl (by decide) rfl (by omega) (dx dX7_one 41 rfl) ?_
            have mh7 : MilAt (sI h6 (k + 23 + (vN v)) 1 y) k (vset (vset (nwV v 4) 4 (vN v) x) 5 (vN v) y) := mh6.so (by omega) (by omega)
            have ph7 : Kp k h (sI h6 (k + 23 + (vN v)) 1 y) := ph6.tr (Kp.c (by omega) (by omega))
            have kh7 : xK (sI h6 (k + 23 + (vN v)) 1 y) = xK h := kh6
            generalize sI h6 (k + 23 + (vN v)) 1 y = h7 at mh7 ph7 kh7 ⊢
            refine r_aload_n C (dx dX7_one 42 rfl) rfl ?_
            refine r_dupR C (dx dX7_one 43 rfl) ?_
            refine g_X7_74 (x := nI (vN v)) C (dx dX7_one 44 rfl) mh7.eN ?_
            refine r_dup_x1 C (dx dX7_one 45 rfl) ?_
            refine r_iconst (v := nI 1) C (dx dX7_one 46 rfl) rfl ?_
            refine rn_iadd (a := vN v) (b := 1) C (dx dX7_one 47 rfl) ?_
            refine p_X7_74 C (dx dX7_one 48 rfl) rfl rfl ?_
            have mh8 : MilAt (sI h7 k 16 (nI (vN v + 1))) k (vsN (vset (vset (nwV v 4) 4 (vN v) x) 5 (vN v) y) (vN v + 1)) := mh7.sN (n := vN v + 1) (by omega)
            have ph8 : Kp k h (sI h7 k 16 (nI (vN v + 1))) := ph7.tr (Kp.f (by decide))
            have kh8 : xK (sI h7 k 16 (nI (vN v + 1))) = xK h := kh7
            generalize sI h7 k 16 (nI (vN v + 1)) = h8 at mh8 ph8 kh8 ⊢
            have eV : oneV v x y = vsN (vset (vset (nwV v 4) 4 (vN v) x) 5 (vN v) y) (vN v + 1) := by (simp [oneAn, oneV, oneB_e, one_eq, c1, c3, c4, (show vN v < 8 by omega)] <;> rfl)
            have eA : oneAn v x y = nI (vN v) := by (simp [oneAn, oneV, oneB_e, one_eq, c1, c3, c4, (show vN v < 8 by omega)] <;> rfl)
            exact F.1 _ _ _ _ .int rfl rfl (dx dX7_one 49 rfl) kh8 ⟨by rw [eA], by rw [eV]; exact mh8, ph8⟩)
      · first
        | (omega; done)
        | (
            have c4 : vN v = 8 := c4
            refine r_aload_n C (dx dX7_one 20 rfl) rfl ?_
            refine r_bipush (v := -6) C (dx dX7_one 21 rfl) rfl ?_
            refine r_cv (as := [vi (-6)]) (st := []) C X I_X7_refuse l_X7_83 (e_refuse hm (x := -6) (j := 6) (by decide) (by decide)) (by decide) (Nat.le_of_ble_eq_true rfl) List.prefix_rfl List.prefix_rfl rfl rfl (Nat.le_of_ble_eq_true rfl) rfl (dx dX7_one 22 rfl) ?_
            rintro _ h9 ⟨rfl, m9h9, qh9⟩ kkh9
            have mh9 : MilAt h9 k v := m9h9
            have ph9 : Kp k h h9 := qh9
            have kh9 : xK h9 = xK h := kkh9
            have eV : oneV v x y = v := by (simp [oneAn, oneV, oneB_e, one_eq, c1, c3, c4, (show ¬ vN v < 8 by omega)] <;> rfl)
            have eA : oneAn v x y = -6 := by (simp [oneAn, oneV, oneB_e, one_eq, c1, c3, c4, (show ¬ vN v < 8 by omega)] <;> rfl)
            exact F.1 _ _ _ _ .int rfl rfl (dx dX7_one 23 rfl) kh9 ⟨by rw [eA], by rw [eV]; exact mh9, ph9⟩)
    ·
      have c3 : (inR y 11) = false := c3
      refine r_aload_n C (dx dX7_one 12 rfl) rfl ?_
      refine r_bipush (v := -2) C (dx dX7_one 13 rfl) rfl ?_
      refine r_cv (as := [vi (-2)]) (st := []) C X I_X7_refuse l_X7_83 (e_refuse hm (x := -2) (j := 2) (by decide) (by decide)) (by decide) (Nat.le_of_ble_eq_true rfl) List.prefix_rfl List.prefix_rfl rfl rfl (Nat.le_of_ble_eq_true rfl) rfl (dx dX7_one 14 rfl) ?_
      rintro _ h10 ⟨rfl, m9h10, qh10⟩ kkh10
      have mh10 : MilAt h10 k v := m9h10
      have ph10 : Kp k h h10 := qh10
      have kh10 : xK h10 = xK h := kkh10
      have eV : oneV v x y = v := by (simp [oneAn, oneV, oneB_e, one_eq, c1, c3] <;> rfl)
      have eA : oneAn v x y = -2 := by (simp [oneAn, oneV, oneB_e, one_eq, c1, c3] <;> rfl)
      exact F.1 _ _ _ _ .int rfl rfl (dx dX7_one 15 rfl) kh10 ⟨by rw [eA], by rw [eV]; exact mh10, ph10⟩
set_option maxHeartbeats 4000000 in
theorem e_away {l : Launch} {h : Hp} {k : Nat} {v : Vg} (hm : MilAt h k v) (o1 y : Int32) : Ms l yX7_away cX7_away 4 (some .int) 4 [vr 7 k, vi o1, vi y] h (xK h) (fun r h' => r = some (vi (awayA v o1 y)) ∧ MilAt h' k (awayV v o1 y) ∧ Kp k h h') := by
  refine Ms.of (by decide) (Nat.le_of_ble_eq_true rfl) (fun G C X F => ?_)
  have C : Cx G cX7_away 4 RX7 := C
  show Rr G 0 [(0, vr 7 k), (1, vi o1), (2, vi y)] [] h
  have bP := hm.bP
  have bM := hm.bM
  have bN := hm.bN
  refine r_aload_n C (dx dX7_away 0 rfl) rfl ?_
  refine r_iload_n C (dx dX7_away 1 rfl) rfl ?_
  refine r_cvP (as := [vi o1]) (st := []) (v := vi (b2i (inR o1 (vN v)))) C X I_X7_isOne l_X7_125 (c_X7_isOne hm _) (by decide) (Nat.le_of_ble_eq_true rfl) List.prefix_rfl rfl rfl (Nat.le_of_ble_eq_true rfl) rfl (dx dX7_away 2 rfl) ?_
  refine rb_eq (b := inR o1 (vN v)) (tgt := 20) C (dx dX7_away 3 rfl) (by decide) (fun c1 => ?_) (fun c1 => ?_)
  ·
    have c1 : (inR o1 (vN v)) = false := c1
    refine r_aload_n C (dx dX7_away 10 rfl) rfl ?_
    refine r_bipush (v := -2) C (dx dX7_away 11 rfl) rfl ?_
    refine r_cv (as := [vi (-2)]) (st := []) C X I_X7_refuse l_X7_83 (e_refuse hm (x := -2) (j := 2) (by decide) (by decide)) (by decide) (Nat.le_of_ble_eq_true rfl) List.prefix_rfl List.prefix_rfl rfl rfl (Nat.le_of_ble_eq_true rfl) rfl (dx dX7_away 12 rfl) ?_
    rintro _ h2 ⟨rfl, m9h2, qh2⟩ kkh2
    have mh2 : MilAt h2 k v := m9h2
    have ph2 : Kp k h h2 := qh2
    have kh2 : xK h2 = xK h := kkh2
    have eV : awayV v o1 y = v := by (simp [awayA, awayV, awayB_e, c1] <;> rfl)
    have eA : awayA v o1 y = -2 := by (simp [awayA, awayV, awayB_e, c1] <;> rfl)
    exact F.1 _ _ _ _ .int rfl rfl (dx dX7_away 13 rfl) kh2 ⟨by rw [eA], by rw [eV]; exact mh2, ph2⟩
  ·
    have c1 : (inR o1 (vN v)) = true := c1
    obtain ⟨o19, ho19, rfl⟩ := inR_ex (n := (vN v)) (by omega) c1
    refine r_iload_n C (dx dX7_away 4 rfl) rfl ?_
    refine r_i2l C (dx dX7_away 5 rfl) ?_
    refine r_lconst (v := 0) C (dx dX7_away 6 rfl) rfl ?_
    refine r_ldc2 C n_X7_120 (dx dX7_away 7 rfl) ?_
    refine r_csP (as := [vl y.toInt64, vl 0, vl 10]) (st := []) (v := vi (b2i (inR y 11))) C X I_X7_in l_X7_67 (c_inR (b := 10) (by decide) (by decide)) (by decide) (Nat.le_of_ble_eq_true rfl) List.prefix_rfl (Nat.le_of_ble_eq_true rfl) rfl (dx dX7_away 8 rfl) ?_
    refine rb_ne (b := inR y 11) (tgt := 27) C (dx dX7_away 9 rfl) (by decide) (fun c3 => ?_) (fun c3 => ?_)
    ·
      have c3 : (inR y 11) = true := c3
      refine r_aload_n C (dx dX7_away 14 rfl) rfl ?_
      refine g_X7_54 C (dx dX7_away 15 rfl) ?_
      refine r_iload_n C (dx dX7_away 16 rfl) rfl ?_
      refine r_aald4 (j := o19) C rfl rfl (by decide) rfl (by omega) (dx dX7_away 17 rfl) ?_
      refine r_iconst (v := nI 1) C (dx dX7_away 18 rfl) rfl ?_
      refine r_iald (j := 1) (x := vF v 5 o19) C rfl rfl (by decide) rfl (by omega) (dx dX7_away 19 rfl) (hm.eo (by omega) (by omega)) ?_
      refine r_istore_n (ls' := [(0, vr 7 k), (1, vi (nI o19)), (2, vi y), (3, vi (vF v 5 o19))]) C (dx dX7_away 20 rfl) (by decide) [1, 2, 3, 0] rfl ?_
      refine r_aload_n C (dx dX7_away 21 rfl) rfl ?_
      refine g_X7_54 C (dx dX7_away 22 rfl) ?_
      refine r_iload_n C (dx dX7_away 23 rfl) rfl ?_
      refine r_aald4 (j := o19) C rfl rfl (by decide) rfl (by omega) (dx dX7_away 24 rfl) ?_
      refine r_iconst (v := nI 1) C (dx dX7_away 25 rfl) rfl ?_
      refine r_iload_n C (dx dX7_away 26 rfl) rfl ?_
      refine r_iast (j := 1) C rfl rfl (by decide) rfl (by omega) (dx dX7_away 27 rfl) ?_
      have mh4 : MilAt (sI h (k + 23 + o19) 1 y) k (vset v 5 o19 y) := hm.so (by omega) (by omega)
      have ph4 : Kp k h (sI h (k + 23 + o19) 1 y) := Kp.c (by omega) (by omega)
      have kh4 : xK (sI h (k + 23 + o19) 1 y) = xK h := rfl
      generalize sI h (k + 23 + o19) 1 y = h4 at mh4 ph4 kh4 ⊢
      refine r_iload_n C (dx dX7_away 28 rfl) rfl ?_
      have eV : awayV v (nI o19) y = vset v 5 o19 y := by (simp [awayA, awayV, awayB_e, clN (show o19 < 2 ^ 31 by omega), c1, c3] <;> rfl)
      have eA : awayA v (nI o19) y = vF v 5 o19 := by (simp [awayA, awayV, awayB_e, clN (show o19 < 2 ^ 31 by omega), c1, c3] <;> rfl)
      exact F.1 _ _ _ _ .int rfl rfl (dx dX7_away 29 rfl) kh4 ⟨by rw [eA], by rw [eV]; exact mh4, ph4⟩
    ·
      have c3 : (inR y 11) = false := c3
      refine r_aload_n C (dx dX7_away 10 rfl) rfl ?_
      refine r_bipush (v := -2) C (dx dX7_away 11 rfl) rfl ?_
      refine r_cv (as := [vi (-2)]) (st := []) C X I_X7_refuse l_X7_83 (e_refuse hm (x := -2) (j := 2) (by decide) (by decide)) (by decide) (Nat.le_of_ble_eq_true rfl) List.prefix_rfl List.prefix_rfl rfl rfl (Nat.le_of_ble_eq_true rfl) rfl (dx dX7_away 12 rfl) ?_
      rintro _ h5 ⟨rfl, m9h5, qh5⟩ kkh5
      have mh5 : MilAt h5 k v := m9h5
      have ph5 : Kp k h h5 := qh5
      have kh5 : xK h5 = xK h := kkh5
      have eV : awayV v (nI o19) y = v := by (simp [awayA, awayV, awayB_e, clN (show o19 < 2 ^ 31 by omega), c1, c3] <;> rfl)
      have eA : awayA v (nI o19) y = -2 := by (simp [awayA, awayV, awayB_e, clN (show o19 < 2 ^ 31 by omega), c1, c3] <;> rfl)
      exact F.1 _ _ _ _ .int rfl rfl (dx dX7_away 13 rfl) kh5 ⟨by rw [eA], by rw [eV]; exact mh5, ph5⟩
set_option maxHeartbeats 4000000 in
theorem e_cross {l : Launch} {h : Hp} {k : Nat} {v : Vg} (hm : MilAt h k v) (o1 : Int32) (b : Bool) : Ms l yX7_cross cX7_cross 4 (some .int) 4 [vr 7 k, vi o1, vi (b2i b)] h (xK h) (fun r h' => r = some (vi (crossA v o1 b)) ∧ MilAt h' k (crossV v o1 b) ∧ Kp k h h') := by
  refine Ms.of (by decide) (Nat.le_of_ble_eq_true rfl) (fun G C X F => ?_)
  have C : Cx G cX7_cross 4 RX7 := C
  show Rr G 0 [(0, vr 7 k), (1, vi o1), (2, vi (b2i b))] [] h
  have bP := hm.bP
  have bM := hm.bM
  have bN := hm.bN
  refine r_aload_n C (dx dX7_cross 0 rfl) rfl ?_
  refine r_iload_n C (dx dX7_cross 1 rfl) rfl ?_
  refine r_cvP (as := [vi o1]) (st := []) (v := vi (b2i (inR o1 (vN v)))) C X I_X7_isOne l_X7_125 (c_X7_isOne hm _) (by decide) (Nat.le_of_ble_eq_true rfl) List.prefix_rfl rfl rfl (Nat.le_of_ble_eq_true rfl) rfl (dx dX7_cross 2 rfl) ?_
  refine rb_ne (b := inR o1 (vN v)) (tgt := 15) C (dx dX7_cross 3 rfl) (by decide) (fun c1 => ?_) (fun c1 => ?_)
  ·
    have c1 : (inR o1 (vN v)) = true := c1
    obtain ⟨o19, ho19, rfl⟩ := inR_ex (n := (vN v)) (by omega) c1
    refine r_aload_n C (dx dX7_cross 8 rfl) rfl ?_
    refine g_X7_54 C (dx dX7_cross 9 rfl) ?_
    refine r_iload_n C (dx dX7_cross 10 rfl) rfl ?_
    refine r_aald4 (j := o19) C rfl rfl (by decide) rfl (by omega) (dx dX7_cross 11 rfl) ?_
    refine r_iconst (v := nI 2) C (dx dX7_cross 12 rfl) rfl ?_
    refine r_iald (j := 2) (x := vF v 6 o19) C rfl rfl (by decide) rfl (by omega) (dx dX7_cross 13 rfl) (hm.eo (by omega) (by omega)) ?_
    refine r_istore_n (ls' := [(0, vr 7 k), (1, vi (nI o19)), (2, vi (b2i b)), (3, vi (vF v 6 o19))]) C (dx dX7_cross 14 rfl) (by decide) [1, 2, 3, 0] rfl ?_
    refine r_aload_n C (dx dX7_cross 15 rfl) rfl ?_
    refine g_X7_54 C (dx dX7_cross 16 rfl) ?_
    refine r_iload_n C (dx dX7_cross 17 rfl) rfl ?_
    refine r_aald4 (j := o19) C rfl rfl (by decide) rfl (by omega) (dx dX7_cross 18 rfl) ?_
    refine r_iconst (v := nI 2) C (dx dX7_cross 19 rfl) rfl ?_
    refine r_iload_n C (dx dX7_cross 20 rfl) rfl ?_
    refine rb_eq (b := b) (tgt := 39) C (dx dX7_cross 21 rfl) (by decide) (fun c2 => ?_) (fun c2 => ?_)
    ·
      have c2 : b = false := c2
      refine r_iconst (v := nI 0) C (dx dX7_cross 24 rfl) rfl ?_
      refine r_iast (j := 2) C rfl rfl (by decide) rfl (by omega) (dx dX7_cross 25 rfl) ?_
      have mh3 : MilAt (sI h (k + 23 + o19) 2 (nI 0)) k (vset v 6 o19 (nI 0)) := hm.so (by omega) (by omega)
      have ph3 : Kp k h (sI h (k + 23 + o19) 2 (nI 0)) := Kp.c (by omega) (by omega)
      have kh3 : xK (sI h (k + 23 + o19) 2 (nI 0)) = xK h := rfl
      generalize sI h (k + 23 + o19) 2 (nI 0) = h3 at mh3 ph3 kh3 ⊢
      refine r_iload_n C (dx dX7_cross 26 rfl) rfl ?_
      refine r_aload_n C (dx dX7_cross 27 rfl) rfl ?_
      refine g_X7_54 C (dx dX7_cross 28 rfl) ?_
      refine r_iload_n C (dx dX7_cross 29 rfl) rfl ?_
      refine r_aald4 (j := o19) C rfl rfl (by decide) rfl (by omega) (dx dX7_cross 30 rfl) ?_
      refine r_iconst (v := nI 2) C (dx dX7_cross 31 rfl) rfl ?_
      refine r_iald (j := 2) (x := vF (vset v 6 o19 (nI 0)) 6 o19) C rfl rfl (by decide) rfl (by omega) (dx dX7_cross 32 rfl) (mh3.eo (by omega) (by omega)) ?_
      refine r_icmp_eq (tgt := 57) C (dx dX7_cross 33 rfl) (by decide) (fun c4 => ?_) (fun c4 => ?_)
      ·
        have c4 : vF v 6 o19 = vF (vset v 6 o19 (nI 0)) 6 o19 := c4
        refine r_iconst (v := nI 0) C (dx dX7_cross 36 rfl) rfl ?_
        have eV : crossV v (nI o19) b = vset v 6 o19 (nI 0) := by (have c49 := c4; (first | rw [vF_set] at c49 | rw [sw_f, eq_comm] at c49); simp [crossV_e, clN (show o19 < 2 ^ 31 by omega), c1, c2, c49, vset_same, show b2i true = nI 1 from rfl, show b2i false = nI 0 from rfl, show ¬ nI 0 = nI 1 by decide, show ¬ nI 1 = nI 0 by decide])
        have eA : crossA v (nI o19) b = nI 0 := by (have c49 := c4; (first | rw [vF_set] at c49 | rw [sw_f, eq_comm] at c49); simp [crossA, clN (show o19 < 2 ^ 31 by omega), c1, c2, c49, vset_same, show b2i true = nI 1 from rfl, show b2i false = nI 0 from rfl, show ¬ nI 0 = nI 1 by decide, show ¬ nI 1 = nI 0 by decide])
        exact F.1 _ _ _ _ .int rfl rfl (dx dX7_cross 37 rfl) kh3 ⟨by rw [eA], by rw [eV]; exact mh3, ph3⟩
      ·
        have c4 : ¬ vF v 6 o19 = vF (vset v 6 o19 (nI 0)) 6 o19 := c4
        refine r_iconst (v := nI 1) C (dx dX7_cross 34 rfl) rfl ?_
        refine r_goto (tgt := 58) C (dx dX7_cross 35 rfl) (by decide) ?_
        have eV : crossV v (nI o19) b = vset v 6 o19 (nI 0) := by (have c49 := c4; (first | rw [vF_set] at c49 | rw [sw_f, eq_comm] at c49); simp [crossV_e, clN (show o19 < 2 ^ 31 by omega), c1, c2, c49, vset_same, show b2i true = nI 1 from rfl, show b2i false = nI 0 from rfl, show ¬ nI 0 = nI 1 by decide, show ¬ nI 1 = nI 0 by decide])
        have eA : crossA v (nI o19) b = nI 1 := by (have c49 := c4; (first | rw [vF_set] at c49 | rw [sw_f, eq_comm] at c49); simp [crossA, clN (show o19 < 2 ^ 31 by omega), c1, c2, c49, vset_same, show b2i true = nI 1 from rfl, show b2i false = nI 0 from rfl, show ¬ nI 0 = nI 1 by decide, show ¬ nI 1 = nI 0 by decide])
        exact F.1 _ _ _ _ .int rfl rfl (dx dX7_cross 37 rfl) kh3 ⟨by rw [eA], by rw [eV]; exact mh3, ph3⟩
    ·
      have c2 : b = true := c2
      refine r_iconst (v := nI 1) C (dx dX7_cross 22 rfl) rfl ?_
      refine r_goto (tgt := 40) C (dx dX7_cross 23 rfl) (by decide) ?_
      refine r_iast (j := 2) C rfl rfl (by decide) rfl (by omega) (dx dX7_cross 25 rfl) ?_
      have mh5 : MilAt (sI h (k + 23 + o19) 2 (nI 1)) k (vset v 6 o19 (nI 1)) := hm.so (by omega) (by omega)
      have ph5 : Kp k h (sI h (k + 23 + o19) 2 (nI 1)) := Kp.c (by omega) (by omega)
      have kh5 : xK (sI h (k + 23 + o19) 2 (nI 1)) = xK h := rfl
      generalize sI h (k + 23 + o19) 2 (nI 1) = h5 at mh5 ph5 kh5 ⊢
      refine r_iload_n C (dx dX7_cross 26 rfl) rfl ?_
      refine r_aload_n C (dx dX7_cross 27 rfl) rfl ?_
      refine g_X7_54 C (dx dX7_cross 28 rfl) ?_
      refine r_iload_n C (dx dX7_cross 29 rfl) rfl ?_
      refine r_aald4 (j := o19) C rfl rfl (by decide) rfl (by omega) (dx dX7_cross 30 rfl) ?_
      refine r_iconst (v := nI 2) C (dx dX7_cross 31 rfl) rfl ?_
      refine r_iald (j := 2) (x := vF (vset v 6 o19 (nI 1)) 6 o19) C rfl rfl (by decide) rfl (by omega) (dx dX7_cross 32 rfl) (mh5.eo (by omega) (by omega)) ?_
      refine r_icmp_eq (tgt := 57) C (dx dX7_cross 33 rfl) (by decide) (fun c6 => ?_) (fun c6 => ?_)
      ·
        have c6 : vF v 6 o19 = vF (vset v 6 o19 (nI 1)) 6 o19 := c6
        refine r_iconst (v := nI 0) C (dx dX7_cross 36 rfl) rfl ?_
        have eV : crossV v (nI o19) b = vset v 6 o19 (nI 1) := by (have c69 := c6; (first | rw [vF_set] at c69 | rw [sw_f, eq_comm] at c69); simp [crossV_e, clN (show o19 < 2 ^ 31 by omega), c1, c2, c69, vset_same, show b2i true = nI 1 from rfl, show b2i false = nI 0 from rfl, show ¬ nI 0 = nI 1 by decide, show ¬ nI 1 = nI 0 by decide])
        have eA : crossA v (nI o19) b = nI 0 := by (have c69 := c6; (first | rw [vF_set] at c69 | rw [sw_f, eq_comm] at c69); simp [crossA, clN (show o19 < 2 ^ 31 by omega), c1, c2, c69, vset_same, show b2i true = nI 1 from rfl, show b2i false = nI 0 from rfl, show ¬ nI 0 = nI 1 by decide, show ¬ nI 1 = nI 0 by decide])
        exact F.1 _ _ _ _ .int rfl rfl (dx dX7_cross 37 rfl) kh5 ⟨by rw [eA], by rw [eV]; exact mh5, ph5⟩
      ·
        have c6 : ¬ vF v 6 o19 = vF (vset v 6 o19 (nI 1)) 6 o19 := c6
        refine r_iconst (v := nI 1) C (dx dX7_cross 34 rfl) rfl ?_
        refine r_goto (tgt := 58) C (dx dX7_cross 35 rfl) (by decide) ?_
        have eV : crossV v (nI o19) b = vset v 6 o19 (nI 1) := by (have c69 := c6; (first | rw [vF_set] at c69 | rw [sw_f, eq_comm] at c69); simp [crossV_e, clN (show o19 < 2 ^ 31 by omega), c1, c2, c69, vset_same, show b2i true = nI 1 from rfl, show b2i false = nI 0 from rfl, show ¬ nI 0 = nI 1 by decide, show ¬ nI 1 = nI 0 by decide])
        have eA : crossA v (nI o19) b = nI 1 := by (have c69 := c6; (first | rw [vF_set] at c69 | rw [sw_f, eq_comm] at c69); simp [crossA, clN (show o19 < 2 ^ 31 by omega), c1, c2, c69, vset_same, show b2i true = nI 1 from rfl, show b2i false = nI 0 from rfl, show ¬ nI 0 = nI 1 by decide, show ¬ nI 1 = nI 0 by decide])
        exact F.1 _ _ _ _ .int rfl rfl (dx dX7_cross 37 rfl) kh5 ⟨by rw [eA], by rw [eV]; exact mh5, ph5⟩
  ·
    have c1 : (inR o1 (vN v)) = false := c1
    refine r_aload_n C (dx dX7_cross 4 rfl) rfl ?_
    refine r_bipush (v := -2) C (dx dX7_cross 5 rfl) rfl ?_
    refine r_cv (as := [vi (-2)]) (st := []) C X I_X7_refuse l_X7_83 (e_refuse hm (x := -2) (j := 2) (by decide) (by decide)) (by decide) (Nat.le_of_ble_eq_true rfl) List.prefix_rfl List.prefix_rfl rfl rfl (Nat.le_of_ble_eq_true rfl) rfl (dx dX7_cross 6 rfl) ?_
    rintro _ h7 ⟨rfl, m9h7, qh7⟩ kkh7
    have mh7 : MilAt h7 k v := m9h7
    have ph7 : Kp k h h7 := qh7
    have kh7 : xK h7 = xK h := kkh7
    have eV : crossV v o1 b = v := by (simp [crossV_e, c1, vset_same, show b2i true = nI 1 from rfl, show b2i false = nI 0 from rfl, show ¬ nI 0 = nI 1 by decide, show ¬ nI 1 = nI 0 by decide])
    have eA : crossA v o1 b = -2 := by (simp [crossA, c1, vset_same, show b2i true = nI 1 from rfl, show b2i false = nI 0 from rfl, show ¬ nI 0 = nI 1 by decide, show ¬ nI 1 = nI 0 by decide])
    exact F.1 _ _ _ _ .int rfl rfl (dx dX7_cross 7 rfl) kh7 ⟨by rw [eA], by rw [eV]; exact mh7, ph7⟩
set_option maxHeartbeats 4000000 in
theorem e_give {l : Launch} {h : Hp} {k : Nat} {v : Vg} (hm : MilAt h k v) (p o1 : Int32) (b : Bool) : Ms l yX7_give cX7_give 6 (some .int) 4 [vr 7 k, vi p, vi o1, vi (b2i b)] h (xK h) (fun r h' => r = some (vi (giveA v p o1 b)) ∧ MilAt h' k (giveV v p o1 b) ∧ Kp k h h') := by
  refine Ms.of (by decide) (Nat.le_of_ble_eq_true rfl) (fun G C X F => ?_)
  have C : Cx G cX7_give 6 RX7 := C
  show Rr G 0 [(0, vr 7 k), (1, vi p), (2, vi o1), (3, vi (b2i b))] [] h
  have bP := hm.bP
  have bM := hm.bM
  have bN := hm.bN
  refine r_aload_n C (dx dX7_give 0 rfl) rfl ?_
  refine r_iload_n C (dx dX7_give 1 rfl) rfl ?_
  refine r_cvP (as := [vi p]) (st := []) (v := vi (b2i (inR p (vP v)))) C X I_X7_isPart l_X7_132 (c_X7_isPart hm _) (by decide) (Nat.le_of_ble_eq_true rfl) List.prefix_rfl rfl rfl (Nat.le_of_ble_eq_true rfl) rfl (dx dX7_give 2 rfl) ?_
  refine rb_eq (b := inR p (vP v)) (tgt := 21) C (dx dX7_give 3 rfl) (by decide) (fun c1 => ?_) (fun c1 => ?_)
  ·
    have c1 : (inR p (vP v)) = false := c1
    refine r_aload_n C (dx dX7_give 11 rfl) rfl ?_
    refine r_bipush (v := -2) C (dx dX7_give 12 rfl) rfl ?_
    refine r_cv (as := [vi (-2)]) (st := []) C X I_X7_refuse l_X7_83 (e_refuse hm (x := -2) (j := 2) (by decide) (by decide)) (by decide) (Nat.le_of_ble_eq_true rfl) List.prefix_rfl List.prefix_rfl rfl rfl (Nat.le_of_ble_eq_true rfl) rfl (dx dX7_give 13 rfl) ?_
    rintro _ h2 ⟨rfl, m9h2, qh2⟩ kkh2
    have mh2 : MilAt h2 k v := m9h2
    have ph2 : Kp k h h2 := qh2
    have kh2 : xK h2 = xK h := kkh2
    have eV : giveV v p o1 b = v := by (simp [giveA, giveV, giveF, c1] <;> rfl)
    have eA : giveA v p o1 b = -2 := by (simp [giveA, giveV, giveF, c1] <;> rfl)
    exact F.1 _ _ _ _ .int rfl rfl (dx dX7_give 14 rfl) kh2 ⟨by rw [eA], by rw [eV]; exact mh2, ph2⟩
  ·
    have c1 : (inR p (vP v)) = true := c1
    obtain ⟨π, hπ, rfl⟩ := inR_ex (n := (vP v)) (by omega) c1
    refine r_iload_n C (dx dX7_give 4 rfl) rfl ?_
    refine r_iconst (v := -1) C (dx dX7_give 5 rfl) rfl ?_
    refine r_icmp_eq (tgt := 28) C (dx dX7_give 6 rfl) (by decide) (fun c3 => ?_) (fun c3 => ?_)
    ·
      have c3 : o1 = -1 := c3
      refine r_iload_n C (dx dX7_give 15 rfl) rfl ?_
      refine rb_eq (b := b) (tgt := 39) C (dx dX7_give 16 rfl) (by decide) (fun c4 => ?_) (fun c4 => ?_)
      ·
        have c4 : b = false := c4
        refine r_aload_n C (dx dX7_give 20 rfl) rfl ?_
        refine g_X7_40 C (dx dX7_give 21 rfl) ?_
        refine r_astore (ls' := [(0, vr 7 k), (1, vi (nI π)), (2, vi o1), (3, vi (b2i b)), (4, vr 20 (k + 18))]) C (dx dX7_give 22 rfl) (by decide) [1, 2, 3, 4, 0] rfl ?_
        refine r_aload C (dx dX7_give 23 rfl) rfl ?_
        refine r_iload_n C (dx dX7_give 24 rfl) rfl ?_
        refine r_iald (j := π) (x := vF v 0 π) C rfl rfl (by decide) rfl (by omega) (dx dX7_give 25 rfl) (hm.e0 (by omega)) ?_
        refine r_istore (ls' := [(0, vr 7 k), (1, vi (nI π)), (2, vi o1), (3, vi (b2i b)), (4, vr 20 (k + 18)), (5, vi (vF v 0 π))]) C (dx dX7_give 26 rfl) (by decide) [1, 2, 3, 4, 5, 0] rfl ?_
        refine r_iload_n C (dx dX7_give 27 rfl) rfl ?_
        refine r_iconst (v := -1) C (dx dX7_give 28 rfl) rfl ?_
        refine r_icmp_eq (tgt := 77) C (dx dX7_give 29 rfl) (by decide) (fun c5 => ?_) (fun c5 => ?_)
        ·
          have c5 : o1 = -1 := c5
          refine r_aload C (dx dX7_give 41 rfl) rfl ?_
          refine r_iload_n C (dx dX7_give 42 rfl) rfl ?_
          refine r_iload_n C (dx dX7_give 43 rfl) rfl ?_
          refine r_iast (j := π) C rfl rfl (by decide) rfl (by omega) (dx dX7_give 44 rfl) ?_
          have mh6 : MilAt (sI h (k + 18) π o1) k (vset v 0 π o1) := hm.s0
          have ph6 : Kp k h (sI h (k + 18) π o1) := Kp.c (by omega) (by omega)
          have kh6 : xK (sI h (k + 18) π o1) = xK h := rfl
          generalize sI h (k + 18) π o1 = h6 at mh6 ph6 kh6 ⊢
          refine r_iload C (dx dX7_give 45 rfl) rfl ?_
          have eV : giveV v (nI π) o1 b = vset v 0 π o1 := by (simp [giveA, giveV, giveF, clN (show π < 2 ^ 31 by omega), c1, c3, c4, c5] <;> rfl)
          have eA : giveA v (nI π) o1 b = vF v 0 π := by (simp [giveA, giveV, giveF, clN (show π < 2 ^ 31 by omega), c1, c3, c4, c5] <;> rfl)
          exact F.1 _ _ _ _ .int rfl rfl (dx dX7_give 46 rfl) kh6 ⟨by rw [eA], by rw [eV]; exact mh6, ph6⟩
        ·
          have c5 : ¬ o1 = -1 := c5
          exact absurd c3 c5
      ·
        have c4 : b = true := c4
        refine r_aload_n C (dx dX7_give 17 rfl) rfl ?_
        refine g_X7_43 C (dx dX7_give 18 rfl) ?_
        refine r_goto (tgt := 43) C (dx dX7_give 19 rfl) (by decide) ?_
        refine r_astore (ls' := [(0, vr 7 k), (1, vi (nI π)), (2, vi o1), (3, vi (b2i b)), (4, vr 20 (k + 19))]) C (dx dX7_give 22 rfl) (by decide) [1, 2, 3, 4, 0] rfl ?_
        refine r_aload C (dx dX7_give 23 rfl) rfl ?_
        refine r_iload_n C (dx dX7_give 24 rfl) rfl ?_
        refine r_iald (j := π) (x := vF v 1 π) C rfl rfl (by decide) rfl (by omega) (dx dX7_give 25 rfl) (hm.e1 (by omega)) ?_
        refine r_istore (ls' := [(0, vr 7 k), (1, vi (nI π)), (2, vi o1), (3, vi (b2i b)), (4, vr 20 (k + 19)), (5, vi (vF v 1 π))]) C (dx dX7_give 26 rfl) (by decide) [1, 2, 3, 4, 5, 0] rfl ?_
        refine r_iload_n C (dx dX7_give 27 rfl) rfl ?_
        refine r_iconst (v := -1) C (dx dX7_give 28 rfl) rfl ?_
        refine r_icmp_eq (tgt := 77) C (dx dX7_give 29 rfl) (by decide) (fun c7 => ?_) (fun c7 => ?_)
        ·
          have c7 : o1 = -1 := c7
          refine r_aload C (dx dX7_give 41 rfl) rfl ?_
          refine r_iload_n C (dx dX7_give 42 rfl) rfl ?_
          refine r_iload_n C (dx dX7_give 43 rfl) rfl ?_
          refine r_iast (j := π) C rfl rfl (by decide) rfl (by omega) (dx dX7_give 44 rfl) ?_
          have mh8 : MilAt (sI h (k + 19) π o1) k (vset v 1 π o1) := hm.s1
          have ph8 : Kp k h (sI h (k + 19) π o1) := Kp.c (by omega) (by omega)
          have kh8 : xK (sI h (k + 19) π o1) = xK h := rfl
          generalize sI h (k + 19) π o1 = h8 at mh8 ph8 kh8 ⊢
          refine r_iload C (dx dX7_give 45 rfl) rfl ?_
          have eV : giveV v (nI π) o1 b = vset v 1 π o1 := by (simp [giveA, giveV, giveF, clN (show π < 2 ^ 31 by omega), c1, c3, c4, c7] <;> rfl)
          have eA : giveA v (nI π) o1 b = vF v 1 π := by (simp [giveA, giveV, giveF, clN (show π < 2 ^ 31 by omega), c1, c3, c4, c7] <;> rfl)
          exact F.1 _ _ _ _ .int rfl rfl (dx dX7_give 46 rfl) kh8 ⟨by rw [eA], by rw [eV]; exact mh8, ph8⟩
        ·
          have c7 : ¬ o1 = -1 := c7
          exact absurd c3 c7
    ·
      have c3 : ¬ o1 = -1 := c3
      refine r_aload_n C (dx dX7_give 7 rfl) rfl ?_
      refine r_iload_n C (dx dX7_give 8 rfl) rfl ?_
      refine r_cvP (as := [vi o1]) (st := []) (v := vi (b2i (inR o1 (vN v)))) C X I_X7_isOne l_X7_125 (c_X7_isOne hm _) (by decide) (Nat.le_of_ble_eq_true rfl) List.prefix_rfl rfl rfl (Nat.le_of_ble_eq_true rfl) rfl (dx dX7_give 9 rfl) ?_
      refine rb_ne (b := inR o1 (vN v)) (tgt := 28) C (dx dX7_give 10 rfl) (by decide) (fun c9 => ?_) (fun c9 => ?_)
      ·
        have c9 : (inR o1 (vN v)) = true := c9
        obtain ⟨o19, ho19, rfl⟩ := inR_ex (n := (vN v)) (by omega) c9
        refine r_iload_n C (dx dX7_give 15 rfl) rfl ?_
        refine rb_eq (b := b) (tgt := 39) C (dx dX7_give 16 rfl) (by decide) (fun c10 => ?_) (fun c10 => ?_)
        ·
          have c10 : b = false := c10
          refine r_aload_n C (dx dX7_give 20 rfl) rfl ?_
          refine g_X7_40 C (dx dX7_give 21 rfl) ?_
          refine r_astore (ls' := [(0, vr 7 k), (1, vi (nI π)), (2, vi (nI o19)), (3, vi (b2i b)), (4, vr 20 (k + 18))]) C (dx dX7_give 22 rfl) (by decide) [1, 2, 3, 4, 0] rfl ?_
          refine r_aload C (dx dX7_give 23 rfl) rfl ?_
          refine r_iload_n C (dx dX7_give 24 rfl) rfl ?_
          refine r_iald (j := π) (x := vF v 0 π) C rfl rfl (by decide) rfl (by omega) (dx dX7_give 25 rfl) (hm.e0 (by omega)) ?_
          refine r_istore (ls' := [(0, vr 7 k), (1, vi (nI π)), (2, vi (nI o19)), (3, vi (b2i b)), (4, vr 20 (k + 18)), (5, vi (vF v 0 π))]) C (dx dX7_give 26 rfl) (by decide) [1, 2, 3, 4, 5, 0] rfl ?_
          refine r_iload_n C (dx dX7_give 27 rfl) rfl ?_
          refine r_iconst (v := -1) C (dx dX7_give 28 rfl) rfl ?_
          refine r_icmp_eq (tgt := 77) C (dx dX7_give 29 rfl) (by decide) (fun c11 => ?_) (fun c11 => ?_)
          ·
            have c11 : nI o19 = -1 := c11
            refine r_aload C (dx dX7_give 41 rfl) rfl ?_
            refine r_iload_n C (dx dX7_give 42 rfl) rfl ?_
            refine r_iload_n C (dx dX7_give 43 rfl) rfl ?_
            refine r_iast (j := π) C rfl rfl (by decide) rfl (by omega) (dx dX7_give 44 rfl) ?_
            have mh12 : MilAt (sI h (k + 18) π (nI o19)) k (vset v 0 π (nI o19)) := hm.s0
            have ph12 : Kp k h (sI h (k + 18) π (nI o19)) := Kp.c (by omega) (by omega)
            have kh12 : xK (sI h (k + 18) π (nI o19)) = xK h := rfl
            generalize sI h (k + 18) π (nI o19) = h12 at mh12 ph12 kh12 ⊢
            refine r_iload C (dx dX7_give 45 rfl) rfl ?_
            have eV : giveV v (nI π) (nI o19) b = vset v 0 π (nI o19) := by (simp [giveA, giveV, giveF, clN (show π < 2 ^ 31 by omega), clN (show o19 < 2 ^ 31 by omega), c1, c3, c9, c10, c11] <;> rfl)
            have eA : giveA v (nI π) (nI o19) b = vF v 0 π := by (simp [giveA, giveV, giveF, clN (show π < 2 ^ 31 by omega), clN (show o19 < 2 ^ 31 by omega), c1, c3, c9, c10, c11] <;> rfl)
            exact F.1 _ _ _ _ .int rfl rfl (dx dX7_give 46 rfl) kh12 ⟨by rw [eA], by rw [eV]; exact mh12, ph12⟩
          ·
            have c11 : ¬ nI o19 = -1 := c11
            refine r_iload C (dx dX7_give 30 rfl) rfl ?_
            refine r_iload_n C (dx dX7_give 31 rfl) rfl ?_
            refine r_icmp_eq (tgt := 77) C (dx dX7_give 32 rfl) (by decide) (fun c13 => ?_) (fun c13 => ?_)
            ·
              have c13 : vF v 0 π = nI o19 := c13
              refine r_aload C (dx dX7_give 41 rfl) rfl ?_
              refine r_iload_n C (dx dX7_give 42 rfl) rfl ?_
              refine r_iload_n C (dx dX7_give 43 rfl) rfl ?_
              refine r_iast (j := π) C rfl rfl (by decide) rfl (by omega) (dx dX7_give 44 rfl) ?_
              have mh14 : MilAt (sI h (k + 18) π (nI o19)) k (vset v 0 π (nI o19)) := hm.s0
              have ph14 : Kp k h (sI h (k + 18) π (nI o19)) := Kp.c (by omega) (by omega)
              have kh14 : xK (sI h (k + 18) π (nI o19)) = xK h := rfl
              generalize sI h (k + 18) π (nI o19) = h14 at mh14 ph14 kh14 ⊢
              refine r_iload C (dx dX7_give 45 rfl) rfl ?_
              have eV : giveV v (nI π) (nI o19) b = vset v 0 π (nI o19) := by (simp [giveA, giveV, giveF, clN (show π < 2 ^ 31 by omega), clN (show o19 < 2 ^ 31 by omega), c1, c3, c9, c10, c11, c13] <;> rfl)
              have eA : giveA v (nI π) (nI o19) b = vF v 0 π := by (simp [giveA, giveV, giveF, clN (show π < 2 ^ 31 by omega), clN (show o19 < 2 ^ 31 by omega), c1, c3, c9, c10, c11, c13] <;> rfl)
              exact F.1 _ _ _ _ .int rfl rfl (dx dX7_give 46 rfl) kh14 ⟨by rw [eA], by rw [eV]; exact mh14, ph14⟩
            ·
              have c13 : ¬ vF v 0 π = nI o19 := c13
              refine r_aload_n C (dx dX7_give 33 rfl) rfl ?_
              refine r_iload_n C (dx dX7_give 34 rfl) rfl ?_
              refine r_cvP (as := [vi (nI o19)]) (st := []) (v := vi (b2i (hasRm v (nI o19)))) C X I_X7_hasRoom l_X7_135 (e_hasRoom hm (j := o19) (by omega)) (by decide) (Nat.le_of_ble_eq_true rfl) List.prefix_rfl rfl rfl (Nat.le_of_ble_eq_true rfl) rfl (dx dX7_give 35 rfl) ?_
              refine rb_ne (b := hasRm v (nI o19)) (tgt := 77) C (dx dX7_give 36 rfl) (by decide) (fun c15 => ?_) (fun c15 => ?_)
              ·
                have c15 : (hasRm v (nI o19)) = true := c15
                refine r_aload C (dx dX7_give 41 rfl) rfl ?_
                refine r_iload_n C (dx dX7_give 42 rfl) rfl ?_
                refine r_iload_n C (dx dX7_give 43 rfl) rfl ?_
                refine r_iast (j := π) C rfl rfl (by decide) rfl (by omega) (dx dX7_give 44 rfl) ?_
                have mh16 : MilAt (sI h (k + 18) π (nI o19)) k (vset v 0 π (nI o19)) := hm.s0
                have ph16 : Kp k h (sI h (k + 18) π (nI o19)) := Kp.c (by omega) (by omega)
                have kh16 : xK (sI h (k + 18) π (nI o19)) = xK h := rfl
                generalize sI h (k + 18) π (nI o19) = h16 at mh16 ph16 kh16 ⊢
                refine r_iload C (dx dX7_give 45 rfl) rfl ?_
                have eV : giveV v (nI π) (nI o19) b = vset v 0 π (nI o19) := by (simp [giveA, giveV, giveF, clN (show π < 2 ^ 31 by omega), clN (show o19 < 2 ^ 31 by omega), c1, c3, c9, c10, c11, c13, c15, Ne.symm c13] <;> rfl)
                have eA : giveA v (nI π) (nI o19) b = vF v 0 π := by (simp [giveA, giveV, giveF, clN (show π < 2 ^ 31 by omega), clN (show o19 < 2 ^ 31 by omega), c1, c3, c9, c10, c11, c13, c15, Ne.symm c13] <;> rfl)
                exact F.1 _ _ _ _ .int rfl rfl (dx dX7_give 46 rfl) kh16 ⟨by rw [eA], by rw [eV]; exact mh16, ph16⟩
              ·
                have c15 : (hasRm v (nI o19)) = false := c15
                refine r_aload_n C (dx dX7_give 37 rfl) rfl ?_
                refine r_bipush (v := -5) C (dx dX7_give 38 rfl) rfl ?_
                refine r_cv (as := [vi (-5)]) (st := []) C X I_X7_refuse l_X7_83 (e_refuse hm (x := -5) (j := 5) (by decide) (by decide)) (by decide) (Nat.le_of_ble_eq_true rfl) List.prefix_rfl List.prefix_rfl rfl rfl (Nat.le_of_ble_eq_true rfl) rfl (dx dX7_give 39 rfl) ?_
                rintro _ h17 ⟨rfl, m9h17, qh17⟩ kkh17
                have mh17 : MilAt h17 k v := m9h17
                have ph17 : Kp k h h17 := qh17
                have kh17 : xK h17 = xK h := kkh17
                have eV : giveV v (nI π) (nI o19) b = v := by (simp [giveA, giveV, giveF, clN (show π < 2 ^ 31 by omega), clN (show o19 < 2 ^ 31 by omega), c1, c3, c9, c10, c11, c13, c15, Ne.symm c13] <;> rfl)
                have eA : giveA v (nI π) (nI o19) b = -5 := by (simp [giveA, giveV, giveF, clN (show π < 2 ^ 31 by omega), clN (show o19 < 2 ^ 31 by omega), c1, c3, c9, c10, c11, c13, c15, Ne.symm c13] <;> rfl)
                exact F.1 _ _ _ _ .int rfl rfl (dx dX7_give 40 rfl) kh17 ⟨by rw [eA], by rw [eV]; exact mh17, ph17⟩
        ·
          have c10 : b = true := c10
          refine r_aload_n C (dx dX7_give 17 rfl) rfl ?_
          refine g_X7_43 C (dx dX7_give 18 rfl) ?_
          refine r_goto (tgt := 43) C (dx dX7_give 19 rfl) (by decide) ?_
          refine r_astore (ls' := [(0, vr 7 k), (1, vi (nI π)), (2, vi (nI o19)), (3, vi (b2i b)), (4, vr 20 (k + 19))]) C (dx dX7_give 22 rfl) (by decide) [1, 2, 3, 4, 0] rfl ?_
          refine r_aload C (dx dX7_give 23 rfl) rfl ?_
          refine r_iload_n C (dx dX7_give 24 rfl) rfl ?_
          refine r_iald (j := π) (x := vF v 1 π) C rfl rfl (by decide) rfl (by omega) (dx dX7_give 25 rfl) (hm.e1 (by omega)) ?_
          refine r_istore (ls' := [(0, vr 7 k), (1, vi (nI π)), (2, vi (nI o19)), (3, vi (b2i b)), (4, vr 20 (k + 19)), (5, vi (vF v 1 π))]) C (dx dX7_give 26 rfl) (by decide) [1, 2, 3, 4, 5, 0] rfl ?_
          refine r_iload_n C (dx dX7_give 27 rfl) rfl ?_
          refine r_iconst (v := -1) C (dx dX7_give 28 rfl) rfl ?_
          refine r_icmp_eq (tgt := 77) C (dx dX7_give 29 rfl) (by decide) (fun c18 => ?_) (fun c18 => ?_)
          ·
            have c18 : nI o19 = -1 := c18
            refine r_aload C (dx dX7_give 41 rfl) rfl ?_
            refine r_iload_n C (dx dX7_give 42 rfl) rfl ?_
            refine r_iload_n C (dx dX7_give 43 rfl) rfl ?_
            refine r_iast (j := π) C rfl rfl (by decide) rfl (by omega) (dx dX7_give 44 rfl) ?_
            have mh19 : MilAt (sI h (k + 19) π (nI o19)) k (vset v 1 π (nI o19)) := hm.s1
            have ph19 : Kp k h (sI h (k + 19) π (nI o19)) := Kp.c (by omega) (by omega)
            have kh19 : xK (sI h (k + 19) π (nI o19)) = xK h := rfl
            generalize sI h (k + 19) π (nI o19) = h19 at mh19 ph19 kh19 ⊢
            refine r_iload C (dx dX7_give 45 rfl) rfl ?_
            have eV : giveV v (nI π) (nI o19) b = vset v 1 π (nI o19) := by (simp [giveA, giveV, giveF, clN (show π < 2 ^ 31 by omega), clN (show o19 < 2 ^ 31 by omega), c1, c3, c9, c10, c18] <;> rfl)
            have eA : giveA v (nI π) (nI o19) b = vF v 1 π := by (simp [giveA, giveV, giveF, clN (show π < 2 ^ 31 by omega), clN (show o19 < 2 ^ 31 by omega), c1, c3, c9, c10, c18] <;> rfl)
            exact F.1 _ _ _ _ .int rfl rfl (dx dX7_give 46 rfl) kh19 ⟨by rw [eA], by rw [eV]; exact mh19, ph19⟩
          ·
            have c18 : ¬ nI o19 = -1 := c18
            refine r_iload C (dx dX7_give 30 rfl) rfl ?_
            refine r_iload_n C (dx dX7_give 31 rfl) rfl ?_
            refine r_icmp_eq (tgt := 77) C (dx dX7_give 32 rfl) (by decide) (fun c20 => ?_) (fun c20 => ?_)
            ·
              have c20 : vF v 1 π = nI o19 := c20
              refine r_aload C (dx dX7_give 41 rfl) rfl ?_
              refine r_iload_n C (dx dX7_give 42 rfl) rfl ?_
              refine r_iload_n C (dx dX7_give 43 rfl) rfl ?_
              refine r_iast (j := π) C rfl rfl (by decide) rfl (by omega) (dx dX7_give 44 rfl) ?_
              have mh21 : MilAt (sI h (k + 19) π (nI o19)) k (vset v 1 π (nI o19)) := hm.s1
              have ph21 : Kp k h (sI h (k + 19) π (nI o19)) := Kp.c (by omega) (by omega)
              have kh21 : xK (sI h (k + 19) π (nI o19)) = xK h := rfl
              generalize sI h (k + 19) π (nI o19) = h21 at mh21 ph21 kh21 ⊢
              refine r_iload C (dx dX7_give 45 rfl) rfl ?_
              have eV : giveV v (nI π) (nI o19) b = vset v 1 π (nI o19) := by (simp [giveA, giveV, giveF, clN (show π < 2 ^ 31 by omega), clN (show o19 < 2 ^ 31 by omega), c1, c3, c9, c10, c18, c20] <;> rfl)
              have eA : giveA v (nI π) (nI o19) b = vF v 1 π := by (simp [giveA, giveV, giveF, clN (show π < 2 ^ 31 by omega), clN (show o19 < 2 ^ 31 by omega), c1, c3, c9, c10, c18, c20] <;> rfl)
              exact F.1 _ _ _ _ .int rfl rfl (dx dX7_give 46 rfl) kh21 ⟨by rw [eA], by rw [eV]; exact mh21, ph21⟩
            ·
              have c20 : ¬ vF v 1 π = nI o19 := c20
              refine r_aload_n C (dx dX7_give 33 rfl) rfl ?_
              refine r_iload_n C (dx dX7_give 34 rfl) rfl ?_
              refine r_cvP (as := [vi (nI o19)]) (st := []) (v := vi (b2i (hasRm v (nI o19)))) C X I_X7_hasRoom l_X7_135 (e_hasRoom hm (j := o19) (by omega)) (by decide) (Nat.le_of_ble_eq_true rfl) List.prefix_rfl rfl rfl (Nat.le_of_ble_eq_true rfl) rfl (dx dX7_give 35 rfl) ?_
              refine rb_ne (b := hasRm v (nI o19)) (tgt := 77) C (dx dX7_give 36 rfl) (by decide) (fun c22 => ?_) (fun c22 => ?_)
              ·
                have c22 : (hasRm v (nI o19)) = true := c22
                refine r_aload C (dx dX7_give 41 rfl) rfl ?_
                refine r_iload_n C (dx dX7_give 42 rfl) rfl ?_
                refine r_iload_n C (dx dX7_give 43 rfl) rfl ?_
                refine r_iast (j := π) C rfl rfl (by decide) rfl (by omega) (dx dX7_give 44 rfl) ?_
                have mh23 : MilAt (sI h (k + 19) π (nI o19)) k (vset v 1 π (nI o19)) := hm.s1
                have ph23 : Kp k h (sI h (k + 19) π (nI o19)) := Kp.c (by omega) (by omega)
                have kh23 : xK (sI h (k + 19) π (nI o19)) = xK h := rfl
                generalize sI h (k + 19) π (nI o19) = h23 at mh23 ph23 kh23 ⊢
                refine r_iload C (dx dX7_give 45 rfl) rfl ?_
                have eV : giveV v (nI π) (nI o19) b = vset v 1 π (nI o19) := by (simp [giveA, giveV, giveF, clN (show π < 2 ^ 31 by omega), clN (show o19 < 2 ^ 31 by omega), c1, c3, c9, c10, c18, c20, c22, Ne.symm c20] <;> rfl)
                have eA : giveA v (nI π) (nI o19) b = vF v 1 π := by (simp [giveA, giveV, giveF, clN (show π < 2 ^ 31 by omega), clN (show o19 < 2 ^ 31 by omega), c1, c3, c9, c10, c18, c20, c22, Ne.symm c20] <;> rfl)
                exact F.1 _ _ _ _ .int rfl rfl (dx dX7_give 46 rfl) kh23 ⟨by rw [eA], by rw [eV]; exact mh23, ph23⟩
              ·
                have c22 : (hasRm v (nI o19)) = false := c22
                refine r_aload_n C (dx dX7_give 37 rfl) rfl ?_
                refine r_bipush (v := -5) C (dx dX7_give 38 rfl) rfl ?_
                refine r_cv (as := [vi (-5)]) (st := []) C X I_X7_refuse l_X7_83 (e_refuse hm (x := -5) (j := 5) (by decide) (by decide)) (by decide) (Nat.le_of_ble_eq_true rfl) List.prefix_rfl List.prefix_rfl rfl rfl (Nat.le_of_ble_eq_true rfl) rfl (dx dX7_give 39 rfl) ?_
                rintro _ h24 ⟨rfl, m9h24, qh24⟩ kkh24
                have mh24 : MilAt h24 k v := m9h24
                have ph24 : Kp k h h24 := qh24
                have kh24 : xK h24 = xK h := kkh24
                have eV : giveV v (nI π) (nI o19) b = v := by (simp [giveA, giveV, giveF, clN (show π < 2 ^ 31 by omega), clN (show o19 < 2 ^ 31 by omega), c1, c3, c9, c10, c18, c20, c22, Ne.symm c20] <;> rfl)
                have eA : giveA v (nI π) (nI o19) b = -5 := by (simp [giveA, giveV, giveF, clN (show π < 2 ^ 31 by omega), clN (show o19 < 2 ^ 31 by omega), c1, c3, c9, c10, c18, c20, c22, Ne.symm c20] <;> rfl)
                exact F.1 _ _ _ _ .int rfl rfl (dx dX7_give 40 rfl) kh24 ⟨by rw [eA], by rw [eV]; exact mh24, ph24⟩
      ·
        have c9 : (inR o1 (vN v)) = false := c9
        refine r_aload_n C (dx dX7_give 11 rfl) rfl ?_
        refine r_bipush (v := -2) C (dx dX7_give 12 rfl) rfl ?_
        refine r_cv (as := [vi (-2)]) (st := []) C X I_X7_refuse l_X7_83 (e_refuse hm (x := -2) (j := 2) (by decide) (by decide)) (by decide) (Nat.le_of_ble_eq_true rfl) List.prefix_rfl List.prefix_rfl rfl rfl (Nat.le_of_ble_eq_true rfl) rfl (dx dX7_give 13 rfl) ?_
        rintro _ h25 ⟨rfl, m9h25, qh25⟩ kkh25
        have mh25 : MilAt h25 k v := m9h25
        have ph25 : Kp k h h25 := qh25
        have kh25 : xK h25 = xK h := kkh25
        have eV : giveV v (nI π) o1 b = v := by (simp [giveA, giveV, giveF, clN (show π < 2 ^ 31 by omega), c1, c3, c9] <;> rfl)
        have eA : giveA v (nI π) o1 b = -2 := by (simp [giveA, giveV, giveF, clN (show π < 2 ^ 31 by omega), c1, c3, c9] <;> rfl)
        exact F.1 _ _ _ _ .int rfl rfl (dx dX7_give 14 rfl) kh25 ⟨by rw [eA], by rw [eV]; exact mh25, ph25⟩
set_option maxHeartbeats 4000000 in
theorem e_swap {l : Launch} {h : Hp} {k : Nat} {v : Vg} (hm : MilAt h k v) (p q : Int32) : Ms l yX7_swap cX7_swap 4 (some .int) 8 [vr 7 k, vi p, vi q] h (xK h) (fun r h' => r = some (vi (swapA v p q)) ∧ MilAt h' k (swapV v p q) ∧ Kp k h h') := by
  refine Ms.of (by decide) (Nat.le_of_ble_eq_true rfl) (fun G C X F => ?_)
  have C : Cx G cX7_swap 4 RX7 := C
  show Rr G 0 [(0, vr 7 k), (1, vi p), (2, vi q)] [] h
  have bP := hm.bP
  have bM := hm.bM
  have bN := hm.bN
  refine r_aload_n C (dx dX7_swap 0 rfl) rfl ?_
  refine r_iload_n C (dx dX7_swap 1 rfl) rfl ?_
  refine r_cvP (as := [vi p]) (st := []) (v := vi (b2i (inR p (vP v)))) C X I_X7_isPart l_X7_132 (c_X7_isPart hm _) (by decide) (Nat.le_of_ble_eq_true rfl) List.prefix_rfl rfl rfl (Nat.le_of_ble_eq_true rfl) rfl (dx dX7_swap 2 rfl) ?_
  refine rb_eq (b := inR p (vP v)) (tgt := 16) C (dx dX7_swap 3 rfl) (by decide) (fun c1 => ?_) (fun c1 => ?_)
  ·
    have c1 : (inR p (vP v)) = false := c1
    refine r_aload_n C (dx dX7_swap 8 rfl) rfl ?_
    refine r_bipush (v := -2) C (dx dX7_swap 9 rfl) rfl ?_
    refine r_cv (as := [vi (-2)]) (st := []) C X I_X7_refuse l_X7_83 (e_refuse hm (x := -2) (j := 2) (by decide) (by decide)) (by decide) (Nat.le_of_ble_eq_true rfl) List.prefix_rfl List.prefix_rfl rfl rfl (Nat.le_of_ble_eq_true rfl) rfl (dx dX7_swap 10 rfl) ?_
    rintro _ h2 ⟨rfl, m9h2, qh2⟩ kkh2
    have mh2 : MilAt h2 k v := m9h2
    have ph2 : Kp k h h2 := qh2
    have kh2 : xK h2 = xK h := kkh2
    have eV : swapV v p q = v := by (simp [swapV_e, c1, vset_same, show b2i true = nI 1 from rfl, show b2i false = nI 0 from rfl, show ¬ nI 0 = nI 1 by decide, show ¬ nI 1 = nI 0 by decide])
    have eA : swapA v p q = -2 := by (simp [swapA, c1, vset_same, show b2i true = nI 1 from rfl, show b2i false = nI 0 from rfl, show ¬ nI 0 = nI 1 by decide, show ¬ nI 1 = nI 0 by decide])
    exact F.1 _ _ _ _ .int rfl rfl (dx dX7_swap 11 rfl) kh2 ⟨by rw [eA], by rw [eV]; exact mh2, ph2⟩
  ·
    have c1 : (inR p (vP v)) = true := c1
    obtain ⟨π, hπ, rfl⟩ := inR_ex (n := (vP v)) (by omega) c1
    refine r_aload_n C (dx dX7_swap 4 rfl) rfl ?_
    refine r_iload_n C (dx dX7_swap 5 rfl) rfl ?_
    refine r_cvP (as := [vi q]) (st := []) (v := vi (b2i (inR q (vP v)))) C X I_X7_isPart l_X7_132 (c_X7_isPart hm _) (by decide) (Nat.le_of_ble_eq_true rfl) List.prefix_rfl rfl rfl (Nat.le_of_ble_eq_true rfl) rfl (dx dX7_swap 6 rfl) ?_
    refine rb_ne (b := inR q (vP v)) (tgt := 23) C (dx dX7_swap 7 rfl) (by decide) (fun c3 => ?_) (fun c3 => ?_)
    ·
      have c3 : (inR q (vP v)) = true := c3
      obtain ⟨θ, hθ, rfl⟩ := inR_ex (n := (vP v)) (by omega) c3
      refine r_aload_n C (dx dX7_swap 12 rfl) rfl ?_
      refine g_X7_40 C (dx dX7_swap 13 rfl) ?_
      refine r_iload_n C (dx dX7_swap 14 rfl) rfl ?_
      refine r_iald (j := π) (x := vF v 0 π) C rfl rfl (by decide) rfl (by omega) (dx dX7_swap 15 rfl) (hm.e0 (by omega)) ?_
      refine r_istore_n (ls' := [(0, vr 7 k), (1, vi (nI π)), (2, vi (nI θ)), (3, vi (vF v 0 π))]) C (dx dX7_swap 16 rfl) (by decide) [1, 2, 3, 0] rfl ?_
      refine r_aload_n C (dx dX7_swap 17 rfl) rfl ?_
      refine g_X7_40 C (dx dX7_swap 18 rfl) ?_
      refine r_iload_n C (dx dX7_swap 19 rfl) rfl ?_
      refine r_aload_n C (dx dX7_swap 20 rfl) rfl ?_
      refine g_X7_40 C (dx dX7_swap 21 rfl) ?_
      refine r_iload_n C (dx dX7_swap 22 rfl) rfl ?_
      refine r_iald (j := θ) (x := vF v 0 θ) C rfl rfl (by decide) rfl (by omega) (dx dX7_swap 23 rfl) (hm.e0 (by omega)) ?_
      refine r_iast (j := π) C rfl rfl (by decide) rfl (by omega) (dx dX7_swap 24 rfl) ?_
      have mh4 : MilAt (sI h (k + 18) π (vF v 0 θ)) k (vset v 0 π (vF v 0 θ)) := hm.s0
      have ph4 : Kp k h (sI h (k + 18) π (vF v 0 θ)) := Kp.c (by omega) (by omega)
      have kh4 : xK (sI h (k + 18) π (vF v 0 θ)) = xK h := rfl
      generalize sI h (k + 18) π (vF v 0 θ) = h4 at mh4 ph4 kh4 ⊢
      refine r_aload_n C (dx dX7_swap 25 rfl) rfl ?_
      refine g_X7_40 C (dx dX7_swap 26 rfl) ?_
      refine r_iload_n C (dx dX7_swap 27 rfl) rfl ?_
      refine r_iload_n C (dx dX7_swap 28 rfl) rfl ?_
      refine r_iast (j := θ) C rfl rfl (by decide) rfl (by omega) (dx dX7_swap 29 rfl) ?_
      have mh5 : MilAt (sI h4 (k + 18) θ (vF v 0 π)) k (vset (vset v 0 π (vF v 0 θ)) 0 θ (vF v 0 π)) := mh4.s0
      have ph5 : Kp k h (sI h4 (k + 18) θ (vF v 0 π)) := ph4.tr (Kp.c (by omega) (by omega))
      have kh5 : xK (sI h4 (k + 18) θ (vF v 0 π)) = xK h := kh4
      generalize sI h4 (k + 18) θ (vF v 0 π) = h5 at mh5 ph5 kh5 ⊢
      refine r_aload_n C (dx dX7_swap 30 rfl) rfl ?_
      refine g_X7_40 C (dx dX7_swap 31 rfl) ?_
      refine r_iload_n C (dx dX7_swap 32 rfl) rfl ?_
      refine r_iald (j := π) (x := vF (vset (vset v 0 π (vF v 0 θ)) 0 θ (vF v 0 π)) 0 π) C rfl rfl (by decide) rfl (by omega) (dx dX7_swap 33 rfl) (mh5.e0 (by omega)) ?_
      refine r_iload_n C (dx dX7_swap 34 rfl) rfl ?_
      refine r_icmp_eq (tgt := 63) C (dx dX7_swap 35 rfl) (by decide) (fun c6 => ?_) (fun c6 => ?_)
      ·
        have c6 : vF (vset (vset v 0 π (vF v 0 θ)) 0 θ (vF v 0 π)) 0 π = vF v 0 π := c6
        refine r_iconst (v := nI 0) C (dx dX7_swap 38 rfl) rfl ?_
        have eV : swapV v (nI π) (nI θ) = vset (vset v 0 π (vF v 0 θ)) 0 θ (vF v 0 π) := by (have c69 := c6; (first | rw [vF_set] at c69 | rw [sw_f, eq_comm] at c69); simp [swapV_e, clN (show π < 2 ^ 31 by omega), clN (show θ < 2 ^ 31 by omega), c1, c3, c69, vset_same, show b2i true = nI 1 from rfl, show b2i false = nI 0 from rfl, show ¬ nI 0 = nI 1 by decide, show ¬ nI 1 = nI 0 by decide])
        have eA : swapA v (nI π) (nI θ) = nI 0 := by (have c69 := c6; (first | rw [vF_set] at c69 | rw [sw_f, eq_comm] at c69); simp [swapA, clN (show π < 2 ^ 31 by omega), clN (show θ < 2 ^ 31 by omega), c1, c3, c69, vset_same, show b2i true = nI 1 from rfl, show b2i false = nI 0 from rfl, show ¬ nI 0 = nI 1 by decide, show ¬ nI 1 = nI 0 by decide])
        exact F.1 _ _ _ _ .int rfl rfl (dx dX7_swap 39 rfl) kh5 ⟨by rw [eA], by rw [eV]; exact mh5, ph5⟩
      ·
        have c6 : ¬ vF (vset (vset v 0 π (vF v 0 θ)) 0 θ (vF v 0 π)) 0 π = vF v 0 π := c6
        refine r_iconst (v := nI 1) C (dx dX7_swap 36 rfl) rfl ?_
        refine r_goto (tgt := 64) C (dx dX7_swap 37 rfl) (by decide) ?_
        have eV : swapV v (nI π) (nI θ) = vset (vset v 0 π (vF v 0 θ)) 0 θ (vF v 0 π) := by (have c69 := c6; (first | rw [vF_set] at c69 | rw [sw_f, eq_comm] at c69); simp [swapV_e, clN (show π < 2 ^ 31 by omega), clN (show θ < 2 ^ 31 by omega), c1, c3, c69, vset_same, show b2i true = nI 1 from rfl, show b2i false = nI 0 from rfl, show ¬ nI 0 = nI 1 by decide, show ¬ nI 1 = nI 0 by decide])
        have eA : swapA v (nI π) (nI θ) = nI 1 := by (have c69 := c6; (first | rw [vF_set] at c69 | rw [sw_f, eq_comm] at c69); simp [swapA, clN (show π < 2 ^ 31 by omega), clN (show θ < 2 ^ 31 by omega), c1, c3, c69, vset_same, show b2i true = nI 1 from rfl, show b2i false = nI 0 from rfl, show ¬ nI 0 = nI 1 by decide, show ¬ nI 1 = nI 0 by decide])
        exact F.1 _ _ _ _ .int rfl rfl (dx dX7_swap 39 rfl) kh5 ⟨by rw [eA], by rw [eV]; exact mh5, ph5⟩
    ·
      have c3 : (inR q (vP v)) = false := c3
      refine r_aload_n C (dx dX7_swap 8 rfl) rfl ?_
      refine r_bipush (v := -2) C (dx dX7_swap 9 rfl) rfl ?_
      refine r_cv (as := [vi (-2)]) (st := []) C X I_X7_refuse l_X7_83 (e_refuse hm (x := -2) (j := 2) (by decide) (by decide)) (by decide) (Nat.le_of_ble_eq_true rfl) List.prefix_rfl List.prefix_rfl rfl rfl (Nat.le_of_ble_eq_true rfl) rfl (dx dX7_swap 10 rfl) ?_
      rintro _ h7 ⟨rfl, m9h7, qh7⟩ kkh7
      have mh7 : MilAt h7 k v := m9h7
      have ph7 : Kp k h h7 := qh7
      have kh7 : xK h7 = xK h := kkh7
      have eV : swapV v (nI π) q = v := by (simp [swapV_e, clN (show π < 2 ^ 31 by omega), c1, c3, vset_same, show b2i true = nI 1 from rfl, show b2i false = nI 0 from rfl, show ¬ nI 0 = nI 1 by decide, show ¬ nI 1 = nI 0 by decide])
      have eA : swapA v (nI π) q = -2 := by (simp [swapA, clN (show π < 2 ^ 31 by omega), c1, c3, vset_same, show b2i true = nI 1 from rfl, show b2i false = nI 0 from rfl, show ¬ nI 0 = nI 1 by decide, show ¬ nI 1 = nI 0 by decide])
      exact F.1 _ _ _ _ .int rfl rfl (dx dX7_swap 11 rfl) kh7 ⟨by rw [eA], by rw [eV]; exact mh7, ph7⟩
set_option maxHeartbeats 4000000 in
theorem e_seed {l : Launch} {h : Hp} {k : Nat} {v : Vg} (hm : MilAt h k v) (x : Int32) : Ms l yX7_seed cX7_seed 3 (some .int) 8 [vr 7 k, vi x] h (xK h) (fun r h' => r = some (vi (vS v)) ∧ MilAt h' k (vsS v x) ∧ Kp k h h') := by
  refine Ms.of (by decide) (Nat.le_of_ble_eq_true rfl) (fun G C X F => ?_)
  have C : Cx G cX7_seed 3 RX7 := C
  show Rr G 0 [(0, vr 7 k), (1, vi x)] [] h
  have bP := hm.bP
  have bM := hm.bM
  have bN := hm.bN
  refine r_aload_n C (dx dX7_seed 0 rfl) rfl ?_
  refine g_X7_57 (x := vS v) C (dx dX7_seed 1 rfl) hm.eS ?_
  refine r_istore_n (ls' := [(0, vr 7 k), (1, vi x), (2, vi (vS v))]) C (dx dX7_seed 2 rfl) (by decide) [1, 2, 0] rfl ?_
  refine r_aload_n C (dx dX7_seed 3 rfl) rfl ?_
  refine r_iload_n C (dx dX7_seed 4 rfl) rfl ?_
  refine p_X7_57 C (dx dX7_seed 5 rfl) rfl rfl ?_
  have mh1 : MilAt (sI h k 20 x) k (vsS v x) := hm.sS
  have ph1 : Kp k h (sI h k 20 x) := Kp.f (by decide)
  have kh1 : xK (sI h k 20 x) = xK h := rfl
  generalize sI h k 20 x = h1 at mh1 ph1 kh1 ⊢
  refine r_iload_n C (dx dX7_seed 6 rfl) rfl ?_
  exact F.1 _ _ _ _ .int rfl rfl (dx dX7_seed 7 rfl) kh1 ⟨rfl, by exact mh1, ph1⟩
set_option maxHeartbeats 4000000 in
theorem e_draw {l : Launch} {h : Hp} {k : Nat} {v : Vg} (hm : MilAt h k v)  : Ms l yX7_draw cX7_draw 2 (some .int) 1 [vr 7 k, vi (nI 10)] h (xK h) (fun r h' => r = some (vi (drw (vS v))) ∧ MilAt h' k (vsS v (lcg (vS v))) ∧ Kp k h h') := by
  refine Ms.of (by decide) (Nat.le_of_ble_eq_true rfl) (fun G C X F => ?_)
  have C : Cx G cX7_draw 2 RX7 := C
  show Rr G 0 [(0, vr 7 k), (1, vi (nI 10))] [] h
  have bP := hm.bP
  have bM := hm.bM
  have bN := hm.bN
  refine r_aload_n C (dx dX7_draw 0 rfl) rfl ?_
  refine r_aload_n C (dx dX7_draw 1 rfl) rfl ?_
  refine g_X7_57 (x := vS v) C (dx dX7_draw 2 rfl) hm.eS ?_
  refine r_ldcw C n_X7_335 (dx dX7_draw 3 rfl) ?_
  refine r_imul C (dx dX7_draw 4 rfl) ?_
  refine r_sipush (v := nI 12345) C (dx dX7_draw 5 rfl) rfl ?_
  refine r_iadd C (dx dX7_draw 6 rfl) ?_
  refine p_X7_57 C (dx dX7_draw 7 rfl) rfl rfl ?_
  have mh1 : MilAt (sI h k 20 (((vS v) * 1103515245) + (nI 12345))) k (vsS v (((vS v) * 1103515245) + (nI 12345))) := hm.sS
  have ph1 : Kp k h (sI h k 20 (((vS v) * 1103515245) + (nI 12345))) := Kp.f (by decide)
  have kh1 : xK (sI h k 20 (((vS v) * 1103515245) + (nI 12345))) = xK h := rfl
  generalize sI h k 20 (((vS v) * 1103515245) + (nI 12345)) = h1 at mh1 ph1 kh1 ⊢
  refine r_aload_n C (dx dX7_draw 8 rfl) rfl ?_
  refine g_X7_57 (x := (((vS v) * 1103515245) + (nI 12345))) C (dx dX7_draw 9 rfl) mh1.eS ?_
  refine r_bipush (v := nI 16) C (dx dX7_draw 10 rfl) rfl ?_
  refine r_iushr C (dx dX7_draw 11 rfl) ?_
  refine r_iload_n C (dx dX7_draw 12 rfl) rfl ?_
  refine r_irem C (dx dX7_draw 13 rfl) (by decide) ?_
  have eV : vsS v (lcg (vS v)) = vsS v (((vS v) * 1103515245) + (nI 12345)) := by rfl
  have eA : drw (vS v) = (((((vS v) * 1103515245) + (nI 12345)).toUInt32 >>> ((nI 16).toUInt32 &&& Int32.toUInt32 31)).toInt32) - (((((vS v) * 1103515245) + (nI 12345)).toUInt32 >>> ((nI 16).toUInt32 &&& Int32.toUInt32 31)).toInt32) / (nI 10) * (nI 10) := by rfl
  exact F.1 _ _ _ _ .int rfl rfl (dx dX7_draw 14 rfl) kh1 ⟨by rw [eA], by rw [eV]; exact mh1, ph1⟩
set_option maxHeartbeats 4000000 in
theorem e_goes {l : Launch} {h : Hp} {k : Nat} {v : Vg} (hm : MilAt h k v) (hd : HdOk v) : Ms l yX7_goes cX7_goes 7 (some .int) 5 [vr 7 k] h (xK h) (fun r h' => r = some (vi (worthS v (dayP v))) ∧ MilAt h' k (dayV v) ∧ Kp k h h') := by
  refine Ms.of (by decide) (Nat.le_of_ble_eq_true rfl) (fun G C X F => ?_)
  have C : Cx G cX7_goes 7 RX7 := C
  show Rr G 0 [(0, vr 7 k)] [] h
  have bP := hm.bP
  have bM := hm.bM
  have bN := hm.bN
  refine r_iconst (v := nI 0) C (dx dX7_goes 0 rfl) rfl ?_
  refine r_istore_n (ls' := [(0, vr 7 k), (1, vi (nI 0))]) C (dx dX7_goes 1 rfl) (by decide) [1, 0] rfl ?_
  refine r_iconst (v := nI 0) C (dx dX7_goes 2 rfl) rfl ?_
  refine r_istore_n (ls' := [(0, vr 7 k), (1, vi (nI 0)), (2, vi (nI 0))]) C (dx dX7_goes 3 rfl) (by decide) [1, 2, 0] rfl ?_
  refine loopU (Φ := fun p => ∀ g9p, MilAt g9p k (vsS v (cmS v p).2) → Kp k h g9p → xK g9p = xK h → Rr G 4 [(0, vr 7 k), (1, vi ((cmS v p).1)), (2, vi (nI p))] [] g9p) (N := vN v) ?_ ?_ 0 (Nat.zero_le _) h hm Kp.rf rfl
  ·
    intro g9p mg9p pg9p kg9p
    refine r_iload_n C (dx dX7_goes 4 rfl) rfl ?_
    refine r_aload_n C (dx dX7_goes 5 rfl) rfl ?_
    refine g_X7_74 (x := nI (vN v)) C (dx dX7_goes 6 rfl) mg9p.eN ?_
    refine rn_ge (a := vN v) (b := vN v) (tgt := 56) C (by omega) (by omega) (dx dX7_goes 7 rfl) (by decide) (fun c1 => ?_) (fun c1 => ?_)
    · first
      | (omega; done)
      | (
          have c1 : vN v ≤ vN v := c1
          refine r_iconst (v := nI 0) C (dx dX7_goes 35 rfl) rfl ?_
          refine r_istore_n (ls' := [(0, vr 7 k), (1, vi ((cmS v (vN v)).1)), (2, vi (nI 0))]) C (dx dX7_goes 36 rfl) (by decide) [1, 2, 0] rfl ?_
          refine r_iconst (v := nI 0) C (dx dX7_goes 37 rfl) rfl ?_
          refine r_istore_n (ls' := [(0, vr 7 k), (1, vi ((cmS v (vN v)).1)), (2, vi (nI 0)), (3, vi (nI 0))]) C (dx dX7_goes 38 rfl) (by decide) [1, 2, 3, 0] rfl ?_
          refine loopU (Φ := fun p => ∀ g9p, MilAt g9p k (goV v (dayP v) (cmS v (vN v)).2 p) → Kp k h g9p → xK g9p = xK h → Rr G 60 [(0, vr 7 k), (1, vi ((cmS v (vN v)).1)), (2, vi (sumIf (needW v (dayP v)) (fun m => vF v 3 m) p)), (3, vi (nI p))] [] g9p) (N := vM v) ?_ ?_ 0 (Nat.zero_le _) g9p mg9p pg9p kg9p
          ·
            intro g9p mg9p pg9p kg9p
            refine r_iload_n C (dx dX7_goes 39 rfl) rfl ?_
            refine r_aload_n C (dx dX7_goes 40 rfl) rfl ?_
            refine g_X7_71 (x := nI (vM v)) C (dx dX7_goes 41 rfl) mg9p.eM ?_
            refine rn_ge (a := vM v) (b := vM v) (tgt := 189) C (by omega) (by omega) (dx dX7_goes 42 rfl) (by decide) (fun c2 => ?_) (fun c2 => ?_)
            · first
              | (omega; done)
              | (
                  have c2 : vM v ≤ vM v := c2
                  refine r_aload_n C (dx dX7_goes 108 rfl) rfl ?_
                  refine r_dupR C (dx dX7_goes 109 rfl) ?_
                  refine g_X7_339 (x := xI g9p k 18) C (dx dX7_goes 110 rfl) rfl ?_
                  refine r_iconst (v := nI 1) C (dx dX7_goes 111 rfl) rfl ?_
                  refine r_iadd C (dx dX7_goes 112 rfl) ?_
                  refine p_X7_339 C (dx dX7_goes 113 rfl) rfl rfl ?_
                  have mh3 : MilAt (sI g9p k 18 ((xI g9p k 18) + (nI 1))) k (goV v (dayP v) (cmS v (vN v)).2 (vM v)) := mg9p.f (by decide) (by decide) (by decide) (by decide)
                  have ph3 : Kp k h (sI g9p k 18 ((xI g9p k 18) + (nI 1))) := pg9p.tr (Kp.f (by decide))
                  have kh3 : xK (sI g9p k 18 ((xI g9p k 18) + (nI 1))) = xK h := kg9p
                  generalize sI g9p k 18 ((xI g9p k 18) + (nI 1)) = h3 at mh3 ph3 kh3 ⊢
                  refine r_iload_n C (dx dX7_goes 114 rfl) rfl ?_
                  have eV : dayV v = goV v (dayP v) (cmS v (vN v)).2 (vM v) := by rfl
                  have eA : worthS v (dayP v) = sumIf (needW v (dayP v)) (fun m => vF v 3 m) (vM v) := by rfl
                  exact F.1 _ _ _ _ .int rfl rfl (dx dX7_goes 115 rfl) kh3 ⟨by rw [eA], by rw [eV]; exact mh3, ph3⟩)
            · first
              | (omega; done)
          ·
            intro p hp ihp g9p mg9p pg9p kg9p
            refine r_iload_n C (dx dX7_goes 39 rfl) rfl ?_
            refine r_aload_n C (dx dX7_goes 40 rfl) rfl ?_
            refine g_X7_71 (x := nI (vM v)) C (dx dX7_goes 41 rfl) mg9p.eM ?_
            refine rn_ge (a := p) (b := vM v) (tgt := 189) C (by omega) (by omega) (dx dX7_goes 42 rfl) (by decide) (fun c5 => ?_) (fun c5 => ?_)
            · first
              | (omega; done)
              | (
                  have c5 : vM v ≤ p := c5
                  refine r_aload_n C (dx dX7_goes 108 rfl) rfl ?_
                  refine r_dupR C (dx dX7_goes 109 rfl) ?_
                  refine g_X7_339 (x := xI g9p k 18) C (dx dX7_goes 110 rfl) rfl ?_
                  refine r_iconst (v := nI 1) C (dx dX7_goes 111 rfl) rfl ?_
                  refine r_iadd C (dx dX7_goes 112 rfl) ?_
                  refine p_X7_339 C (dx dX7_goes 113 rfl) rfl rfl ?_
                  have mh6 : MilAt (sI g9p k 18 ((xI g9p k 18) + (nI 1))) k (goV v (dayP v) (cmS v (vN v)).2 p) := mg9p.f (by decide) (by decide) (by decide) (by decide)
                  have ph6 : Kp k h (sI g9p k 18 ((xI g9p k 18) + (nI 1))) := pg9p.tr (Kp.f (by decide))
                  have kh6 : xK (sI g9p k 18 ((xI g9p k 18) + (nI 1))) = xK h := kg9p
                  generalize sI g9p k 18 ((xI g9p k 18) + (nI 1)) = h6 at mh6 ph6 kh6 ⊢
                  refine r_iload_n C (dx dX7_goes 114 rfl) rfl ?_
                  have eV : dayV v = goV v (dayP v) (cmS v (vN v)).2 p := by rfl
                  have eA : worthS v (dayP v) = sumIf (needW v (dayP v)) (fun m => vF v 3 m) p := by rfl
                  exact F.1 _ _ _ _ .int rfl rfl (dx dX7_goes 115 rfl) kh6 ⟨by rw [eA], by rw [eV]; exact mh6, ph6⟩)
            · first
              | (omega; done)
              | (
                  have c5 : p < vM v := c5
                  refine r_aload_n C (dx dX7_goes 43 rfl) rfl ?_
                  refine r_iload_n C (dx dX7_goes 44 rfl) rfl ?_
                  refine r_iload_n C (dx dX7_goes 45 rfl) rfl ?_
                  refine r_cvP (as := [vi (nI p), vi ((cmS v (vN v)).1)]) (st := []) (v := vi (b2i (needW v (hasP v ((cmS v (vN v)).1)) p))) C X I_X7_worksOf l_X7_250 (e_works_go mg9p (m := p) (by omega) _) (by decide) (Nat.le_of_ble_eq_true rfl) (pfx_eq kg9p) rfl rfl (Nat.le_of_ble_eq_true rfl) rfl (dx dX7_goes 46 rfl) ?_
                  refine rb_eq (b := needW v (hasP v ((cmS v (vN v)).1)) p) (tgt := 183) C (dx dX7_goes 47 rfl) (by decide) (fun c7 => ?_) (fun c7 => ?_)
                  ·
                    have c7 : (needW v (hasP v ((cmS v (vN v)).1)) p) = false := c7
                    refine rn_iinc (a := p) (k := 1) (ls' := [(0, vr 7 k), (1, vi ((cmS v (vN v)).1)), (2, vi (sumIf (needW v (dayP v)) (fun m => vF v 3 m) p)), (3, vi (nI (p + 1)))]) C (dx dX7_goes 106 rfl) rfl rfl (by decide) [1, 2, 3, 0] rfl ?_
                    refine r_goto (tgt := 60) C (dx dX7_goes 107 rfl) (by decide) ?_
                    have ep2 : (sumIf (needW v (dayP v)) (fun m => vF v 3 m) p) = (sumIf (needW v (dayP v)) (fun m => vF v 3 m) (p + 1)) := by simp [sumIf, dayP, c7]
                    rw [ep2]
                    have fp : (goV v (dayP v) (cmS v (vN v)).2 p) = (goV v (dayP v) (cmS v (vN v)).2 (p + 1)) := by (rw [goV_s, if_neg (by rw [show needW v (dayP v) p = false from c7]; decide)])
                    exact ihp g9p (fp ▸ mg9p) pg9p kg9p
                  ·
                    have c7 : (needW v (hasP v ((cmS v (vN v)).1)) p) = true := c7
                    refine r_iload_n C (dx dX7_goes 48 rfl) rfl ?_
                    refine r_aload_n C (dx dX7_goes 49 rfl) rfl ?_
                    refine g_X7_49 C (dx dX7_goes 50 rfl) ?_
                    refine r_iload_n C (dx dX7_goes 51 rfl) rfl ?_
                    refine r_iald (j := p) (x := vF v 3 p) C rfl rfl (by decide) rfl (by omega) (dx dX7_goes 52 rfl) ((mg9p.e3 (by omega)).trans (by first | rfl | rw [goV_c _ _ _ (by decide)] | rw [shrV_c _ _ _ (by decide), goV_c _ _ _ (by decide)])) ?_
                    refine r_iadd C (dx dX7_goes 53 rfl) ?_
                    refine r_istore_n (ls' := [(0, vr 7 k), (1, vi ((cmS v (vN v)).1)), (2, vi ((sumIf (needW v (dayP v)) (fun m => vF v 3 m) p) + (vF v 3 p))), (3, vi (nI p))]) C (dx dX7_goes 54 rfl) (by decide) [1, 2, 0, 3] rfl ?_
                    refine r_iconst (v := nI 0) C (dx dX7_goes 55 rfl) rfl ?_
                    refine r_istore (ls' := [(0, vr 7 k), (1, vi ((cmS v (vN v)).1)), (2, vi ((sumIf (needW v (dayP v)) (fun m => vF v 3 m) p) + (vF v 3 p))), (3, vi (nI p)), (4, vi (nI 0))]) C (dx dX7_goes 56 rfl) (by decide) [1, 2, 3, 4, 0] rfl ?_
                    refine loopU (Φ := fun q => ∀ g9q, MilAt g9q k (shrV (goV v (dayP v) (cmS v (vN v)).2 p) (vF v 2 p) q) → Kp k h g9q → xK g9q = xK h → Rr G 89 [(0, vr 7 k), (1, vi ((cmS v (vN v)).1)), (2, vi ((sumIf (needW v (dayP v)) (fun m => vF v 3 m) p) + (vF v 3 p))), (3, vi (nI p)), (4, vi (nI q))] [] g9q) (N := vN v) ?_ ?_ 0 (Nat.zero_le _) g9p ((shr_0 _ _).symm ▸ mg9p) pg9p kg9p
                    ·
                      intro g9q mg9q pg9q kg9q
                      refine r_iload C (dx dX7_goes 57 rfl) rfl ?_
                      refine r_aload_n C (dx dX7_goes 58 rfl) rfl ?_
                      refine g_X7_74 (x := nI (vN v)) C (dx dX7_goes 59 rfl) mg9q.eN ?_
                      refine rn_ge (a := vN v) (b := vN v) (tgt := 183) C (by omega) (by omega) (dx dX7_goes 60 rfl) (by decide) (fun c8 => ?_) (fun c8 => ?_)
                      · first
                        | (omega; done)
                        | (
                            have c8 : vN v ≤ vN v := c8
                            refine rn_iinc (a := p) (k := 1) (ls' := [(0, vr 7 k), (1, vi ((cmS v (vN v)).1)), (2, vi ((sumIf (needW v (dayP v)) (fun m => vF v 3 m) p) + (vF v 3 p))), (3, vi (nI (p + 1))), (4, vi (nI (vN v)))]) C (dx dX7_goes 106 rfl) rfl rfl (by decide) [1, 2, 3, 0, 4] rfl ?_
                            refine r_goto (tgt := 60) C (dx dX7_goes 107 rfl) (by decide) ?_
                            have ep2 : ((sumIf (needW v (dayP v)) (fun m => vF v 3 m) p) + (vF v 3 p)) = (sumIf (needW v (dayP v)) (fun m => vF v 3 m) (p + 1)) := by simp [sumIf, dayP, c7]
                            rw [ep2]
                            refine r_weak C [0, 1, 2, 3] rfl ?_
                            have fp : (shrV (goV v (dayP v) (cmS v (vN v)).2 p) (vF v 2 p) (vN v)) = (goV v (dayP v) (cmS v (vN v)).2 (p + 1)) := by (rw [goV_s, if_pos (show needW v (dayP v) p = true from c7)])
                            exact ihp g9q (fp ▸ mg9q) pg9q kg9q)
                      · first
                        | (omega; done)
                        | (
                            have c8 : vN v < vN v := c8
                            refine r_iconst (v := nI 0) C (dx dX7_goes 61 rfl) rfl ?_
                            refine r_istore (ls' := [(0, vr 7 k), (1, vi ((cmS v (vN v)).1)), (2, vi ((sumIf (needW v (dayP v)) (fun m => vF v 3 m) p) + (vF v 3 p))), (3, vi (nI p)), (4, vi (nI (vN v))), (5, vi (nI 0))]) C (dx dX7_goes 62 rfl) (by decide) [1, 2, 3, 4, 5, 0] rfl ?_
                            refine r_iconst (v := nI 0) C (dx dX7_goes 63 rfl) rfl ?_
                            refine r_istore (ls' := [(0, vr 7 k), (1, vi ((cmS v (vN v)).1)), (2, vi ((sumIf (needW v (dayP v)) (fun m => vF v 3 m) p) + (vF v 3 p))), (3, vi (nI p)), (4, vi (nI (vN v))), (5, vi (nI 0)), (6, vi (nI 0))]) C (dx dX7_goes 64 rfl) (by decide) [1, 2, 3, 4, 5, 6, 0] rfl ?_
                            refine loopU (Φ := fun z => ∀ g9z, MilAt g9z k (shrV (goV v (dayP v) (cmS v (vN v)).2 p) (vF v 2 p) q) → Kp k h g9z → xK g9z = xK h → Rr G 104 [(0, vr 7 k), (1, vi ((cmS v (vN v)).1)), (2, vi ((sumIf (needW v (dayP v)) (fun m => vF v 3 m) p) + (vF v 3 p))), (3, vi (nI p)), (4, vi (nI (vN v))), (5, vi (b2i (anyB (ownB v (vF v 2 p) q) z))), (6, vi (nI z))] [] g9z) (N := vP v) ?_ ?_ 0 (Nat.zero_le _) g9q mg9q pg9q kg9q
                            ·
                              intro g9z mg9z pg9z kg9z
                              refine r_iload C (dx dX7_goes 65 rfl) rfl ?_
                              refine r_aload_n C (dx dX7_goes 66 rfl) rfl ?_
                              refine g_X7_64 (x := nI (vP v)) C (dx dX7_goes 67 rfl) mg9z.eP ?_
                              refine rn_ge (a := vP v) (b := vP v) (tgt := 155) C (by omega) (by omega) (dx dX7_goes 68 rfl) (by decide) (fun c9 => ?_) (fun c9 => ?_)
                              · first
                                | (omega; done)
                              · first
                                | (omega; done)
                            ·
                              intro z hz ihz g9z mg9z pg9z kg9z
                              refine r_iload C (dx dX7_goes 65 rfl) rfl ?_
                              refine r_aload_n C (dx dX7_goes 66 rfl) rfl ?_
                              refine g_X7_64 (x := nI (vP v)) C (dx dX7_goes 67 rfl) mg9z.eP ?_
                              refine rn_ge (a := z) (b := vP v) (tgt := 155) C (by omega) (by omega) (dx dX7_goes 68 rfl) (by decide) (fun c13 => ?_) (fun c13 => ?_)
                              · first
                                | (omega; done)
                              · first
                                | (omega; done)
                                | (
                                    have c13 : z < vP v := c13
                                    refine r_iload C (dx dX7_goes 69 rfl) rfl ?_
                                    refine r_aload_n C (dx dX7_goes 70 rfl) rfl ?_
                                    refine g_X7_46 C (dx dX7_goes 71 rfl) ?_
                                    refine r_iload_n C (dx dX7_goes 72 rfl) rfl ?_
                                    refine r_iald (j := p) (x := vF v 2 p) C rfl rfl (by decide) rfl (by omega) (dx dX7_goes 73 rfl) ((mg9z.e2 (by omega)).trans (by first | rfl | rw [goV_c _ _ _ (by decide)] | rw [shrV_c _ _ _ (by decide), goV_c _ _ _ (by decide)])) ?_
                                    refine r_iload C (dx dX7_goes 74 rfl) rfl ?_
                                    refine r_csP (as := [vi (vF v 2 p), vi (nI z)]) (st := [vi (b2i (anyB (ownB v (vF v 2 p) q) z))]) (v := vi (b2i (inB (vF v 2 p) (nI z)))) C X I_X7_isIn l_X7_244 (e_isIn _ _) (by decide) (Nat.le_of_ble_eq_true rfl) (pfx_eq kg9z) (Nat.le_of_ble_eq_true rfl) rfl (dx dX7_goes 75 rfl) ?_
                                    refine rb_eq (b := inB (vF v 2 p) (nI z)) (tgt := 145) C (dx dX7_goes 76 rfl) (by decide) (fun c16 => ?_) (fun c16 => ?_)
                                    ·
                                      have c16 : (inB (vF v 2 p) (nI z)) = false := c16
                                      refine r_iconst (v := nI 0) C (dx dX7_goes 85 rfl) rfl ?_
                                      refine r_ior C (dx dX7_goes 86 rfl) ?_
                                      refine r_istore (ls' := [(0, vr 7 k), (1, vi ((cmS v (vN v)).1)), (2, vi ((sumIf (needW v (dayP v)) (fun m => vF v 3 m) p) + (vF v 3 p))), (3, vi (nI p)), (4, vi (nI (vN v))), (5, vi ((b2i (anyB (ownB v (vF v 2 p) q) z)) ||| (nI 0))), (6, vi (nI z))]) C (dx dX7_goes 87 rfl) (by decide) [1, 2, 3, 4, 5, 0, 6] rfl ?_
                                      refine rn_iinc (a := z) (k := 1) (ls' := [(0, vr 7 k), (1, vi ((cmS v (vN v)).1)), (2, vi ((sumIf (needW v (dayP v)) (fun m => vF v 3 m) p) + (vF v 3 p))), (3, vi (nI p)), (4, vi (nI (vN v))), (5, vi ((b2i (anyB (ownB v (vF v 2 p) q) z)) ||| (nI 0))), (6, vi (nI (z + 1)))]) C (dx dX7_goes 88 rfl) rfl rfl (by decide) [1, 2, 3, 4, 5, 6, 0] rfl ?_
                                      refine r_goto (tgt := 104) C (dx dX7_goes 89 rfl) (by decide) ?_
                                      have ez5 : ((b2i (anyB (ownB v (vF v 2 p) q) z)) ||| (nI 0)) = (b2i (anyB (ownB v (vF v 2 p) q) (z + 1))) := by (simp only [anyB, ownB]; simp [or0, b2i_or1, c16])
                                      rw [ez5]
                                      have fz : (shrV (goV v (dayP v) (cmS v (vN v)).2 p) (vF v 2 p) q) = (shrV (goV v (dayP v) (cmS v (vN v)).2 p) (vF v 2 p) q) := by rfl
                                      exact ihz g9z (fz ▸ mg9z) pg9z kg9z
                                    ·
                                      have c16 : (inB (vF v 2 p) (nI z)) = true := c16
                                      refine r_aload_n C (dx dX7_goes 77 rfl) rfl ?_
                                      refine g_X7_40 C (dx dX7_goes 78 rfl) ?_
                                      refine r_iload C (dx dX7_goes 79 rfl) rfl ?_
                                      refine r_iald (j := z) (x := vF v 0 z) C rfl rfl (by decide) rfl (by omega) (dx dX7_goes 80 rfl) ((mg9z.e0 (by omega)).trans (by first | rfl | rw [goV_c _ _ _ (by decide)] | rw [shrV_c _ _ _ (by decide), goV_c _ _ _ (by decide)])) ?_
                                      refine r_iload C (dx dX7_goes 81 rfl) rfl ?_
                                      refine r_icmp_ne (tgt := 145) C (dx dX7_goes 82 rfl) (by decide) (fun c17 => ?_) (fun c17 => ?_)
                                      ·
                                        have c17 : ¬ vF v 0 z = nI (vN v) := c17
                                        refine r_iconst (v := nI 0) C (dx dX7_goes 85 rfl) rfl ?_
                                        refine r_ior C (dx dX7_goes 86 rfl) ?_
                                        refine r_istore (ls' := [(0, vr 7 k), (1, vi ((cmS v (vN v)).1)), (2, vi ((sumIf (needW v (dayP v)) (fun m => vF v 3 m) p) + (vF v 3 p))), (3, vi (nI p)), (4, vi (nI (vN v))), (5, vi ((b2i (anyB (ownB v (vF v 2 p) q) z)) ||| (nI 0))), (6, vi (nI z))]) C (dx dX7_goes 87 rfl) (by decide) [1, 2, 3, 4, 5, 0, 6] rfl ?_
                                        refine rn_iinc (a := z) (k := 1) (ls' := [(0, vr 7 k), (1, vi ((cmS v (vN v)).1)), (2, vi ((sumIf (needW v (dayP v)) (fun m => vF v 3 m) p) + (vF v 3 p))), (3, vi (nI p)), (4, vi (nI (vN v))), (5, vi ((b2i (anyB (ownB v (vF v 2 p) q) z)) ||| (nI 0))), (6, vi (nI (z + 1)))]) C (dx dX7_goes 88 rfl) rfl rfl (by decide) [1, 2, 3, 4, 5, 6, 0] rfl ?_
                                        refine r_goto (tgt := 104) C (dx dX7_goes 89 rfl) (by decide) ?_
                                        have ez5 : ((b2i (anyB (ownB v (vF v 2 p) q) z)) ||| (nI 0)) = (b2i (anyB (ownB v (vF v 2 p) q) (z + 1))) := by (simp only [anyB, ownB]; simp [or0, b2i_or1, c16, c17])
                                        rw [ez5]
                                        have fz : (shrV (goV v (dayP v) (cmS v (vN v)).2 p) (vF v 2 p) q) = (shrV (goV v (dayP v) (cmS v (vN v)).2 p) (vF v 2 p) q) := by rfl
                                        exact ihz g9z (fz ▸ mg9z) pg9z kg9z
                                      ·
                                        have c17 : vF v 0 z = nI (vN v) := c17
                                        refine r_iconst (v := nI 1) C (dx dX7_goes 83 rfl) rfl ?_
                                        refine r_goto (tgt := 146) C (dx dX7_goes 84 rfl) (by decide) ?_
                                        refine r_ior C (dx dX7_goes 86 rfl) ?_
                                        refine r_istore (ls' := [(0, vr 7 k), (1, vi ((cmS v (vN v)).1)), (2, vi ((sumIf (needW v (dayP v)) (fun m => vF v 3 m) p) + (vF v 3 p))), (3, vi (nI p)), (4, vi (nI (vN v))), (5, vi ((b2i (anyB (ownB v (vF v 2 p) q) z)) ||| (nI 1))), (6, vi (nI z))]) C (dx dX7_goes 87 rfl) (by decide) [1, 2, 3, 4, 5, 0, 6] rfl ?_
                                        refine rn_iinc (a := z) (k := 1) (ls' := [(0, vr 7 k), (1, vi ((cmS v (vN v)).1)), (2, vi ((sumIf (needW v (dayP v)) (fun m => vF v 3 m) p) + (vF v 3 p))), (3, vi (nI p)), (4, vi (nI (vN v))), (5, vi ((b2i (anyB (ownB v (vF v 2 p) q) z)) ||| (nI 1))), (6, vi (nI (z + 1)))]) C (dx dX7_goes 88 rfl) rfl rfl (by decide) [1, 2, 3, 4, 5, 6, 0] rfl ?_
                                        refine r_goto (tgt := 104) C (dx dX7_goes 89 rfl) (by decide) ?_
                                        have ez5 : ((b2i (anyB (ownB v (vF v 2 p) q) z)) ||| (nI 1)) = (b2i (anyB (ownB v (vF v 2 p) q) (z + 1))) := by (simp only [anyB, ownB]; simp [or0, b2i_or1, c16, c17])
                                        rw [ez5]
                                        have fz : (shrV (goV v (dayP v) (cmS v (vN v)).2 p) (vF v 2 p) q) = (shrV (goV v (dayP v) (cmS v (vN v)).2 p) (vF v 2 p) q) := by rfl
                                        exact ihz g9z (fz ▸ mg9z) pg9z kg9z))
                    ·
                      intro q hq ihq g9q mg9q pg9q kg9q
                      refine r_iload C (dx dX7_goes 57 rfl) rfl ?_
                      refine r_aload_n C (dx dX7_goes 58 rfl) rfl ?_
                      refine g_X7_74 (x := nI (vN v)) C (dx dX7_goes 59 rfl) mg9q.eN ?_
                      refine rn_ge (a := q) (b := vN v) (tgt := 183) C (by omega) (by omega) (dx dX7_goes 60 rfl) (by decide) (fun c18 => ?_) (fun c18 => ?_)
                      · first
                        | (omega; done)
                        | (
                            have c18 : vN v ≤ q := c18
                            refine rn_iinc (a := p) (k := 1) (ls' := [(0, vr 7 k), (1, vi ((cmS v (vN v)).1)), (2, vi ((sumIf (needW v (dayP v)) (fun m => vF v 3 m) p) + (vF v 3 p))), (3, vi (nI (p + 1))), (4, vi (nI q))]) C (dx dX7_goes 106 rfl) rfl rfl (by decide) [1, 2, 3, 0, 4] rfl ?_
                            refine r_goto (tgt := 60) C (dx dX7_goes 107 rfl) (by decide) ?_
                            have ep2 : ((sumIf (needW v (dayP v)) (fun m => vF v 3 m) p) + (vF v 3 p)) = (sumIf (needW v (dayP v)) (fun m => vF v 3 m) (p + 1)) := by simp [sumIf, dayP, c7]
                            rw [ep2]
                            refine r_weak C [0, 1, 2, 3] rfl ?_
                            have fp : (shrV (goV v (dayP v) (cmS v (vN v)).2 p) (vF v 2 p) q) = (goV v (dayP v) (cmS v (vN v)).2 (p + 1)) := by (rw [goV_s, if_pos (show needW v (dayP v) p = true from c7)])
                            exact ihp g9q (fp ▸ mg9q) pg9q kg9q)
                      · first
                        | (omega; done)
                        | (
                            have c18 : q < vN v := c18
                            refine r_iconst (v := nI 0) C (dx dX7_goes 61 rfl) rfl ?_
                            refine r_istore (ls' := [(0, vr 7 k), (1, vi ((cmS v (vN v)).1)), (2, vi ((sumIf (needW v (dayP v)) (fun m => vF v 3 m) p) + (vF v 3 p))), (3, vi (nI p)), (4, vi (nI q)), (5, vi (nI 0))]) C (dx dX7_goes 62 rfl) (by decide) [1, 2, 3, 4, 5, 0] rfl ?_
                            refine r_iconst (v := nI 0) C (dx dX7_goes 63 rfl) rfl ?_
                            refine r_istore (ls' := [(0, vr 7 k), (1, vi ((cmS v (vN v)).1)), (2, vi ((sumIf (needW v (dayP v)) (fun m => vF v 3 m) p) + (vF v 3 p))), (3, vi (nI p)), (4, vi (nI q)), (5, vi (nI 0)), (6, vi (nI 0))]) C (dx dX7_goes 64 rfl) (by decide) [1, 2, 3, 4, 5, 6, 0] rfl ?_
                            refine loopU (Φ := fun z => ∀ g9z, MilAt g9z k (shrV (goV v (dayP v) (cmS v (vN v)).2 p) (vF v 2 p) q) → Kp k h g9z → xK g9z = xK h → Rr G 104 [(0, vr 7 k), (1, vi ((cmS v (vN v)).1)), (2, vi ((sumIf (needW v (dayP v)) (fun m => vF v 3 m) p) + (vF v 3 p))), (3, vi (nI p)), (4, vi (nI q)), (5, vi (b2i (anyB (ownB v (vF v 2 p) q) z))), (6, vi (nI z))] [] g9z) (N := vP v) ?_ ?_ 0 (Nat.zero_le _) g9q mg9q pg9q kg9q
                            ·
                              intro g9z mg9z pg9z kg9z
                              refine r_iload C (dx dX7_goes 65 rfl) rfl ?_
                              refine r_aload_n C (dx dX7_goes 66 rfl) rfl ?_
                              refine g_X7_64 (x := nI (vP v)) C (dx dX7_goes 67 rfl) mg9z.eP ?_
                              refine rn_ge (a := vP v) (b := vP v) (tgt := 155) C (by omega) (by omega) (dx dX7_goes 68 rfl) (by decide) (fun c19 => ?_) (fun c19 => ?_)
                              · first
                                | (omega; done)
                                | (
                                    have c19 : vP v ≤ vP v := c19
                                    refine r_aload_n C (dx dX7_goes 90 rfl) rfl ?_
                                    refine g_X7_54 C (dx dX7_goes 91 rfl) ?_
                                    refine r_iload C (dx dX7_goes 92 rfl) rfl ?_
                                    refine r_aald4 (j := q) C rfl rfl (by decide) rfl (by omega) (dx dX7_goes 93 rfl) ?_
                                    refine r_iconst (v := nI 3) C (dx dX7_goes 94 rfl) rfl ?_
                                    refine r_dup2 C (dx dX7_goes 95 rfl) ?_
                                    refine r_iald (j := 3) (x := vF (shrV (goV v (dayP v) (cmS v (vN v)).2 p) (vF v 2 p) q) 7 q) C rfl rfl (by decide) rfl (by omega) (dx dX7_goes 96 rfl) (mg9z.eo (by omega) (by omega)) ?_
                                    refine r_iload C (dx dX7_goes 97 rfl) rfl ?_
                                    refine rb_eq (b := anyB (ownB v (vF v 2 p) q) (vP v)) (tgt := 174) C (dx dX7_goes 98 rfl) (by decide) (fun c20 => ?_) (fun c20 => ?_)
                                    ·
                                      have c20 : (anyB (ownB v (vF v 2 p) q) (vP v)) = false := c20
                                      refine r_iconst (v := nI 0) C (dx dX7_goes 101 rfl) rfl ?_
                                      refine r_iadd C (dx dX7_goes 102 rfl) ?_
                                      refine r_iast (j := 3) C rfl rfl (by decide) rfl (by omega) (dx dX7_goes 103 rfl) ?_
                                      have mh21 : MilAt (sI g9z (k + 23 + q) 3 ((vF (shrV (goV v (dayP v) (cmS v (vN v)).2 p) (vF v 2 p) q) 7 q) + (nI 0))) k (vset (shrV (goV v (dayP v) (cmS v (vN v)).2 p) (vF v 2 p) q) 7 q ((vF (shrV (goV v (dayP v) (cmS v (vN v)).2 p) (vF v 2 p) q) 7 q) + (nI 0))) := mg9z.so (by omega) (by omega)
                                      have ph21 : Kp k h (sI g9z (k + 23 + q) 3 ((vF (shrV (goV v (dayP v) (cmS v (vN v)).2 p) (vF v 2 p) q) 7 q) + (nI 0))) := pg9z.tr (Kp.c (by omega) (by omega))
                                      have kh21 : xK (sI g9z (k + 23 + q) 3 ((vF (shrV (goV v (dayP v) (cmS v (vN v)).2 p) (vF v 2 p) q) 7 q) + (nI 0))) = xK h := kg9z
                                      generalize sI g9z (k + 23 + q) 3 ((vF (shrV (goV v (dayP v) (cmS v (vN v)).2 p) (vF v 2 p) q) 7 q) + (nI 0)) = h21 at mh21 ph21 kh21 ⊢
                                      refine rn_iinc (a := q) (k := 1) (ls' := [(0, vr 7 k), (1, vi ((cmS v (vN v)).1)), (2, vi ((sumIf (needW v (dayP v)) (fun m => vF v 3 m) p) + (vF v 3 p))), (3, vi (nI p)), (4, vi (nI (q + 1))), (5, vi (b2i (anyB (ownB v (vF v 2 p) q) (vP v)))), (6, vi (nI (vP v)))]) C (dx dX7_goes 104 rfl) rfl rfl (by decide) [1, 2, 3, 4, 0, 5, 6] rfl ?_
                                      refine r_goto (tgt := 89) C (dx dX7_goes 105 rfl) (by decide) ?_
                                      refine r_weak C [0, 1, 2, 3, 4] rfl ?_
                                      have fq : (vset (shrV (goV v (dayP v) (cmS v (vN v)).2 p) (vF v 2 p) q) 7 q ((vF (shrV (goV v (dayP v) (cmS v (vN v)).2 p) (vF v 2 p) q) 7 q) + (nI 0))) = (shrV (goV v (dayP v) (cmS v (vN v)).2 p) (vF v 2 p) (q + 1)) := by exact go_step (by omega) bP bN hd (by rw [if_neg (by rw [c20]; decide)])
                                      exact ihq h21 (fq ▸ mh21) ph21 kh21
                                    ·
                                      have c20 : (anyB (ownB v (vF v 2 p) q) (vP v)) = true := c20
                                      refine r_iconst (v := nI 1) C (dx dX7_goes 99 rfl) rfl ?_
                                      refine r_goto (tgt := 175) C (dx dX7_goes 100 rfl) (by decide) ?_
                                      refine r_iadd C (dx dX7_goes 102 rfl) ?_
                                      refine r_iast (j := 3) C rfl rfl (by decide) rfl (by omega) (dx dX7_goes 103 rfl) ?_
                                      have mh22 : MilAt (sI g9z (k + 23 + q) 3 ((vF (shrV (goV v (dayP v) (cmS v (vN v)).2 p) (vF v 2 p) q) 7 q) + (nI 1))) k (vset (shrV (goV v (dayP v) (cmS v (vN v)).2 p) (vF v 2 p) q) 7 q ((vF (shrV (goV v (dayP v) (cmS v (vN v)).2 p) (vF v 2 p) q) 7 q) + (nI 1))) := mg9z.so (by omega) (by omega)
                                      have ph22 : Kp k h (sI g9z (k + 23 + q) 3 ((vF (shrV (goV v (dayP v) (cmS v (vN v)).2 p) (vF v 2 p) q) 7 q) + (nI 1))) := pg9z.tr (Kp.c (by omega) (by omega))
                                      have kh22 : xK (sI g9z (k + 23 + q) 3 ((vF (shrV (goV v (dayP v) (cmS v (vN v)).2 p) (vF v 2 p) q) 7 q) + (nI 1))) = xK h := kg9z
                                      generalize sI g9z (k + 23 + q) 3 ((vF (shrV (goV v (dayP v) (cmS v (vN v)).2 p) (vF v 2 p) q) 7 q) + (nI 1)) = h22 at mh22 ph22 kh22 ⊢
                                      refine rn_iinc (a := q) (k := 1) (ls' := [(0, vr 7 k), (1, vi ((cmS v (vN v)).1)), (2, vi ((sumIf (needW v (dayP v)) (fun m => vF v 3 m) p) + (vF v 3 p))), (3, vi (nI p)), (4, vi (nI (q + 1))), (5, vi (b2i (anyB (ownB v (vF v 2 p) q) (vP v)))), (6, vi (nI (vP v)))]) C (dx dX7_goes 104 rfl) rfl rfl (by decide) [1, 2, 3, 4, 0, 5, 6] rfl ?_
                                      refine r_goto (tgt := 89) C (dx dX7_goes 105 rfl) (by decide) ?_
                                      refine r_weak C [0, 1, 2, 3, 4] rfl ?_
                                      have fq : (vset (shrV (goV v (dayP v) (cmS v (vN v)).2 p) (vF v 2 p) q) 7 q ((vF (shrV (goV v (dayP v) (cmS v (vN v)).2 p) (vF v 2 p) q) 7 q) + (nI 1))) = (shrV (goV v (dayP v) (cmS v (vN v)).2 p) (vF v 2 p) (q + 1)) := by exact go_step (by omega) bP bN hd (by rw [if_pos c20])
                                      exact ihq h22 (fq ▸ mh22) ph22 kh22)
                              · first
                                | (omega; done)
                            ·
                              intro z hz ihz g9z mg9z pg9z kg9z
                              refine r_iload C (dx dX7_goes 65 rfl) rfl ?_
                              refine r_aload_n C (dx dX7_goes 66 rfl) rfl ?_
                              refine g_X7_64 (x := nI (vP v)) C (dx dX7_goes 67 rfl) mg9z.eP ?_
                              refine rn_ge (a := z) (b := vP v) (tgt := 155) C (by omega) (by omega) (dx dX7_goes 68 rfl) (by decide) (fun c24 => ?_) (fun c24 => ?_)
                              · first
                                | (omega; done)
                                | (
                                    have c24 : vP v ≤ z := c24
                                    refine r_aload_n C (dx dX7_goes 90 rfl) rfl ?_
                                    refine g_X7_54 C (dx dX7_goes 91 rfl) ?_
                                    refine r_iload C (dx dX7_goes 92 rfl) rfl ?_
                                    refine r_aald4 (j := q) C rfl rfl (by decide) rfl (by omega) (dx dX7_goes 93 rfl) ?_
                                    refine r_iconst (v := nI 3) C (dx dX7_goes 94 rfl) rfl ?_
                                    refine r_dup2 C (dx dX7_goes 95 rfl) ?_
                                    refine r_iald (j := 3) (x := vF (shrV (goV v (dayP v) (cmS v (vN v)).2 p) (vF v 2 p) q) 7 q) C rfl rfl (by decide) rfl (by omega) (dx dX7_goes 96 rfl) (mg9z.eo (by omega) (by omega)) ?_
                                    refine r_iload C (dx dX7_goes 97 rfl) rfl ?_
                                    refine rb_eq (b := anyB (ownB v (vF v 2 p) q) z) (tgt := 174) C (dx dX7_goes 98 rfl) (by decide) (fun c25 => ?_) (fun c25 => ?_)
                                    ·
                                      have c25 : (anyB (ownB v (vF v 2 p) q) z) = false := c25
                                      refine r_iconst (v := nI 0) C (dx dX7_goes 101 rfl) rfl ?_
                                      refine r_iadd C (dx dX7_goes 102 rfl) ?_
                                      refine r_iast (j := 3) C rfl rfl (by decide) rfl (by omega) (dx dX7_goes 103 rfl) ?_
                                      have mh26 : MilAt (sI g9z (k + 23 + q) 3 ((vF (shrV (goV v (dayP v) (cmS v (vN v)).2 p) (vF v 2 p) q) 7 q) + (nI 0))) k (vset (shrV (goV v (dayP v) (cmS v (vN v)).2 p) (vF v 2 p) q) 7 q ((vF (shrV (goV v (dayP v) (cmS v (vN v)).2 p) (vF v 2 p) q) 7 q) + (nI 0))) := mg9z.so (by omega) (by omega)
                                      have ph26 : Kp k h (sI g9z (k + 23 + q) 3 ((vF (shrV (goV v (dayP v) (cmS v (vN v)).2 p) (vF v 2 p) q) 7 q) + (nI 0))) := pg9z.tr (Kp.c (by omega) (by omega))
                                      have kh26 : xK (sI g9z (k + 23 + q) 3 ((vF (shrV (goV v (dayP v) (cmS v (vN v)).2 p) (vF v 2 p) q) 7 q) + (nI 0))) = xK h := kg9z
                                      generalize sI g9z (k + 23 + q) 3 ((vF (shrV (goV v (dayP v) (cmS v (vN v)).2 p) (vF v 2 p) q) 7 q) + (nI 0)) = h26 at mh26 ph26 kh26 ⊢
                                      refine rn_iinc (a := q) (k := 1) (ls' := [(0, vr 7 k), (1, vi ((cmS v (vN v)).1)), (2, vi ((sumIf (needW v (dayP v)) (fun m => vF v 3 m) p) + (vF v 3 p))), (3, vi (nI p)), (4, vi (nI (q + 1))), (5, vi (b2i (anyB (ownB v (vF v 2 p) q) z))), (6, vi (nI z))]) C (dx dX7_goes 104 rfl) rfl rfl (by decide) [1, 2, 3, 4, 0, 5, 6] rfl ?_
                                      refine r_goto (tgt := 89) C (dx dX7_goes 105 rfl) (by decide) ?_
                                      refine r_weak C [0, 1, 2, 3, 4] rfl ?_
                                      have fq : (vset (shrV (goV v (dayP v) (cmS v (vN v)).2 p) (vF v 2 p) q) 7 q ((vF (shrV (goV v (dayP v) (cmS v (vN v)).2 p) (vF v 2 p) q) 7 q) + (nI 0))) = (shrV (goV v (dayP v) (cmS v (vN v)).2 p) (vF v 2 p) (q + 1)) := by exact go_step (by omega) bP bN hd (by rw [if_neg (by rw [c25]; decide)])
                                      exact ihq h26 (fq ▸ mh26) ph26 kh26
                                    ·
                                      have c25 : (anyB (ownB v (vF v 2 p) q) z) = true := c25
                                      refine r_iconst (v := nI 1) C (dx dX7_goes 99 rfl) rfl ?_
                                      refine r_goto (tgt := 175) C (dx dX7_goes 100 rfl) (by decide) ?_
                                      refine r_iadd C (dx dX7_goes 102 rfl) ?_
                                      refine r_iast (j := 3) C rfl rfl (by decide) rfl (by omega) (dx dX7_goes 103 rfl) ?_
                                      have mh27 : MilAt (sI g9z (k + 23 + q) 3 ((vF (shrV (goV v (dayP v) (cmS v (vN v)).2 p) (vF v 2 p) q) 7 q) + (nI 1))) k (vset (shrV (goV v (dayP v) (cmS v (vN v)).2 p) (vF v 2 p) q) 7 q ((vF (shrV (goV v (dayP v) (cmS v (vN v)).2 p) (vF v 2 p) q) 7 q) + (nI 1))) := mg9z.so (by omega) (by omega)
                                      have ph27 : Kp k h (sI g9z (k + 23 + q) 3 ((vF (shrV (goV v (dayP v) (cmS v (vN v)).2 p) (vF v 2 p) q) 7 q) + (nI 1))) := pg9z.tr (Kp.c (by omega) (by omega))
                                      have kh27 : xK (sI g9z (k + 23 + q) 3 ((vF (shrV (goV v (dayP v) (cmS v (vN v)).2 p) (vF v 2 p) q) 7 q) + (nI 1))) = xK h := kg9z
                                      generalize sI g9z (k + 23 + q) 3 ((vF (shrV (goV v (dayP v) (cmS v (vN v)).2 p) (vF v 2 p) q) 7 q) + (nI 1)) = h27 at mh27 ph27 kh27 ⊢
                                      refine rn_iinc (a := q) (k := 1) (ls' := [(0, vr 7 k), (1, vi ((cmS v (vN v)).1)), (2, vi ((sumIf (needW v (dayP v)) (fun m => vF v 3 m) p) + (vF v 3 p))), (3, vi (nI p)), (4, vi (nI (q + 1))), (5, vi (b2i (anyB (ownB v (vF v 2 p) q) z))), (6, vi (nI z))]) C (dx dX7_goes 104 rfl) rfl rfl (by decide) [1, 2, 3, 4, 0, 5, 6] rfl ?_
                                      refine r_goto (tgt := 89) C (dx dX7_goes 105 rfl) (by decide) ?_
                                      refine r_weak C [0, 1, 2, 3, 4] rfl ?_
                                      have fq : (vset (shrV (goV v (dayP v) (cmS v (vN v)).2 p) (vF v 2 p) q) 7 q ((vF (shrV (goV v (dayP v) (cmS v (vN v)).2 p) (vF v 2 p) q) 7 q) + (nI 1))) = (shrV (goV v (dayP v) (cmS v (vN v)).2 p) (vF v 2 p) (q + 1)) := by exact go_step (by omega) bP bN hd (by rw [if_pos c25])
                                      exact ihq h27 (fq ▸ mh27) ph27 kh27)
                              · first
                                | (omega; done)
                                | (
                                    have c24 : z < vP v := c24
                                    refine r_iload C (dx dX7_goes 69 rfl) rfl ?_
                                    refine r_aload_n C (dx dX7_goes 70 rfl) rfl ?_
                                    refine g_X7_46 C (dx dX7_goes 71 rfl) ?_
                                    refine r_iload_n C (dx dX7_goes 72 rfl) rfl ?_
                                    refine r_iald (j := p) (x := vF v 2 p) C rfl rfl (by decide) rfl (by omega) (dx dX7_goes 73 rfl) ((mg9z.e2 (by omega)).trans (by first | rfl | rw [goV_c _ _ _ (by decide)] | rw [shrV_c _ _ _ (by decide), goV_c _ _ _ (by decide)])) ?_
                                    refine r_iload C (dx dX7_goes 74 rfl) rfl ?_
                                    refine r_csP (as := [vi (vF v 2 p), vi (nI z)]) (st := [vi (b2i (anyB (ownB v (vF v 2 p) q) z))]) (v := vi (b2i (inB (vF v 2 p) (nI z)))) C X I_X7_isIn l_X7_244 (e_isIn _ _) (by decide) (Nat.le_of_ble_eq_true rfl) (pfx_eq kg9z) (Nat.le_of_ble_eq_true rfl) rfl (dx dX7_goes 75 rfl) ?_
                                    refine rb_eq (b := inB (vF v 2 p) (nI z)) (tgt := 145) C (dx dX7_goes 76 rfl) (by decide) (fun c28 => ?_) (fun c28 => ?_)
                                    ·
                                      have c28 : (inB (vF v 2 p) (nI z)) = false := c28
                                      refine r_iconst (v := nI 0) C (dx dX7_goes 85 rfl) rfl ?_
                                      refine r_ior C (dx dX7_goes 86 rfl) ?_
                                      refine r_istore (ls' := [(0, vr 7 k), (1, vi ((cmS v (vN v)).1)), (2, vi ((sumIf (needW v (dayP v)) (fun m => vF v 3 m) p) + (vF v 3 p))), (3, vi (nI p)), (4, vi (nI q)), (5, vi ((b2i (anyB (ownB v (vF v 2 p) q) z)) ||| (nI 0))), (6, vi (nI z))]) C (dx dX7_goes 87 rfl) (by decide) [1, 2, 3, 4, 5, 0, 6] rfl ?_
                                      refine rn_iinc (a := z) (k := 1) (ls' := [(0, vr 7 k), (1, vi ((cmS v (vN v)).1)), (2, vi ((sumIf (needW v (dayP v)) (fun m => vF v 3 m) p) + (vF v 3 p))), (3, vi (nI p)), (4, vi (nI q)), (5, vi ((b2i (anyB (ownB v (vF v 2 p) q) z)) ||| (nI 0))), (6, vi (nI (z + 1)))]) C (dx dX7_goes 88 rfl) rfl rfl (by decide) [1, 2, 3, 4, 5, 6, 0] rfl ?_
                                      refine r_goto (tgt := 104) C (dx dX7_goes 89 rfl) (by decide) ?_
                                      have ez5 : ((b2i (anyB (ownB v (vF v 2 p) q) z)) ||| (nI 0)) = (b2i (anyB (ownB v (vF v 2 p) q) (z + 1))) := by (simp only [anyB, ownB]; simp [or0, b2i_or1, c28])
                                      rw [ez5]
                                      have fz : (shrV (goV v (dayP v) (cmS v (vN v)).2 p) (vF v 2 p) q) = (shrV (goV v (dayP v) (cmS v (vN v)).2 p) (vF v 2 p) q) := by rfl
                                      exact ihz g9z (fz ▸ mg9z) pg9z kg9z
                                    ·
                                      have c28 : (inB (vF v 2 p) (nI z)) = true := c28
                                      refine r_aload_n C (dx dX7_goes 77 rfl) rfl ?_
                                      refine g_X7_40 C (dx dX7_goes 78 rfl) ?_
                                      refine r_iload C (dx dX7_goes 79 rfl) rfl ?_
                                      refine r_iald (j := z) (x := vF v 0 z) C rfl rfl (by decide) rfl (by omega) (dx dX7_goes 80 rfl) ((mg9z.e0 (by omega)).trans (by first | rfl | rw [goV_c _ _ _ (by decide)] | rw [shrV_c _ _ _ (by decide), goV_c _ _ _ (by decide)])) ?_
                                      refine r_iload C (dx dX7_goes 81 rfl) rfl ?_
                                      refine r_icmp_ne (tgt := 145) C (dx dX7_goes 82 rfl) (by decide) (fun c29 => ?_) (fun c29 => ?_)
                                      ·
                                        have c29 : ¬ vF v 0 z = nI q := c29
                                        refine r_iconst (v := nI 0) C (dx dX7_goes 85 rfl) rfl ?_
                                        refine r_ior C (dx dX7_goes 86 rfl) ?_
                                        refine r_istore (ls' := [(0, vr 7 k), (1, vi ((cmS v (vN v)).1)), (2, vi ((sumIf (needW v (dayP v)) (fun m => vF v 3 m) p) + (vF v 3 p))), (3, vi (nI p)), (4, vi (nI q)), (5, vi ((b2i (anyB (ownB v (vF v 2 p) q) z)) ||| (nI 0))), (6, vi (nI z))]) C (dx dX7_goes 87 rfl) (by decide) [1, 2, 3, 4, 5, 0, 6] rfl ?_
                                        refine rn_iinc (a := z) (k := 1) (ls' := [(0, vr 7 k), (1, vi ((cmS v (vN v)).1)), (2, vi ((sumIf (needW v (dayP v)) (fun m => vF v 3 m) p) + (vF v 3 p))), (3, vi (nI p)), (4, vi (nI q)), (5, vi ((b2i (anyB (ownB v (vF v 2 p) q) z)) ||| (nI 0))), (6, vi (nI (z + 1)))]) C (dx dX7_goes 88 rfl) rfl rfl (by decide) [1, 2, 3, 4, 5, 6, 0] rfl ?_
                                        refine r_goto (tgt := 104) C (dx dX7_goes 89 rfl) (by decide) ?_
                                        have ez5 : ((b2i (anyB (ownB v (vF v 2 p) q) z)) ||| (nI 0)) = (b2i (anyB (ownB v (vF v 2 p) q) (z + 1))) := by (simp only [anyB, ownB]; simp [or0, b2i_or1, c28, c29])
                                        rw [ez5]
                                        have fz : (shrV (goV v (dayP v) (cmS v (vN v)).2 p) (vF v 2 p) q) = (shrV (goV v (dayP v) (cmS v (vN v)).2 p) (vF v 2 p) q) := by rfl
                                        exact ihz g9z (fz ▸ mg9z) pg9z kg9z
                                      ·
                                        have c29 : vF v 0 z = nI q := c29
                                        refine r_iconst (v := nI 1) C (dx dX7_goes 83 rfl) rfl ?_
                                        refine r_goto (tgt := 146) C (dx dX7_goes 84 rfl) (by decide) ?_
                                        refine r_ior C (dx dX7_goes 86 rfl) ?_
                                        refine r_istore (ls' := [(0, vr 7 k), (1, vi ((cmS v (vN v)).1)), (2, vi ((sumIf (needW v (dayP v)) (fun m => vF v 3 m) p) + (vF v 3 p))), (3, vi (nI p)), (4, vi (nI q)), (5, vi ((b2i (anyB (ownB v (vF v 2 p) q) z)) ||| (nI 1))), (6, vi (nI z))]) C (dx dX7_goes 87 rfl) (by decide) [1, 2, 3, 4, 5, 0, 6] rfl ?_
                                        refine rn_iinc (a := z) (k := 1) (ls' := [(0, vr 7 k), (1, vi ((cmS v (vN v)).1)), (2, vi ((sumIf (needW v (dayP v)) (fun m => vF v 3 m) p) + (vF v 3 p))), (3, vi (nI p)), (4, vi (nI q)), (5, vi ((b2i (anyB (ownB v (vF v 2 p) q) z)) ||| (nI 1))), (6, vi (nI (z + 1)))]) C (dx dX7_goes 88 rfl) rfl rfl (by decide) [1, 2, 3, 4, 5, 6, 0] rfl ?_
                                        refine r_goto (tgt := 104) C (dx dX7_goes 89 rfl) (by decide) ?_
                                        have ez5 : ((b2i (anyB (ownB v (vF v 2 p) q) z)) ||| (nI 1)) = (b2i (anyB (ownB v (vF v 2 p) q) (z + 1))) := by (simp only [anyB, ownB]; simp [or0, b2i_or1, c28, c29])
                                        rw [ez5]
                                        have fz : (shrV (goV v (dayP v) (cmS v (vN v)).2 p) (vF v 2 p) q) = (shrV (goV v (dayP v) (cmS v (vN v)).2 p) (vF v 2 p) q) := by rfl
                                        exact ihz g9z (fz ▸ mg9z) pg9z kg9z))))
    · first
      | (omega; done)
  ·
    intro p hp ihp g9p mg9p pg9p kg9p
    refine r_iload_n C (dx dX7_goes 4 rfl) rfl ?_
    refine r_aload_n C (dx dX7_goes 5 rfl) rfl ?_
    refine g_X7_74 (x := nI (vN v)) C (dx dX7_goes 6 rfl) mg9p.eN ?_
    refine rn_ge (a := p) (b := vN v) (tgt := 56) C (by omega) (by omega) (dx dX7_goes 7 rfl) (by decide) (fun c31 => ?_) (fun c31 => ?_)
    · first
      | (omega; done)
      | (
          have c31 : vN v ≤ p := c31
          refine r_iconst (v := nI 0) C (dx dX7_goes 35 rfl) rfl ?_
          refine r_istore_n (ls' := [(0, vr 7 k), (1, vi ((cmS v p).1)), (2, vi (nI 0))]) C (dx dX7_goes 36 rfl) (by decide) [1, 2, 0] rfl ?_
          refine r_iconst (v := nI 0) C (dx dX7_goes 37 rfl) rfl ?_
          refine r_istore_n (ls' := [(0, vr 7 k), (1, vi ((cmS v p).1)), (2, vi (nI 0)), (3, vi (nI 0))]) C (dx dX7_goes 38 rfl) (by decide) [1, 2, 3, 0] rfl ?_
          refine loopU (Φ := fun p => ∀ g9p, MilAt g9p k (goV v (dayP v) (cmS v (vN v)).2 p) → Kp k h g9p → xK g9p = xK h → Rr G 60 [(0, vr 7 k), (1, vi ((cmS v p).1)), (2, vi (sumIf (needW v (dayP v)) (fun m => vF v 3 m) p)), (3, vi (nI p))] [] g9p) (N := vM v) ?_ ?_ 0 (Nat.zero_le _) g9p mg9p pg9p kg9p
          ·
            intro g9p mg9p pg9p kg9p
            refine r_iload_n C (dx dX7_goes 39 rfl) rfl ?_
            refine r_aload_n C (dx dX7_goes 40 rfl) rfl ?_
            refine g_X7_71 (x := nI (vM v)) C (dx dX7_goes 41 rfl) mg9p.eM ?_
            refine rn_ge (a := vM v) (b := vM v) (tgt := 189) C (by omega) (by omega) (dx dX7_goes 42 rfl) (by decide) (fun c32 => ?_) (fun c32 => ?_)
            · first
              | (omega; done)
              | (
                  have c32 : vM v ≤ vM v := c32
                  refine r_aload_n C (dx dX7_goes 108 rfl) rfl ?_
                  refine r_dupR C (dx dX7_goes 109 rfl) ?_
                  refine g_X7_339 (x := xI g9p k 18) C (dx dX7_goes 110 rfl) rfl ?_
                  refine r_iconst (v := nI 1) C (dx dX7_goes 111 rfl) rfl ?_
                  refine r_iadd C (dx dX7_goes 112 rfl) ?_
                  refine p_X7_339 C (dx dX7_goes 113 rfl) rfl rfl ?_
                  have mh33 : MilAt (sI g9p k 18 ((xI g9p k 18) + (nI 1))) k (goV v (dayP v) (cmS v (vN v)).2 (vM v)) := mg9p.f (by decide) (by decide) (by decide) (by decide)
                  have ph33 : Kp k h (sI g9p k 18 ((xI g9p k 18) + (nI 1))) := pg9p.tr (Kp.f (by decide))
                  have kh33 : xK (sI g9p k 18 ((xI g9p k 18) + (nI 1))) = xK h := kg9p
                  generalize sI g9p k 18 ((xI g9p k 18) + (nI 1)) = h33 at mh33 ph33 kh33 ⊢
                  refine r_iload_n C (dx dX7_goes 114 rfl) rfl ?_
                  have eV : dayV v = goV v (dayP v) (cmS v (vN v)).2 (vM v) := by rfl
                  have eA : worthS v (dayP v) = sumIf (needW v (dayP v)) (fun m => vF v 3 m) (vM v) := by rfl
                  exact F.1 _ _ _ _ .int rfl rfl (dx dX7_goes 115 rfl) kh33 ⟨by rw [eA], by rw [eV]; exact mh33, ph33⟩)
            · first
              | (omega; done)
          ·
            intro p hp ihp g9p mg9p pg9p kg9p
            refine r_iload_n C (dx dX7_goes 39 rfl) rfl ?_
            refine r_aload_n C (dx dX7_goes 40 rfl) rfl ?_
            refine g_X7_71 (x := nI (vM v)) C (dx dX7_goes 41 rfl) mg9p.eM ?_
            refine rn_ge (a := p) (b := vM v) (tgt := 189) C (by omega) (by omega) (dx dX7_goes 42 rfl) (by decide) (fun c35 => ?_) (fun c35 => ?_)
            · first
              | (omega; done)
              | (
                  have c35 : vM v ≤ p := c35
                  refine r_aload_n C (dx dX7_goes 108 rfl) rfl ?_
                  refine r_dupR C (dx dX7_goes 109 rfl) ?_
                  refine g_X7_339 (x := xI g9p k 18) C (dx dX7_goes 110 rfl) rfl ?_
                  refine r_iconst (v := nI 1) C (dx dX7_goes 111 rfl) rfl ?_
                  refine r_iadd C (dx dX7_goes 112 rfl) ?_
                  refine p_X7_339 C (dx dX7_goes 113 rfl) rfl rfl ?_
                  have mh36 : MilAt (sI g9p k 18 ((xI g9p k 18) + (nI 1))) k (goV v (dayP v) (cmS v (vN v)).2 p) := mg9p.f (by decide) (by decide) (by decide) (by decide)
                  have ph36 : Kp k h (sI g9p k 18 ((xI g9p k 18) + (nI 1))) := pg9p.tr (Kp.f (by decide))
                  have kh36 : xK (sI g9p k 18 ((xI g9p k 18) + (nI 1))) = xK h := kg9p
                  generalize sI g9p k 18 ((xI g9p k 18) + (nI 1)) = h36 at mh36 ph36 kh36 ⊢
                  refine r_iload_n C (dx dX7_goes 114 rfl) rfl ?_
                  have eV : dayV v = goV v (dayP v) (cmS v (vN v)).2 p := by rfl
                  have eA : worthS v (dayP v) = sumIf (needW v (dayP v)) (fun m => vF v 3 m) p := by rfl
                  exact F.1 _ _ _ _ .int rfl rfl (dx dX7_goes 115 rfl) kh36 ⟨by rw [eA], by rw [eV]; exact mh36, ph36⟩)
            · first
              | (omega; done)
              | (
                  have c35 : p < vM v := c35
                  refine r_aload_n C (dx dX7_goes 43 rfl) rfl ?_
                  refine r_iload_n C (dx dX7_goes 44 rfl) rfl ?_
                  refine r_iload_n C (dx dX7_goes 45 rfl) rfl ?_
                  refine r_cvP (as := [vi (nI p), vi ((cmS v p).1)]) (st := []) (v := vi (b2i (needW v (hasP v ((cmS v p).1)) p))) C X I_X7_worksOf l_X7_250 (e_works_go mg9p (m := p) (by omega) _) (by decide) (Nat.le_of_ble_eq_true rfl) (pfx_eq kg9p) rfl rfl (Nat.le_of_ble_eq_true rfl) rfl (dx dX7_goes 46 rfl) ?_
                  refine rb_eq (b := needW v (hasP v ((cmS v p).1)) p) (tgt := 183) C (dx dX7_goes 47 rfl) (by decide) (fun c37 => ?_) (fun c37 => ?_)
                  ·
                    have c37 : (needW v (hasP v ((cmS v p).1)) p) = false := c37
                    refine rn_iinc (a := p) (k := 1) (ls' := [(0, vr 7 k), (1, vi ((cmS v p).1)), (2, vi (sumIf (needW v (dayP v)) (fun m => vF v 3 m) p)), (3, vi (nI (p + 1)))]) C (dx dX7_goes 106 rfl) rfl rfl (by decide) [1, 2, 3, 0] rfl ?_
                    refine r_goto (tgt := 60) C (dx dX7_goes 107 rfl) (by decide) ?_
                    have ep2 : (sumIf (needW v (dayP v)) (fun m => vF v 3 m) p) = (sumIf (needW v (dayP v)) (fun m => vF v 3 m) (p + 1)) := by simp [sumIf, dayP, c37]
                    rw [ep2]
                    have fp : (goV v (dayP v) (cmS v (vN v)).2 p) = (goV v (dayP v) (cmS v (vN v)).2 (p + 1)) := by (rw [goV_s, if_neg (by rw [show needW v (dayP v) p = false from c37]; decide)])
                    exact ihp g9p (fp ▸ mg9p) pg9p kg9p
                  ·
                    have c37 : (needW v (hasP v ((cmS v p).1)) p) = true := c37
                    refine r_iload_n C (dx dX7_goes 48 rfl) rfl ?_
                    refine r_aload_n C (dx dX7_goes 49 rfl) rfl ?_
                    refine g_X7_49 C (dx dX7_goes 50 rfl) ?_
                    refine r_iload_n C (dx dX7_goes 51 rfl) rfl ?_
                    refine r_iald (j := p) (x := vF v 3 p) C rfl rfl (by decide) rfl (by omega) (dx dX7_goes 52 rfl) ((mg9p.e3 (by omega)).trans (by first | rfl | rw [goV_c _ _ _ (by decide)] | rw [shrV_c _ _ _ (by decide), goV_c _ _ _ (by decide)])) ?_
                    refine r_iadd C (dx dX7_goes 53 rfl) ?_
                    refine r_istore_n (ls' := [(0, vr 7 k), (1, vi ((cmS v p).1)), (2, vi ((sumIf (needW v (dayP v)) (fun m => vF v 3 m) p) + (vF v 3 p))), (3, vi (nI p))]) C (dx dX7_goes 54 rfl) (by decide) [1, 2, 0, 3] rfl ?_
                    refine r_iconst (v := nI 0) C (dx dX7_goes 55 rfl) rfl ?_
                    refine r_istore (ls' := [(0, vr 7 k), (1, vi ((cmS v p).1)), (2, vi ((sumIf (needW v (dayP v)) (fun m => vF v 3 m) p) + (vF v 3 p))), (3, vi (nI p)), (4, vi (nI 0))]) C (dx dX7_goes 56 rfl) (by decide) [1, 2, 3, 4, 0] rfl ?_
                    refine loopU (Φ := fun q => ∀ g9q, MilAt g9q k (shrV (goV v (dayP v) (cmS v (vN v)).2 p) (vF v 2 p) q) → Kp k h g9q → xK g9q = xK h → Rr G 89 [(0, vr 7 k), (1, vi ((cmS v p).1)), (2, vi ((sumIf (needW v (dayP v)) (fun m => vF v 3 m) p) + (vF v 3 p))), (3, vi (nI p)), (4, vi (nI q))] [] g9q) (N := vN v) ?_ ?_ 0 (Nat.zero_le _) g9p ((shr_0 _ _).symm ▸ mg9p) pg9p kg9p
                    ·
                      intro g9q mg9q pg9q kg9q
                      refine r_iload C (dx dX7_goes 57 rfl) rfl ?_
                      refine r_aload_n C (dx dX7_goes 58 rfl) rfl ?_
                      refine g_X7_74 (x := nI (vN v)) C (dx dX7_goes 59 rfl) mg9q.eN ?_
                      refine rn_ge (a := vN v) (b := vN v) (tgt := 183) C (by omega) (by omega) (dx dX7_goes 60 rfl) (by decide) (fun c38 => ?_) (fun c38 => ?_)
                      · first
                        | (omega; done)
                        | (
                            have c38 : vN v ≤ vN v := c38
                            refine rn_iinc (a := p) (k := 1) (ls' := [(0, vr 7 k), (1, vi ((cmS v p).1)), (2, vi ((sumIf (needW v (dayP v)) (fun m => vF v 3 m) p) + (vF v 3 p))), (3, vi (nI (p + 1))), (4, vi (nI (vN v)))]) C (dx dX7_goes 106 rfl) rfl rfl (by decide) [1, 2, 3, 0, 4] rfl ?_
                            refine r_goto (tgt := 60) C (dx dX7_goes 107 rfl) (by decide) ?_
                            have ep2 : ((sumIf (needW v (dayP v)) (fun m => vF v 3 m) p) + (vF v 3 p)) = (sumIf (needW v (dayP v)) (fun m => vF v 3 m) (p + 1)) := by simp [sumIf, dayP, c37]
                            rw [ep2]
                            refine r_weak C [0, 1, 2, 3] rfl ?_
                            have fp : (shrV (goV v (dayP v) (cmS v (vN v)).2 p) (vF v 2 p) (vN v)) = (goV v (dayP v) (cmS v (vN v)).2 (p + 1)) := by (rw [goV_s, if_pos (show needW v (dayP v) p = true from c37)])
                            exact ihp g9q (fp ▸ mg9q) pg9q kg9q)
                      · first
                        | (omega; done)
                        | (
                            have c38 : vN v < vN v := c38
                            refine r_iconst (v := nI 0) C (dx dX7_goes 61 rfl) rfl ?_
                            refine r_istore (ls' := [(0, vr 7 k), (1, vi ((cmS v p).1)), (2, vi ((sumIf (needW v (dayP v)) (fun m => vF v 3 m) p) + (vF v 3 p))), (3, vi (nI p)), (4, vi (nI (vN v))), (5, vi (nI 0))]) C (dx dX7_goes 62 rfl) (by decide) [1, 2, 3, 4, 5, 0] rfl ?_
                            refine r_iconst (v := nI 0) C (dx dX7_goes 63 rfl) rfl ?_
                            refine r_istore (ls' := [(0, vr 7 k), (1, vi ((cmS v p).1)), (2, vi ((sumIf (needW v (dayP v)) (fun m => vF v 3 m) p) + (vF v 3 p))), (3, vi (nI p)), (4, vi (nI (vN v))), (5, vi (nI 0)), (6, vi (nI 0))]) C (dx dX7_goes 64 rfl) (by decide) [1, 2, 3, 4, 5, 6, 0] rfl ?_
                            refine loopU (Φ := fun z => ∀ g9z, MilAt g9z k (shrV (goV v (dayP v) (cmS v (vN v)).2 p) (vF v 2 p) q) → Kp k h g9z → xK g9z = xK h → Rr G 104 [(0, vr 7 k), (1, vi ((cmS v p).1)), (2, vi ((sumIf (needW v (dayP v)) (fun m => vF v 3 m) p) + (vF v 3 p))), (3, vi (nI p)), (4, vi (nI (vN v))), (5, vi (b2i (anyB (ownB v (vF v 2 p) q) z))), (6, vi (nI z))] [] g9z) (N := vP v) ?_ ?_ 0 (Nat.zero_le _) g9q mg9q pg9q kg9q
                            ·
                              intro g9z mg9z pg9z kg9z
                              refine r_iload C (dx dX7_goes 65 rfl) rfl ?_
                              refine r_aload_n C (dx dX7_goes 66 rfl) rfl ?_
                              refine g_X7_64 (x := nI (vP v)) C (dx dX7_goes 67 rfl) mg9z.eP ?_
                              refine rn_ge (a := vP v) (b := vP v) (tgt := 155) C (by omega) (by omega) (dx dX7_goes 68 rfl) (by decide) (fun c39 => ?_) (fun c39 => ?_)
                              · first
                                | (omega; done)
                              · first
                                | (omega; done)
                            ·
                              intro z hz ihz g9z mg9z pg9z kg9z
                              refine r_iload C (dx dX7_goes 65 rfl) rfl ?_
                              refine r_aload_n C (dx dX7_goes 66 rfl) rfl ?_
                              refine g_X7_64 (x := nI (vP v)) C (dx dX7_goes 67 rfl) mg9z.eP ?_
                              refine rn_ge (a := z) (b := vP v) (tgt := 155) C (by omega) (by omega) (dx dX7_goes 68 rfl) (by decide) (fun c43 => ?_) (fun c43 => ?_)
                              · first
                                | (omega; done)
                              · first
                                | (omega; done)
                                | (
                                    have c43 : z < vP v := c43
                                    refine r_iload C (dx dX7_goes 69 rfl) rfl ?_
                                    refine r_aload_n C (dx dX7_goes 70 rfl) rfl ?_
                                    refine g_X7_46 C (dx dX7_goes 71 rfl) ?_
                                    refine r_iload_n C (dx dX7_goes 72 rfl) rfl ?_
                                    refine r_iald (j := p) (x := vF v 2 p) C rfl rfl (by decide) rfl (by omega) (dx dX7_goes 73 rfl) ((mg9z.e2 (by omega)).trans (by first | rfl | rw [goV_c _ _ _ (by decide)] | rw [shrV_c _ _ _ (by decide), goV_c _ _ _ (by decide)])) ?_
                                    refine r_iload C (dx dX7_goes 74 rfl) rfl ?_
                                    refine r_csP (as := [vi (vF v 2 p), vi (nI z)]) (st := [vi (b2i (anyB (ownB v (vF v 2 p) q) z))]) (v := vi (b2i (inB (vF v 2 p) (nI z)))) C X I_X7_isIn l_X7_244 (e_isIn _ _) (by decide) (Nat.le_of_ble_eq_true rfl) (pfx_eq kg9z) (Nat.le_of_ble_eq_true rfl) rfl (dx dX7_goes 75 rfl) ?_
                                    refine rb_eq (b := inB (vF v 2 p) (nI z)) (tgt := 145) C (dx dX7_goes 76 rfl) (by decide) (fun c46 => ?_) (fun c46 => ?_)
                                    ·
                                      have c46 : (inB (vF v 2 p) (nI z)) = false := c46
                                      refine r_iconst (v := nI 0) C (dx dX7_goes 85 rfl) rfl ?_
                                      refine r_ior C (dx dX7_goes 86 rfl) ?_
                                      refine r_istore (ls' := [(0, vr 7 k), (1, vi ((cmS v p).1)), (2, vi ((sumIf (needW v (dayP v)) (fun m => vF v 3 m) p) + (vF v 3 p))), (3, vi (nI p)), (4, vi (nI (vN v))), (5, vi ((b2i (anyB (ownB v (vF v 2 p) q) z)) ||| (nI 0))), (6, vi (nI z))]) C (dx dX7_goes 87 rfl) (by decide) [1, 2, 3, 4, 5, 0, 6] rfl ?_
                                      refine rn_iinc (a := z) (k := 1) (ls' := [(0, vr 7 k), (1, vi ((cmS v p).1)), (2, vi ((sumIf (needW v (dayP v)) (fun m => vF v 3 m) p) + (vF v 3 p))), (3, vi (nI p)), (4, vi (nI (vN v))), (5, vi ((b2i (anyB (ownB v (vF v 2 p) q) z)) ||| (nI 0))), (6, vi (nI (z + 1)))]) C (dx dX7_goes 88 rfl) rfl rfl (by decide) [1, 2, 3, 4, 5, 6, 0] rfl ?_
                                      refine r_goto (tgt := 104) C (dx dX7_goes 89 rfl) (by decide) ?_
                                      have ez5 : ((b2i (anyB (ownB v (vF v 2 p) q) z)) ||| (nI 0)) = (b2i (anyB (ownB v (vF v 2 p) q) (z + 1))) := by (simp only [anyB, ownB]; simp [or0, b2i_or1, c46])
                                      rw [ez5]
                                      have fz : (shrV (goV v (dayP v) (cmS v (vN v)).2 p) (vF v 2 p) q) = (shrV (goV v (dayP v) (cmS v (vN v)).2 p) (vF v 2 p) q) := by rfl
                                      exact ihz g9z (fz ▸ mg9z) pg9z kg9z
                                    ·
                                      have c46 : (inB (vF v 2 p) (nI z)) = true := c46
                                      refine r_aload_n C (dx dX7_goes 77 rfl) rfl ?_
                                      refine g_X7_40 C (dx dX7_goes 78 rfl) ?_
                                      refine r_iload C (dx dX7_goes 79 rfl) rfl ?_
                                      refine r_iald (j := z) (x := vF v 0 z) C rfl rfl (by decide) rfl (by omega) (dx dX7_goes 80 rfl) ((mg9z.e0 (by omega)).trans (by first | rfl | rw [goV_c _ _ _ (by decide)] | rw [shrV_c _ _ _ (by decide), goV_c _ _ _ (by decide)])) ?_
                                      refine r_iload C (dx dX7_goes 81 rfl) rfl ?_
                                      refine r_icmp_ne (tgt := 145) C (dx dX7_goes 82 rfl) (by decide) (fun c47 => ?_) (fun c47 => ?_)
                                      ·
                                        have c47 : ¬ vF v 0 z = nI (vN v) := c47
                                        refine r_iconst (v := nI 0) C (dx dX7_goes 85 rfl) rfl ?_
                                        refine r_ior C (dx dX7_goes 86 rfl) ?_
                                        refine r_istore (ls' := [(0, vr 7 k), (1, vi ((cmS v p).1)), (2, vi ((sumIf (needW v (dayP v)) (fun m => vF v 3 m) p) + (vF v 3 p))), (3, vi (nI p)), (4, vi (nI (vN v))), (5, vi ((b2i (anyB (ownB v (vF v 2 p) q) z)) ||| (nI 0))), (6, vi (nI z))]) C (dx dX7_goes 87 rfl) (by decide) [1, 2, 3, 4, 5, 0, 6] rfl ?_
                                        refine rn_iinc (a := z) (k := 1) (ls' := [(0, vr 7 k), (1, vi ((cmS v p).1)), (2, vi ((sumIf (needW v (dayP v)) (fun m => vF v 3 m) p) + (vF v 3 p))), (3, vi (nI p)), (4, vi (nI (vN v))), (5, vi ((b2i (anyB (ownB v (vF v 2 p) q) z)) ||| (nI 0))), (6, vi (nI (z + 1)))]) C (dx dX7_goes 88 rfl) rfl rfl (by decide) [1, 2, 3, 4, 5, 6, 0] rfl ?_
                                        refine r_goto (tgt := 104) C (dx dX7_goes 89 rfl) (by decide) ?_
                                        have ez5 : ((b2i (anyB (ownB v (vF v 2 p) q) z)) ||| (nI 0)) = (b2i (anyB (ownB v (vF v 2 p) q) (z + 1))) := by (simp only [anyB, ownB]; simp [or0, b2i_or1, c46, c47])
                                        rw [ez5]
                                        have fz : (shrV (goV v (dayP v) (cmS v (vN v)).2 p) (vF v 2 p) q) = (shrV (goV v (dayP v) (cmS v (vN v)).2 p) (vF v 2 p) q) := by rfl
                                        exact ihz g9z (fz ▸ mg9z) pg9z kg9z
                                      ·
                                        have c47 : vF v 0 z = nI (vN v) := c47
                                        refine r_iconst (v := nI 1) C (dx dX7_goes 83 rfl) rfl ?_
                                        refine r_goto (tgt := 146) C (dx dX7_goes 84 rfl) (by decide) ?_
                                        refine r_ior C (dx dX7_goes 86 rfl) ?_
                                        refine r_istore (ls' := [(0, vr 7 k), (1, vi ((cmS v p).1)), (2, vi ((sumIf (needW v (dayP v)) (fun m => vF v 3 m) p) + (vF v 3 p))), (3, vi (nI p)), (4, vi (nI (vN v))), (5, vi ((b2i (anyB (ownB v (vF v 2 p) q) z)) ||| (nI 1))), (6, vi (nI z))]) C (dx dX7_goes 87 rfl) (by decide) [1, 2, 3, 4, 5, 0, 6] rfl ?_
                                        refine rn_iinc (a := z) (k := 1) (ls' := [(0, vr 7 k), (1, vi ((cmS v p).1)), (2, vi ((sumIf (needW v (dayP v)) (fun m => vF v 3 m) p) + (vF v 3 p))), (3, vi (nI p)), (4, vi (nI (vN v))), (5, vi ((b2i (anyB (ownB v (vF v 2 p) q) z)) ||| (nI 1))), (6, vi (nI (z + 1)))]) C (dx dX7_goes 88 rfl) rfl rfl (by decide) [1, 2, 3, 4, 5, 6, 0] rfl ?_
                                        refine r_goto (tgt := 104) C (dx dX7_goes 89 rfl) (by decide) ?_
                                        have ez5 : ((b2i (anyB (ownB v (vF v 2 p) q) z)) ||| (nI 1)) = (b2i (anyB (ownB v (vF v 2 p) q) (z + 1))) := by (simp only [anyB, ownB]; simp [or0, b2i_or1, c46, c47])
                                        rw [ez5]
                                        have fz : (shrV (goV v (dayP v) (cmS v (vN v)).2 p) (vF v 2 p) q) = (shrV (goV v (dayP v) (cmS v (vN v)).2 p) (vF v 2 p) q) := by rfl
                                        exact ihz g9z (fz ▸ mg9z) pg9z kg9z))
                    ·
                      intro q hq ihq g9q mg9q pg9q kg9q
                      refine r_iload C (dx dX7_goes 57 rfl) rfl ?_
                      refine r_aload_n C (dx dX7_goes 58 rfl) rfl ?_
                      refine g_X7_74 (x := nI (vN v)) C (dx dX7_goes 59 rfl) mg9q.eN ?_
                      refine rn_ge (a := q) (b := vN v) (tgt := 183) C (by omega) (by omega) (dx dX7_goes 60 rfl) (by decide) (fun c48 => ?_) (fun c48 => ?_)
                      · first
                        | (omega; done)
                        | (
                            have c48 : vN v ≤ q := c48
                            refine rn_iinc (a := p) (k := 1) (ls' := [(0, vr 7 k), (1, vi ((cmS v p).1)), (2, vi ((sumIf (needW v (dayP v)) (fun m => vF v 3 m) p) + (vF v 3 p))), (3, vi (nI (p + 1))), (4, vi (nI q))]) C (dx dX7_goes 106 rfl) rfl rfl (by decide) [1, 2, 3, 0, 4] rfl ?_
                            refine r_goto (tgt := 60) C (dx dX7_goes 107 rfl) (by decide) ?_
                            have ep2 : ((sumIf (needW v (dayP v)) (fun m => vF v 3 m) p) + (vF v 3 p)) = (sumIf (needW v (dayP v)) (fun m => vF v 3 m) (p + 1)) := by simp [sumIf, dayP, c37]
                            rw [ep2]
                            refine r_weak C [0, 1, 2, 3] rfl ?_
                            have fp : (shrV (goV v (dayP v) (cmS v (vN v)).2 p) (vF v 2 p) q) = (goV v (dayP v) (cmS v (vN v)).2 (p + 1)) := by (rw [goV_s, if_pos (show needW v (dayP v) p = true from c37)])
                            exact ihp g9q (fp ▸ mg9q) pg9q kg9q)
                      · first
                        | (omega; done)
                        | (
                            have c48 : q < vN v := c48
                            refine r_iconst (v := nI 0) C (dx dX7_goes 61 rfl) rfl ?_
                            refine r_istore (ls' := [(0, vr 7 k), (1, vi ((cmS v p).1)), (2, vi ((sumIf (needW v (dayP v)) (fun m => vF v 3 m) p) + (vF v 3 p))), (3, vi (nI p)), (4, vi (nI q)), (5, vi (nI 0))]) C (dx dX7_goes 62 rfl) (by decide) [1, 2, 3, 4, 5, 0] rfl ?_
                            refine r_iconst (v := nI 0) C (dx dX7_goes 63 rfl) rfl ?_
                            refine r_istore (ls' := [(0, vr 7 k), (1, vi ((cmS v p).1)), (2, vi ((sumIf (needW v (dayP v)) (fun m => vF v 3 m) p) + (vF v 3 p))), (3, vi (nI p)), (4, vi (nI q)), (5, vi (nI 0)), (6, vi (nI 0))]) C (dx dX7_goes 64 rfl) (by decide) [1, 2, 3, 4, 5, 6, 0] rfl ?_
                            refine loopU (Φ := fun z => ∀ g9z, MilAt g9z k (shrV (goV v (dayP v) (cmS v (vN v)).2 p) (vF v 2 p) q) → Kp k h g9z → xK g9z = xK h → Rr G 104 [(0, vr 7 k), (1, vi ((cmS v p).1)), (2, vi ((sumIf (needW v (dayP v)) (fun m => vF v 3 m) p) + (vF v 3 p))), (3, vi (nI p)), (4, vi (nI q)), (5, vi (b2i (anyB (ownB v (vF v 2 p) q) z))), (6, vi (nI z))] [] g9z) (N := vP v) ?_ ?_ 0 (Nat.zero_le _) g9q mg9q pg9q kg9q
                            ·
                              intro g9z mg9z pg9z kg9z
                              refine r_iload C (dx dX7_goes 65 rfl) rfl ?_
                              refine r_aload_n C (dx dX7_goes 66 rfl) rfl ?_
                              refine g_X7_64 (x := nI (vP v)) C (dx dX7_goes 67 rfl) mg9z.eP ?_
                              refine rn_ge (a := vP v) (b := vP v) (tgt := 155) C (by omega) (by omega) (dx dX7_goes 68 rfl) (by decide) (fun c49 => ?_) (fun c49 => ?_)
                              · first
                                | (omega; done)
                                | (
                                    have c49 : vP v ≤ vP v := c49
                                    refine r_aload_n C (dx dX7_goes 90 rfl) rfl ?_
                                    refine g_X7_54 C (dx dX7_goes 91 rfl) ?_
                                    refine r_iload C (dx dX7_goes 92 rfl) rfl ?_
                                    refine r_aald4 (j := q) C rfl rfl (by decide) rfl (by omega) (dx dX7_goes 93 rfl) ?_
                                    refine r_iconst (v := nI 3) C (dx dX7_goes 94 rfl) rfl ?_
                                    refine r_dup2 C (dx dX7_goes 95 rfl) ?_
                                    refine r_iald (j := 3) (x := vF (shrV (goV v (dayP v) (cmS v (vN v)).2 p) (vF v 2 p) q) 7 q) C rfl rfl (by decide) rfl (by omega) (dx dX7_goes 96 rfl) (mg9z.eo (by omega) (by omega)) ?_
                                    refine r_iload C (dx dX7_goes 97 rfl) rfl ?_
                                    refine rb_eq (b := anyB (ownB v (vF v 2 p) q) (vP v)) (tgt := 174) C (dx dX7_goes 98 rfl) (by decide) (fun c50 => ?_) (fun c50 => ?_)
                                    ·
                                      have c50 : (anyB (ownB v (vF v 2 p) q) (vP v)) = false := c50
                                      refine r_iconst (v := nI 0) C (dx dX7_goes 101 rfl) rfl ?_
                                      refine r_iadd C (dx dX7_goes 102 rfl) ?_
                                      refine r_iast (j := 3) C rfl rfl (by decide) rfl (by omega) (dx dX7_goes 103 rfl) ?_
                                      have mh51 : MilAt (sI g9z (k + 23 + q) 3 ((vF (shrV (goV v (dayP v) (cmS v (vN v)).2 p) (vF v 2 p) q) 7 q) + (nI 0))) k (vset (shrV (goV v (dayP v) (cmS v (vN v)).2 p) (vF v 2 p) q) 7 q ((vF (shrV (goV v (dayP v) (cmS v (vN v)).2 p) (vF v 2 p) q) 7 q) + (nI 0))) := mg9z.so (by omega) (by omega)
                                      have ph51 : Kp k h (sI g9z (k + 23 + q) 3 ((vF (shrV (goV v (dayP v) (cmS v (vN v)).2 p) (vF v 2 p) q) 7 q) + (nI 0))) := pg9z.tr (Kp.c (by omega) (by omega))
                                      have kh51 : xK (sI g9z (k + 23 + q) 3 ((vF (shrV (goV v (dayP v) (cmS v (vN v)).2 p) (vF v 2 p) q) 7 q) + (nI 0))) = xK h := kg9z
                                      generalize sI g9z (k + 23 + q) 3 ((vF (shrV (goV v (dayP v) (cmS v (vN v)).2 p) (vF v 2 p) q) 7 q) + (nI 0)) = h51 at mh51 ph51 kh51 ⊢
                                      refine rn_iinc (a := q) (k := 1) (ls' := [(0, vr 7 k), (1, vi ((cmS v p).1)), (2, vi ((sumIf (needW v (dayP v)) (fun m => vF v 3 m) p) + (vF v 3 p))), (3, vi (nI p)), (4, vi (nI (q + 1))), (5, vi (b2i (anyB (ownB v (vF v 2 p) q) (vP v)))), (6, vi (nI (vP v)))]) C (dx dX7_goes 104 rfl) rfl rfl (by decide) [1, 2, 3, 4, 0, 5, 6] rfl ?_
                                      refine r_goto (tgt := 89) C (dx dX7_goes 105 rfl) (by decide) ?_
                                      refine r_weak C [0, 1, 2, 3, 4] rfl ?_
                                      have fq : (vset (shrV (goV v (dayP v) (cmS v (vN v)).2 p) (vF v 2 p) q) 7 q ((vF (shrV (goV v (dayP v) (cmS v (vN v)).2 p) (vF v 2 p) q) 7 q) + (nI 0))) = (shrV (goV v (dayP v) (cmS v (vN v)).2 p) (vF v 2 p) (q + 1)) := by exact go_step (by omega) bP bN hd (by rw [if_neg (by rw [c50]; decide)])
                                      exact ihq h51 (fq ▸ mh51) ph51 kh51
                                    ·
                                      have c50 : (anyB (ownB v (vF v 2 p) q) (vP v)) = true := c50
                                      refine r_iconst (v := nI 1) C (dx dX7_goes 99 rfl) rfl ?_
                                      refine r_goto (tgt := 175) C (dx dX7_goes 100 rfl) (by decide) ?_
                                      refine r_iadd C (dx dX7_goes 102 rfl) ?_
                                      refine r_iast (j := 3) C rfl rfl (by decide) rfl (by omega) (dx dX7_goes 103 rfl) ?_
                                      have mh52 : MilAt (sI g9z (k + 23 + q) 3 ((vF (shrV (goV v (dayP v) (cmS v (vN v)).2 p) (vF v 2 p) q) 7 q) + (nI 1))) k (vset (shrV (goV v (dayP v) (cmS v (vN v)).2 p) (vF v 2 p) q) 7 q ((vF (shrV (goV v (dayP v) (cmS v (vN v)).2 p) (vF v 2 p) q) 7 q) + (nI 1))) := mg9z.so (by omega) (by omega)
                                      have ph52 : Kp k h (sI g9z (k + 23 + q) 3 ((vF (shrV (goV v (dayP v) (cmS v (vN v)).2 p) (vF v 2 p) q) 7 q) + (nI 1))) := pg9z.tr (Kp.c (by omega) (by omega))
                                      have kh52 : xK (sI g9z (k + 23 + q) 3 ((vF (shrV (goV v (dayP v) (cmS v (vN v)).2 p) (vF v 2 p) q) 7 q) + (nI 1))) = xK h := kg9z
                                      generalize sI g9z (k + 23 + q) 3 ((vF (shrV (goV v (dayP v) (cmS v (vN v)).2 p) (vF v 2 p) q) 7 q) + (nI 1)) = h52 at mh52 ph52 kh52 ⊢
                                      refine rn_iinc (a := q) (k := 1) (ls' := [(0, vr 7 k), (1, vi ((cmS v p).1)), (2, vi ((sumIf (needW v (dayP v)) (fun m => vF v 3 m) p) + (vF v 3 p))), (3, vi (nI p)), (4, vi (nI (q + 1))), (5, vi (b2i (anyB (ownB v (vF v 2 p) q) (vP v)))), (6, vi (nI (vP v)))]) C (dx dX7_goes 104 rfl) rfl rfl (by decide) [1, 2, 3, 4, 0, 5, 6] rfl ?_
                                      refine r_goto (tgt := 89) C (dx dX7_goes 105 rfl) (by decide) ?_
                                      refine r_weak C [0, 1, 2, 3, 4] rfl ?_
                                      have fq : (vset (shrV (goV v (dayP v) (cmS v (vN v)).2 p) (vF v 2 p) q) 7 q ((vF (shrV (goV v (dayP v) (cmS v (vN v)).2 p) (vF v 2 p) q) 7 q) + (nI 1))) = (shrV (goV v (dayP v) (cmS v (vN v)).2 p) (vF v 2 p) (q + 1)) := by exact go_step (by omega) bP bN hd (by rw [if_pos c50])
                                      exact ihq h52 (fq ▸ mh52) ph52 kh52)
                              · first
                                | (omega; done)
                            ·
                              intro z hz ihz g9z mg9z pg9z kg9z
                              refine r_iload C (dx dX7_goes 65 rfl) rfl ?_
                              refine r_aload_n C (dx dX7_goes 66 rfl) rfl ?_
                              refine g_X7_64 (x := nI (vP v)) C (dx dX7_goes 67 rfl) mg9z.eP ?_
                              refine rn_ge (a := z) (b := vP v) (tgt := 155) C (by omega) (by omega) (dx dX7_goes 68 rfl) (by decide) (fun c54 => ?_) (fun c54 => ?_)
                              · first
                                | (omega; done)
                                | (
                                    have c54 : vP v ≤ z := c54
                                    refine r_aload_n C (dx dX7_goes 90 rfl) rfl ?_
                                    refine g_X7_54 C (dx dX7_goes 91 rfl) ?_
                                    refine r_iload C (dx dX7_goes 92 rfl) rfl ?_
                                    refine r_aald4 (j := q) C rfl rfl (by decide) rfl (by omega) (dx dX7_goes 93 rfl) ?_
                                    refine r_iconst (v := nI 3) C (dx dX7_goes 94 rfl) rfl ?_
                                    refine r_dup2 C (dx dX7_goes 95 rfl) ?_
                                    refine r_iald (j := 3) (x := vF (shrV (goV v (dayP v) (cmS v (vN v)).2 p) (vF v 2 p) q) 7 q) C rfl rfl (by decide) rfl (by omega) (dx dX7_goes 96 rfl) (mg9z.eo (by omega) (by omega)) ?_
                                    refine r_iload C (dx dX7_goes 97 rfl) rfl ?_
                                    refine rb_eq (b := anyB (ownB v (vF v 2 p) q) z) (tgt := 174) C (dx dX7_goes 98 rfl) (by decide) (fun c55 => ?_) (fun c55 => ?_)
                                    ·
                                      have c55 : (anyB (ownB v (vF v 2 p) q) z) = false := c55
                                      refine r_iconst (v := nI 0) C (dx dX7_goes 101 rfl) rfl ?_
                                      refine r_iadd C (dx dX7_goes 102 rfl) ?_
                                      refine r_iast (j := 3) C rfl rfl (by decide) rfl (by omega) (dx dX7_goes 103 rfl) ?_
                                      have mh56 : MilAt (sI g9z (k + 23 + q) 3 ((vF (shrV (goV v (dayP v) (cmS v (vN v)).2 p) (vF v 2 p) q) 7 q) + (nI 0))) k (vset (shrV (goV v (dayP v) (cmS v (vN v)).2 p) (vF v 2 p) q) 7 q ((vF (shrV (goV v (dayP v) (cmS v (vN v)).2 p) (vF v 2 p) q) 7 q) + (nI 0))) := mg9z.so (by omega) (by omega)
                                      have ph56 : Kp k h (sI g9z (k + 23 + q) 3 ((vF (shrV (goV v (dayP v) (cmS v (vN v)).2 p) (vF v 2 p) q) 7 q) + (nI 0))) := pg9z.tr (Kp.c (by omega) (by omega))
                                      have kh56 : xK (sI g9z (k + 23 + q) 3 ((vF (shrV (goV v (dayP v) (cmS v (vN v)).2 p) (vF v 2 p) q) 7 q) + (nI 0))) = xK h := kg9z
                                      generalize sI g9z (k + 23 + q) 3 ((vF (shrV (goV v (dayP v) (cmS v (vN v)).2 p) (vF v 2 p) q) 7 q) + (nI 0)) = h56 at mh56 ph56 kh56 ⊢
                                      refine rn_iinc (a := q) (k := 1) (ls' := [(0, vr 7 k), (1, vi ((cmS v p).1)), (2, vi ((sumIf (needW v (dayP v)) (fun m => vF v 3 m) p) + (vF v 3 p))), (3, vi (nI p)), (4, vi (nI (q + 1))), (5, vi (b2i (anyB (ownB v (vF v 2 p) q) z))), (6, vi (nI z))]) C (dx dX7_goes 104 rfl) rfl rfl (by decide) [1, 2, 3, 4, 0, 5, 6] rfl ?_
                                      refine r_goto (tgt := 89) C (dx dX7_goes 105 rfl) (by decide) ?_
                                      refine r_weak C [0, 1, 2, 3, 4] rfl ?_
                                      have fq : (vset (shrV (goV v (dayP v) (cmS v (vN v)).2 p) (vF v 2 p) q) 7 q ((vF (shrV (goV v (dayP v) (cmS v (vN v)).2 p) (vF v 2 p) q) 7 q) + (nI 0))) = (shrV (goV v (dayP v) (cmS v (vN v)).2 p) (vF v 2 p) (q + 1)) := by exact go_step (by omega) bP bN hd (by rw [if_neg (by rw [c55]; decide)])
                                      exact ihq h56 (fq ▸ mh56) ph56 kh56
                                    ·
                                      have c55 : (anyB (ownB v (vF v 2 p) q) z) = true := c55
                                      refine r_iconst (v := nI 1) C (dx dX7_goes 99 rfl) rfl ?_
                                      refine r_goto (tgt := 175) C (dx dX7_goes 100 rfl) (by decide) ?_
                                      refine r_iadd C (dx dX7_goes 102 rfl) ?_
                                      refine r_iast (j := 3) C rfl rfl (by decide) rfl (by omega) (dx dX7_goes 103 rfl) ?_
                                      have mh57 : MilAt (sI g9z (k + 23 + q) 3 ((vF (shrV (goV v (dayP v) (cmS v (vN v)).2 p) (vF v 2 p) q) 7 q) + (nI 1))) k (vset (shrV (goV v (dayP v) (cmS v (vN v)).2 p) (vF v 2 p) q) 7 q ((vF (shrV (goV v (dayP v) (cmS v (vN v)).2 p) (vF v 2 p) q) 7 q) + (nI 1))) := mg9z.so (by omega) (by omega)
                                      have ph57 : Kp k h (sI g9z (k + 23 + q) 3 ((vF (shrV (goV v (dayP v) (cmS v (vN v)).2 p) (vF v 2 p) q) 7 q) + (nI 1))) := pg9z.tr (Kp.c (by omega) (by omega))
                                      have kh57 : xK (sI g9z (k + 23 + q) 3 ((vF (shrV (goV v (dayP v) (cmS v (vN v)).2 p) (vF v 2 p) q) 7 q) + (nI 1))) = xK h := kg9z
                                      generalize sI g9z (k + 23 + q) 3 ((vF (shrV (goV v (dayP v) (cmS v (vN v)).2 p) (vF v 2 p) q) 7 q) + (nI 1)) = h57 at mh57 ph57 kh57 ⊢
                                      refine rn_iinc (a := q) (k := 1) (ls' := [(0, vr 7 k), (1, vi ((cmS v p).1)), (2, vi ((sumIf (needW v (dayP v)) (fun m => vF v 3 m) p) + (vF v 3 p))), (3, vi (nI p)), (4, vi (nI (q + 1))), (5, vi (b2i (anyB (ownB v (vF v 2 p) q) z))), (6, vi (nI z))]) C (dx dX7_goes 104 rfl) rfl rfl (by decide) [1, 2, 3, 4, 0, 5, 6] rfl ?_
                                      refine r_goto (tgt := 89) C (dx dX7_goes 105 rfl) (by decide) ?_
                                      refine r_weak C [0, 1, 2, 3, 4] rfl ?_
                                      have fq : (vset (shrV (goV v (dayP v) (cmS v (vN v)).2 p) (vF v 2 p) q) 7 q ((vF (shrV (goV v (dayP v) (cmS v (vN v)).2 p) (vF v 2 p) q) 7 q) + (nI 1))) = (shrV (goV v (dayP v) (cmS v (vN v)).2 p) (vF v 2 p) (q + 1)) := by exact go_step (by omega) bP bN hd (by rw [if_pos c55])
                                      exact ihq h57 (fq ▸ mh57) ph57 kh57)
                              · first
                                | (omega; done)
                                | (
                                    have c54 : z < vP v := c54
                                    refine r_iload C (dx dX7_goes 69 rfl) rfl ?_
                                    refine r_aload_n C (dx dX7_goes 70 rfl) rfl ?_
                                    refine g_X7_46 C (dx dX7_goes 71 rfl) ?_
                                    refine r_iload_n C (dx dX7_goes 72 rfl) rfl ?_
                                    refine r_iald (j := p) (x := vF v 2 p) C rfl rfl (by decide) rfl (by omega) (dx dX7_goes 73 rfl) ((mg9z.e2 (by omega)).trans (by first | rfl | rw [goV_c _ _ _ (by decide)] | rw [shrV_c _ _ _ (by decide), goV_c _ _ _ (by decide)])) ?_
                                    refine r_iload C (dx dX7_goes 74 rfl) rfl ?_
                                    refine r_csP (as := [vi (vF v 2 p), vi (nI z)]) (st := [vi (b2i (anyB (ownB v (vF v 2 p) q) z))]) (v := vi (b2i (inB (vF v 2 p) (nI z)))) C X I_X7_isIn l_X7_244 (e_isIn _ _) (by decide) (Nat.le_of_ble_eq_true rfl) (pfx_eq kg9z) (Nat.le_of_ble_eq_true rfl) rfl (dx dX7_goes 75 rfl) ?_
                                    refine rb_eq (b := inB (vF v 2 p) (nI z)) (tgt := 145) C (dx dX7_goes 76 rfl) (by decide) (fun c58 => ?_) (fun c58 => ?_)
                                    ·
                                      have c58 : (inB (vF v 2 p) (nI z)) = false := c58
                                      refine r_iconst (v := nI 0) C (dx dX7_goes 85 rfl) rfl ?_
                                      refine r_ior C (dx dX7_goes 86 rfl) ?_
                                      refine r_istore (ls' := [(0, vr 7 k), (1, vi ((cmS v p).1)), (2, vi ((sumIf (needW v (dayP v)) (fun m => vF v 3 m) p) + (vF v 3 p))), (3, vi (nI p)), (4, vi (nI q)), (5, vi ((b2i (anyB (ownB v (vF v 2 p) q) z)) ||| (nI 0))), (6, vi (nI z))]) C (dx dX7_goes 87 rfl) (by decide) [1, 2, 3, 4, 5, 0, 6] rfl ?_
                                      refine rn_iinc (a := z) (k := 1) (ls' := [(0, vr 7 k), (1, vi ((cmS v p).1)), (2, vi ((sumIf (needW v (dayP v)) (fun m => vF v 3 m) p) + (vF v 3 p))), (3, vi (nI p)), (4, vi (nI q)), (5, vi ((b2i (anyB (ownB v (vF v 2 p) q) z)) ||| (nI 0))), (6, vi (nI (z + 1)))]) C (dx dX7_goes 88 rfl) rfl rfl (by decide) [1, 2, 3, 4, 5, 6, 0] rfl ?_
                                      refine r_goto (tgt := 104) C (dx dX7_goes 89 rfl) (by decide) ?_
                                      have ez5 : ((b2i (anyB (ownB v (vF v 2 p) q) z)) ||| (nI 0)) = (b2i (anyB (ownB v (vF v 2 p) q) (z + 1))) := by (simp only [anyB, ownB]; simp [or0, b2i_or1, c58])
                                      rw [ez5]
                                      have fz : (shrV (goV v (dayP v) (cmS v (vN v)).2 p) (vF v 2 p) q) = (shrV (goV v (dayP v) (cmS v (vN v)).2 p) (vF v 2 p) q) := by rfl
                                      exact ihz g9z (fz ▸ mg9z) pg9z kg9z
                                    ·
                                      have c58 : (inB (vF v 2 p) (nI z)) = true := c58
                                      refine r_aload_n C (dx dX7_goes 77 rfl) rfl ?_
                                      refine g_X7_40 C (dx dX7_goes 78 rfl) ?_
                                      refine r_iload C (dx dX7_goes 79 rfl) rfl ?_
                                      refine r_iald (j := z) (x := vF v 0 z) C rfl rfl (by decide) rfl (by omega) (dx dX7_goes 80 rfl) ((mg9z.e0 (by omega)).trans (by first | rfl | rw [goV_c _ _ _ (by decide)] | rw [shrV_c _ _ _ (by decide), goV_c _ _ _ (by decide)])) ?_
                                      refine r_iload C (dx dX7_goes 81 rfl) rfl ?_
                                      refine r_icmp_ne (tgt := 145) C (dx dX7_goes 82 rfl) (by decide) (fun c59 => ?_) (fun c59 => ?_)
                                      ·
                                        have c59 : ¬ vF v 0 z = nI q := c59
                                        refine r_iconst (v := nI 0) C (dx dX7_goes 85 rfl) rfl ?_
                                        refine r_ior C (dx dX7_goes 86 rfl) ?_
                                        refine r_istore (ls' := [(0, vr 7 k), (1, vi ((cmS v p).1)), (2, vi ((sumIf (needW v (dayP v)) (fun m => vF v 3 m) p) + (vF v 3 p))), (3, vi (nI p)), (4, vi (nI q)), (5, vi ((b2i (anyB (ownB v (vF v 2 p) q) z)) ||| (nI 0))), (6, vi (nI z))]) C (dx dX7_goes 87 rfl) (by decide) [1, 2, 3, 4, 5, 0, 6] rfl ?_
                                        refine rn_iinc (a := z) (k := 1) (ls' := [(0, vr 7 k), (1, vi ((cmS v p).1)), (2, vi ((sumIf (needW v (dayP v)) (fun m => vF v 3 m) p) + (vF v 3 p))), (3, vi (nI p)), (4, vi (nI q)), (5, vi ((b2i (anyB (ownB v (vF v 2 p) q) z)) ||| (nI 0))), (6, vi (nI (z + 1)))]) C (dx dX7_goes 88 rfl) rfl rfl (by decide) [1, 2, 3, 4, 5, 6, 0] rfl ?_
                                        refine r_goto (tgt := 104) C (dx dX7_goes 89 rfl) (by decide) ?_
                                        have ez5 : ((b2i (anyB (ownB v (vF v 2 p) q) z)) ||| (nI 0)) = (b2i (anyB (ownB v (vF v 2 p) q) (z + 1))) := by (simp only [anyB, ownB]; simp [or0, b2i_or1, c58, c59])
                                        rw [ez5]
                                        have fz : (shrV (goV v (dayP v) (cmS v (vN v)).2 p) (vF v 2 p) q) = (shrV (goV v (dayP v) (cmS v (vN v)).2 p) (vF v 2 p) q) := by rfl
                                        exact ihz g9z (fz ▸ mg9z) pg9z kg9z
                                      ·
                                        have c59 : vF v 0 z = nI q := c59
                                        refine r_iconst (v := nI 1) C (dx dX7_goes 83 rfl) rfl ?_
                                        refine r_goto (tgt := 146) C (dx dX7_goes 84 rfl) (by decide) ?_
                                        refine r_ior C (dx dX7_goes 86 rfl) ?_
                                        refine r_istore (ls' := [(0, vr 7 k), (1, vi ((cmS v p).1)), (2, vi ((sumIf (needW v (dayP v)) (fun m => vF v 3 m) p) + (vF v 3 p))), (3, vi (nI p)), (4, vi (nI q)), (5, vi ((b2i (anyB (ownB v (vF v 2 p) q) z)) ||| (nI 1))), (6, vi (nI z))]) C (dx dX7_goes 87 rfl) (by decide) [1, 2, 3, 4, 5, 0, 6] rfl ?_
                                        refine rn_iinc (a := z) (k := 1) (ls' := [(0, vr 7 k), (1, vi ((cmS v p).1)), (2, vi ((sumIf (needW v (dayP v)) (fun m => vF v 3 m) p) + (vF v 3 p))), (3, vi (nI p)), (4, vi (nI q)), (5, vi ((b2i (anyB (ownB v (vF v 2 p) q) z)) ||| (nI 1))), (6, vi (nI (z + 1)))]) C (dx dX7_goes 88 rfl) rfl rfl (by decide) [1, 2, 3, 4, 5, 6, 0] rfl ?_
                                        refine r_goto (tgt := 104) C (dx dX7_goes 89 rfl) (by decide) ?_
                                        have ez5 : ((b2i (anyB (ownB v (vF v 2 p) q) z)) ||| (nI 1)) = (b2i (anyB (ownB v (vF v 2 p) q) (z + 1))) := by (simp only [anyB, ownB]; simp [or0, b2i_or1, c58, c59])
                                        rw [ez5]
                                        have fz : (shrV (goV v (dayP v) (cmS v (vN v)).2 p) (vF v 2 p) q) = (shrV (goV v (dayP v) (cmS v (vN v)).2 p) (vF v 2 p) q) := by rfl
                                        exact ihz g9z (fz ▸ mg9z) pg9z kg9z))))
    · first
      | (omega; done)
      | (
          have c31 : p < vN v := c31
          refine r_aload_n C (dx dX7_goes 8 rfl) rfl ?_
          refine g_X7_54 C (dx dX7_goes 9 rfl) ?_
          refine r_iload_n C (dx dX7_goes 10 rfl) rfl ?_
          refine r_aald4 (j := p) C rfl rfl (by decide) rfl (by omega) (dx dX7_goes 11 rfl) ?_
          refine r_iconst (v := nI 2) C (dx dX7_goes 12 rfl) rfl ?_
          refine r_iald (j := 2) (x := vF v 6 p) C rfl rfl (by decide) rfl (by omega) (dx dX7_goes 13 rfl) ((mg9p.eo (by omega) (by omega)).trans (by first | rfl | rw [goV_c _ _ _ (by decide)] | rw [shrV_c _ _ _ (by decide), goV_c _ _ _ (by decide)])) ?_
          refine r_if_ne (tgt := 50) C (dx dX7_goes 14 rfl) (by decide) (fun c60 => ?_) (fun c60 => ?_)
          ·
            have c60 : ¬ vF v 6 p = 0 := c60
            refine rn_iinc (a := p) (k := 1) (ls' := [(0, vr 7 k), (1, vi ((cmS v p).1)), (2, vi (nI (p + 1)))]) C (dx dX7_goes 33 rfl) rfl rfl (by decide) [1, 2, 0] rfl ?_
            refine r_goto (tgt := 4) C (dx dX7_goes 34 rfl) (by decide) ?_
            have ep1 : ((cmS v p).1) = ((cmS v (p + 1)).1) := by rw [cm_n c60]
            rw [ep1]
            have fp : (vsS v (cmS v p).2) = (vsS v (cmS v (p + 1)).2) := by rw [cm_n c60]
            exact ihp g9p (fp ▸ mg9p) pg9p kg9p
          ·
            have c60 : vF v 6 p = 0 := c60
            refine r_iload_n C (dx dX7_goes 15 rfl) rfl ?_
            refine r_aload_n C (dx dX7_goes 16 rfl) rfl ?_
            refine r_bipush (v := nI 10) C (dx dX7_goes 17 rfl) rfl ?_
            refine r_cv (as := [vi (nI 10)]) (st := [vi ((cmS v p).1)]) C X I_X7_draw l_X7_336 (e_draw mg9p) (by decide) (Nat.le_of_ble_eq_true rfl) List.prefix_rfl (pfx_eq kg9p) rfl rfl (Nat.le_of_ble_eq_true rfl) rfl (dx dX7_goes 18 rfl) ?_
            rintro _ h61 ⟨rfl, m9h61, qh61⟩ kkh61
            have mh61 : MilAt h61 k (vsS (vsS v (cmS v p).2) (lcg (vS (vsS v (cmS v p).2)))) := m9h61
            have ph61 : Kp k h h61 := pg9p.tr (qh61)
            have kh61 : xK h61 = xK h := (kkh61).trans kg9p
            refine r_aload_n C (dx dX7_goes 19 rfl) rfl ?_
            refine g_X7_54 C (dx dX7_goes 20 rfl) ?_
            refine r_iload_n C (dx dX7_goes 21 rfl) rfl ?_
            refine r_aald4 (j := p) C rfl rfl (by decide) rfl (by omega) (dx dX7_goes 22 rfl) ?_
            refine r_iconst (v := nI 1) C (dx dX7_goes 23 rfl) rfl ?_
            refine r_iald (j := 1) (x := vF v 5 p) C rfl rfl (by decide) rfl (by omega) (dx dX7_goes 24 rfl) ((mh61.eo (by omega) (by omega)).trans (by first | rfl | rw [goV_c _ _ _ (by decide)] | rw [shrV_c _ _ _ (by decide), goV_c _ _ _ (by decide)])) ?_
            refine r_icmp_ge (tgt := 45) C (dx dX7_goes 25 rfl) (by decide) (fun c62 => ?_) (fun c62 => ?_)
            ·
              have c62 : vF v 5 p ≤ drw (vS (vsS v (cmS v p).2)) := c62
              refine r_iconst (v := nI 1) C (dx dX7_goes 28 rfl) rfl ?_
              refine r_iload_n C (dx dX7_goes 29 rfl) rfl ?_
              refine r_ishl C (dx dX7_goes 30 rfl) ?_
              refine r_ior C (dx dX7_goes 31 rfl) ?_
              refine r_istore_n (ls' := [(0, vr 7 k), (1, vi (((cmS v p).1) ||| ((nI 1) <<< ((nI p) &&& 31)))), (2, vi (nI p))]) C (dx dX7_goes 32 rfl) (by decide) [1, 0, 2] rfl ?_
              refine rn_iinc (a := p) (k := 1) (ls' := [(0, vr 7 k), (1, vi (((cmS v p).1) ||| ((nI 1) <<< ((nI p) &&& 31)))), (2, vi (nI (p + 1)))]) C (dx dX7_goes 33 rfl) rfl rfl (by decide) [1, 2, 0] rfl ?_
              refine r_goto (tgt := 4) C (dx dX7_goes 34 rfl) (by decide) ?_
              have ep1 : (((cmS v p).1) ||| ((nI 1) <<< ((nI p) &&& 31))) = ((cmS v (p + 1)).1) := by rw [cm_b c60 (Int32.not_lt.mpr c62)]
              rw [ep1]
              have fp : (vsS (vsS v (cmS v p).2) (lcg (vS (vsS v (cmS v p).2)))) = (vsS v (cmS v (p + 1)).2) := by (rw [cm_b c60 (Int32.not_lt.mpr c62)]; rfl)
              exact ihp h61 (fp ▸ mh61) ph61 kh61
            ·
              have c62 : ¬ vF v 5 p ≤ drw (vS (vsS v (cmS v p).2)) := c62
              refine r_iconst (v := nI 0) C (dx dX7_goes 26 rfl) rfl ?_
              refine r_goto (tgt := 48) C (dx dX7_goes 27 rfl) (by decide) ?_
              refine r_ior C (dx dX7_goes 31 rfl) ?_
              refine r_istore_n (ls' := [(0, vr 7 k), (1, vi (((cmS v p).1) ||| (nI 0))), (2, vi (nI p))]) C (dx dX7_goes 32 rfl) (by decide) [1, 0, 2] rfl ?_
              refine rn_iinc (a := p) (k := 1) (ls' := [(0, vr 7 k), (1, vi (((cmS v p).1) ||| (nI 0))), (2, vi (nI (p + 1)))]) C (dx dX7_goes 33 rfl) rfl rfl (by decide) [1, 2, 0] rfl ?_
              refine r_goto (tgt := 4) C (dx dX7_goes 34 rfl) (by decide) ?_
              have ep1 : (((cmS v p).1) ||| (nI 0)) = ((cmS v (p + 1)).1) := by (rw [cm_a c60 (Int32.not_le.mp c62)]; exact or0 _)
              rw [ep1]
              have fp : (vsS (vsS v (cmS v p).2) (lcg (vS (vsS v (cmS v p).2)))) = (vsS v (cmS v (p + 1)).2) := by (rw [cm_a c60 (Int32.not_le.mp c62)]; rfl)
              exact ihp h61 (fp ▸ mh61) ph61 kh61)
set_option maxHeartbeats 4000000 in
theorem e_days {l : Launch} {h : Hp} {k : Nat} {v : Vg} (hm : MilAt h k v) (hd : HdOk v) (n : Int32) : Ms l yX7_days cX7_days 4 (some .int) 8 [vr 7 k, vi n] h (xK h) (fun r h' => r = some (vi (daysA v n)) ∧ MilAt h' k (daysX v n) ∧ Kp k h h') := by
  refine Ms.of (by decide) (Nat.le_of_ble_eq_true rfl) (fun G C X F => ?_)
  have C : Cx G cX7_days 4 RX7 := C
  show Rr G 0 [(0, vr 7 k), (1, vi n)] [] h
  have bP := hm.bP
  have bM := hm.bM
  have bN := hm.bN
  refine r_iload_n C (dx dX7_days 0 rfl) rfl ?_
  refine r_i2l C (dx dX7_days 1 rfl) ?_
  refine r_lconst (v := 1) C (dx dX7_days 2 rfl) rfl ?_
  refine r_ldc2 C n_X7_342 (dx dX7_days 3 rfl) ?_
  refine r_csP (as := [vl n.toInt64, vl 1, vl 60]) (st := []) (v := vi (b2i (btwB n 1 60))) C X I_X7_in l_X7_67 (c_inB (a := 1) (b := 60) (by decide) (by decide)) (by decide) (Nat.le_of_ble_eq_true rfl) List.prefix_rfl (Nat.le_of_ble_eq_true rfl) rfl (dx dX7_days 4 rfl) ?_
  refine rb_ne (b := btwB n 1 60) (tgt := 19) C (dx dX7_days 5 rfl) (by decide) (fun c1 => ?_) (fun c1 => ?_)
  ·
    have c1 : (btwB n 1 60) = true := c1
    obtain ⟨ν, hν, hν2, rfl⟩ := btw_ex (a := 1) (b := 60) (by omega) (by omega) c1
    refine r_iconst (v := nI 0) C (dx dX7_days 10 rfl) rfl ?_
    refine r_istore_n (ls' := [(0, vr 7 k), (1, vi (nI ν)), (2, vi (nI 0))]) C (dx dX7_days 11 rfl) (by decide) [1, 2, 0] rfl ?_
    refine r_iconst (v := nI 0) C (dx dX7_days 12 rfl) rfl ?_
    refine r_istore_n (ls' := [(0, vr 7 k), (1, vi (nI ν)), (2, vi (nI 0)), (3, vi (nI 0))]) C (dx dX7_days 13 rfl) (by decide) [1, 2, 3, 0] rfl ?_
    refine loopU (Φ := fun p => ∀ g9p, MilAt g9p k (daysV v p) → Kp k h g9p → xK g9p = xK h → Rr G 23 [(0, vr 7 k), (1, vi (nI ν)), (2, vi (daysS v p)), (3, vi (nI p))] [] g9p) (N := ν) ?_ ?_ 0 (Nat.zero_le _) h hm Kp.rf rfl
    ·
      intro g9p mg9p pg9p kg9p
      refine r_iload_n C (dx dX7_days 14 rfl) rfl ?_
      refine r_iload_n C (dx dX7_days 15 rfl) rfl ?_
      refine rn_ge (a := ν) (b := ν) (tgt := 41) C (by omega) (by omega) (dx dX7_days 16 rfl) (by decide) (fun c2 => ?_) (fun c2 => ?_)
      · first
        | (omega; done)
        | (
            have c2 : ν ≤ ν := c2
            refine r_aload_n C (dx dX7_days 24 rfl) rfl ?_
            refine r_dupR C (dx dX7_days 25 rfl) ?_
            refine g_X7_347 (x := xI g9p k 19) C (dx dX7_days 26 rfl) rfl ?_
            refine r_iload_n C (dx dX7_days 27 rfl) rfl ?_
            refine r_iadd C (dx dX7_days 28 rfl) ?_
            refine p_X7_347 C (dx dX7_days 29 rfl) rfl rfl ?_
            have mh3 : MilAt (sI g9p k 19 ((xI g9p k 19) + (daysS v ν))) k (daysV v ν) := mg9p.f (by decide) (by decide) (by decide) (by decide)
            have ph3 : Kp k h (sI g9p k 19 ((xI g9p k 19) + (daysS v ν))) := pg9p.tr (Kp.f (by decide))
            have kh3 : xK (sI g9p k 19 ((xI g9p k 19) + (daysS v ν))) = xK h := kg9p
            generalize sI g9p k 19 ((xI g9p k 19) + (daysS v ν)) = h3 at mh3 ph3 kh3 ⊢
            refine r_iload_n C (dx dX7_days 30 rfl) rfl ?_
            have eV : daysX v (nI ν) = daysV v ν := by (simp [daysA, daysX, dysB_e, clN (show ν < 2 ^ 31 by omega), c1, c2] <;> rfl)
            have eA : daysA v (nI ν) = daysS v ν := by (simp [daysA, daysX, dysB_e, clN (show ν < 2 ^ 31 by omega), c1, c2] <;> rfl)
            exact F.1 _ _ _ _ .int rfl rfl (dx dX7_days 31 rfl) kh3 ⟨by rw [eA], by rw [eV]; exact mh3, ph3⟩)
      · first
        | (omega; done)
    ·
      intro p hp ihp g9p mg9p pg9p kg9p
      refine r_iload_n C (dx dX7_days 14 rfl) rfl ?_
      refine r_iload_n C (dx dX7_days 15 rfl) rfl ?_
      refine rn_ge (a := p) (b := ν) (tgt := 41) C (by omega) (by omega) (dx dX7_days 16 rfl) (by decide) (fun c5 => ?_) (fun c5 => ?_)
      · first
        | (omega; done)
        | (
            have c5 : ν ≤ p := c5
            refine r_aload_n C (dx dX7_days 24 rfl) rfl ?_
            refine r_dupR C (dx dX7_days 25 rfl) ?_
            refine g_X7_347 (x := xI g9p k 19) C (dx dX7_days 26 rfl) rfl ?_
            refine r_iload_n C (dx dX7_days 27 rfl) rfl ?_
            refine r_iadd C (dx dX7_days 28 rfl) ?_
            refine p_X7_347 C (dx dX7_days 29 rfl) rfl rfl ?_
            have mh6 : MilAt (sI g9p k 19 ((xI g9p k 19) + (daysS v p))) k (daysV v p) := mg9p.f (by decide) (by decide) (by decide) (by decide)
            have ph6 : Kp k h (sI g9p k 19 ((xI g9p k 19) + (daysS v p))) := pg9p.tr (Kp.f (by decide))
            have kh6 : xK (sI g9p k 19 ((xI g9p k 19) + (daysS v p))) = xK h := kg9p
            generalize sI g9p k 19 ((xI g9p k 19) + (daysS v p)) = h6 at mh6 ph6 kh6 ⊢
            refine r_iload_n C (dx dX7_days 30 rfl) rfl ?_
            have eV : daysX v (nI ν) = daysV v p := by (simp [daysA, daysX, dysB_e, clN (show ν < 2 ^ 31 by omega), c1, c5] <;> rfl)
            have eA : daysA v (nI ν) = daysS v p := by (simp [daysA, daysX, dysB_e, clN (show ν < 2 ^ 31 by omega), c1, c5] <;> rfl)
            exact F.1 _ _ _ _ .int rfl rfl (dx dX7_days 31 rfl) kh6 ⟨by rw [eA], by rw [eV]; exact mh6, ph6⟩)
      · first
        | (omega; done)
        | (
            have c5 : p < ν := c5
            refine r_iload_n C (dx dX7_days 17 rfl) rfl ?_
            refine r_aload_n C (dx dX7_days 18 rfl) rfl ?_
            refine r_cv (as := []) (st := [vi (daysS v p)]) C X I_X7_goes l_X7_344 (e_goes mg9p (hd_days hd _)) (by decide) (Nat.le_of_ble_eq_true rfl) List.prefix_rfl (pfx_eq kg9p) rfl rfl (Nat.le_of_ble_eq_true rfl) rfl (dx dX7_days 19 rfl) ?_
            rintro _ h7 ⟨rfl, m9h7, qh7⟩ kkh7
            have mh7 : MilAt h7 k (dayV (daysV v p)) := m9h7
            have ph7 : Kp k h h7 := pg9p.tr (qh7)
            have kh7 : xK h7 = xK h := (kkh7).trans kg9p
            refine r_iadd C (dx dX7_days 20 rfl) ?_
            refine r_istore_n (ls' := [(0, vr 7 k), (1, vi (nI ν)), (2, vi ((daysS v p) + (worthS (daysV v p) (dayP (daysV v p))))), (3, vi (nI p))]) C (dx dX7_days 21 rfl) (by decide) [1, 2, 0, 3] rfl ?_
            refine rn_iinc (a := p) (k := 1) (ls' := [(0, vr 7 k), (1, vi (nI ν)), (2, vi ((daysS v p) + (worthS (daysV v p) (dayP (daysV v p))))), (3, vi (nI (p + 1)))]) C (dx dX7_days 22 rfl) rfl rfl (by decide) [1, 2, 3, 0] rfl ?_
            refine r_goto (tgt := 23) C (dx dX7_days 23 rfl) (by decide) ?_
            have ep2 : ((daysS v p) + (worthS (daysV v p) (dayP (daysV v p)))) = (daysS v (p + 1)) := by rfl
            rw [ep2]
            have fp : (dayV (daysV v p)) = (daysV v (p + 1)) := by rfl
            exact ihp h7 (fp ▸ mh7) ph7 kh7)
  ·
    have c1 : (btwB n 1 60) = false := c1
    refine r_aload_n C (dx dX7_days 6 rfl) rfl ?_
    refine r_bipush (v := -2) C (dx dX7_days 7 rfl) rfl ?_
    refine r_cv (as := [vi (-2)]) (st := []) C X I_X7_refuse l_X7_83 (e_refuse hm (x := -2) (j := 2) (by decide) (by decide)) (by decide) (Nat.le_of_ble_eq_true rfl) List.prefix_rfl List.prefix_rfl rfl rfl (Nat.le_of_ble_eq_true rfl) rfl (dx dX7_days 8 rfl) ?_
    rintro _ h8 ⟨rfl, m9h8, qh8⟩ kkh8
    have mh8 : MilAt h8 k v := m9h8
    have ph8 : Kp k h h8 := qh8
    have kh8 : xK h8 = xK h := kkh8
    have eV : daysX v n = v := by (simp [daysA, daysX, dysB_e, c1] <;> rfl)
    have eA : daysA v n = -2 := by (simp [daysA, daysX, dysB_e, c1] <;> rfl)
    exact F.1 _ _ _ _ .int rfl rfl (dx dX7_days 9 rfl) kh8 ⟨by rw [eA], by rw [eV]; exact mh8, ph8⟩
end
section
/-! PART 47: the reference, exactly: texts read -/
def tkm : Nat → Nat
  | 0 => 1
  | 1 => 2
  | 2 => 3
  | 3 => 0
  | _ => 4
/-- the figures read so far -/
def fgF (B : Nat → Int32) (s : Nat) : Nat → Int64
  | 0 => 0
  | j + 1 => if j < 2 then fgF B s j * 10 + (B (s + j)).toInt64 - 48 else 100000
theorem fgF_y {B : Nat → Int32} {s e : Nat} (h : s ≤ e) (q : e - s < 2) : fgF B s (e + 1 - s) = fgF B s (e - s) * 10 + (B e).toInt64 - 48 := by
  rw [show e + 1 - s = (e - s) + 1 by omega, fgF, if_pos q, show s + (e - s) = e by omega]
theorem fgF_n {B : Nat → Int32} {s e : Nat} (h : s ≤ e) (q : ¬ e - s < 2) : fgF B s (e + 1 - s) = 100000 := by
  rw [show e + 1 - s = (e - s) + 1 by omega, fgF, if_neg q]
theorem lt_G {x : Int32} : ltB x = isG 1 x := by unfold ltB; rw [decide_not, decide_not]; rfl
theorem dg_G {x : Int32} : dgB x = isG 2 x := by unfold dgB; rw [decide_not, decide_not]; rfl
theorem stp_end {B : Nat → Int32} {z a f : Nat} (e : enO 0 B z a = f) (h : z ≤ f) : stp B z a = (3, f, f) := by unfold stp; rw [e, if_pos h]
theorem stp_wd {B : Nat → Int32} {z a f b : Nat} (e : enO 0 B z a = f) (h : f < z) (l : ltB (B f) = true) (e1 : enO 1 B z f = b) : stp B z a = (0, f, b) := by unfold stp; rw [e, if_neg (by omega), if_pos (lt_G ▸ l), e1]
theorem stp_nm {B : Nat → Int32} {z a f b : Nat} (e : enO 0 B z a = f) (h : f < z) (l : ltB (B f) = false) (d : dgB (B f) = true) (e1 : enO 2 B z f = b) : stp B z a = (1, f, b) := by unfold stp; rw [e, if_neg (by omega), if_neg (by rw [← lt_G, l]; decide), if_pos (dg_G ▸ d), e1]
theorem stp_sg {B : Nat → Int32} {z a f : Nat} (e : enO 0 B z a = f) (h : f < z) (l : ltB (B f) = false) (d : dgB (B f) = false) (c : B f = nI 59) : stp B z a = (2, f, f + 1) := by unfold stp; rw [e, if_neg (by omega), if_neg (by rw [← lt_G, l]; decide), if_neg (by rw [← dg_G, d]; decide), if_pos c]
theorem stp_no {B : Nat → Int32} {z a f : Nat} (e : enO 0 B z a = f) (h : f < z) (l : ltB (B f) = false) (d : dgB (B f) = false) (c : ¬ B f = nI 59) : stp B z a = (4, f, f + 1) := by unfold stp; rw [e, if_neg (by omega), if_neg (by rw [← lt_G, l]; decide), if_neg (by rw [← dg_G, d]; decide), if_neg c]
/-- the state while a token is looked for; how many statements there are stays -/
def Lq (h0 h : Hp) (k z a : Nat) (v : Vg) : Prop := Lk h0 h k z a v ∧ xI h k 29 = xI h0 k 29
section LQ
variable {h0 h : Hp} {k z a a' j : Nat} {v : Vg} {x : Int32} {y : Int64}
theorem Lq.e29 (p : Lq h0 h k z a v) : xI h k 29 = xI h0 k 29 := p.2
theorem Lq.m (p : Lq h0 h k z a v) : MilAt h k v := p.1.m
theorem Lq.e8 (p : Lq h0 h k z a v) : xI h k 8 = nI z := p.1.e8
theorem Lq.e23 (p : Lq h0 h k z a v) : xI h k 23 = nI a := p.1.e23
theorem Lq.az (p : Lq h0 h k z a v) : a ≤ z := p.1.az
theorem Lq.bz (p : Lq h0 h k z a v) : z ≤ 250 := p.1.bz
theorem Lq.kp (p : Lq h0 h k z a v) : Kp k h0 h := p.1.kp
theorem Lq.e28 (p : Lq h0 h k z a v) : xI h k 28 = xI h0 k 28 := p.1.e28
theorem Lq.kk (p : Lq h0 h k z a v) : xK h = xK h0 := p.1.kk
theorem Lq.tp (p : Lq h0 h k z a v) {i : Nat} : xI h (k + 16) i = xI h0 (k + 16) i := p.1.tp
theorem Lq.at (p : Lq h0 h k z a v) (ha : a' ≤ z) : Lq h0 (sI h k 23 (nI a')) k z a' v := ⟨p.1.at ha, by rw [sI_at, if_neg (by decide)]; exact p.2⟩
theorem Lq.fd (p : Lq h0 h k z a v) (hj : j = 24 ∨ j = 25) : Lq h0 (sI h k j x) k z a v := ⟨p.1.fd hj, by rw [sI_at, if_neg (by omega)]; exact p.2⟩
theorem Lq.l (p : Lq h0 h k z a v) : Lq h0 (sL h k j y) k z a v := ⟨p.1.l, p.2⟩
end LQ
/-- the state between tokens, with the token -/
def Px (h0 h : Hp) (k z : Nat) (B : Nat → Int32) (q : Tkn) (v : Vg) : Prop :=
  MilAt h k v ∧ xI h k 8 = nI z ∧ xI h k 23 = nI q.2.2 ∧ xI h k 25 = nI q.2.1 ∧ xI h k 24 = nI (tkm q.1) ∧ (q.1 = 1 → xL h k 26 = fgF B q.2.1 (q.2.2 - q.2.1)) ∧ q.2.1 ≤ q.2.2 ∧ q.2.2 ≤ z ∧ z ≤ 250 ∧ (∀ i, i < 250 → xI h (k + 16) i = B i) ∧ Kp k h0 h ∧ xK h = xK h0 ∧ xI h k 29 = xI h0 k 29
theorem Px.mk9 {h0 h : Hp} {k z a f : Nat} {B : Nat → Int32} {q : Tkn} {v : Vg} {t : Int32} (p : Lq h0 h k z a v) (hB : ∀ i, i < 250 → xI h0 (k + 16) i = B i) (f25 : xI h k 25 = nI f) (t24 : xI h k 24 = t) {n : Nat} (e : q = (n, f, a)) (et : t = nI (tkm n)) (g : n = 1 → xL h k 26 = fgF B f (a - f)) (fa : f ≤ a) : Px h0 h k z B q v := by
  subst e; subst et
  exact ⟨p.m, p.e8, p.e23, f25, t24, g, fa, p.az, p.bz, fun i hi => p.tp.trans (hB i hi), p.kp, p.kk, p.e29⟩

section PXs
variable {h0 h h1 h2 : Hp} {k z t s e : Nat} {B : Nat → Int32} {v v' : Vg} {q q' : Tkn} {x : Int32}
theorem Px.m (p : Px h0 h k z B q v) : MilAt h k v := p.1
theorem Px.e8 (p : Px h0 h k z B q v) : xI h k 8 = nI z := p.2.1
theorem Px.e23 (p : Px h0 h k z B (t, s, e) v) : xI h k 23 = nI e := p.2.2.1
theorem Px.e25 (p : Px h0 h k z B (t, s, e) v) : xI h k 25 = nI s := p.2.2.2.1
theorem Px.e24 (p : Px h0 h k z B (t, s, e) v) : xI h k 24 = nI (tkm t) := p.2.2.2.2.1
theorem Px.e26 (p : Px h0 h k z B (t, s, e) v) (ht : t = 1) : xL h k 26 = fgF B s (e - s) := p.2.2.2.2.2.1 ht
theorem Px.se (p : Px h0 h k z B (t, s, e) v) : s ≤ e := p.2.2.2.2.2.2.1
theorem Px.ez (p : Px h0 h k z B (t, s, e) v) : e ≤ z := p.2.2.2.2.2.2.2.1
theorem Px.bz (p : Px h0 h k z B q v) : z ≤ 250 := p.2.2.2.2.2.2.2.2.1
theorem Px.tp (p : Px h0 h k z B q v) {i : Nat} (hi : i < 250) : xI h (k + 16) i = B i := p.2.2.2.2.2.2.2.2.2.1 i hi
theorem Px.kp (p : Px h0 h k z B q v) : Kp k h0 h := p.2.2.2.2.2.2.2.2.2.2.1
theorem Px.kk (p : Px h0 h k z B q v) : xK h = xK h0 := p.2.2.2.2.2.2.2.2.2.2.2.1
theorem Px.e29 (p : Px h0 h k z B q v) : xI h k 29 = xI h0 k 29 := p.2.2.2.2.2.2.2.2.2.2.2.2
theorem Px.slf (p : Px h0 h k z B q v) : Px h h k z B q v := ⟨p.1, p.2.1, p.2.2.1, p.2.2.2.1, p.2.2.2.2.1, p.2.2.2.2.2.1, p.2.2.2.2.2.2.1, p.2.2.2.2.2.2.2.1, p.bz, p.2.2.2.2.2.2.2.2.2.1, Kp.rf, rfl, rfl⟩
theorem Px.tr (p : Px h0 h1 k z B q v) (r : Px h1 h2 k z B q' v') : Px h0 h2 k z B q' v' := ⟨r.1, r.2.1, r.2.2.1, r.2.2.2.1, r.2.2.2.2.1, r.2.2.2.2.2.1, r.2.2.2.2.2.2.1, r.2.2.2.2.2.2.2.1, r.bz, r.2.2.2.2.2.2.2.2.2.1, p.kp.tr r.kp, r.kk.trans p.kk, r.e29.trans p.e29⟩
theorem Px.lk (p : Px h0 h k z B q v) : Lq h h k z q.2.2 v := ⟨⟨p.1, p.2.1, p.2.2.1, p.2.2.2.2.2.2.2.1, p.bz, Kp.rf, rfl, rfl⟩, rfl⟩
/-- a cell of the village written; a field of it -/
theorem Px.c {b j : Nat} (p : Px h0 h k z B q v) (m' : MilAt (sI h b j x) k v') (h1 : k + 17 ≤ b) (h2 : b < k + 32) : Px h0 (sI h b j x) k z B q v' := by
  have e : xI (sI h b j x) k = xI h k := (oth_sI k (by omega)).1
  exact ⟨m', by rw [e]; exact p.e8, by rw [e]; exact p.2.2.1, by rw [e]; exact p.2.2.2.1, by rw [e]; exact p.2.2.2.2.1, p.2.2.2.2.2.1, p.2.2.2.2.2.2.1, p.2.2.2.2.2.2.2.1, p.bz, fun i hi => by rw [sI_ne (by omega)]; exact p.tp hi, p.kp.tr (Kp.c h1 h2), p.kk, by rw [e]; exact p.e29⟩
theorem Px.fd {j : Nat} (p : Px h0 h k z B q v) (m' : MilAt (sI h k j x) k v') (h1 : j ≠ 8) (h2 : j ≠ 23) (h3 : j ≠ 24) (h4 : j ≠ 25) (h5 : j ≠ 29) : Px h0 (sI h k j x) k z B q v' :=
  ⟨m', by rw [sI_at, if_neg (Ne.symm h1)]; exact p.e8, by rw [sI_at, if_neg (Ne.symm h2)]; exact p.2.2.1, by rw [sI_at, if_neg (Ne.symm h4)]; exact p.2.2.2.1, by rw [sI_at, if_neg (Ne.symm h3)]; exact p.2.2.2.2.1, p.2.2.2.2.2.1, p.2.2.2.2.2.2.1, p.2.2.2.2.2.2.2.1, p.bz, fun i hi => by rw [sI_ne (by omega)]; exact p.tp hi, p.kp.tr (Kp.f h1), p.kk, by rw [sI_at, if_neg (Ne.symm h5)]; exact p.e29⟩
end PXs
theorem tkm_1 {t : Nat} : tkm t = 1 ↔ t = 0 := by
  match t with
  | 0 => simp [tkm]
  | 1 => simp [tkm]
  | 2 => simp [tkm]
  | 3 => simp [tkm]
  | n + 4 => simp [tkm]
theorem tkm_2 {t : Nat} : tkm t = 2 ↔ t = 1 := by
  match t with
  | 0 => simp [tkm]
  | 1 => simp [tkm]
  | 2 => simp [tkm]
  | 3 => simp [tkm]
  | n + 4 => simp [tkm]
theorem btA_y {B : Nat → Int32} {z a : Nat} (h : a < z) : btA B z a = B a := if_pos h
set_option maxHeartbeats 4000000 in
theorem e_look {l : Launch} {h : Hp} {k : Nat} {v : Vg} {z a : Nat} {B : Nat → Int32} (hB : ∀ i, i < 250 → xI h (k + 16) i = B i) (L0 : Lq h h k z a v) : Ms l yX7_look cX7_look 1 none 2 [vr 7 k] h (xK h) (fun r h' => r = none ∧ Px h h' k z B (stp B z a) v ∧ xI h' k 28 = xI h k 28) := by
  refine Ms.of (by decide) (Nat.le_of_ble_eq_true rfl) (fun G C X F => ?_)
  have C : Cx G cX7_look 1 RX7 := C
  show Rr G 0 [(0, vr 7 k)] [] h
  have az0 := L0.az
  have bz := L0.bz
  have key0 : ∀ (n a8 : Nat) (h8 : Hp), z - a8 = n → Lq h h8 k z a8 v → a ≤ a8 → enO 0 B z a8 = enO 0 B z a → Rr G 0 [(0, vr 7 k)] [] h8 := by
    intro n
    induction n using Nat.strongRecOn with | ind n ih0 => _
    intro a9 ha9 en La9 loa9 E
    have aza9 := La9.az
    refine r_aload_n C (dx dX7_look 0 rfl) rfl ?_
    refine g_X7_141 (x := nI a9) C (dx dX7_look 1 rfl) La9.e23 ?_
    refine r_aload_n C (dx dX7_look 2 rfl) rfl ?_
    refine g_X7_138 (x := nI z) C (dx dX7_look 3 rfl) La9.e8 ?_
    refine rn_ge (a := a9) (b := z) (tgt := 38) C (by omega) (by omega) (dx dX7_look 4 rfl) (by decide) (fun c1 => ?_) (fun c1 => ?_)
    · first
      | (omega; done)
      | (
          have c1 : z ≤ a9 := c1
          refine r_aload_n C (dx dX7_look 19 rfl) rfl ?_
          refine r_aload_n C (dx dX7_look 20 rfl) rfl ?_
          refine g_X7_141 (x := nI a9) C (dx dX7_look 21 rfl) La9.e23 ?_
          refine p_X7_144 C (dx dX7_look 22 rfl) rfl rfl ?_
          have E0 : enO 0 B z a = a9 := E.symm.trans (enO_e (by omega))
          have Lh2 : Lq h (sI ha9 k 25 (nI a9)) k z a9 v := La9.fd (by decide)
          have Fh2 : xI (sI ha9 k 25 (nI a9)) k 25 = nI a9 := by rw [sI_at, if_pos rfl]
          generalize sI ha9 k 25 (nI a9) = h2 at Lh2 Fh2 ⊢
          refine r_aload_n C (dx dX7_look 23 rfl) rfl ?_
          refine r_lconst (v := 0) C (dx dX7_look 24 rfl) rfl ?_
          refine p_X7_147 C (dx dX7_look 25 rfl) ?_
          have Lh3 : Lq h (sL h2 k 26 0) k z a9 v := Lh2.l
          have Fh3 : xI (sL h2 k 26 0) k 25 = nI a9 := Fh2
          have Gh3 : xL (sL h2 k 26 0) k 26 = 0 := by rw [sL_at, if_pos rfl]
          generalize sL h2 k 26 0 = h3 at Lh3 Fh3 Gh3 ⊢
          refine r_aload_n C (dx dX7_look 26 rfl) rfl ?_
          refine g_X7_141 (x := nI a9) C (dx dX7_look 27 rfl) Lh3.e23 ?_
          refine r_aload_n C (dx dX7_look 28 rfl) rfl ?_
          refine g_X7_138 (x := nI z) C (dx dX7_look 29 rfl) Lh3.e8 ?_
          refine rn_ne (a := a9) (b := z) (tgt := 70) C (by omega) (by omega) (dx dX7_look 30 rfl) (by decide) (fun c4 => ?_) (fun c4 => ?_)
          · first
            | (omega; done)
            | (
                have c4 : ¬ a9 = z := c4
                refine r_aload_n C (dx dX7_look 35 rfl) rfl ?_
                refine g_X7_34 C (dx dX7_look 36 rfl) ?_
                refine r_aload_n C (dx dX7_look 37 rfl) rfl ?_
                refine g_X7_141 (x := nI a9) C (dx dX7_look 38 rfl) Lh3.e23 ?_
                refine r_iald (j := a9) (x := B a9) C rfl rfl (by decide) rfl (by omega) (dx dX7_look 39 rfl) (Lh3.tp.trans (hB _ (by omega))) ?_
                refine r_csP (as := [vi (B a9)]) (st := []) (v := vi (b2i (ltB (B a9)))) C X I_X7_isLetter l_X7_154 (c_X7_isLetter _) (by decide) (Nat.le_of_ble_eq_true rfl) (pfx_eq Lh3.kk) (Nat.le_of_ble_eq_true rfl) rfl (dx dX7_look 40 rfl) ?_
                refine rb_eq (b := ltB (B a9)) (tgt := 129) C (dx dX7_look 41 rfl) (by decide) (fun c5 => ?_) (fun c5 => ?_)
                ·
                  have c5 : (ltB (B a9)) = false := c5
                  refine r_aload_n C (dx dX7_look 64 rfl) rfl ?_
                  refine g_X7_34 C (dx dX7_look 65 rfl) ?_
                  refine r_aload_n C (dx dX7_look 66 rfl) rfl ?_
                  refine g_X7_141 (x := nI a9) C (dx dX7_look 67 rfl) Lh3.e23 ?_
                  refine r_iald (j := a9) (x := B a9) C rfl rfl (by decide) rfl (by omega) (dx dX7_look 68 rfl) (Lh3.tp.trans (hB _ (by omega))) ?_
                  refine r_csP (as := [vi (B a9)]) (st := []) (v := vi (b2i (dgB (B a9)))) C X I_X7_isDigit l_X7_157 (c_X7_isDigit _) (by decide) (Nat.le_of_ble_eq_true rfl) (pfx_eq Lh3.kk) (Nat.le_of_ble_eq_true rfl) rfl (dx dX7_look 69 rfl) ?_
                  refine rb_eq (b := dgB (B a9)) (tgt := 234) C (dx dX7_look 70 rfl) (by decide) (fun c6 => ?_) (fun c6 => ?_)
                  ·
                    have c6 : (dgB (B a9)) = false := c6
                    refine r_aload_n C (dx dX7_look 117 rfl) rfl ?_
                    refine r_aload_n C (dx dX7_look 118 rfl) rfl ?_
                    refine g_X7_34 C (dx dX7_look 119 rfl) ?_
                    refine r_aload_n C (dx dX7_look 120 rfl) rfl ?_
                    refine g_X7_141 (x := nI a9) C (dx dX7_look 121 rfl) Lh3.e23 ?_
                    refine r_iald (j := a9) (x := B a9) C rfl rfl (by decide) rfl (by omega) (dx dX7_look 122 rfl) (Lh3.tp.trans (hB _ (by omega))) ?_
                    refine r_bipush (v := nI 59) C (dx dX7_look 123 rfl) rfl ?_
                    refine r_icmp_ne (tgt := 253) C (dx dX7_look 124 rfl) (by decide) (fun c7 => ?_) (fun c7 => ?_)
                    ·
                      have c7 : ¬ B a9 = nI 59 := c7
                      refine r_iconst (v := nI 4) C (dx dX7_look 127 rfl) rfl ?_
                      refine p_X7_151 C (dx dX7_look 128 rfl) rfl rfl ?_
                      have Lh8 : Lq h (sI h3 k 24 (nI 4)) k z a9 v := Lh3.fd (by decide)
                      have Fh8 : xI (sI h3 k 24 (nI 4)) k 25 = nI a9 := by rw [sI_at, if_neg (by decide)]; exact Fh3
                      have Th8 : xI (sI h3 k 24 (nI 4)) k 24 = nI 4 := by rw [sI_at, if_pos rfl]
                      have Gh8 : xL (sI h3 k 24 (nI 4)) k 26 = 0 := Gh3
                      generalize sI h3 k 24 (nI 4) = h8 at Lh8 Fh8 Th8 Gh8 ⊢
                      refine r_aload_n C (dx dX7_look 129 rfl) rfl ?_
                      refine r_dupR C (dx dX7_look 130 rfl) ?_
                      refine g_X7_141 (x := nI a9) C (dx dX7_look 131 rfl) Lh8.e23 ?_
                      refine r_iconst (v := nI 1) C (dx dX7_look 132 rfl) rfl ?_
                      refine rn_iadd (a := a9) (b := 1) C (dx dX7_look 133 rfl) ?_
                      refine p_X7_141 C (dx dX7_look 134 rfl) rfl rfl ?_
                      have Lh9 : Lq h (sI h8 k 23 (nI (a9 + 1))) k z (a9 + 1) v := Lh8.at (by omega)
                      have Fh9 : xI (sI h8 k 23 (nI (a9 + 1))) k 25 = nI a9 := by rw [sI_at, if_neg (by decide)]; exact Fh8
                      have Th9 : xI (sI h8 k 23 (nI (a9 + 1))) k 24 = nI 4 := by rw [sI_at, if_neg (by decide)]; exact Th8
                      have Gh9 : xL (sI h8 k 23 (nI (a9 + 1))) k 26 = 0 := Gh8
                      generalize sI h8 k 23 (nI (a9 + 1)) = h9 at Lh9 Fh9 Th9 Gh9 ⊢
                      have e9 : stp B z a = (4, a9, a9 + 1) := stp_no E0 (by omega) c5 c6 c7
                      exact F.2.2.1 _ _ _ rfl (dx dX7_look 135 rfl) Lh9.kk ⟨rfl, Px.mk9 Lh9 hB Fh9 Th9 e9 rfl (fun q => absurd q (by decide)) (by omega), Lh9.e28⟩
                    ·
                      have c7 : B a9 = nI 59 := c7
                      refine r_iconst (v := nI 3) C (dx dX7_look 125 rfl) rfl ?_
                      refine r_goto (tgt := 254) C (dx dX7_look 126 rfl) (by decide) ?_
                      refine p_X7_151 C (dx dX7_look 128 rfl) rfl rfl ?_
                      have Lh10 : Lq h (sI h3 k 24 (nI 3)) k z a9 v := Lh3.fd (by decide)
                      have Fh10 : xI (sI h3 k 24 (nI 3)) k 25 = nI a9 := by rw [sI_at, if_neg (by decide)]; exact Fh3
                      have Th10 : xI (sI h3 k 24 (nI 3)) k 24 = nI 3 := by rw [sI_at, if_pos rfl]
                      have Gh10 : xL (sI h3 k 24 (nI 3)) k 26 = 0 := Gh3
                      generalize sI h3 k 24 (nI 3) = h10 at Lh10 Fh10 Th10 Gh10 ⊢
                      refine r_aload_n C (dx dX7_look 129 rfl) rfl ?_
                      refine r_dupR C (dx dX7_look 130 rfl) ?_
                      refine g_X7_141 (x := nI a9) C (dx dX7_look 131 rfl) Lh10.e23 ?_
                      refine r_iconst (v := nI 1) C (dx dX7_look 132 rfl) rfl ?_
                      refine rn_iadd (a := a9) (b := 1) C (dx dX7_look 133 rfl) ?_
                      refine p_X7_141 C (dx dX7_look 134 rfl) rfl rfl ?_
                      have Lh11 : Lq h (sI h10 k 23 (nI (a9 + 1))) k z (a9 + 1) v := Lh10.at (by omega)
                      have Fh11 : xI (sI h10 k 23 (nI (a9 + 1))) k 25 = nI a9 := by rw [sI_at, if_neg (by decide)]; exact Fh10
                      have Th11 : xI (sI h10 k 23 (nI (a9 + 1))) k 24 = nI 3 := by rw [sI_at, if_neg (by decide)]; exact Th10
                      have Gh11 : xL (sI h10 k 23 (nI (a9 + 1))) k 26 = 0 := Gh10
                      generalize sI h10 k 23 (nI (a9 + 1)) = h11 at Lh11 Fh11 Th11 Gh11 ⊢
                      have e9 : stp B z a = (2, a9, a9 + 1) := stp_sg E0 (by omega) c5 c6 c7
                      exact F.2.2.1 _ _ _ rfl (dx dX7_look 135 rfl) Lh11.kk ⟨rfl, Px.mk9 Lh11 hB Fh11 Th11 e9 rfl (fun q => absurd q (by decide)) (by omega), Lh11.e28⟩
                  ·
                    have c6 : (dgB (B a9)) = true := c6
                    refine r_aload_n C (dx dX7_look 71 rfl) rfl ?_
                    refine r_iconst (v := nI 2) C (dx dX7_look 72 rfl) rfl ?_
                    refine p_X7_151 C (dx dX7_look 73 rfl) rfl rfl ?_
                    have Lh12 : Lq h (sI h3 k 24 (nI 2)) k z a9 v := Lh3.fd (by decide)
                    have Fh12 : xI (sI h3 k 24 (nI 2)) k 25 = nI a9 := by rw [sI_at, if_neg (by decide)]; exact Fh3
                    have Th12 : xI (sI h3 k 24 (nI 2)) k 24 = nI 2 := by rw [sI_at, if_pos rfl]
                    have Gh12 : xL (sI h3 k 24 (nI 2)) k 26 = 0 := Gh3
                    generalize sI h3 k 24 (nI 2) = h12 at Lh12 Fh12 Th12 Gh12 ⊢
                    have key2 : ∀ (n a8 : Nat) (h8 : Hp), z - a8 = n → Lq h h8 k z a8 v → a9 ≤ a8 → enO 2 B z a8 = enO 2 B z a9 → xI h8 k 25 = nI a9 → xI h8 k 24 = nI 2 → xL h8 k 26 = fgF B a9 (a8 - a9) → Rr G 149 [(0, vr 7 k)] [] h8 := by
                      intro n
                      induction n using Nat.strongRecOn with | ind n ih2 => _
                      intro a7 ha7 en La7 loa7 E F8 T8 G8
                      have aza7 := La7.az
                      refine r_aload_n C (dx dX7_look 74 rfl) rfl ?_
                      refine g_X7_141 (x := nI a7) C (dx dX7_look 75 rfl) La7.e23 ?_
                      refine r_aload_n C (dx dX7_look 76 rfl) rfl ?_
                      refine g_X7_138 (x := nI z) C (dx dX7_look 77 rfl) La7.e8 ?_
                      refine rn_ge (a := a7) (b := z) (tgt := 267) C (by omega) (by omega) (dx dX7_look 78 rfl) (by decide) (fun c13 => ?_) (fun c13 => ?_)
                      · first
                        | (omega; done)
                        | (
                            have c13 : z ≤ a7 := c13
                            have e9 : stp B z a = (1, a9, a7) := stp_nm E0 (by omega) c5 c6 (E.symm.trans (enO_e (by omega)))
                            exact F.2.2.1 _ _ _ rfl (dx dX7_look 135 rfl) La7.kk ⟨rfl, Px.mk9 La7 hB F8 T8 e9 rfl (fun _ => G8) (by omega), La7.e28⟩)
                      · first
                        | (omega; done)
                        | (
                            have c13 : a7 < z := c13
                            refine r_aload_n C (dx dX7_look 79 rfl) rfl ?_
                            refine g_X7_34 C (dx dX7_look 80 rfl) ?_
                            refine r_aload_n C (dx dX7_look 81 rfl) rfl ?_
                            refine g_X7_141 (x := nI a7) C (dx dX7_look 82 rfl) La7.e23 ?_
                            refine r_iald (j := a7) (x := B a7) C rfl rfl (by decide) rfl (by omega) (dx dX7_look 83 rfl) (La7.tp.trans (hB _ (by omega))) ?_
                            refine r_csP (as := [vi (B a7)]) (st := []) (v := vi (b2i (dgB (B a7)))) C X I_X7_isDigit l_X7_157 (c_X7_isDigit _) (by decide) (Nat.le_of_ble_eq_true rfl) (pfx_eq La7.kk) (Nat.le_of_ble_eq_true rfl) rfl (dx dX7_look 84 rfl) ?_
                            refine rb_eq (b := dgB (B a7)) (tgt := 267) C (dx dX7_look 85 rfl) (by decide) (fun c14 => ?_) (fun c14 => ?_)
                            ·
                              have c14 : (dgB (B a7)) = false := c14
                              have e9 : stp B z a = (1, a9, a7) := stp_nm E0 (by omega) c5 c6 (E.symm.trans (enO_n (by omega) (dg_G ▸ c14)))
                              exact F.2.2.1 _ _ _ rfl (dx dX7_look 135 rfl) La7.kk ⟨rfl, Px.mk9 La7 hB F8 T8 e9 rfl (fun _ => G8) (by omega), La7.e28⟩
                            ·
                              have c14 : (dgB (B a7)) = true := c14
                              refine r_aload_n C (dx dX7_look 86 rfl) rfl ?_
                              refine r_aload_n C (dx dX7_look 87 rfl) rfl ?_
                              refine g_X7_141 (x := nI a7) C (dx dX7_look 88 rfl) La7.e23 ?_
                              refine r_aload_n C (dx dX7_look 89 rfl) rfl ?_
                              refine g_X7_144 (x := nI a9) C (dx dX7_look 90 rfl) F8 ?_
                              refine rn_isub (a := a7) (b := a9) C (by omega) (dx dX7_look 91 rfl) ?_
                              refine r_iconst (v := nI 2) C (dx dX7_look 92 rfl) rfl ?_
                              refine rn_ge (a := a7 - a9) (b := 2) (tgt := 215) C (by omega) (by omega) (dx dX7_look 93 rfl) (by decide) (fun c15 => ?_) (fun c15 => ?_)
                              · first
                                | (omega; done)
                                | (
                                    have c15 : 2 ≤ a7 - a9 := c15
                                    refine r_ldc2 C n_X7_162 (dx dX7_look 108 rfl) ?_
                                    refine p_X7_147 C (dx dX7_look 109 rfl) ?_
                                    have Lh16 : Lq h (sL ha7 k 26 100000) k z a7 v := La7.l
                                    have Fh16 : xI (sL ha7 k 26 100000) k 25 = nI a9 := F8
                                    have Th16 : xI (sL ha7 k 26 100000) k 24 = nI 2 := T8
                                    have Gh16 : xL (sL ha7 k 26 100000) k 26 = 100000 := by rw [sL_at, if_pos rfl]
                                    generalize sL ha7 k 26 100000 = h16 at Lh16 Fh16 Th16 Gh16 ⊢
                                    refine r_aload_n C (dx dX7_look 110 rfl) rfl ?_
                                    refine r_dupR C (dx dX7_look 111 rfl) ?_
                                    refine g_X7_141 (x := nI a7) C (dx dX7_look 112 rfl) Lh16.e23 ?_
                                    refine r_iconst (v := nI 1) C (dx dX7_look 113 rfl) rfl ?_
                                    refine rn_iadd (a := a7) (b := 1) C (dx dX7_look 114 rfl) ?_
                                    refine p_X7_141 C (dx dX7_look 115 rfl) rfl rfl ?_
                                    have Eh17 := (enO_y (γ := 2) (B := B) (z := z) (p := a7) (by omega) (dg_G ▸ c14)).symm.trans E
                                    have Lh17 : Lq h (sI h16 k 23 (nI (a7 + 1))) k z (a7 + 1) v := Lh16.at (by omega)
                                    have Fh17 : xI (sI h16 k 23 (nI (a7 + 1))) k 25 = nI a9 := by rw [sI_at, if_neg (by decide)]; exact Fh16
                                    have Th17 : xI (sI h16 k 23 (nI (a7 + 1))) k 24 = nI 2 := by rw [sI_at, if_neg (by decide)]; exact Th16
                                    have Gh17 : xL (sI h16 k 23 (nI (a7 + 1))) k 26 = 100000 := Gh16
                                    generalize sI h16 k 23 (nI (a7 + 1)) = h17 at Lh17 Fh17 Th17 Gh17 ⊢
                                    refine r_goto (tgt := 149) C (dx dX7_look 116 rfl) (by decide) ?_
                                    exact ih2 _ (by omega) _ _ rfl Lh17 (by omega) Eh17 Fh17 Th17 (Gh17.trans (by exact (fgF_n (by omega) (by omega)).symm)))
                              · first
                                | (omega; done)
                                | (
                                    have c15 : a7 - a9 < 2 := c15
                                    refine r_aload_n C (dx dX7_look 94 rfl) rfl ?_
                                    refine g_X7_147 C (dx dX7_look 95 rfl) rfl ?_
                                    refine r_ldc2 C n_X7_120 (dx dX7_look 96 rfl) ?_
                                    refine r_lmul C (dx dX7_look 97 rfl) ?_
                                    refine r_aload_n C (dx dX7_look 98 rfl) rfl ?_
                                    refine g_X7_34 C (dx dX7_look 99 rfl) ?_
                                    refine r_aload_n C (dx dX7_look 100 rfl) rfl ?_
                                    refine g_X7_141 (x := nI a7) C (dx dX7_look 101 rfl) La7.e23 ?_
                                    refine r_iald (j := a7) (x := B a7) C rfl rfl (by decide) rfl (by omega) (dx dX7_look 102 rfl) (La7.tp.trans (hB _ (by omega))) ?_
                                    refine r_i2l C (dx dX7_look 103 rfl) ?_
                                    refine r_ladd C (dx dX7_look 104 rfl) ?_
                                    refine r_ldc2 C n_X7_160 (dx dX7_look 105 rfl) ?_
                                    refine r_lsub C (dx dX7_look 106 rfl) ?_
                                    refine r_goto (tgt := 218) C (dx dX7_look 107 rfl) (by decide) ?_
                                    refine p_X7_147 C (dx dX7_look 109 rfl) ?_
                                    have Lh18 : Lq h (sL ha7 k 26 ((((xL ha7 k 26) * 10) + ((B a7).toInt64)) - 48)) k z a7 v := La7.l
                                    have Fh18 : xI (sL ha7 k 26 ((((xL ha7 k 26) * 10) + ((B a7).toInt64)) - 48)) k 25 = nI a9 := F8
                                    have Th18 : xI (sL ha7 k 26 ((((xL ha7 k 26) * 10) + ((B a7).toInt64)) - 48)) k 24 = nI 2 := T8
                                    have Gh18 : xL (sL ha7 k 26 ((((xL ha7 k 26) * 10) + ((B a7).toInt64)) - 48)) k 26 = ((((xL ha7 k 26) * 10) + ((B a7).toInt64)) - 48) := by rw [sL_at, if_pos rfl]
                                    generalize sL ha7 k 26 ((((xL ha7 k 26) * 10) + ((B a7).toInt64)) - 48) = h18 at Lh18 Fh18 Th18 Gh18 ⊢
                                    refine r_aload_n C (dx dX7_look 110 rfl) rfl ?_
                                    refine r_dupR C (dx dX7_look 111 rfl) ?_
                                    refine g_X7_141 (x := nI a7) C (dx dX7_look 112 rfl) Lh18.e23 ?_
                                    refine r_iconst (v := nI 1) C (dx dX7_look 113 rfl) rfl ?_
                                    refine rn_iadd (a := a7) (b := 1) C (dx dX7_look 114 rfl) ?_
                                    refine p_X7_141 C (dx dX7_look 115 rfl) rfl rfl ?_
                                    have Eh19 := (enO_y (γ := 2) (B := B) (z := z) (p := a7) (by omega) (dg_G ▸ c14)).symm.trans E
                                    have Lh19 : Lq h (sI h18 k 23 (nI (a7 + 1))) k z (a7 + 1) v := Lh18.at (by omega)
                                    have Fh19 : xI (sI h18 k 23 (nI (a7 + 1))) k 25 = nI a9 := by rw [sI_at, if_neg (by decide)]; exact Fh18
                                    have Th19 : xI (sI h18 k 23 (nI (a7 + 1))) k 24 = nI 2 := by rw [sI_at, if_neg (by decide)]; exact Th18
                                    have Gh19 : xL (sI h18 k 23 (nI (a7 + 1))) k 26 = ((((xL ha7 k 26) * 10) + ((B a7).toInt64)) - 48) := Gh18
                                    generalize sI h18 k 23 (nI (a7 + 1)) = h19 at Lh19 Fh19 Th19 Gh19 ⊢
                                    refine r_goto (tgt := 149) C (dx dX7_look 116 rfl) (by decide) ?_
                                    exact ih2 _ (by omega) _ _ rfl Lh19 (by omega) Eh19 Fh19 Th19 (Gh19.trans (by rw [G8]; exact (fgF_y (by omega) (by omega)).symm))))
                    exact key2 _ _ _ rfl Lh12 (by omega) rfl Fh12 Th12 (by rw [Nat.sub_self]; exact Gh12)
                ·
                  have c5 : (ltB (B a9)) = true := c5
                  refine r_aload_n C (dx dX7_look 42 rfl) rfl ?_
                  refine r_iconst (v := nI 1) C (dx dX7_look 43 rfl) rfl ?_
                  refine p_X7_151 C (dx dX7_look 44 rfl) rfl rfl ?_
                  have Lh20 : Lq h (sI h3 k 24 (nI 1)) k z a9 v := Lh3.fd (by decide)
                  have Fh20 : xI (sI h3 k 24 (nI 1)) k 25 = nI a9 := by rw [sI_at, if_neg (by decide)]; exact Fh3
                  have Th20 : xI (sI h3 k 24 (nI 1)) k 24 = nI 1 := by rw [sI_at, if_pos rfl]
                  have Gh20 : xL (sI h3 k 24 (nI 1)) k 26 = 0 := Gh3
                  generalize sI h3 k 24 (nI 1) = h20 at Lh20 Fh20 Th20 Gh20 ⊢
                  have key1 : ∀ (n a8 : Nat) (h8 : Hp), z - a8 = n → Lq h h8 k z a8 v → a9 ≤ a8 → enO 1 B z a8 = enO 1 B z a9 → xI h8 k 25 = nI a9 → xI h8 k 24 = nI 1 → xL h8 k 26 = 0 → Rr G 90 [(0, vr 7 k)] [] h8 := by
                    intro n
                    induction n using Nat.strongRecOn with | ind n ih1 => _
                    intro a7 ha7 en La7 loa7 E F8 T8 G8
                    have aza7 := La7.az
                    refine r_aload_n C (dx dX7_look 45 rfl) rfl ?_
                    refine g_X7_141 (x := nI a7) C (dx dX7_look 46 rfl) La7.e23 ?_
                    refine r_aload_n C (dx dX7_look 47 rfl) rfl ?_
                    refine g_X7_138 (x := nI z) C (dx dX7_look 48 rfl) La7.e8 ?_
                    refine rn_ge (a := a7) (b := z) (tgt := 267) C (by omega) (by omega) (dx dX7_look 49 rfl) (by decide) (fun c21 => ?_) (fun c21 => ?_)
                    · first
                      | (omega; done)
                      | (
                          have c21 : z ≤ a7 := c21
                          have e9 : stp B z a = (0, a9, a7) := stp_wd E0 (by omega) c5 (E.symm.trans (enO_e (by omega)))
                          exact F.2.2.1 _ _ _ rfl (dx dX7_look 135 rfl) La7.kk ⟨rfl, Px.mk9 La7 hB F8 T8 e9 rfl (fun q => absurd q (by decide)) (by omega), La7.e28⟩)
                    · first
                      | (omega; done)
                      | (
                          have c21 : a7 < z := c21
                          refine r_aload_n C (dx dX7_look 50 rfl) rfl ?_
                          refine g_X7_34 C (dx dX7_look 51 rfl) ?_
                          refine r_aload_n C (dx dX7_look 52 rfl) rfl ?_
                          refine g_X7_141 (x := nI a7) C (dx dX7_look 53 rfl) La7.e23 ?_
                          refine r_iald (j := a7) (x := B a7) C rfl rfl (by decide) rfl (by omega) (dx dX7_look 54 rfl) (La7.tp.trans (hB _ (by omega))) ?_
                          refine r_csP (as := [vi (B a7)]) (st := []) (v := vi (b2i (ltB (B a7)))) C X I_X7_isLetter l_X7_154 (c_X7_isLetter _) (by decide) (Nat.le_of_ble_eq_true rfl) (pfx_eq La7.kk) (Nat.le_of_ble_eq_true rfl) rfl (dx dX7_look 55 rfl) ?_
                          refine rb_eq (b := ltB (B a7)) (tgt := 267) C (dx dX7_look 56 rfl) (by decide) (fun c22 => ?_) (fun c22 => ?_)
                          ·
                            have c22 : (ltB (B a7)) = false := c22
                            have e9 : stp B z a = (0, a9, a7) := stp_wd E0 (by omega) c5 (E.symm.trans (enO_n (by omega) (lt_G ▸ c22)))
                            exact F.2.2.1 _ _ _ rfl (dx dX7_look 135 rfl) La7.kk ⟨rfl, Px.mk9 La7 hB F8 T8 e9 rfl (fun q => absurd q (by decide)) (by omega), La7.e28⟩
                          ·
                            have c22 : (ltB (B a7)) = true := c22
                            refine r_aload_n C (dx dX7_look 57 rfl) rfl ?_
                            refine r_dupR C (dx dX7_look 58 rfl) ?_
                            refine g_X7_141 (x := nI a7) C (dx dX7_look 59 rfl) La7.e23 ?_
                            refine r_iconst (v := nI 1) C (dx dX7_look 60 rfl) rfl ?_
                            refine rn_iadd (a := a7) (b := 1) C (dx dX7_look 61 rfl) ?_
                            refine p_X7_141 C (dx dX7_look 62 rfl) rfl rfl ?_
                            have Eh23 := (enO_y (γ := 1) (B := B) (z := z) (p := a7) (by omega) (lt_G ▸ c22)).symm.trans E
                            have Lh23 : Lq h (sI ha7 k 23 (nI (a7 + 1))) k z (a7 + 1) v := La7.at (by omega)
                            have Fh23 : xI (sI ha7 k 23 (nI (a7 + 1))) k 25 = nI a9 := by rw [sI_at, if_neg (by decide)]; exact F8
                            have Th23 : xI (sI ha7 k 23 (nI (a7 + 1))) k 24 = nI 1 := by rw [sI_at, if_neg (by decide)]; exact T8
                            have Gh23 : xL (sI ha7 k 23 (nI (a7 + 1))) k 26 = 0 := G8
                            generalize sI ha7 k 23 (nI (a7 + 1)) = h23 at Lh23 Fh23 Th23 Gh23 ⊢
                            refine r_goto (tgt := 90) C (dx dX7_look 63 rfl) (by decide) ?_
                            exact ih1 _ (by omega) _ _ rfl Lh23 (by omega) Eh23 Fh23 Th23 Gh23)
                  exact key1 _ _ _ rfl Lh20 (by omega) rfl Fh20 Th20 Gh20)
          · first
            | (omega; done)
            | (
                have c4 : a9 = z := c4
                refine r_aload_n C (dx dX7_look 31 rfl) rfl ?_
                refine r_iconst (v := nI 0) C (dx dX7_look 32 rfl) rfl ?_
                refine p_X7_151 C (dx dX7_look 33 rfl) rfl rfl ?_
                have Lh24 : Lq h (sI h3 k 24 (nI 0)) k z a9 v := Lh3.fd (by decide)
                have Fh24 : xI (sI h3 k 24 (nI 0)) k 25 = nI a9 := by rw [sI_at, if_neg (by decide)]; exact Fh3
                have Th24 : xI (sI h3 k 24 (nI 0)) k 24 = nI 0 := by rw [sI_at, if_pos rfl]
                have Gh24 : xL (sI h3 k 24 (nI 0)) k 26 = 0 := Gh3
                generalize sI h3 k 24 (nI 0) = h24 at Lh24 Fh24 Th24 Gh24 ⊢
                refine r_goto (tgt := 267) C (dx dX7_look 34 rfl) (by decide) ?_
                have e9 : stp B z a = (3, a9, a9) := stp_end E0 (by omega)
                exact F.2.2.1 _ _ _ rfl (dx dX7_look 135 rfl) Lh24.kk ⟨rfl, Px.mk9 Lh24 hB Fh24 Th24 e9 rfl (fun q => absurd q (by decide)) (by omega), Lh24.e28⟩))
    · first
      | (omega; done)
      | (
          have c1 : a9 < z := c1
          refine r_aload_n C (dx dX7_look 5 rfl) rfl ?_
          refine g_X7_34 C (dx dX7_look 6 rfl) ?_
          refine r_aload_n C (dx dX7_look 7 rfl) rfl ?_
          refine g_X7_141 (x := nI a9) C (dx dX7_look 8 rfl) La9.e23 ?_
          refine r_iald (j := a9) (x := B a9) C rfl rfl (by decide) rfl (by omega) (dx dX7_look 9 rfl) (La9.tp.trans (hB _ (by omega))) ?_
          refine r_bipush (v := nI 32) C (dx dX7_look 10 rfl) rfl ?_
          refine r_icmp_ne (tgt := 38) C (dx dX7_look 11 rfl) (by decide) (fun c25 => ?_) (fun c25 => ?_)
          ·
            have c25 : ¬ B a9 = nI 32 := c25
            refine r_aload_n C (dx dX7_look 19 rfl) rfl ?_
            refine r_aload_n C (dx dX7_look 20 rfl) rfl ?_
            refine g_X7_141 (x := nI a9) C (dx dX7_look 21 rfl) La9.e23 ?_
            refine p_X7_144 C (dx dX7_look 22 rfl) rfl rfl ?_
            have E0 : enO 0 B z a = a9 := E.symm.trans (enO_n (by omega) (decide_eq_false c25))
            have Lh26 : Lq h (sI ha9 k 25 (nI a9)) k z a9 v := La9.fd (by decide)
            have Fh26 : xI (sI ha9 k 25 (nI a9)) k 25 = nI a9 := by rw [sI_at, if_pos rfl]
            generalize sI ha9 k 25 (nI a9) = h26 at Lh26 Fh26 ⊢
            refine r_aload_n C (dx dX7_look 23 rfl) rfl ?_
            refine r_lconst (v := 0) C (dx dX7_look 24 rfl) rfl ?_
            refine p_X7_147 C (dx dX7_look 25 rfl) ?_
            have Lh27 : Lq h (sL h26 k 26 0) k z a9 v := Lh26.l
            have Fh27 : xI (sL h26 k 26 0) k 25 = nI a9 := Fh26
            have Gh27 : xL (sL h26 k 26 0) k 26 = 0 := by rw [sL_at, if_pos rfl]
            generalize sL h26 k 26 0 = h27 at Lh27 Fh27 Gh27 ⊢
            refine r_aload_n C (dx dX7_look 26 rfl) rfl ?_
            refine g_X7_141 (x := nI a9) C (dx dX7_look 27 rfl) Lh27.e23 ?_
            refine r_aload_n C (dx dX7_look 28 rfl) rfl ?_
            refine g_X7_138 (x := nI z) C (dx dX7_look 29 rfl) Lh27.e8 ?_
            refine rn_ne (a := a9) (b := z) (tgt := 70) C (by omega) (by omega) (dx dX7_look 30 rfl) (by decide) (fun c28 => ?_) (fun c28 => ?_)
            · first
              | (omega; done)
              | (
                  have c28 : ¬ a9 = z := c28
                  refine r_aload_n C (dx dX7_look 35 rfl) rfl ?_
                  refine g_X7_34 C (dx dX7_look 36 rfl) ?_
                  refine r_aload_n C (dx dX7_look 37 rfl) rfl ?_
                  refine g_X7_141 (x := nI a9) C (dx dX7_look 38 rfl) Lh27.e23 ?_
                  refine r_iald (j := a9) (x := B a9) C rfl rfl (by decide) rfl (by omega) (dx dX7_look 39 rfl) (Lh27.tp.trans (hB _ (by omega))) ?_
                  refine r_csP (as := [vi (B a9)]) (st := []) (v := vi (b2i (ltB (B a9)))) C X I_X7_isLetter l_X7_154 (c_X7_isLetter _) (by decide) (Nat.le_of_ble_eq_true rfl) (pfx_eq Lh27.kk) (Nat.le_of_ble_eq_true rfl) rfl (dx dX7_look 40 rfl) ?_
                  refine rb_eq (b := ltB (B a9)) (tgt := 129) C (dx dX7_look 41 rfl) (by decide) (fun c29 => ?_) (fun c29 => ?_)
                  ·
                    have c29 : (ltB (B a9)) = false := c29
                    refine r_aload_n C (dx dX7_look 64 rfl) rfl ?_
                    refine g_X7_34 C (dx dX7_look 65 rfl) ?_
                    refine r_aload_n C (dx dX7_look 66 rfl) rfl ?_
                    refine g_X7_141 (x := nI a9) C (dx dX7_look 67 rfl) Lh27.e23 ?_
                    refine r_iald (j := a9) (x := B a9) C rfl rfl (by decide) rfl (by omega) (dx dX7_look 68 rfl) (Lh27.tp.trans (hB _ (by omega))) ?_
                    refine r_csP (as := [vi (B a9)]) (st := []) (v := vi (b2i (dgB (B a9)))) C X I_X7_isDigit l_X7_157 (c_X7_isDigit _) (by decide) (Nat.le_of_ble_eq_true rfl) (pfx_eq Lh27.kk) (Nat.le_of_ble_eq_true rfl) rfl (dx dX7_look 69 rfl) ?_
                    refine rb_eq (b := dgB (B a9)) (tgt := 234) C (dx dX7_look 70 rfl) (by decide) (fun c30 => ?_) (fun c30 => ?_)
                    ·
                      have c30 : (dgB (B a9)) = false := c30
                      refine r_aload_n C (dx dX7_look 117 rfl) rfl ?_
                      refine r_aload_n C (dx dX7_look 118 rfl) rfl ?_
                      refine g_X7_34 C (dx dX7_look 119 rfl) ?_
                      refine r_aload_n C (dx dX7_look 120 rfl) rfl ?_
                      refine g_X7_141 (x := nI a9) C (dx dX7_look 121 rfl) Lh27.e23 ?_
                      refine r_iald (j := a9) (x := B a9) C rfl rfl (by decide) rfl (by omega) (dx dX7_look 122 rfl) (Lh27.tp.trans (hB _ (by omega))) ?_
                      refine r_bipush (v := nI 59) C (dx dX7_look 123 rfl) rfl ?_
                      refine r_icmp_ne (tgt := 253) C (dx dX7_look 124 rfl) (by decide) (fun c31 => ?_) (fun c31 => ?_)
                      ·
                        have c31 : ¬ B a9 = nI 59 := c31
                        refine r_iconst (v := nI 4) C (dx dX7_look 127 rfl) rfl ?_
                        refine p_X7_151 C (dx dX7_look 128 rfl) rfl rfl ?_
                        have Lh32 : Lq h (sI h27 k 24 (nI 4)) k z a9 v := Lh27.fd (by decide)
                        have Fh32 : xI (sI h27 k 24 (nI 4)) k 25 = nI a9 := by rw [sI_at, if_neg (by decide)]; exact Fh27
                        have Th32 : xI (sI h27 k 24 (nI 4)) k 24 = nI 4 := by rw [sI_at, if_pos rfl]
                        have Gh32 : xL (sI h27 k 24 (nI 4)) k 26 = 0 := Gh27
                        generalize sI h27 k 24 (nI 4) = h32 at Lh32 Fh32 Th32 Gh32 ⊢
                        refine r_aload_n C (dx dX7_look 129 rfl) rfl ?_
                        refine r_dupR C (dx dX7_look 130 rfl) ?_
                        refine g_X7_141 (x := nI a9) C (dx dX7_look 131 rfl) Lh32.e23 ?_
                        refine r_iconst (v := nI 1) C (dx dX7_look 132 rfl) rfl ?_
                        refine rn_iadd (a := a9) (b := 1) C (dx dX7_look 133 rfl) ?_
                        refine p_X7_141 C (dx dX7_look 134 rfl) rfl rfl ?_
                        have Lh33 : Lq h (sI h32 k 23 (nI (a9 + 1))) k z (a9 + 1) v := Lh32.at (by omega)
                        have Fh33 : xI (sI h32 k 23 (nI (a9 + 1))) k 25 = nI a9 := by rw [sI_at, if_neg (by decide)]; exact Fh32
                        have Th33 : xI (sI h32 k 23 (nI (a9 + 1))) k 24 = nI 4 := by rw [sI_at, if_neg (by decide)]; exact Th32
                        have Gh33 : xL (sI h32 k 23 (nI (a9 + 1))) k 26 = 0 := Gh32
                        generalize sI h32 k 23 (nI (a9 + 1)) = h33 at Lh33 Fh33 Th33 Gh33 ⊢
                        have e9 : stp B z a = (4, a9, a9 + 1) := stp_no E0 (by omega) c29 c30 c31
                        exact F.2.2.1 _ _ _ rfl (dx dX7_look 135 rfl) Lh33.kk ⟨rfl, Px.mk9 Lh33 hB Fh33 Th33 e9 rfl (fun q => absurd q (by decide)) (by omega), Lh33.e28⟩
                      ·
                        have c31 : B a9 = nI 59 := c31
                        refine r_iconst (v := nI 3) C (dx dX7_look 125 rfl) rfl ?_
                        refine r_goto (tgt := 254) C (dx dX7_look 126 rfl) (by decide) ?_
                        refine p_X7_151 C (dx dX7_look 128 rfl) rfl rfl ?_
                        have Lh34 : Lq h (sI h27 k 24 (nI 3)) k z a9 v := Lh27.fd (by decide)
                        have Fh34 : xI (sI h27 k 24 (nI 3)) k 25 = nI a9 := by rw [sI_at, if_neg (by decide)]; exact Fh27
                        have Th34 : xI (sI h27 k 24 (nI 3)) k 24 = nI 3 := by rw [sI_at, if_pos rfl]
                        have Gh34 : xL (sI h27 k 24 (nI 3)) k 26 = 0 := Gh27
                        generalize sI h27 k 24 (nI 3) = h34 at Lh34 Fh34 Th34 Gh34 ⊢
                        refine r_aload_n C (dx dX7_look 129 rfl) rfl ?_
                        refine r_dupR C (dx dX7_look 130 rfl) ?_
                        refine g_X7_141 (x := nI a9) C (dx dX7_look 131 rfl) Lh34.e23 ?_
                        refine r_iconst (v := nI 1) C (dx dX7_look 132 rfl) rfl ?_
                        refine rn_iadd (a := a9) (b := 1) C (dx dX7_look 133 rfl) ?_
                        refine p_X7_141 C (dx dX7_look 134 rfl) rfl rfl ?_
                        have Lh35 : Lq h (sI h34 k 23 (nI (a9 + 1))) k z (a9 + 1) v := Lh34.at (by omega)
                        have Fh35 : xI (sI h34 k 23 (nI (a9 + 1))) k 25 = nI a9 := by rw [sI_at, if_neg (by decide)]; exact Fh34
                        have Th35 : xI (sI h34 k 23 (nI (a9 + 1))) k 24 = nI 3 := by rw [sI_at, if_neg (by decide)]; exact Th34
                        have Gh35 : xL (sI h34 k 23 (nI (a9 + 1))) k 26 = 0 := Gh34
                        generalize sI h34 k 23 (nI (a9 + 1)) = h35 at Lh35 Fh35 Th35 Gh35 ⊢
                        have e9 : stp B z a = (2, a9, a9 + 1) := stp_sg E0 (by omega) c29 c30 c31
                        exact F.2.2.1 _ _ _ rfl (dx dX7_look 135 rfl) Lh35.kk ⟨rfl, Px.mk9 Lh35 hB Fh35 Th35 e9 rfl (fun q => absurd q (by decide)) (by omega), Lh35.e28⟩
                    ·
                      have c30 : (dgB (B a9)) = true := c30
                      refine r_aload_n C (dx dX7_look 71 rfl) rfl ?_
                      refine r_iconst (v := nI 2) C (dx dX7_look 72 rfl) rfl ?_
                      refine p_X7_151 C (dx dX7_look 73 rfl) rfl rfl ?_
                      have Lh36 : Lq h (sI h27 k 24 (nI 2)) k z a9 v := Lh27.fd (by decide)
                      have Fh36 : xI (sI h27 k 24 (nI 2)) k 25 = nI a9 := by rw [sI_at, if_neg (by decide)]; exact Fh27
                      have Th36 : xI (sI h27 k 24 (nI 2)) k 24 = nI 2 := by rw [sI_at, if_pos rfl]
                      have Gh36 : xL (sI h27 k 24 (nI 2)) k 26 = 0 := Gh27
                      generalize sI h27 k 24 (nI 2) = h36 at Lh36 Fh36 Th36 Gh36 ⊢
                      have key2 : ∀ (n a8 : Nat) (h8 : Hp), z - a8 = n → Lq h h8 k z a8 v → a9 ≤ a8 → enO 2 B z a8 = enO 2 B z a9 → xI h8 k 25 = nI a9 → xI h8 k 24 = nI 2 → xL h8 k 26 = fgF B a9 (a8 - a9) → Rr G 149 [(0, vr 7 k)] [] h8 := by
                        intro n
                        induction n using Nat.strongRecOn with | ind n ih2 => _
                        intro a7 ha7 en La7 loa7 E F8 T8 G8
                        have aza7 := La7.az
                        refine r_aload_n C (dx dX7_look 74 rfl) rfl ?_
                        refine g_X7_141 (x := nI a7) C (dx dX7_look 75 rfl) La7.e23 ?_
                        refine r_aload_n C (dx dX7_look 76 rfl) rfl ?_
                        refine g_X7_138 (x := nI z) C (dx dX7_look 77 rfl) La7.e8 ?_
                        refine rn_ge (a := a7) (b := z) (tgt := 267) C (by omega) (by omega) (dx dX7_look 78 rfl) (by decide) (fun c37 => ?_) (fun c37 => ?_)
                        · first
                          | (omega; done)
                          | (
                              have c37 : z ≤ a7 := c37
                              have e9 : stp B z a = (1, a9, a7) := stp_nm E0 (by omega) c29 c30 (E.symm.trans (enO_e (by omega)))
                              exact F.2.2.1 _ _ _ rfl (dx dX7_look 135 rfl) La7.kk ⟨rfl, Px.mk9 La7 hB F8 T8 e9 rfl (fun _ => G8) (by omega), La7.e28⟩)
                        · first
                          | (omega; done)
                          | (
                              have c37 : a7 < z := c37
                              refine r_aload_n C (dx dX7_look 79 rfl) rfl ?_
                              refine g_X7_34 C (dx dX7_look 80 rfl) ?_
                              refine r_aload_n C (dx dX7_look 81 rfl) rfl ?_
                              refine g_X7_141 (x := nI a7) C (dx dX7_look 82 rfl) La7.e23 ?_
                              refine r_iald (j := a7) (x := B a7) C rfl rfl (by decide) rfl (by omega) (dx dX7_look 83 rfl) (La7.tp.trans (hB _ (by omega))) ?_
                              refine r_csP (as := [vi (B a7)]) (st := []) (v := vi (b2i (dgB (B a7)))) C X I_X7_isDigit l_X7_157 (c_X7_isDigit _) (by decide) (Nat.le_of_ble_eq_true rfl) (pfx_eq La7.kk) (Nat.le_of_ble_eq_true rfl) rfl (dx dX7_look 84 rfl) ?_
                              refine rb_eq (b := dgB (B a7)) (tgt := 267) C (dx dX7_look 85 rfl) (by decide) (fun c38 => ?_) (fun c38 => ?_)
                              ·
                                have c38 : (dgB (B a7)) = false := c38
                                have e9 : stp B z a = (1, a9, a7) := stp_nm E0 (by omega) c29 c30 (E.symm.trans (enO_n (by omega) (dg_G ▸ c38)))
                                exact F.2.2.1 _ _ _ rfl (dx dX7_look 135 rfl) La7.kk ⟨rfl, Px.mk9 La7 hB F8 T8 e9 rfl (fun _ => G8) (by omega), La7.e28⟩
                              ·
                                have c38 : (dgB (B a7)) = true := c38
                                refine r_aload_n C (dx dX7_look 86 rfl) rfl ?_
                                refine r_aload_n C (dx dX7_look 87 rfl) rfl ?_
                                refine g_X7_141 (x := nI a7) C (dx dX7_look 88 rfl) La7.e23 ?_
                                refine r_aload_n C (dx dX7_look 89 rfl) rfl ?_
                                refine g_X7_144 (x := nI a9) C (dx dX7_look 90 rfl) F8 ?_
                                refine rn_isub (a := a7) (b := a9) C (by omega) (dx dX7_look 91 rfl) ?_
                                refine r_iconst (v := nI 2) C (dx dX7_look 92 rfl) rfl ?_
                                refine rn_ge (a := a7 - a9) (b := 2) (tgt := 215) C (by omega) (by omega) (dx dX7_look 93 rfl) (by decide) (fun c39 => ?_) (fun c39 => ?_)
                                · first
                                  | (omega; done)
                                  | (
                                      have c39 : 2 ≤ a7 - a9 := c39
                                      refine r_ldc2 C n_X7_162 (dx dX7_look 108 rfl) ?_
                                      refine p_X7_147 C (dx dX7_look 109 rfl) ?_
                                      have Lh40 : Lq h (sL ha7 k 26 100000) k z a7 v := La7.l
                                      have Fh40 : xI (sL ha7 k 26 100000) k 25 = nI a9 := F8
                                      have Th40 : xI (sL ha7 k 26 100000) k 24 = nI 2 := T8
                                      have Gh40 : xL (sL ha7 k 26 100000) k 26 = 100000 := by rw [sL_at, if_pos rfl]
                                      generalize sL ha7 k 26 100000 = h40 at Lh40 Fh40 Th40 Gh40 ⊢
                                      refine r_aload_n C (dx dX7_look 110 rfl) rfl ?_
                                      refine r_dupR C (dx dX7_look 111 rfl) ?_
                                      refine g_X7_141 (x := nI a7) C (dx dX7_look 112 rfl) Lh40.e23 ?_
                                      refine r_iconst (v := nI 1) C (dx dX7_look 113 rfl) rfl ?_
                                      refine rn_iadd (a := a7) (b := 1) C (dx dX7_look 114 rfl) ?_
                                      refine p_X7_141 C (dx dX7_look 115 rfl) rfl rfl ?_
                                      have Eh41 := (enO_y (γ := 2) (B := B) (z := z) (p := a7) (by omega) (dg_G ▸ c38)).symm.trans E
                                      have Lh41 : Lq h (sI h40 k 23 (nI (a7 + 1))) k z (a7 + 1) v := Lh40.at (by omega)
                                      have Fh41 : xI (sI h40 k 23 (nI (a7 + 1))) k 25 = nI a9 := by rw [sI_at, if_neg (by decide)]; exact Fh40
                                      have Th41 : xI (sI h40 k 23 (nI (a7 + 1))) k 24 = nI 2 := by rw [sI_at, if_neg (by decide)]; exact Th40
                                      have Gh41 : xL (sI h40 k 23 (nI (a7 + 1))) k 26 = 100000 := Gh40
                                      generalize sI h40 k 23 (nI (a7 + 1)) = h41 at Lh41 Fh41 Th41 Gh41 ⊢
                                      refine r_goto (tgt := 149) C (dx dX7_look 116 rfl) (by decide) ?_
                                      exact ih2 _ (by omega) _ _ rfl Lh41 (by omega) Eh41 Fh41 Th41 (Gh41.trans (by exact (fgF_n (by omega) (by omega)).symm)))
                                · first
                                  | (omega; done)
                                  | (
                                      have c39 : a7 - a9 < 2 := c39
                                      refine r_aload_n C (dx dX7_look 94 rfl) rfl ?_
                                      refine g_X7_147 C (dx dX7_look 95 rfl) rfl ?_
                                      refine r_ldc2 C n_X7_120 (dx dX7_look 96 rfl) ?_
                                      refine r_lmul C (dx dX7_look 97 rfl) ?_
                                      refine r_aload_n C (dx dX7_look 98 rfl) rfl ?_
                                      refine g_X7_34 C (dx dX7_look 99 rfl) ?_
                                      refine r_aload_n C (dx dX7_look 100 rfl) rfl ?_
                                      refine g_X7_141 (x := nI a7) C (dx dX7_look 101 rfl) La7.e23 ?_
                                      refine r_iald (j := a7) (x := B a7) C rfl rfl (by decide) rfl (by omega) (dx dX7_look 102 rfl) (La7.tp.trans (hB _ (by omega))) ?_
                                      refine r_i2l C (dx dX7_look 103 rfl) ?_
                                      refine r_ladd C (dx dX7_look 104 rfl) ?_
                                      refine r_ldc2 C n_X7_160 (dx dX7_look 105 rfl) ?_
                                      refine r_lsub C (dx dX7_look 106 rfl) ?_
                                      refine r_goto (tgt := 218) C (dx dX7_look 107 rfl) (by decide) ?_
                                      refine p_X7_147 C (dx dX7_look 109 rfl) ?_
                                      have Lh42 : Lq h (sL ha7 k 26 ((((xL ha7 k 26) * 10) + ((B a7).toInt64)) - 48)) k z a7 v := La7.l
                                      have Fh42 : xI (sL ha7 k 26 ((((xL ha7 k 26) * 10) + ((B a7).toInt64)) - 48)) k 25 = nI a9 := F8
                                      have Th42 : xI (sL ha7 k 26 ((((xL ha7 k 26) * 10) + ((B a7).toInt64)) - 48)) k 24 = nI 2 := T8
                                      have Gh42 : xL (sL ha7 k 26 ((((xL ha7 k 26) * 10) + ((B a7).toInt64)) - 48)) k 26 = ((((xL ha7 k 26) * 10) + ((B a7).toInt64)) - 48) := by rw [sL_at, if_pos rfl]
                                      generalize sL ha7 k 26 ((((xL ha7 k 26) * 10) + ((B a7).toInt64)) - 48) = h42 at Lh42 Fh42 Th42 Gh42 ⊢
                                      refine r_aload_n C (dx dX7_look 110 rfl) rfl ?_
                                      refine r_dupR C (dx dX7_look 111 rfl) ?_
                                      refine g_X7_141 (x := nI a7) C (dx dX7_look 112 rfl) Lh42.e23 ?_
                                      refine r_iconst (v := nI 1) C (dx dX7_look 113 rfl) rfl ?_
                                      refine rn_iadd (a := a7) (b := 1) C (dx dX7_look 114 rfl) ?_
                                      refine p_X7_141 C (dx dX7_look 115 rfl) rfl rfl ?_
                                      have Eh43 := (enO_y (γ := 2) (B := B) (z := z) (p := a7) (by omega) (dg_G ▸ c38)).symm.trans E
                                      have Lh43 : Lq h (sI h42 k 23 (nI (a7 + 1))) k z (a7 + 1) v := Lh42.at (by omega)
                                      have Fh43 : xI (sI h42 k 23 (nI (a7 + 1))) k 25 = nI a9 := by rw [sI_at, if_neg (by decide)]; exact Fh42
                                      have Th43 : xI (sI h42 k 23 (nI (a7 + 1))) k 24 = nI 2 := by rw [sI_at, if_neg (by decide)]; exact Th42
                                      have Gh43 : xL (sI h42 k 23 (nI (a7 + 1))) k 26 = ((((xL ha7 k 26) * 10) + ((B a7).toInt64)) - 48) := Gh42
                                      generalize sI h42 k 23 (nI (a7 + 1)) = h43 at Lh43 Fh43 Th43 Gh43 ⊢
                                      refine r_goto (tgt := 149) C (dx dX7_look 116 rfl) (by decide) ?_
                                      exact ih2 _ (by omega) _ _ rfl Lh43 (by omega) Eh43 Fh43 Th43 (Gh43.trans (by rw [G8]; exact (fgF_y (by omega) (by omega)).symm))))
                      exact key2 _ _ _ rfl Lh36 (by omega) rfl Fh36 Th36 (by rw [Nat.sub_self]; exact Gh36)
                  ·
                    have c29 : (ltB (B a9)) = true := c29
                    refine r_aload_n C (dx dX7_look 42 rfl) rfl ?_
                    refine r_iconst (v := nI 1) C (dx dX7_look 43 rfl) rfl ?_
                    refine p_X7_151 C (dx dX7_look 44 rfl) rfl rfl ?_
                    have Lh44 : Lq h (sI h27 k 24 (nI 1)) k z a9 v := Lh27.fd (by decide)
                    have Fh44 : xI (sI h27 k 24 (nI 1)) k 25 = nI a9 := by rw [sI_at, if_neg (by decide)]; exact Fh27
                    have Th44 : xI (sI h27 k 24 (nI 1)) k 24 = nI 1 := by rw [sI_at, if_pos rfl]
                    have Gh44 : xL (sI h27 k 24 (nI 1)) k 26 = 0 := Gh27
                    generalize sI h27 k 24 (nI 1) = h44 at Lh44 Fh44 Th44 Gh44 ⊢
                    have key1 : ∀ (n a8 : Nat) (h8 : Hp), z - a8 = n → Lq h h8 k z a8 v → a9 ≤ a8 → enO 1 B z a8 = enO 1 B z a9 → xI h8 k 25 = nI a9 → xI h8 k 24 = nI 1 → xL h8 k 26 = 0 → Rr G 90 [(0, vr 7 k)] [] h8 := by
                      intro n
                      induction n using Nat.strongRecOn with | ind n ih1 => _
                      intro a7 ha7 en La7 loa7 E F8 T8 G8
                      have aza7 := La7.az
                      refine r_aload_n C (dx dX7_look 45 rfl) rfl ?_
                      refine g_X7_141 (x := nI a7) C (dx dX7_look 46 rfl) La7.e23 ?_
                      refine r_aload_n C (dx dX7_look 47 rfl) rfl ?_
                      refine g_X7_138 (x := nI z) C (dx dX7_look 48 rfl) La7.e8 ?_
                      refine rn_ge (a := a7) (b := z) (tgt := 267) C (by omega) (by omega) (dx dX7_look 49 rfl) (by decide) (fun c45 => ?_) (fun c45 => ?_)
                      · first
                        | (omega; done)
                        | (
                            have c45 : z ≤ a7 := c45
                            have e9 : stp B z a = (0, a9, a7) := stp_wd E0 (by omega) c29 (E.symm.trans (enO_e (by omega)))
                            exact F.2.2.1 _ _ _ rfl (dx dX7_look 135 rfl) La7.kk ⟨rfl, Px.mk9 La7 hB F8 T8 e9 rfl (fun q => absurd q (by decide)) (by omega), La7.e28⟩)
                      · first
                        | (omega; done)
                        | (
                            have c45 : a7 < z := c45
                            refine r_aload_n C (dx dX7_look 50 rfl) rfl ?_
                            refine g_X7_34 C (dx dX7_look 51 rfl) ?_
                            refine r_aload_n C (dx dX7_look 52 rfl) rfl ?_
                            refine g_X7_141 (x := nI a7) C (dx dX7_look 53 rfl) La7.e23 ?_
                            refine r_iald (j := a7) (x := B a7) C rfl rfl (by decide) rfl (by omega) (dx dX7_look 54 rfl) (La7.tp.trans (hB _ (by omega))) ?_
                            refine r_csP (as := [vi (B a7)]) (st := []) (v := vi (b2i (ltB (B a7)))) C X I_X7_isLetter l_X7_154 (c_X7_isLetter _) (by decide) (Nat.le_of_ble_eq_true rfl) (pfx_eq La7.kk) (Nat.le_of_ble_eq_true rfl) rfl (dx dX7_look 55 rfl) ?_
                            refine rb_eq (b := ltB (B a7)) (tgt := 267) C (dx dX7_look 56 rfl) (by decide) (fun c46 => ?_) (fun c46 => ?_)
                            ·
                              have c46 : (ltB (B a7)) = false := c46
                              have e9 : stp B z a = (0, a9, a7) := stp_wd E0 (by omega) c29 (E.symm.trans (enO_n (by omega) (lt_G ▸ c46)))
                              exact F.2.2.1 _ _ _ rfl (dx dX7_look 135 rfl) La7.kk ⟨rfl, Px.mk9 La7 hB F8 T8 e9 rfl (fun q => absurd q (by decide)) (by omega), La7.e28⟩
                            ·
                              have c46 : (ltB (B a7)) = true := c46
                              refine r_aload_n C (dx dX7_look 57 rfl) rfl ?_
                              refine r_dupR C (dx dX7_look 58 rfl) ?_
                              refine g_X7_141 (x := nI a7) C (dx dX7_look 59 rfl) La7.e23 ?_
                              refine r_iconst (v := nI 1) C (dx dX7_look 60 rfl) rfl ?_
                              refine rn_iadd (a := a7) (b := 1) C (dx dX7_look 61 rfl) ?_
                              refine p_X7_141 C (dx dX7_look 62 rfl) rfl rfl ?_
                              have Eh47 := (enO_y (γ := 1) (B := B) (z := z) (p := a7) (by omega) (lt_G ▸ c46)).symm.trans E
                              have Lh47 : Lq h (sI ha7 k 23 (nI (a7 + 1))) k z (a7 + 1) v := La7.at (by omega)
                              have Fh47 : xI (sI ha7 k 23 (nI (a7 + 1))) k 25 = nI a9 := by rw [sI_at, if_neg (by decide)]; exact F8
                              have Th47 : xI (sI ha7 k 23 (nI (a7 + 1))) k 24 = nI 1 := by rw [sI_at, if_neg (by decide)]; exact T8
                              have Gh47 : xL (sI ha7 k 23 (nI (a7 + 1))) k 26 = 0 := G8
                              generalize sI ha7 k 23 (nI (a7 + 1)) = h47 at Lh47 Fh47 Th47 Gh47 ⊢
                              refine r_goto (tgt := 90) C (dx dX7_look 63 rfl) (by decide) ?_
                              exact ih1 _ (by omega) _ _ rfl Lh47 (by omega) Eh47 Fh47 Th47 Gh47)
                    exact key1 _ _ _ rfl Lh44 (by omega) rfl Fh44 Th44 Gh44)
            · first
              | (omega; done)
              | (
                  have c28 : a9 = z := c28
                  refine r_aload_n C (dx dX7_look 31 rfl) rfl ?_
                  refine r_iconst (v := nI 0) C (dx dX7_look 32 rfl) rfl ?_
                  refine p_X7_151 C (dx dX7_look 33 rfl) rfl rfl ?_
                  have Lh48 : Lq h (sI h27 k 24 (nI 0)) k z a9 v := Lh27.fd (by decide)
                  have Fh48 : xI (sI h27 k 24 (nI 0)) k 25 = nI a9 := by rw [sI_at, if_neg (by decide)]; exact Fh27
                  have Th48 : xI (sI h27 k 24 (nI 0)) k 24 = nI 0 := by rw [sI_at, if_pos rfl]
                  have Gh48 : xL (sI h27 k 24 (nI 0)) k 26 = 0 := Gh27
                  generalize sI h27 k 24 (nI 0) = h48 at Lh48 Fh48 Th48 Gh48 ⊢
                  refine r_goto (tgt := 267) C (dx dX7_look 34 rfl) (by decide) ?_
                  have e9 : stp B z a = (3, a9, a9) := stp_end E0 (by omega)
                  exact F.2.2.1 _ _ _ rfl (dx dX7_look 135 rfl) Lh48.kk ⟨rfl, Px.mk9 Lh48 hB Fh48 Th48 e9 rfl (fun q => absurd q (by decide)) (by omega), Lh48.e28⟩)
          ·
            have c25 : B a9 = nI 32 := c25
            refine r_aload_n C (dx dX7_look 12 rfl) rfl ?_
            refine r_dupR C (dx dX7_look 13 rfl) ?_
            refine g_X7_141 (x := nI a9) C (dx dX7_look 14 rfl) La9.e23 ?_
            refine r_iconst (v := nI 1) C (dx dX7_look 15 rfl) rfl ?_
            refine rn_iadd (a := a9) (b := 1) C (dx dX7_look 16 rfl) ?_
            refine p_X7_141 C (dx dX7_look 17 rfl) rfl rfl ?_
            have Eh49 := (enO_y (γ := 0) (B := B) (z := z) (p := a9) (by omega) (decide_eq_true c25)).symm.trans E
            have Lh49 : Lq h (sI ha9 k 23 (nI (a9 + 1))) k z (a9 + 1) v := La9.at (by omega)
            generalize sI ha9 k 23 (nI (a9 + 1)) = h49 at Lh49 ⊢
            refine r_goto (tgt := 0) C (dx dX7_look 18 rfl) (by decide) ?_
            exact ih0 _ (by omega) _ _ rfl Lh49 (by omega) Eh49)
  exact key0 _ _ _ rfl L0 (by omega) rfl
set_option maxHeartbeats 4000000 in
theorem e_isWord {l : Launch} {h : Hp} {k z t s e : Nat} {B : Nat → Int32} {v : Vg} (p : Px h h k z B (t, s, e) v) {i : Nat} (hi : i < 10) : Mp l yX7_isWord cX7_isWord 3 (some .boolean) 5 [vr 7 k, vt (1000 + i)] h (vi (b2i (wdB i B z t s e))) := by
  refine Ms.of (by decide) (Nat.le_of_ble_eq_true rfl) (fun G C X F => ?_)
  have C : Cx G cX7_isWord 3 RX7 := C
  show Rr G 0 [(0, vr 7 k), (1, vt (1000 + i))] [] h
  have se := p.se
  have ez := p.ez
  have bz := p.bz
  have bP := p.m.bP
  have bM := p.m.bM
  have bN := p.m.bN
  have t5 : tkm t < 5 := by unfold tkm; split <;> omega
  have bl := tx_len hi
  refine r_aload_n C (dx dX7_isWord 0 rfl) rfl ?_
  refine g_X7_151 (x := nI (tkm t)) C (dx dX7_isWord 1 rfl) p.e24 ?_
  refine r_iconst (v := nI 1) C (dx dX7_isWord 2 rfl) rfl ?_
  refine rn_ne (a := tkm t) (b := 1) (tgt := 24) C (by omega) (by omega) (dx dX7_isWord 3 rfl) (by decide) (fun c1 => ?_) (fun c1 => ?_)
  · first
    | (omega; done)
    | (
        have c1 : ¬ tkm t = 1 := c1
        refine r_iconst (v := nI 0) C (dx dX7_isWord 12 rfl) rfl ?_
        exact F.1 _ _ _ _ _ rfl rfl (dx dX7_isWord 13 rfl) rfl ⟨congrArg (fun x => some (vi x)) (show nI 0 = b2i _ by rw [show (wdB i B z t s e) = false by (unfold wdB; rw [decide_eq_false (fun q9 => c1 (tkm_1.mpr q9))]; rfl)]; rfl), rfl⟩)
  · first
    | (omega; done)
    | (
        have c1 : tkm t = 1 := c1
        refine r_aload_n C (dx dX7_isWord 4 rfl) rfl ?_
        refine g_X7_141 (x := nI e) C (dx dX7_isWord 5 rfl) p.e23 ?_
        refine r_aload_n C (dx dX7_isWord 6 rfl) rfl ?_
        refine g_X7_144 (x := nI s) C (dx dX7_isWord 7 rfl) p.e25 ?_
        refine rn_isub (a := e) (b := s) C (by omega) (dx dX7_isWord 8 rfl) ?_
        refine r_aload_nT C (dx dX7_isWord 9 rfl) rfl ?_
        refine r_cvTP (as := []) (st := [vi (nI (e - s))]) (v := vi (nI (txL.getD i 0))) C X hi I_J0_length_8abf5 l_X7_167 (c_J0_length_8abf5 hi) (by decide) (Nat.le_of_ble_eq_true rfl) List.prefix_rfl rfl (Nat.le_of_ble_eq_true rfl) rfl (dx dX7_isWord 10 rfl) ?_
        refine rn_eq (a := e - s) (b := txL.getD i 0) (tgt := 26) C (by omega) (by omega) (dx dX7_isWord 11 rfl) (by decide) (fun c2 => ?_) (fun c2 => ?_)
        · first
          | (omega; done)
          | (
              have c2 : e - s = txL.getD i 0 := c2
              refine r_iconst (v := nI 0) C (dx dX7_isWord 14 rfl) rfl ?_
              refine r_istore_n (ls' := [(0, vr 7 k), (1, vt (1000 + i)), (2, vi (nI 0))]) C (dx dX7_isWord 15 rfl) (by decide) [1, 2, 0] rfl ?_
              refine loopU (Φ := fun q => allF (fun j => decide (btA B z (s + j) = txc i j)) q = true → Rr G 28 [(0, vr 7 k), (1, vt (1000 + i)), (2, vi (nI q))] [] h) (N := txL.getD i 0) ?_ ?_ 0 (Nat.zero_le _) rfl
              ·
                intro hA
                refine r_iload_n C (dx dX7_isWord 16 rfl) rfl ?_
                refine r_aload_nT C (dx dX7_isWord 17 rfl) rfl ?_
                refine r_cvTP (as := []) (st := [vi (nI (txL.getD i 0))]) (v := vi (nI (txL.getD i 0))) C X hi I_J0_length_8abf5 l_X7_167 (c_J0_length_8abf5 hi) (by decide) (Nat.le_of_ble_eq_true rfl) List.prefix_rfl rfl (Nat.le_of_ble_eq_true rfl) rfl (dx dX7_isWord 18 rfl) ?_
                refine rn_ge (a := txL.getD i 0) (b := txL.getD i 0) (tgt := 63) C (by omega) (by omega) (dx dX7_isWord 19 rfl) (by decide) (fun c3 => ?_) (fun c3 => ?_)
                · first
                  | (omega; done)
                  | (
                      have c3 : txL.getD i 0 ≤ txL.getD i 0 := c3
                      refine r_iconst (v := nI 1) C (dx dX7_isWord 35 rfl) rfl ?_
                      exact F.1 _ _ _ _ _ rfl rfl (dx dX7_isWord 36 rfl) rfl ⟨congrArg (fun x => some (vi x)) (show nI 1 = b2i _ by rw [show (wdB i B z t s e) = true by (unfold wdB; rw [decide_eq_true (tkm_1.mp c1), decide_eq_true c2, hA]; rfl)]; rfl), rfl⟩)
                · first
                  | (omega; done)
              ·
                intro q hq ih hA
                refine r_iload_n C (dx dX7_isWord 16 rfl) rfl ?_
                refine r_aload_nT C (dx dX7_isWord 17 rfl) rfl ?_
                refine r_cvTP (as := []) (st := [vi (nI q)]) (v := vi (nI (txL.getD i 0))) C X hi I_J0_length_8abf5 l_X7_167 (c_J0_length_8abf5 hi) (by decide) (Nat.le_of_ble_eq_true rfl) List.prefix_rfl rfl (Nat.le_of_ble_eq_true rfl) rfl (dx dX7_isWord 18 rfl) ?_
                refine rn_ge (a := q) (b := txL.getD i 0) (tgt := 63) C (by omega) (by omega) (dx dX7_isWord 19 rfl) (by decide) (fun c5 => ?_) (fun c5 => ?_)
                · first
                  | (omega; done)
                  | (
                      have c5 : txL.getD i 0 ≤ q := c5
                      refine r_iconst (v := nI 1) C (dx dX7_isWord 35 rfl) rfl ?_
                      exact F.1 _ _ _ _ _ rfl rfl (dx dX7_isWord 36 rfl) rfl ⟨congrArg (fun x => some (vi x)) (show nI 1 = b2i _ by rw [show (wdB i B z t s e) = true by (unfold wdB; rw [decide_eq_true (tkm_1.mp c1), decide_eq_true c2, hA]; rfl)]; rfl), rfl⟩)
                · first
                  | (omega; done)
                  | (
                      have c5 : q < txL.getD i 0 := c5
                      refine r_aload_n C (dx dX7_isWord 20 rfl) rfl ?_
                      refine g_X7_34 C (dx dX7_isWord 21 rfl) ?_
                      refine r_aload_n C (dx dX7_isWord 22 rfl) rfl ?_
                      refine g_X7_144 (x := nI s) C (dx dX7_isWord 23 rfl) p.e25 ?_
                      refine r_iload_n C (dx dX7_isWord 24 rfl) rfl ?_
                      refine rn_iadd (a := s) (b := q) C (dx dX7_isWord 25 rfl) ?_
                      refine r_iald (j := s + q) (x := B (s + q)) C rfl rfl (by decide) rfl (by omega) (dx dX7_isWord 26 rfl) (p.tp (by omega)) ?_
                      refine r_aload_nT C (dx dX7_isWord 27 rfl) rfl ?_
                      refine r_iload_n C (dx dX7_isWord 28 rfl) rfl ?_
                      refine r_cvTP (as := [vi (nI q)]) (st := [vi (B (s + q))]) (v := vi (txc i q)) C X hi I_J0_charAt_5068e l_X7_173 (c_J0_charAt_5068e (j := q) hi (by omega)) (by decide) (Nat.le_of_ble_eq_true rfl) List.prefix_rfl rfl (Nat.le_of_ble_eq_true rfl) rfl (dx dX7_isWord 29 rfl) ?_
                      refine r_icmp_eq (tgt := 57) C (dx dX7_isWord 30 rfl) (by decide) (fun c6 => ?_) (fun c6 => ?_)
                      ·
                        have c6 : B (s + q) = txc i q := c6
                        refine rn_iinc (a := q) (k := 1) (ls' := [(0, vr 7 k), (1, vt (1000 + i)), (2, vi (nI (q + 1)))]) C (dx dX7_isWord 33 rfl) rfl rfl (by decide) [1, 2, 0] rfl ?_
                        refine r_goto (tgt := 28) C (dx dX7_isWord 34 rfl) (by decide) ?_
                        exact ih (by simp only [allF]; rw [hA, Bool.true_and]; exact decide_eq_true ((btA_y (by omega)).trans c6))
                      ·
                        have c6 : ¬ B (s + q) = txc i q := c6
                        refine r_iconst (v := nI 0) C (dx dX7_isWord 31 rfl) rfl ?_
                        exact F.1 _ _ _ _ _ rfl rfl (dx dX7_isWord 32 rfl) rfl ⟨congrArg (fun x => some (vi x)) (show nI 0 = b2i _ by rw [show (wdB i B z t s e) = false by (unfold wdB; rw [decide_eq_true (tkm_1.mp c1), decide_eq_true c2, all_no (P := (fun j => decide (btA B z (s + j) = txc i j))) (p := q) (decide_eq_false (fun q9 => c6 ((btA_y (by omega)).symm.trans q9))) _ hq]; rfl)]; rfl), rfl⟩))
        · first
          | (omega; done)
          | (
              have c2 : ¬ e - s = txL.getD i 0 := c2
              refine r_iconst (v := nI 0) C (dx dX7_isWord 12 rfl) rfl ?_
              exact F.1 _ _ _ _ _ rfl rfl (dx dX7_isWord 13 rfl) rfl ⟨congrArg (fun x => some (vi x)) (show nI 0 = b2i _ by rw [show (wdB i B z t s e) = false by (unfold wdB; rw [decide_eq_true (tkm_1.mp c1), decide_eq_false c2]; rfl)]; rfl), rfl⟩))
theorem enO_all {γ : Nat} {B : Nat → Int32} {z : Nat} : ∀ n p, z - p = n → ∀ j, p ≤ j → j < enO γ B z p → isG γ (B j) = true
  | 0, p, h, j, h1, h2 => by rw [enO_e (by omega)] at h2; omega
  | n + 1, p, h, j, h1, h2 => by
    by_cases q : isG γ (B p) = true
    · rw [enO_y (by omega) q] at h2
      by_cases e : j = p
      · rw [e]; exact q
      · exact enO_all n (p + 1) (by omega) j (by omega) h2
    · rw [enO_n (by omega) (by simpa using q)] at h2; omega
/-- a token that was looked for -/
def TkR (B : Nat → Int32) (z : Nat) (q : Tkn) : Prop := ∃ a, a ≤ z ∧ q = stp B z a
theorem stp_dg {B : Nat → Int32} {z a t s e : Nat} (h : (t, s, e) = stp B z a) (ht : t = 1) : s < e ∧ ∀ j, s ≤ j → j < e → dgB (B j) = true := by
  unfold stp at h
  split at h
  · obtain ⟨e1, _⟩ := Prod.mk.inj h; omega
  · split at h
    · obtain ⟨e1, _⟩ := Prod.mk.inj h; omega
    · split at h
      · next h1 _ h3 =>
        obtain ⟨_, h⟩ := Prod.mk.inj h
        obtain ⟨e2, e3⟩ := Prod.mk.inj h
        rw [e2, e3]
        refine ⟨?_, fun j j1 j2 => dg_G ▸ enO_all _ _ rfl j j1 j2⟩
        rw [enO_y (by omega) h3]
        have := (enO_le (γ := 2) (B := B) (z := z) (p := enO 0 B z a + 1) (by omega)).1
        omega
      · obtain ⟨e1, _⟩ := Prod.mk.inj h
        split at e1 <;> omega
theorem dg_ex {x : Int32} (h : dgB x = true) : ∃ d, d < 10 ∧ x = nI (48 + d) := by
  unfold dgB at h
  simp only [Bool.and_eq_true, decide_eq_true_eq] at h
  obtain ⟨j, h1, h2, e⟩ := btw (by omega) (by omega) h.1 h.2
  exact ⟨j - 48, by omega, by rw [e]; congr 1; omega⟩
theorem fg1 : ∀ d : Fin 10, (0 : Int64) * 10 + (nI (48 + d.val)).toInt64 - 48 = (nI d.val).toInt64 ∧ nI 10 * nI 0 + nI (48 + d.val) - nI 48 = nI d.val := by decide +kernel
theorem fg2 : ∀ d d' : Fin 10, (nI d.val).toInt64 * 10 + (nI (48 + d'.val)).toInt64 - 48 = (nI (10 * d.val + d'.val)).toInt64 ∧ nI 10 * nI d.val + nI (48 + d'.val) - nI 48 = nI (10 * d.val + d'.val) := by decide +kernel
theorem fg_nm {B : Nat → Int32} {z s e : Nat} (h1 : s < e) (h : ∀ j, s ≤ j → j < e → dgB (B j) = true) (ez : e ≤ z) (q : e - s ≤ 2) : ∃ w, w ≤ 99 ∧ fgF B s (e - s) = (nI w).toInt64 ∧ nmF B z s (e - s) = nI w := by
  obtain ⟨d, hd, ed⟩ := dg_ex (h s (by omega) h1)
  have a1 := fg1 ⟨d, hd⟩
  by_cases c : e - s = 1
  · refine ⟨d, by omega, ?_, ?_⟩
    · rw [c]; simp only [fgF, Nat.add_zero, ed]; exact a1.1
    · rw [c]; simp only [nmF, Nat.add_zero]; rw [btA_y (by omega), ed]; exact a1.2
  · obtain ⟨d', hd', ed'⟩ := dg_ex (h (s + 1) (by omega) (by omega))
    have a2 := fg2 ⟨d, hd⟩ ⟨d', hd'⟩
    refine ⟨10 * d + d', by omega, ?_, ?_⟩
    · rw [show e - s = 2 by omega]
      have : fgF B s 1 = (nI d).toInt64 := by simp only [fgF, Nat.add_zero, ed]; exact a1.1
      show (if 1 < 2 then fgF B s 1 * 10 + (B (s + 1)).toInt64 - 48 else 100000) = _
      rw [if_pos (by omega), this, ed']; exact a2.1
    · rw [show e - s = 2 by omega]
      have : nmF B z s 1 = nI d := by simp only [nmF, Nat.add_zero]; rw [btA_y (by omega), ed]; exact a1.2
      show nI 10 * nmF B z s 1 + btA B z (s + 1) - nI 48 = _
      rw [this, btA_y (by omega), ed']; exact a2.2
theorem nm_inL {B : Nat → Int32} {z t s e : Nat} {lo hi : Int32} (tk : t = 1 → s < e ∧ ∀ j, s ≤ j → j < e → dgB (B j) = true) (ez : e ≤ z) (ht : t = 1) (hhi : ¬ nI 99 < hi) : inL (fgF B s (e - s)) lo.toInt64 hi.toInt64 = decide (¬ nmV B z t s e lo hi = -1) ∧ (inL (fgF B s (e - s)) lo.toInt64 hi.toInt64 = true → (fgF B s (e - s)).toInt32 = nmV B z t s e lo hi) := by
  obtain ⟨h1, h2⟩ := tk ht
  by_cases q : e - s ≤ 2
  · obtain ⟨w, hw, e1, e2⟩ := fg_nm h1 h2 ez q
    have hn : ¬ nI w = -1 := nI_nm1 (by omega)
    unfold nmV inL
    rw [if_pos ⟨ht, q⟩, e1, e2]
    by_cases c1 : nI w < lo
    · rw [if_pos c1, decide_eq_false (show ¬ lo.toInt64 ≤ (nI w).toInt64 from fun x => Int32.not_lt.mpr (i64.mp x) c1)]
      exact ⟨by simp, fun x => by simp at x⟩
    · rw [if_neg c1, decide_eq_true (i64.mpr (Int32.not_lt.mp c1))]
      by_cases c2 : nI w ≤ hi
      · rw [if_pos c2, decide_eq_true (i64.mpr c2)]
        exact ⟨by simp [hn], fun _ => Int32.toInt32_toInt64 _⟩
      · rw [if_neg c2, decide_eq_false (show ¬ (nI w).toInt64 ≤ hi.toInt64 from fun x => c2 (i64.mp x))]
        exact ⟨by simp, fun x => by simp at x⟩
  · obtain ⟨m, hm⟩ : ∃ m, e - s = m + 3 := ⟨e - s - 3, by omega⟩
    have e1 : fgF B s (e - s) = (nI 100000).toInt64 := by
      rw [hm]; show (if m + 2 < 2 then _ else (100000 : Int64)) = _
      rw [if_neg (by omega)]; decide
    have c : ¬ (nI 100000).toInt64 ≤ hi.toInt64 := fun x => hhi (Int32.lt_of_lt_of_le (by decide) (i64.mp x))
    unfold nmV inL
    rw [if_neg (fun x => q x.2), e1, decide_eq_false c]
    exact ⟨by simp, fun x => by simp at x⟩

def NmP (h h' : Hp) (k z : Nat) (B : Nat → Int32) (q : Tkn) (v : Vg) (lo hi : Int32) (b : Bool) : Prop := if nmQ B z q lo hi = -1 then b = false ∧ Px h h' k z B q v ∧ xI h' k 27 = nI q.2.1 else b = true ∧ Px h h' k z B (stp B z q.2.2) v ∧ xI h' k 28 = nmQ B z q lo hi
theorem tk_dg {B : Nat → Int32} {z t s e : Nat} (h : TkR B z (t, s, e)) : t = 1 → s < e ∧ ∀ j, s ≤ j → j < e → dgB (B j) = true := by
  obtain ⟨a, _, h⟩ := h
  exact stp_dg h
set_option maxHeartbeats 4000000 in
theorem e_wrong {l : Launch} {h : Hp} {k z t s e : Nat} {B : Nat → Int32} {v : Vg} (p : Px h h k z B (t, s, e) v)  : Ms l yX7_wrong cX7_wrong 1 (some .boolean) 1 [vr 7 k] h (xK h) (fun r h' => r = some (vi (b2i false)) ∧ Px h h' k z B (t, s, e) v ∧ xI h' k 27 = nI s) := by
  refine Ms.of (by decide) (Nat.le_of_ble_eq_true rfl) (fun G C X F => ?_)
  have C : Cx G cX7_wrong 1 RX7 := C
  show Rr G 0 [(0, vr 7 k)] [] h
  have se := p.se
  have ez := p.ez
  have bz := p.bz
  have bP := p.m.bP
  have bM := p.m.bM
  have bN := p.m.bN
  have t5 : tkm t < 5 := by unfold tkm; split <;> omega
  refine r_aload_n C (dx dX7_wrong 0 rfl) rfl ?_
  refine r_aload_n C (dx dX7_wrong 1 rfl) rfl ?_
  refine g_X7_144 (x := nI s) C (dx dX7_wrong 2 rfl) p.e25 ?_
  refine p_X7_164 C (dx dX7_wrong 3 rfl) rfl rfl ?_
  have ph1 : Px h (sI h k 27 (nI s)) k z B (t, s, e) v := p.fd (p.m.f (by decide) (by decide) (by decide) (by decide)) (by decide) (by decide) (by decide) (by decide) (by decide)
  have eh1 : xI (sI h k 27 (nI s)) k 27 = nI s := by rw [sI_at, if_pos rfl]
  generalize sI h k 27 (nI s) = h1 at ph1 eh1 ⊢
  refine r_iconst (v := nI 0) C (dx dX7_wrong 4 rfl) rfl ?_
  exact F.1 _ _ _ _ .boolean rfl rfl (dx dX7_wrong 5 rfl) ph1.kk ⟨rfl, ph1, eh1⟩
set_option maxHeartbeats 4000000 in
theorem e_number {l : Launch} {h : Hp} {k z t s e : Nat} {B : Nat → Int32} {v : Vg} (p : Px h h k z B (t, s, e) v) (tk : TkR B z (t, s, e)) (lo hi : Int32) (hhi : ¬ nI 99 < hi) : Ms l yX7_number cX7_number 3 (some .boolean) 3 [vr 7 k, vi lo, vi hi] h (xK h) (fun r h' => ∃ b, r = some (vi (b2i b)) ∧ NmP h h' k z B (t, s, e) v lo hi b) := by
  refine Ms.of (by decide) (Nat.le_of_ble_eq_true rfl) (fun G C X F => ?_)
  have C : Cx G cX7_number 3 RX7 := C
  show Rr G 0 [(0, vr 7 k), (1, vi lo), (2, vi hi)] [] h
  have se := p.se
  have ez := p.ez
  have bz := p.bz
  have bP := p.m.bP
  have bM := p.m.bM
  have bN := p.m.bN
  have t5 : tkm t < 5 := by unfold tkm; split <;> omega
  refine r_aload_n C (dx dX7_number 0 rfl) rfl ?_
  refine g_X7_151 (x := nI (tkm t)) C (dx dX7_number 1 rfl) p.e24 ?_
  refine r_iconst (v := nI 2) C (dx dX7_number 2 rfl) rfl ?_
  refine rn_ne (a := tkm t) (b := 2) (tgt := 22) C (by omega) (by omega) (dx dX7_number 3 rfl) (by decide) (fun c1 => ?_) (fun c1 => ?_)
  · first
    | (omega; done)
    | (
        have c1 : ¬ tkm t = 2 := c1
        refine r_aload_n C (dx dX7_number 12 rfl) rfl ?_
        refine r_cv (as := []) (st := []) C X I_X7_wrong l_X7_177 (e_wrong p.slf) (by decide) (Nat.le_of_ble_eq_true rfl) List.prefix_rfl (pfx_eq p.kk) rfl rfl (Nat.le_of_ble_eq_true rfl) rfl (dx dX7_number 13 rfl) ?_
        rintro _ h2 ⟨rfl, qh2, uh2⟩ kkh2
        have ph2 := p.tr qh2
        have eN : nmV B z t s e lo hi = -1 := by unfold nmV; exact if_neg (fun x => c1 (tkm_2.mpr x.1))
        exact F.1 _ _ _ _ .boolean rfl (nar_b _) (dx dX7_number 14 rfl) ph2.kk ⟨false, rfl, (show NmP h h2 k z B (t, s, e) v lo hi false from by unfold NmP nmQ; rw [if_pos eN]; exact ⟨rfl, ph2, uh2⟩)⟩)
  · first
    | (omega; done)
    | (
        have c1 : tkm t = 2 := c1
        refine r_aload_n C (dx dX7_number 4 rfl) rfl ?_
        refine g_X7_147 C (dx dX7_number 5 rfl) rfl ?_
        refine r_iload_n C (dx dX7_number 6 rfl) rfl ?_
        refine r_i2l C (dx dX7_number 7 rfl) ?_
        refine r_iload_n C (dx dX7_number 8 rfl) rfl ?_
        refine r_i2l C (dx dX7_number 9 rfl) ?_
        refine r_csP (as := [vl (xL h k 26), vl lo.toInt64, vl hi.toInt64]) (st := []) (v := vi (b2i (inL (xL h k 26) lo.toInt64 hi.toInt64))) C X I_X7_in l_X7_67 (c_X7_in _ _ _) (by decide) (Nat.le_of_ble_eq_true rfl) (pfx_eq p.kk) (Nat.le_of_ble_eq_true rfl) rfl (dx dX7_number 10 rfl) ?_
        refine rb_ne (b := inL (xL h k 26) lo.toInt64 hi.toInt64) (tgt := 27) C (dx dX7_number 11 rfl) (by decide) (fun c3 => ?_) (fun c3 => ?_)
        ·
          have c3 : (inL (xL h k 26) lo.toInt64 hi.toInt64) = true := c3
          refine r_aload_n C (dx dX7_number 15 rfl) rfl ?_
          refine r_aload_n C (dx dX7_number 16 rfl) rfl ?_
          refine g_X7_147 C (dx dX7_number 17 rfl) rfl ?_
          refine r_l2i C (dx dX7_number 18 rfl) ?_
          refine p_X7_181 C (dx dX7_number 19 rfl) rfl rfl ?_
          have ph4 : Px h (sI h k 28 ((xL h k 26).toInt32)) k z B (t, s, e) v := p.fd (p.m.f (by decide) (by decide) (by decide) (by decide)) (by decide) (by decide) (by decide) (by decide) (by decide)
          have eh4 : xI (sI h k 28 ((xL h k 26).toInt32)) k 28 = (xL h k 26).toInt32 := by rw [sI_at, if_pos rfl]
          generalize sI h k 28 ((xL h k 26).toInt32) = h4 at ph4 eh4 ⊢
          refine r_aload_n C (dx dX7_number 20 rfl) rfl ?_
          refine r_cv (as := []) (st := []) C X I_X7_look l_X7_184 (e_look (fun i9 hi9 => ph4.tp hi9) ph4.lk) (by decide) (Nat.le_of_ble_eq_true rfl) List.prefix_rfl (pfx_eq ph4.kk) rfl rfl (Nat.le_of_ble_eq_true rfl) rfl (dx dX7_number 21 rfl) ?_
          rintro _ h5 ⟨rfl, qh5, uh5⟩ kkh5
          have ph5 : Px h h5 k z B ((stp B z e).1, (stp B z e).2.1, (stp B z e).2.2) v := ph4.tr qh5
          have seh5 := ph5.se
          have ezh5 := ph5.ez
          have eh5 := uh5.trans eh4
          refine r_iconst (v := nI 1) C (dx dX7_number 22 rfl) rfl ?_
          have ht := tkm_2.mp c1
          have nn := nm_inL (lo := lo) (hi := hi) (tk_dg tk) ez ht hhi
          rw [← p.e26 ht, c3] at nn
          have eN : ¬ nmV B z t s e lo hi = -1 := of_decide_eq_true nn.1.symm
          exact F.1 _ _ _ _ .boolean rfl rfl (dx dX7_number 23 rfl) ph5.kk ⟨true, rfl, (show NmP h h5 k z B (t, s, e) v lo hi true from by unfold NmP nmQ; rw [if_neg eN]; exact ⟨rfl, ph5, eh5.trans (nn.2 rfl)⟩)⟩
        ·
          have c3 : (inL (xL h k 26) lo.toInt64 hi.toInt64) = false := c3
          refine r_aload_n C (dx dX7_number 12 rfl) rfl ?_
          refine r_cv (as := []) (st := []) C X I_X7_wrong l_X7_177 (e_wrong p.slf) (by decide) (Nat.le_of_ble_eq_true rfl) List.prefix_rfl (pfx_eq p.kk) rfl rfl (Nat.le_of_ble_eq_true rfl) rfl (dx dX7_number 13 rfl) ?_
          rintro _ h6 ⟨rfl, qh6, uh6⟩ kkh6
          have ph6 := p.tr qh6
          have ht := tkm_2.mp c1
          have nn := nm_inL (lo := lo) (hi := hi) (tk_dg tk) ez ht hhi
          rw [← p.e26 ht, c3] at nn
          have eN : nmV B z t s e lo hi = -1 := Classical.not_not.mp (of_decide_eq_false nn.1.symm)
          exact F.1 _ _ _ _ .boolean rfl (nar_b _) (dx dX7_number 14 rfl) ph6.kk ⟨false, rfl, (show NmP h h6 k z B (t, s, e) v lo hi false from by unfold NmP nmQ; rw [if_pos eN]; exact ⟨rfl, ph6, uh6⟩)⟩)
section NmPs
variable {h0 h h' : Hp} {k z i : Nat} {B : Nat → Int32} {q : Tkn} {v : Vg} {lo hi : Int32} {b : Bool}
theorem NmP.t (g : NmP h h' k z B q v lo hi true) : ¬ nmQ B z q lo hi = -1 ∧ Px h h' k z B (stp B z q.2.2) v ∧ xI h' k 28 = nmQ B z q lo hi := by
  unfold NmP at g
  split at g
  · exact absurd g.1 (by decide)
  · next c => exact ⟨c, g.2⟩
theorem NmP.f (g : NmP h h' k z B q v lo hi false) : nmQ B z q lo hi = -1 ∧ Px h h' k z B q v ∧ xI h' k 27 = nI q.2.1 := by
  unfold NmP at g
  split at g
  · next c => exact ⟨c, g.2⟩
  · exact absurd g.1 (by decide)
theorem NmP.pre {q0 : Tkn} {v0 : Vg} (p : Px h0 h k z B q0 v0) (g : NmP h h' k z B q v lo hi b) : NmP h0 h' k z B q v lo hi b := by
  unfold NmP at g ⊢
  split
  · next c => rw [if_pos c] at g; exact ⟨g.1, p.tr g.2.1, g.2.2⟩
  · next c => rw [if_neg c] at g; exact ⟨g.1, p.tr g.2.1, g.2.2⟩
def TlP (h h' : Hp) (k z : Nat) (B : Nat → Int32) (i : Nat) (q : Tkn) (v : Vg) (lo hi : Int32) (b : Bool) : Prop := if wdB i B z q.1 q.2.1 q.2.2 = true then NmP h h' k z B (stp B z q.2.2) v lo hi b else b = false ∧ Px h h' k z B q v ∧ xI h' k 27 = nI q.2.1
theorem TlP.t (g : TlP h h' k z B i q v lo hi true) : wdB i B z q.1 q.2.1 q.2.2 = true ∧ NmP h h' k z B (stp B z q.2.2) v lo hi true := by
  unfold TlP at g
  split at g
  · next c => exact ⟨c, g⟩
  · exact absurd g.1 (by decide)
end NmPs
set_option maxHeartbeats 4000000 in
theorem e_tells {l : Launch} {h : Hp} {k z t s e : Nat} {B : Nat → Int32} {v : Vg} (p : Px h h k z B (t, s, e) v) {i : Nat} (hi9 : i < 10) (lo hi : Int32) (hhi : ¬ nI 99 < hi) : Ms l yX7_tells cX7_tells 4 (some .boolean) 6 [vr 7 k, vt (1000 + i), vi lo, vi hi] h (xK h) (fun r h' => ∃ b, r = some (vi (b2i b)) ∧ TlP h h' k z B i (t, s, e) v lo hi b) := by
  refine Ms.of (by decide) (Nat.le_of_ble_eq_true rfl) (fun G C X F => ?_)
  have C : Cx G cX7_tells 4 RX7 := C
  show Rr G 0 [(0, vr 7 k), (1, vt (1000 + i)), (2, vi lo), (3, vi hi)] [] h
  have se := p.se
  have ez := p.ez
  have bz := p.bz
  have bP := p.m.bP
  have bM := p.m.bM
  have bN := p.m.bN
  have t5 : tkm t < 5 := by unfold tkm; split <;> omega
  refine r_aload_n C (dx dX7_tells 0 rfl) rfl ?_
  refine r_aload_nT C (dx dX7_tells 1 rfl) rfl ?_
  refine r_cvP (as := [vt (1000 + i)]) (st := []) (v := vi (b2i (wdB i B z t s e))) C X I_X7_isWord l_X7_187 (e_isWord p.slf hi9) (by decide) (Nat.le_of_ble_eq_true rfl) (pfx_eq p.kk) rfl rfl (Nat.le_of_ble_eq_true rfl) rfl (dx dX7_tells 2 rfl) ?_
  refine rb_ne (b := wdB i B z t s e) (tgt := 13) C (dx dX7_tells 3 rfl) (by decide) (fun c1 => ?_) (fun c1 => ?_)
  ·
    have c1 : (wdB i B z t s e) = true := c1
    refine r_aload_n C (dx dX7_tells 7 rfl) rfl ?_
    refine r_cv (as := []) (st := []) C X I_X7_look l_X7_184 (e_look (fun i9 hi9 => p.tp hi9) p.lk) (by decide) (Nat.le_of_ble_eq_true rfl) List.prefix_rfl (pfx_eq p.kk) rfl rfl (Nat.le_of_ble_eq_true rfl) rfl (dx dX7_tells 8 rfl) ?_
    rintro _ h2 ⟨rfl, qh2, uh2⟩ kkh2
    have ph2 : Px h h2 k z B ((stp B z e).1, (stp B z e).2.1, (stp B z e).2.2) v := p.tr qh2
    have seh2 := ph2.se
    have ezh2 := ph2.ez
    refine r_aload_n C (dx dX7_tells 9 rfl) rfl ?_
    refine r_iload_n C (dx dX7_tells 10 rfl) rfl ?_
    refine r_iload_n C (dx dX7_tells 11 rfl) rfl ?_
    refine r_cv (as := [vi lo, vi hi]) (st := []) C X I_X7_number l_X7_191 (e_number ph2.slf ⟨e, by omega, rfl⟩ lo hi hhi) (by decide) (Nat.le_of_ble_eq_true rfl) List.prefix_rfl (pfx_eq ph2.kk) rfl rfl (Nat.le_of_ble_eq_true rfl) rfl (dx dX7_tells 12 rfl) ?_
    rintro _ h3 ⟨bh3, rfl, gh3⟩ kkh3
    have kh3 : xK h3 = xK h := kkh3.trans ph2.kk
    have gh3 := NmP.pre ph2 gh3
    exact F.1 _ _ _ _ .boolean rfl (nar_b _) (dx dX7_tells 13 rfl) kh3 ⟨bh3, rfl, (show TlP h h3 k z B i (t, s, e) v lo hi bh3 from by unfold TlP; rw [if_pos c1]; exact gh3)⟩
  ·
    have c1 : (wdB i B z t s e) = false := c1
    refine r_aload_n C (dx dX7_tells 4 rfl) rfl ?_
    refine r_cv (as := []) (st := []) C X I_X7_wrong l_X7_177 (e_wrong p.slf) (by decide) (Nat.le_of_ble_eq_true rfl) List.prefix_rfl (pfx_eq p.kk) rfl rfl (Nat.le_of_ble_eq_true rfl) rfl (dx dX7_tells 5 rfl) ?_
    rintro _ h4 ⟨rfl, qh4, uh4⟩ kkh4
    have ph4 := p.tr qh4
    exact F.1 _ _ _ _ .boolean rfl (nar_b _) (dx dX7_tells 6 rfl) ph4.kk ⟨false, rfl, (show TlP h h4 k z B i (t, s, e) v lo hi false from by unfold TlP; rw [if_neg (by rw [show wdB i B z t s e = false from c1]; decide)]; exact ⟨rfl, ph4, uh4⟩)⟩
theorem le99 : ∀ n : Fin 13, ¬ nI 99 < nI n.val - nI 1 := by decide +kernel
def gtO (B : Nat → Int32) (z : Nat) (q : Tkn) (v : Vg) : Int32 := nmQ B z q (nI 0) (nI (vN v) - nI 1)
def GtP (h h' : Hp) (k z : Nat) (B : Nat → Int32) (q : Tkn) (v : Vg) (c j : Nat) (b : Bool) : Prop := if gtO B z q v = -1 ∨ (¬ vF v c j = gtO B z q v ∧ hasRm v (gtO B z q v) = false) then b = false ∧ Px h h' k z B q v ∧ xI h' k 27 = nI q.2.1 else b = true ∧ Px h h' k z B (stp B z q.2.2) (vset v c j (gtO B z q v))
set_option maxHeartbeats 4000000 in
theorem e_gets {l : Launch} {h : Hp} {k z t s e : Nat} {B : Nat → Int32} {v : Vg} (p : Px h h k z B (t, s, e) v) (tk : TkR B z (t, s, e)) {j : Nat} (hj : j < vP v) (b : Bool) : Ms l yX7_gets cX7_gets 5 (some .boolean) 3 [vr 7 k, vi (nI j), vi (b2i b)] h (xK h) (fun r h' => ∃ b9, r = some (vi (b2i b9)) ∧ GtP h h' k z B (t, s, e) v (cond b 1 0) j b9) := by
  refine Ms.of (by decide) (Nat.le_of_ble_eq_true rfl) (fun G C X F => ?_)
  have C : Cx G cX7_gets 5 RX7 := C
  show Rr G 0 [(0, vr 7 k), (1, vi (nI j)), (2, vi (b2i b))] [] h
  have se := p.se
  have ez := p.ez
  have bz := p.bz
  have bP := p.m.bP
  have bM := p.m.bM
  have bN := p.m.bN
  have t5 : tkm t < 5 := by unfold tkm; split <;> omega
  refine r_iload_n C (dx dX7_gets 0 rfl) rfl ?_
  refine rb_eq (b := b) (tgt := 11) C (dx dX7_gets 1 rfl) (by decide) (fun c1 => ?_) (fun c1 => ?_)
  ·
    have c1 : b = false := c1
    refine r_aload_n C (dx dX7_gets 5 rfl) rfl ?_
    refine g_X7_40 C (dx dX7_gets 6 rfl) ?_
    refine r_astore_n (ls' := [(0, vr 7 k), (1, vi (nI j)), (2, vi (b2i b)), (3, vr 20 (k + 18))]) C (dx dX7_gets 7 rfl) (by decide) [1, 2, 3, 0] rfl ?_
    refine r_aload_n C (dx dX7_gets 8 rfl) rfl ?_
    refine g_X7_151 (x := nI (tkm t)) C (dx dX7_gets 9 rfl) p.e24 ?_
    refine r_iconst (v := nI 2) C (dx dX7_gets 10 rfl) rfl ?_
    refine rn_ne (a := tkm t) (b := 2) (tgt := 42) C (by omega) (by omega) (dx dX7_gets 11 rfl) (by decide) (fun c2 => ?_) (fun c2 => ?_)
    · first
      | (omega; done)
      | (
          have c2 : ¬ tkm t = 2 := c2
          have eN : gtO B z (t, s, e) v = -1 := by unfold gtO nmQ nmV; exact if_neg (fun x => c2 (tkm_2.mpr x.1))
          refine r_aload_n C (dx dX7_gets 22 rfl) rfl ?_
          refine r_cv (as := []) (st := []) C X I_X7_wrong l_X7_177 (e_wrong p.slf) (by decide) (Nat.le_of_ble_eq_true rfl) List.prefix_rfl (pfx_eq p.kk) rfl rfl (Nat.le_of_ble_eq_true rfl) rfl (dx dX7_gets 23 rfl) ?_
          rintro _ h3 ⟨rfl, qh3, uh3⟩ kkh3
          have ph3 := p.tr qh3
          exact F.1 _ _ _ _ .boolean rfl (nar_b _) (dx dX7_gets 24 rfl) ph3.kk ⟨false, rfl, (show GtP h h3 k z B (t, s, e) v (cond b 1 0) j false from by rw [c1]; unfold GtP; rw [show cond false 1 0 = 0 from rfl]; rw [if_pos (Or.inl eN)]; exact ⟨rfl, ph3, uh3⟩)⟩)
    · first
      | (omega; done)
      | (
          have c2 : tkm t = 2 := c2
          refine r_aload_n C (dx dX7_gets 12 rfl) rfl ?_
          refine g_X7_147 C (dx dX7_gets 13 rfl) rfl ?_
          refine r_lconst (v := 0) C (dx dX7_gets 14 rfl) rfl ?_
          refine r_aload_n C (dx dX7_gets 15 rfl) rfl ?_
          refine g_X7_74 (x := nI (vN v)) C (dx dX7_gets 16 rfl) p.m.eN ?_
          refine r_iconst (v := nI 1) C (dx dX7_gets 17 rfl) rfl ?_
          refine r_isub C (dx dX7_gets 18 rfl) ?_
          refine r_i2l C (dx dX7_gets 19 rfl) ?_
          refine r_csP (as := [vl (xL h k 26), vl 0, vl (((nI (vN v)) - (nI 1)).toInt64)]) (st := []) (v := vi (b2i (inL (xL h k 26) 0 (((nI (vN v)) - (nI 1)).toInt64)))) C X I_X7_in l_X7_67 (c_X7_in _ _ _) (by decide) (Nat.le_of_ble_eq_true rfl) (pfx_eq p.kk) (Nat.le_of_ble_eq_true rfl) rfl (dx dX7_gets 20 rfl) ?_
          refine rb_ne (b := inL (xL h k 26) 0 (((nI (vN v)) - (nI 1)).toInt64)) (tgt := 47) C (dx dX7_gets 21 rfl) (by decide) (fun c4 => ?_) (fun c4 => ?_)
          ·
            have c4 : (inL (xL h k 26) 0 (((nI (vN v)) - (nI 1)).toInt64)) = true := c4
            have ht := tkm_2.mp c2
            have nn := nm_inL (lo := nI 0) (hi := nI (vN v) - nI 1) (tk_dg tk) ez ht (le99 ⟨vN v, by omega⟩)
            rw [show (nI 0).toInt64 = 0 by decide, ← p.e26 ht, c4] at nn
            obtain ⟨o9, ho9, eo9⟩ := inL_e0 (n := vN v) (by omega) c4
            have eO : gtO B z (t, s, e) v = nI o9 := (nn.2 rfl).symm.trans eo9
            refine r_aload_n C (dx dX7_gets 25 rfl) rfl ?_
            refine g_X7_147 C (dx dX7_gets 26 rfl) rfl ?_
            refine r_l2i C (dx dX7_gets 27 rfl) ?_
            rw [eo9]
            refine r_istore (ls' := [(0, vr 7 k), (1, vi (nI j)), (2, vi (b2i b)), (3, vr 20 (k + 18)), (4, vi (nI o9))]) C (dx dX7_gets 28 rfl) (by decide) [1, 2, 3, 4, 0] rfl ?_
            refine r_aload_n C (dx dX7_gets 29 rfl) rfl ?_
            refine r_iload_n C (dx dX7_gets 30 rfl) rfl ?_
            refine r_iald (j := j) (x := vF v 0 j) C rfl rfl (by decide) rfl (by omega) (dx dX7_gets 31 rfl) (p.m.e0 (by omega)) ?_
            refine r_iload C (dx dX7_gets 32 rfl) rfl ?_
            refine r_icmp_eq (tgt := 76) C (dx dX7_gets 33 rfl) (by decide) (fun c5 => ?_) (fun c5 => ?_)
            ·
              have c5 : vF v 0 j = nI o9 := c5
              refine r_aload_n C (dx dX7_gets 41 rfl) rfl ?_
              refine r_iload_n C (dx dX7_gets 42 rfl) rfl ?_
              refine r_iload C (dx dX7_gets 43 rfl) rfl ?_
              refine r_iast (j := j) C rfl rfl (by decide) rfl (by omega) (dx dX7_gets 44 rfl) ?_
              have ph6 : Px h (sI h (k + 18) j (nI o9)) k z B (t, s, e) (vset v 0 j (nI o9)) := p.c (p.m.s0) (by omega) (by omega)
              generalize sI h (k + 18) j (nI o9) = h6 at ph6 ⊢
              refine r_aload_n C (dx dX7_gets 45 rfl) rfl ?_
              refine r_cv (as := []) (st := []) C X I_X7_look l_X7_184 (e_look (fun i9 hi9 => ph6.tp hi9) ph6.lk) (by decide) (Nat.le_of_ble_eq_true rfl) List.prefix_rfl (pfx_eq ph6.kk) rfl rfl (Nat.le_of_ble_eq_true rfl) rfl (dx dX7_gets 46 rfl) ?_
              rintro _ h7 ⟨rfl, qh7, uh7⟩ kkh7
              have ph7 : Px h h7 k z B ((stp B z e).1, (stp B z e).2.1, (stp B z e).2.2) (vset v 0 j (nI o9)) := ph6.tr qh7
              have seh7 := ph7.se
              have ezh7 := ph7.ez
              refine r_iconst (v := nI 1) C (dx dX7_gets 47 rfl) rfl ?_
              exact F.1 _ _ _ _ .boolean rfl rfl (dx dX7_gets 48 rfl) ph7.kk ⟨true, rfl, (show GtP h h7 k z B (t, s, e) v (cond b 1 0) j true from by rw [c1]; unfold GtP; rw [show cond false 1 0 = 0 from rfl]; rw [if_neg (fun x => x.elim (fun y => nI_nm1 (o := o9) (by omega) (eO.symm.trans y)) (fun y => y.1 (c5.trans eO.symm))), eO]; exact ⟨rfl, ph7⟩)⟩
            ·
              have c5 : ¬ vF v 0 j = nI o9 := c5
              refine r_aload_n C (dx dX7_gets 34 rfl) rfl ?_
              refine r_iload C (dx dX7_gets 35 rfl) rfl ?_
              refine r_cvP (as := [vi (nI o9)]) (st := []) (v := vi (b2i (hasRm v (nI o9)))) C X I_X7_hasRoom l_X7_135 (e_hasRoom p.m (j := o9) (by omega)) (by decide) (Nat.le_of_ble_eq_true rfl) (pfx_eq p.kk) rfl rfl (Nat.le_of_ble_eq_true rfl) rfl (dx dX7_gets 36 rfl) ?_
              refine rb_ne (b := hasRm v (nI o9)) (tgt := 76) C (dx dX7_gets 37 rfl) (by decide) (fun c8 => ?_) (fun c8 => ?_)
              ·
                have c8 : (hasRm v (nI o9)) = true := c8
                refine r_aload_n C (dx dX7_gets 41 rfl) rfl ?_
                refine r_iload_n C (dx dX7_gets 42 rfl) rfl ?_
                refine r_iload C (dx dX7_gets 43 rfl) rfl ?_
                refine r_iast (j := j) C rfl rfl (by decide) rfl (by omega) (dx dX7_gets 44 rfl) ?_
                have ph9 : Px h (sI h (k + 18) j (nI o9)) k z B (t, s, e) (vset v 0 j (nI o9)) := p.c (p.m.s0) (by omega) (by omega)
                generalize sI h (k + 18) j (nI o9) = h9 at ph9 ⊢
                refine r_aload_n C (dx dX7_gets 45 rfl) rfl ?_
                refine r_cv (as := []) (st := []) C X I_X7_look l_X7_184 (e_look (fun i9 hi9 => ph9.tp hi9) ph9.lk) (by decide) (Nat.le_of_ble_eq_true rfl) List.prefix_rfl (pfx_eq ph9.kk) rfl rfl (Nat.le_of_ble_eq_true rfl) rfl (dx dX7_gets 46 rfl) ?_
                rintro _ h10 ⟨rfl, qh10, uh10⟩ kkh10
                have ph10 : Px h h10 k z B ((stp B z e).1, (stp B z e).2.1, (stp B z e).2.2) (vset v 0 j (nI o9)) := ph9.tr qh10
                have seh10 := ph10.se
                have ezh10 := ph10.ez
                refine r_iconst (v := nI 1) C (dx dX7_gets 47 rfl) rfl ?_
                exact F.1 _ _ _ _ .boolean rfl rfl (dx dX7_gets 48 rfl) ph10.kk ⟨true, rfl, (show GtP h h10 k z B (t, s, e) v (cond b 1 0) j true from by rw [c1]; unfold GtP; rw [show cond false 1 0 = 0 from rfl]; rw [if_neg (fun x => x.elim (fun y => nI_nm1 (o := o9) (by omega) (eO.symm.trans y)) (fun y => (by have y2 := y.2; rw [eO, c8] at y2; exact absurd y2 (by decide)))), eO]; exact ⟨rfl, ph10⟩)⟩
              ·
                have c8 : (hasRm v (nI o9)) = false := c8
                refine r_aload_n C (dx dX7_gets 38 rfl) rfl ?_
                refine r_cv (as := []) (st := []) C X I_X7_wrong l_X7_177 (e_wrong p.slf) (by decide) (Nat.le_of_ble_eq_true rfl) List.prefix_rfl (pfx_eq p.kk) rfl rfl (Nat.le_of_ble_eq_true rfl) rfl (dx dX7_gets 39 rfl) ?_
                rintro _ h11 ⟨rfl, qh11, uh11⟩ kkh11
                have ph11 := p.tr qh11
                exact F.1 _ _ _ _ .boolean rfl (nar_b _) (dx dX7_gets 40 rfl) ph11.kk ⟨false, rfl, (show GtP h h11 k z B (t, s, e) v (cond b 1 0) j false from by rw [c1]; unfold GtP; rw [show cond false 1 0 = 0 from rfl]; rw [if_pos (Or.inr ⟨by rw [eO]; exact c5, by rw [eO]; exact c8⟩)]; exact ⟨rfl, ph11, uh11⟩)⟩
          ·
            have c4 : (inL (xL h k 26) 0 (((nI (vN v)) - (nI 1)).toInt64)) = false := c4
            have ht := tkm_2.mp c2
            have nn := nm_inL (lo := nI 0) (hi := nI (vN v) - nI 1) (tk_dg tk) ez ht (le99 ⟨vN v, by omega⟩)
            rw [show (nI 0).toInt64 = 0 by decide, ← p.e26 ht, c4] at nn
            have eN : gtO B z (t, s, e) v = -1 := Classical.not_not.mp (of_decide_eq_false nn.1.symm)
            refine r_aload_n C (dx dX7_gets 22 rfl) rfl ?_
            refine r_cv (as := []) (st := []) C X I_X7_wrong l_X7_177 (e_wrong p.slf) (by decide) (Nat.le_of_ble_eq_true rfl) List.prefix_rfl (pfx_eq p.kk) rfl rfl (Nat.le_of_ble_eq_true rfl) rfl (dx dX7_gets 23 rfl) ?_
            rintro _ h12 ⟨rfl, qh12, uh12⟩ kkh12
            have ph12 := p.tr qh12
            exact F.1 _ _ _ _ .boolean rfl (nar_b _) (dx dX7_gets 24 rfl) ph12.kk ⟨false, rfl, (show GtP h h12 k z B (t, s, e) v (cond b 1 0) j false from by rw [c1]; unfold GtP; rw [show cond false 1 0 = 0 from rfl]; rw [if_pos (Or.inl eN)]; exact ⟨rfl, ph12, uh12⟩)⟩)
  ·
    have c1 : b = true := c1
    refine r_aload_n C (dx dX7_gets 2 rfl) rfl ?_
    refine g_X7_43 C (dx dX7_gets 3 rfl) ?_
    refine r_goto (tgt := 15) C (dx dX7_gets 4 rfl) (by decide) ?_
    refine r_astore_n (ls' := [(0, vr 7 k), (1, vi (nI j)), (2, vi (b2i b)), (3, vr 20 (k + 19))]) C (dx dX7_gets 7 rfl) (by decide) [1, 2, 3, 0] rfl ?_
    refine r_aload_n C (dx dX7_gets 8 rfl) rfl ?_
    refine g_X7_151 (x := nI (tkm t)) C (dx dX7_gets 9 rfl) p.e24 ?_
    refine r_iconst (v := nI 2) C (dx dX7_gets 10 rfl) rfl ?_
    refine rn_ne (a := tkm t) (b := 2) (tgt := 42) C (by omega) (by omega) (dx dX7_gets 11 rfl) (by decide) (fun c13 => ?_) (fun c13 => ?_)
    · first
      | (omega; done)
      | (
          have c13 : ¬ tkm t = 2 := c13
          have eN : gtO B z (t, s, e) v = -1 := by unfold gtO nmQ nmV; exact if_neg (fun x => c13 (tkm_2.mpr x.1))
          refine r_aload_n C (dx dX7_gets 22 rfl) rfl ?_
          refine r_cv (as := []) (st := []) C X I_X7_wrong l_X7_177 (e_wrong p.slf) (by decide) (Nat.le_of_ble_eq_true rfl) List.prefix_rfl (pfx_eq p.kk) rfl rfl (Nat.le_of_ble_eq_true rfl) rfl (dx dX7_gets 23 rfl) ?_
          rintro _ h14 ⟨rfl, qh14, uh14⟩ kkh14
          have ph14 := p.tr qh14
          exact F.1 _ _ _ _ .boolean rfl (nar_b _) (dx dX7_gets 24 rfl) ph14.kk ⟨false, rfl, (show GtP h h14 k z B (t, s, e) v (cond b 1 0) j false from by rw [c1]; unfold GtP; rw [show cond true 1 0 = 1 from rfl]; rw [if_pos (Or.inl eN)]; exact ⟨rfl, ph14, uh14⟩)⟩)
    · first
      | (omega; done)
      | (
          have c13 : tkm t = 2 := c13
          refine r_aload_n C (dx dX7_gets 12 rfl) rfl ?_
          refine g_X7_147 C (dx dX7_gets 13 rfl) rfl ?_
          refine r_lconst (v := 0) C (dx dX7_gets 14 rfl) rfl ?_
          refine r_aload_n C (dx dX7_gets 15 rfl) rfl ?_
          refine g_X7_74 (x := nI (vN v)) C (dx dX7_gets 16 rfl) p.m.eN ?_
          refine r_iconst (v := nI 1) C (dx dX7_gets 17 rfl) rfl ?_
          refine r_isub C (dx dX7_gets 18 rfl) ?_
          refine r_i2l C (dx dX7_gets 19 rfl) ?_
          refine r_csP (as := [vl (xL h k 26), vl 0, vl (((nI (vN v)) - (nI 1)).toInt64)]) (st := []) (v := vi (b2i (inL (xL h k 26) 0 (((nI (vN v)) - (nI 1)).toInt64)))) C X I_X7_in l_X7_67 (c_X7_in _ _ _) (by decide) (Nat.le_of_ble_eq_true rfl) (pfx_eq p.kk) (Nat.le_of_ble_eq_true rfl) rfl (dx dX7_gets 20 rfl) ?_
          refine rb_ne (b := inL (xL h k 26) 0 (((nI (vN v)) - (nI 1)).toInt64)) (tgt := 47) C (dx dX7_gets 21 rfl) (by decide) (fun c15 => ?_) (fun c15 => ?_)
          ·
            have c15 : (inL (xL h k 26) 0 (((nI (vN v)) - (nI 1)).toInt64)) = true := c15
            have ht := tkm_2.mp c13
            have nn := nm_inL (lo := nI 0) (hi := nI (vN v) - nI 1) (tk_dg tk) ez ht (le99 ⟨vN v, by omega⟩)
            rw [show (nI 0).toInt64 = 0 by decide, ← p.e26 ht, c15] at nn
            obtain ⟨o9, ho9, eo9⟩ := inL_e0 (n := vN v) (by omega) c15
            have eO : gtO B z (t, s, e) v = nI o9 := (nn.2 rfl).symm.trans eo9
            refine r_aload_n C (dx dX7_gets 25 rfl) rfl ?_
            refine g_X7_147 C (dx dX7_gets 26 rfl) rfl ?_
            refine r_l2i C (dx dX7_gets 27 rfl) ?_
            rw [eo9]
            refine r_istore (ls' := [(0, vr 7 k), (1, vi (nI j)), (2, vi (b2i b)), (3, vr 20 (k + 19)), (4, vi (nI o9))]) C (dx dX7_gets 28 rfl) (by decide) [1, 2, 3, 4, 0] rfl ?_
            refine r_aload_n C (dx dX7_gets 29 rfl) rfl ?_
            refine r_iload_n C (dx dX7_gets 30 rfl) rfl ?_
            refine r_iald (j := j) (x := vF v 1 j) C rfl rfl (by decide) rfl (by omega) (dx dX7_gets 31 rfl) (p.m.e1 (by omega)) ?_
            refine r_iload C (dx dX7_gets 32 rfl) rfl ?_
            refine r_icmp_eq (tgt := 76) C (dx dX7_gets 33 rfl) (by decide) (fun c16 => ?_) (fun c16 => ?_)
            ·
              have c16 : vF v 1 j = nI o9 := c16
              refine r_aload_n C (dx dX7_gets 41 rfl) rfl ?_
              refine r_iload_n C (dx dX7_gets 42 rfl) rfl ?_
              refine r_iload C (dx dX7_gets 43 rfl) rfl ?_
              refine r_iast (j := j) C rfl rfl (by decide) rfl (by omega) (dx dX7_gets 44 rfl) ?_
              have ph17 : Px h (sI h (k + 19) j (nI o9)) k z B (t, s, e) (vset v 1 j (nI o9)) := p.c (p.m.s1) (by omega) (by omega)
              generalize sI h (k + 19) j (nI o9) = h17 at ph17 ⊢
              refine r_aload_n C (dx dX7_gets 45 rfl) rfl ?_
              refine r_cv (as := []) (st := []) C X I_X7_look l_X7_184 (e_look (fun i9 hi9 => ph17.tp hi9) ph17.lk) (by decide) (Nat.le_of_ble_eq_true rfl) List.prefix_rfl (pfx_eq ph17.kk) rfl rfl (Nat.le_of_ble_eq_true rfl) rfl (dx dX7_gets 46 rfl) ?_
              rintro _ h18 ⟨rfl, qh18, uh18⟩ kkh18
              have ph18 : Px h h18 k z B ((stp B z e).1, (stp B z e).2.1, (stp B z e).2.2) (vset v 1 j (nI o9)) := ph17.tr qh18
              have seh18 := ph18.se
              have ezh18 := ph18.ez
              refine r_iconst (v := nI 1) C (dx dX7_gets 47 rfl) rfl ?_
              exact F.1 _ _ _ _ .boolean rfl rfl (dx dX7_gets 48 rfl) ph18.kk ⟨true, rfl, (show GtP h h18 k z B (t, s, e) v (cond b 1 0) j true from by rw [c1]; unfold GtP; rw [show cond true 1 0 = 1 from rfl]; rw [if_neg (fun x => x.elim (fun y => nI_nm1 (o := o9) (by omega) (eO.symm.trans y)) (fun y => y.1 (c16.trans eO.symm))), eO]; exact ⟨rfl, ph18⟩)⟩
            ·
              have c16 : ¬ vF v 1 j = nI o9 := c16
              refine r_aload_n C (dx dX7_gets 34 rfl) rfl ?_
              refine r_iload C (dx dX7_gets 35 rfl) rfl ?_
              refine r_cvP (as := [vi (nI o9)]) (st := []) (v := vi (b2i (hasRm v (nI o9)))) C X I_X7_hasRoom l_X7_135 (e_hasRoom p.m (j := o9) (by omega)) (by decide) (Nat.le_of_ble_eq_true rfl) (pfx_eq p.kk) rfl rfl (Nat.le_of_ble_eq_true rfl) rfl (dx dX7_gets 36 rfl) ?_
              refine rb_ne (b := hasRm v (nI o9)) (tgt := 76) C (dx dX7_gets 37 rfl) (by decide) (fun c19 => ?_) (fun c19 => ?_)
              ·
                have c19 : (hasRm v (nI o9)) = true := c19
                refine r_aload_n C (dx dX7_gets 41 rfl) rfl ?_
                refine r_iload_n C (dx dX7_gets 42 rfl) rfl ?_
                refine r_iload C (dx dX7_gets 43 rfl) rfl ?_
                refine r_iast (j := j) C rfl rfl (by decide) rfl (by omega) (dx dX7_gets 44 rfl) ?_
                have ph20 : Px h (sI h (k + 19) j (nI o9)) k z B (t, s, e) (vset v 1 j (nI o9)) := p.c (p.m.s1) (by omega) (by omega)
                generalize sI h (k + 19) j (nI o9) = h20 at ph20 ⊢
                refine r_aload_n C (dx dX7_gets 45 rfl) rfl ?_
                refine r_cv (as := []) (st := []) C X I_X7_look l_X7_184 (e_look (fun i9 hi9 => ph20.tp hi9) ph20.lk) (by decide) (Nat.le_of_ble_eq_true rfl) List.prefix_rfl (pfx_eq ph20.kk) rfl rfl (Nat.le_of_ble_eq_true rfl) rfl (dx dX7_gets 46 rfl) ?_
                rintro _ h21 ⟨rfl, qh21, uh21⟩ kkh21
                have ph21 : Px h h21 k z B ((stp B z e).1, (stp B z e).2.1, (stp B z e).2.2) (vset v 1 j (nI o9)) := ph20.tr qh21
                have seh21 := ph21.se
                have ezh21 := ph21.ez
                refine r_iconst (v := nI 1) C (dx dX7_gets 47 rfl) rfl ?_
                exact F.1 _ _ _ _ .boolean rfl rfl (dx dX7_gets 48 rfl) ph21.kk ⟨true, rfl, (show GtP h h21 k z B (t, s, e) v (cond b 1 0) j true from by rw [c1]; unfold GtP; rw [show cond true 1 0 = 1 from rfl]; rw [if_neg (fun x => x.elim (fun y => nI_nm1 (o := o9) (by omega) (eO.symm.trans y)) (fun y => (by have y2 := y.2; rw [eO, c19] at y2; exact absurd y2 (by decide)))), eO]; exact ⟨rfl, ph21⟩)⟩
              ·
                have c19 : (hasRm v (nI o9)) = false := c19
                refine r_aload_n C (dx dX7_gets 38 rfl) rfl ?_
                refine r_cv (as := []) (st := []) C X I_X7_wrong l_X7_177 (e_wrong p.slf) (by decide) (Nat.le_of_ble_eq_true rfl) List.prefix_rfl (pfx_eq p.kk) rfl rfl (Nat.le_of_ble_eq_true rfl) rfl (dx dX7_gets 39 rfl) ?_
                rintro _ h22 ⟨rfl, qh22, uh22⟩ kkh22
                have ph22 := p.tr qh22
                exact F.1 _ _ _ _ .boolean rfl (nar_b _) (dx dX7_gets 40 rfl) ph22.kk ⟨false, rfl, (show GtP h h22 k z B (t, s, e) v (cond b 1 0) j false from by rw [c1]; unfold GtP; rw [show cond true 1 0 = 1 from rfl]; rw [if_pos (Or.inr ⟨by rw [eO]; exact c16, by rw [eO]; exact c19⟩)]; exact ⟨rfl, ph22, uh22⟩)⟩
          ·
            have c15 : (inL (xL h k 26) 0 (((nI (vN v)) - (nI 1)).toInt64)) = false := c15
            have ht := tkm_2.mp c13
            have nn := nm_inL (lo := nI 0) (hi := nI (vN v) - nI 1) (tk_dg tk) ez ht (le99 ⟨vN v, by omega⟩)
            rw [show (nI 0).toInt64 = 0 by decide, ← p.e26 ht, c15] at nn
            have eN : gtO B z (t, s, e) v = -1 := Classical.not_not.mp (of_decide_eq_false nn.1.symm)
            refine r_aload_n C (dx dX7_gets 22 rfl) rfl ?_
            refine r_cv (as := []) (st := []) C X I_X7_wrong l_X7_177 (e_wrong p.slf) (by decide) (Nat.le_of_ble_eq_true rfl) List.prefix_rfl (pfx_eq p.kk) rfl rfl (Nat.le_of_ble_eq_true rfl) rfl (dx dX7_gets 23 rfl) ?_
            rintro _ h23 ⟨rfl, qh23, uh23⟩ kkh23
            have ph23 := p.tr qh23
            exact F.1 _ _ _ _ .boolean rfl (nar_b _) (dx dX7_gets 24 rfl) ph23.kk ⟨false, rfl, (show GtP h h23 k z B (t, s, e) v (cond b 1 0) j false from by rw [c1]; unfold GtP; rw [show cond true 1 0 = 1 from rfl]; rw [if_pos (Or.inl eN)]; exact ⟨rfl, ph23, uh23⟩)⟩)
theorem rm_n1 {v : Vg} : hasRm v (-1) = false := by unfold hasRm; rw [show inR (-1) (vN v) = false from inR_neg (by decide)]; rfl
section Gts
variable {h0 h h' : Hp} {k z i c p : Nat} {B : Nat → Int32} {q : Tkn} {v : Vg} {b : Bool}
theorem GtP.pre {q0 : Tkn} {v0 : Vg} (x : Px h0 h k z B q0 v0) (g : GtP h h' k z B q v c p b) : GtP h0 h' k z B q v c p b := by
  unfold GtP at g ⊢
  split
  · next w => rw [if_pos w] at g; exact ⟨g.1, x.tr g.2.1, g.2.2⟩
  · next w => rw [if_neg w] at g; exact ⟨g.1, x.tr g.2⟩
theorem by_0 (w : wdB i B z q.1 q.2.1 q.2.2 = false) : byS B z c i p q v = (true, q, v) := by unfold byS; rw [if_neg (by rw [w]; decide)]
theorem by_t (w : wdB i B z q.1 q.2.1 q.2.2 = true) (hv : vF v c p = -1) (g : GtP h h' k z B (stp B z q.2.2) v c p true) : byS B z c i p q v = (true, stp B z (stp B z q.2.2).2.2, vset v c p (gtO B z (stp B z q.2.2) v)) ∧ Px h h' k z B (stp B z (stp B z q.2.2).2.2) (vset v c p (gtO B z (stp B z q.2.2) v)) := by
  unfold GtP at g
  split at g
  · exact absurd g.1 (by decide)
  · next x =>
    have r : hasRm v (gtO B z (stp B z q.2.2) v) = true := by
      cases y : hasRm v (gtO B z (stp B z q.2.2) v)
      · exact absurd (if e : gtO B z (stp B z q.2.2) v = -1 then Or.inl e else Or.inr ⟨fun z9 => e (z9.symm.trans hv), y⟩) x
      · rfl
    refine ⟨?_, g.2⟩
    unfold byS
    rw [if_pos w]; exact if_pos r
theorem by_f (w : wdB i B z q.1 q.2.1 q.2.2 = true) (g : GtP h h' k z B (stp B z q.2.2) v c p false) : byS B z c i p q v = (false, stp B z q.2.2, v) ∧ Px h h' k z B (stp B z q.2.2) v ∧ xI h' k 27 = nI (stp B z q.2.2).2.1 := by
  unfold GtP at g
  split at g
  · next x =>
    have r : hasRm v (gtO B z (stp B z q.2.2) v) = false := by
      rcases x with x | x
      · rw [x]; exact rm_n1
      · exact x.2
    refine ⟨?_, g.2⟩
    unfold byS
    rw [if_pos w, if_neg (by rw [show hasRm v (nmQ B z (stp B z q.2.2) (nI 0) (nI (vN v) - nI 1)) = false from r]; decide)]
  · exact absurd g.1 (by decide)
def RdP (h h' : Hp) (k z : Nat) (B : Nat → Int32) (w : Rd) (b : Bool) : Prop := b = w.1 ∧ (∃ v', Px h h' k z B w.2.1 v') ∧ (b = true → Px h h' k z B w.2.1 w.2.2) ∧ (b = false → xI h' k 27 = nI w.2.1.2.1)
theorem RdP.t {w : Rd} {q9 : Tkn} {v9 : Vg} (e : w = (true, q9, v9)) (x : Px h h' k z B q9 v9) : RdP h h' k z B w true := by subst e; exact ⟨rfl, ⟨_, x⟩, fun _ => x, fun y => absurd y (by decide)⟩
theorem RdP.f {w : Rd} {q9 : Tkn} {v9 v8 : Vg} (e : w = (false, q9, v9)) (x : Px h h' k z B q9 v8) (f : xI h' k 27 = nI q9.2.1) : RdP h h' k z B w false := by subst e; exact ⟨rfl, ⟨_, x⟩, fun y => absurd y (by decide), fun _ => f⟩
end Gts
set_option maxHeartbeats 4000000 in
theorem p_part {l : Launch} {h : Hp} {k z t s e : Nat} {B : Nat → Int32} {v : Vg} (p : Px h h k z B (t, s, e) v) (h12 : vP v < 12) : Ms l yX7_part cX7_part 1 (some .int) 2 [vr 7 k] h (xK h) (fun r h' => r = some (vi (nI (vP v))) ∧ Px h h' k z B (t, s, e) (addPartV v)) := by
  refine Ms.of (by decide) (Nat.le_of_ble_eq_true rfl) (fun G C X F => ?_)
  have C : Cx G cX7_part 1 RX7 := C
  show Rr G 0 [(0, vr 7 k)] [] h
  have se := p.se
  have ez := p.ez
  have bz := p.bz
  have bP := p.m.bP
  have bM := p.m.bM
  have bN := p.m.bN
  have t5 : tkm t < 5 := by unfold tkm; split <;> omega
  refine r_aload_n C (dx dX7_part 0 rfl) rfl ?_
  refine g_X7_64 (x := nI (vP v)) C (dx dX7_part 1 rfl) p.m.eP ?_
  refine r_bipush (v := nI 12) C (dx dX7_part 2 rfl) rfl ?_
  refine rn_ne (a := vP v) (b := 12) (tgt := 16) C (by omega) (by omega) (dx dX7_part 3 rfl) (by decide) (fun c1 => ?_) (fun c1 => ?_)
  · first
    | (omega; done)
    | (
        have c1 : ¬ vP v = 12 := c1
        refine r_aload_n C (dx dX7_part 8 rfl) rfl ?_
        refine g_X7_40 C (dx dX7_part 9 rfl) ?_
        refine r_aload_n C (dx dX7_part 10 rfl) rfl ?_
        refine g_X7_64 (x := nI (vP v)) C (dx dX7_part 11 rfl) p.m.eP ?_
        refine r_iconst (v := -1) C (dx dX7_part 12 rfl) rfl ?_
        refine r_iast (j := vP v) C rfl rfl (by decide) rfl (by omega) (dx dX7_part 13 rfl) ?_
        have ph2 : Px h (sI h (k + 18) (vP v) (-1)) k z B (t, s, e) (vset v 0 (vP v) (-1)) := p.c (p.m.s0) (by omega) (by omega)
        generalize sI h (k + 18) (vP v) (-1) = h2 at ph2 ⊢
        refine r_aload_n C (dx dX7_part 14 rfl) rfl ?_
        refine g_X7_43 C (dx dX7_part 15 rfl) ?_
        refine r_aload_n C (dx dX7_part 16 rfl) rfl ?_
        refine g_X7_64 (x := nI (vP v)) C (dx dX7_part 17 rfl) ph2.m.eP ?_
        refine r_iconst (v := -1) C (dx dX7_part 18 rfl) rfl ?_
        refine r_iast (j := vP v) C rfl rfl (by decide) rfl (by omega) (dx dX7_part 19 rfl) ?_
        have ph3 : Px h (sI h2 (k + 19) (vP v) (-1)) k z B (t, s, e) (vset (vset v 0 (vP v) (-1)) 1 (vP v) (-1)) := ph2.c (ph2.m.s1) (by omega) (by omega)
        generalize sI h2 (k + 19) (vP v) (-1) = h3 at ph3 ⊢
        refine r_aload_n C (dx dX7_part 20 rfl) rfl ?_
        refine r_dupR C (dx dX7_part 21 rfl) ?_
        refine g_X7_64 (x := nI (vP v)) C (dx dX7_part 22 rfl) ph3.m.eP ?_
        refine r_dup_x1 C (dx dX7_part 23 rfl) ?_
        refine r_iconst (v := nI 1) C (dx dX7_part 24 rfl) rfl ?_
        refine rn_iadd (a := vP v) (b := 1) C (dx dX7_part 25 rfl) ?_
        refine p_X7_64 C (dx dX7_part 26 rfl) rfl rfl ?_
        have ph4 : Px h (sI h3 k 10 (nI (vP v + 1))) k z B (t, s, e) (vsP (vset (vset v 0 (vP v) (-1)) 1 (vP v) (-1)) (vP v + 1)) := ph3.fd (ph3.m.sP (n := vP v + 1) (by omega)) (by decide) (by decide) (by decide) (by decide) (by decide)
        generalize sI h3 k 10 (nI (vP v + 1)) = h4 at ph4 ⊢
        exact F.1 _ _ _ _ .int rfl rfl (dx dX7_part 27 rfl) ph4.kk ⟨congrArg (fun q9 => some (vi (nI q9))) (show vP v = vP v by omega), ph4⟩)
  · first
    | (omega; done)
    | (
        have c1 : vP v = 12 := c1
        refine r_aload_n C (dx dX7_part 4 rfl) rfl ?_
        refine r_bipush (v := -6) C (dx dX7_part 5 rfl) rfl ?_
        refine r_cv (as := [vi (-6)]) (st := []) C X I_X7_refuse l_X7_83 (c_X7_refuse p.m (x := -6) (j := 6) (by decide) (by decide)) (by decide) (Nat.le_of_ble_eq_true rfl) List.prefix_rfl (pfx_eq p.kk) rfl rfl (Nat.le_of_ble_eq_true rfl) rfl (dx dX7_part 6 rfl) ?_
        rintro _ h5 ⟨rfl, ⟨wh5, m9h5, s9h5⟩, qh5⟩ kkh5
        obtain ⟨vh5, mh5, zh5⟩ : ∃ v9, MilAt h5 k v9 ∧ Sz v v9 := ⟨_, m9h5, s9h5⟩
        have ph5 : Kp k h h5 := qh5
        have kh5 : xK h5 = xK h := (kkh5).trans p.kk
        obtain ⟨ah5, bh5, ch5⟩ := zh5
        exact F.1 _ _ _ _ .int rfl rfl (dx dX7_part 7 rfl) p.kk ⟨congrArg (fun q9 => some (vi (nI q9))) (show None = vP v by omega), p⟩)
theorem ptW_f {B : Nat → Int32} {z : Nat} {q q1 : Tkn} {v v1 : Vg} (h12 : vP v < 12) (E1 : byS B z 0 1 (vP v) (stp B z q.2.2) (addPartV v) = (false, q1, v1)) : ptW B z q v = (false, q1, v1) := by
  unfold ptW
  rw [if_pos h12, E1]; exact if_neg (show ¬ (false = true) by decide)
theorem ptW_t {B : Nat → Int32} {z : Nat} {q q1 : Tkn} {v v1 : Vg} {w : Rd} (h12 : vP v < 12) (E1 : byS B z 0 1 (vP v) (stp B z q.2.2) (addPartV v) = (true, q1, v1)) (E2 : byS B z 1 2 (vP v) q1 v1 = w) : ptW B z q v = w := by
  unfold ptW
  rw [if_pos h12, E1, if_pos rfl]; exact E2
set_option maxHeartbeats 4000000 in
theorem e_partTold {l : Launch} {h : Hp} {k z t s e : Nat} {B : Nat → Int32} {v : Vg} (p : Px h h k z B (t, s, e) v) (hP12 : vP v < 12) : Ms l yX7_partTold cX7_partTold 2 (some .boolean) 7 [vr 7 k] h (xK h) (fun r h' => ∃ b, r = some (vi (b2i b)) ∧ RdP h h' k z B (ptW B z (t, s, e) v) b) := by
  refine Ms.of (by decide) (Nat.le_of_ble_eq_true rfl) (fun G C X F => ?_)
  have C : Cx G cX7_partTold 2 RX7 := C
  show Rr G 0 [(0, vr 7 k)] [] h
  have se := p.se
  have ez := p.ez
  have bz := p.bz
  have bP := p.m.bP
  have bM := p.m.bM
  have bN := p.m.bN
  have t5 : tkm t < 5 := by unfold tkm; split <;> omega
  refine r_aload_n C (dx dX7_partTold 0 rfl) rfl ?_
  refine r_cv (as := []) (st := []) C X I_X7_look l_X7_184 (e_look (fun i9 hi9 => p.tp hi9) p.lk) (by decide) (Nat.le_of_ble_eq_true rfl) List.prefix_rfl (pfx_eq p.kk) rfl rfl (Nat.le_of_ble_eq_true rfl) rfl (dx dX7_partTold 1 rfl) ?_
  rintro _ h1 ⟨rfl, qh1, uh1⟩ kkh1
  have ph1 : Px h h1 k z B ((stp B z e).1, (stp B z e).2.1, (stp B z e).2.2) v := p.tr qh1
  have seh1 := ph1.se
  have ezh1 := ph1.ez
  refine r_aload_n C (dx dX7_partTold 2 rfl) rfl ?_
  refine r_cv (as := []) (st := []) C X I_X7_part l_X7_194 (p_part ph1.slf (by omega)) (by decide) (Nat.le_of_ble_eq_true rfl) List.prefix_rfl (pfx_eq ph1.kk) rfl rfl (Nat.le_of_ble_eq_true rfl) rfl (dx dX7_partTold 3 rfl) ?_
  rintro _ h2 ⟨rfl, qh2⟩ kkh2
  have ph2 := ph1.tr qh2
  refine r_istore_n (ls' := [(0, vr 7 k), (1, vi (nI (vP v)))]) C (dx dX7_partTold 4 rfl) (by decide) [1, 0] rfl ?_
  refine r_aload_n C (dx dX7_partTold 5 rfl) rfl ?_
  refine r_ldcS C 11 rfl (dx dX7_partTold 6 rfl) ?_
  refine r_cvP (as := [vt 1001]) (st := []) (v := vi (b2i (wdB 1 B z ((stp B z e).1) ((stp B z e).2.1) ((stp B z e).2.2)))) C X I_X7_isWord l_X7_187 (e_isWord ph2.slf (i := 1) (by decide)) (by decide) (Nat.le_of_ble_eq_true rfl) (pfx_eq ph2.kk) rfl rfl (Nat.le_of_ble_eq_true rfl) rfl (dx dX7_partTold 7 rfl) ?_
  refine rb_eq (b := wdB 1 B z ((stp B z e).1) ((stp B z e).2.1) ((stp B z e).2.2)) (tgt := 33) C (dx dX7_partTold 8 rfl) (by decide) (fun c3 => ?_) (fun c3 => ?_)
  ·
    have c3 : (wdB 1 B z ((stp B z e).1) ((stp B z e).2.1) ((stp B z e).2.2)) = false := c3
    have y1 : byS B z 0 1 (vP v) (stp B z e) (addPartV v) = (true, stp B z e, addPartV v) := by_0 c3
    refine r_aload_n C (dx dX7_partTold 18 rfl) rfl ?_
    refine r_ldcS C 12 rfl (dx dX7_partTold 19 rfl) ?_
    refine r_cvP (as := [vt 1002]) (st := []) (v := vi (b2i (wdB 2 B z ((stp B z e).1) ((stp B z e).2.1) ((stp B z e).2.2)))) C X I_X7_isWord l_X7_187 (e_isWord ph2.slf (i := 2) (by decide)) (by decide) (Nat.le_of_ble_eq_true rfl) (pfx_eq ph2.kk) rfl rfl (Nat.le_of_ble_eq_true rfl) rfl (dx dX7_partTold 20 rfl) ?_
    refine rb_eq (b := wdB 2 B z ((stp B z e).1) ((stp B z e).2.1) ((stp B z e).2.2)) (tgt := 53) C (dx dX7_partTold 21 rfl) (by decide) (fun c4 => ?_) (fun c4 => ?_)
    ·
      have c4 : (wdB 2 B z ((stp B z e).1) ((stp B z e).2.1) ((stp B z e).2.2)) = false := c4
      have y2 : byS B z 1 2 (vP v) (stp B z e) (addPartV v) = (true, stp B z e, addPartV v) := by_0 c4
      refine r_iconst (v := nI 1) C (dx dX7_partTold 29 rfl) rfl ?_
      exact F.1 _ _ _ _ .boolean rfl rfl (dx dX7_partTold 30 rfl) ph2.kk ⟨true, rfl, (show RdP h h2 k z B (ptW B z (t, s, e) v) true from RdP.t (ptW_t hP12 y1 y2) ph2)⟩
    ·
      have c4 : (wdB 2 B z ((stp B z e).1) ((stp B z e).2.1) ((stp B z e).2.2)) = true := c4
      refine r_aload_n C (dx dX7_partTold 22 rfl) rfl ?_
      refine r_cv (as := []) (st := []) C X I_X7_look l_X7_184 (e_look (fun i9 hi9 => ph2.tp hi9) ph2.lk) (by decide) (Nat.le_of_ble_eq_true rfl) List.prefix_rfl (pfx_eq ph2.kk) rfl rfl (Nat.le_of_ble_eq_true rfl) rfl (dx dX7_partTold 23 rfl) ?_
      rintro _ h5 ⟨rfl, qh5, uh5⟩ kkh5
      have ph5 : Px h h5 k z B ((stp B z ((stp B z e).2.2)).1, (stp B z ((stp B z e).2.2)).2.1, (stp B z ((stp B z e).2.2)).2.2) (addPartV v) := ph2.tr qh5
      have seh5 := ph5.se
      have ezh5 := ph5.ez
      refine r_aload_n C (dx dX7_partTold 24 rfl) rfl ?_
      refine r_iload_n C (dx dX7_partTold 25 rfl) rfl ?_
      refine r_iconst (v := nI 1) C (dx dX7_partTold 26 rfl) rfl ?_
      refine r_cv (as := [vi (nI (vP v)), vi (nI 1)]) (st := []) C X I_X7_gets l_X7_199 (e_gets ph5.slf ⟨((stp B z e).2.2), by omega, rfl⟩ (j := vP v) (show vP v < vP v + 1 from Nat.lt_succ_self _) true) (by decide) (Nat.le_of_ble_eq_true rfl) List.prefix_rfl (pfx_eq ph5.kk) rfl rfl (Nat.le_of_ble_eq_true rfl) rfl (dx dX7_partTold 27 rfl) ?_
      rintro _ h6 ⟨bh6, rfl, gh6⟩ kkh6
      have kh6 : xK h6 = xK h := kkh6.trans ph5.kk
      have gh6 := GtP.pre ph5 gh6
      rcases Bool.eq_false_or_eq_true bh6 with cb | cb
      ·
        rw [cb] at gh6
        obtain ⟨erbh6, prbh6⟩ := by_t (i := 2) (q := stp B z e) c4 (by simp [addPartV, vset, vF, vsP]) gh6
        have serbh6 := Px.se (t := (stp B z (stp B z (stp B z e).2.2).2.2).1) (s := (stp B z (stp B z (stp B z e).2.2).2.2).2.1) (e := (stp B z (stp B z (stp B z e).2.2).2.2).2.2) prbh6
        have ezrbh6 := Px.ez (t := (stp B z (stp B z (stp B z e).2.2).2.2).1) (s := (stp B z (stp B z (stp B z e).2.2).2.2).2.1) (e := (stp B z (stp B z (stp B z e).2.2).2.2).2.2) prbh6
        rw [cb]
        exact F.1 _ _ _ _ .boolean rfl rfl (dx dX7_partTold 28 rfl) kh6 ⟨true, rfl, (show RdP h h6 k z B (ptW B z (t, s, e) v) true from RdP.t (ptW_t hP12 y1 erbh6) prbh6)⟩
      ·
        rw [cb] at gh6
        obtain ⟨erbh6, prbh6, frbh6⟩ := by_f (i := 2) (q := stp B z e) c4 gh6
        rw [cb]
        exact F.1 _ _ _ _ .boolean rfl rfl (dx dX7_partTold 28 rfl) kh6 ⟨false, rfl, (show RdP h h6 k z B (ptW B z (t, s, e) v) false from RdP.f (ptW_t hP12 y1 erbh6) prbh6 frbh6)⟩
  ·
    have c3 : (wdB 1 B z ((stp B z e).1) ((stp B z e).2.1) ((stp B z e).2.2)) = true := c3
    refine r_aload_n C (dx dX7_partTold 9 rfl) rfl ?_
    refine r_cv (as := []) (st := []) C X I_X7_look l_X7_184 (e_look (fun i9 hi9 => ph2.tp hi9) ph2.lk) (by decide) (Nat.le_of_ble_eq_true rfl) List.prefix_rfl (pfx_eq ph2.kk) rfl rfl (Nat.le_of_ble_eq_true rfl) rfl (dx dX7_partTold 10 rfl) ?_
    rintro _ h7 ⟨rfl, qh7, uh7⟩ kkh7
    have ph7 : Px h h7 k z B ((stp B z ((stp B z e).2.2)).1, (stp B z ((stp B z e).2.2)).2.1, (stp B z ((stp B z e).2.2)).2.2) (addPartV v) := ph2.tr qh7
    have seh7 := ph7.se
    have ezh7 := ph7.ez
    refine r_aload_n C (dx dX7_partTold 11 rfl) rfl ?_
    refine r_iload_n C (dx dX7_partTold 12 rfl) rfl ?_
    refine r_iconst (v := nI 0) C (dx dX7_partTold 13 rfl) rfl ?_
    refine r_cv (as := [vi (nI (vP v)), vi (nI 0)]) (st := []) C X I_X7_gets l_X7_199 (e_gets ph7.slf ⟨((stp B z e).2.2), by omega, rfl⟩ (j := vP v) (show vP v < vP v + 1 from Nat.lt_succ_self _) false) (by decide) (Nat.le_of_ble_eq_true rfl) List.prefix_rfl (pfx_eq ph7.kk) rfl rfl (Nat.le_of_ble_eq_true rfl) rfl (dx dX7_partTold 14 rfl) ?_
    rintro _ h8 ⟨bh8, rfl, gh8⟩ kkh8
    have kh8 : xK h8 = xK h := kkh8.trans ph7.kk
    have gh8 := GtP.pre ph7 gh8
    refine rb_ne (b := bh8) (tgt := 33) C (dx dX7_partTold 15 rfl) (by decide) (fun c9 => ?_) (fun c9 => ?_)
    ·
      have c9 : bh8 = true := c9
      rw [c9] at gh8
      obtain ⟨erbh8, prbh8⟩ := by_t (i := 1) (q := stp B z e) c3 (by simp [addPartV, vset, vF, vsP]) gh8
      have serbh8 := Px.se (t := (stp B z (stp B z (stp B z e).2.2).2.2).1) (s := (stp B z (stp B z (stp B z e).2.2).2.2).2.1) (e := (stp B z (stp B z (stp B z e).2.2).2.2).2.2) prbh8
      have ezrbh8 := Px.ez (t := (stp B z (stp B z (stp B z e).2.2).2.2).1) (s := (stp B z (stp B z (stp B z e).2.2).2.2).2.1) (e := (stp B z (stp B z (stp B z e).2.2).2.2).2.2) prbh8
      refine r_aload_n C (dx dX7_partTold 18 rfl) rfl ?_
      refine r_ldcS C 12 rfl (dx dX7_partTold 19 rfl) ?_
      refine r_cvP (as := [vt 1002]) (st := []) (v := vi (b2i (wdB 2 B z ((stp B z (stp B z (stp B z e).2.2).2.2).1) ((stp B z (stp B z (stp B z e).2.2).2.2).2.1) ((stp B z (stp B z (stp B z e).2.2).2.2).2.2)))) C X I_X7_isWord l_X7_187 (e_isWord prbh8.slf (i := 2) (by decide)) (by decide) (Nat.le_of_ble_eq_true rfl) (pfx_eq prbh8.kk) rfl rfl (Nat.le_of_ble_eq_true rfl) rfl (dx dX7_partTold 20 rfl) ?_
      refine rb_eq (b := wdB 2 B z ((stp B z (stp B z (stp B z e).2.2).2.2).1) ((stp B z (stp B z (stp B z e).2.2).2.2).2.1) ((stp B z (stp B z (stp B z e).2.2).2.2).2.2)) (tgt := 53) C (dx dX7_partTold 21 rfl) (by decide) (fun c10 => ?_) (fun c10 => ?_)
      ·
        have c10 : (wdB 2 B z ((stp B z (stp B z (stp B z e).2.2).2.2).1) ((stp B z (stp B z (stp B z e).2.2).2.2).2.1) ((stp B z (stp B z (stp B z e).2.2).2.2).2.2)) = false := c10
        have y2 : byS B z 1 2 (vP v) (stp B z (stp B z (stp B z e).2.2).2.2) (vset (addPartV v) 0 (vP v) (gtO B z (stp B z (stp B z e).2.2) (addPartV v))) = (true, stp B z (stp B z (stp B z e).2.2).2.2, vset (addPartV v) 0 (vP v) (gtO B z (stp B z (stp B z e).2.2) (addPartV v))) := by_0 c10
        refine r_iconst (v := nI 1) C (dx dX7_partTold 29 rfl) rfl ?_
        exact F.1 _ _ _ _ .boolean rfl rfl (dx dX7_partTold 30 rfl) prbh8.kk ⟨true, rfl, (show RdP h h8 k z B (ptW B z (t, s, e) v) true from RdP.t (ptW_t hP12 erbh8 y2) prbh8)⟩
      ·
        have c10 : (wdB 2 B z ((stp B z (stp B z (stp B z e).2.2).2.2).1) ((stp B z (stp B z (stp B z e).2.2).2.2).2.1) ((stp B z (stp B z (stp B z e).2.2).2.2).2.2)) = true := c10
        refine r_aload_n C (dx dX7_partTold 22 rfl) rfl ?_
        refine r_cv (as := []) (st := []) C X I_X7_look l_X7_184 (e_look (fun i9 hi9 => prbh8.tp hi9) prbh8.lk) (by decide) (Nat.le_of_ble_eq_true rfl) List.prefix_rfl (pfx_eq prbh8.kk) rfl rfl (Nat.le_of_ble_eq_true rfl) rfl (dx dX7_partTold 23 rfl) ?_
        rintro _ h11 ⟨rfl, qh11, uh11⟩ kkh11
        have ph11 : Px h h11 k z B ((stp B z ((stp B z (stp B z (stp B z e).2.2).2.2).2.2)).1, (stp B z ((stp B z (stp B z (stp B z e).2.2).2.2).2.2)).2.1, (stp B z ((stp B z (stp B z (stp B z e).2.2).2.2).2.2)).2.2) (vset (addPartV v) 0 (vP v) (gtO B z (stp B z (stp B z e).2.2) (addPartV v))) := prbh8.tr qh11
        have seh11 := ph11.se
        have ezh11 := ph11.ez
        refine r_aload_n C (dx dX7_partTold 24 rfl) rfl ?_
        refine r_iload_n C (dx dX7_partTold 25 rfl) rfl ?_
        refine r_iconst (v := nI 1) C (dx dX7_partTold 26 rfl) rfl ?_
        refine r_cv (as := [vi (nI (vP v)), vi (nI 1)]) (st := []) C X I_X7_gets l_X7_199 (e_gets ph11.slf ⟨((stp B z (stp B z (stp B z e).2.2).2.2).2.2), by omega, rfl⟩ (j := vP v) (show vP v < vP v + 1 from Nat.lt_succ_self _) true) (by decide) (Nat.le_of_ble_eq_true rfl) List.prefix_rfl (pfx_eq ph11.kk) rfl rfl (Nat.le_of_ble_eq_true rfl) rfl (dx dX7_partTold 27 rfl) ?_
        rintro _ h12 ⟨bh12, rfl, gh12⟩ kkh12
        have kh12 : xK h12 = xK h := kkh12.trans ph11.kk
        have gh12 := GtP.pre ph11 gh12
        rcases Bool.eq_false_or_eq_true bh12 with cb | cb
        ·
          rw [cb] at gh12
          obtain ⟨erbh12, prbh12⟩ := by_t (i := 2) (q := stp B z (stp B z (stp B z e).2.2).2.2) c10 (by simp [addPartV, vset, vF, vsP]) gh12
          have serbh12 := Px.se (t := (stp B z (stp B z (stp B z (stp B z (stp B z e).2.2).2.2).2.2).2.2).1) (s := (stp B z (stp B z (stp B z (stp B z (stp B z e).2.2).2.2).2.2).2.2).2.1) (e := (stp B z (stp B z (stp B z (stp B z (stp B z e).2.2).2.2).2.2).2.2).2.2) prbh12
          have ezrbh12 := Px.ez (t := (stp B z (stp B z (stp B z (stp B z (stp B z e).2.2).2.2).2.2).2.2).1) (s := (stp B z (stp B z (stp B z (stp B z (stp B z e).2.2).2.2).2.2).2.2).2.1) (e := (stp B z (stp B z (stp B z (stp B z (stp B z e).2.2).2.2).2.2).2.2).2.2) prbh12
          rw [cb]
          exact F.1 _ _ _ _ .boolean rfl rfl (dx dX7_partTold 28 rfl) kh12 ⟨true, rfl, (show RdP h h12 k z B (ptW B z (t, s, e) v) true from RdP.t (ptW_t hP12 erbh8 erbh12) prbh12)⟩
        ·
          rw [cb] at gh12
          obtain ⟨erbh12, prbh12, frbh12⟩ := by_f (i := 2) (q := stp B z (stp B z (stp B z e).2.2).2.2) c10 gh12
          rw [cb]
          exact F.1 _ _ _ _ .boolean rfl rfl (dx dX7_partTold 28 rfl) kh12 ⟨false, rfl, (show RdP h h12 k z B (ptW B z (t, s, e) v) false from RdP.f (ptW_t hP12 erbh8 erbh12) prbh12 frbh12)⟩
    ·
      have c9 : bh8 = false := c9
      rw [c9] at gh8
      obtain ⟨erbh8, prbh8, frbh8⟩ := by_f (i := 1) (q := stp B z e) c3 gh8
      refine r_iconst (v := nI 0) C (dx dX7_partTold 16 rfl) rfl ?_
      exact F.1 _ _ _ _ .boolean rfl rfl (dx dX7_partTold 17 rfl) kh8 ⟨false, rfl, (show RdP h h8 k z B (ptW B z (t, s, e) v) false from RdP.f (ptW_f hP12 erbh8) prbh8 frbh8)⟩
end
section
/-! PART 48: the same text in the class's bytes and in the reference's -/
def ByT (B B' : Nat → Int32) (z : Nat) : Prop := ∀ i, i < z → ∃ b, b < 256 ∧ B' i = nI b ∧ B i = vp_nar .byte (nI b)
theorem nar_b1 : ∀ b : Fin 256, isG 0 (vp_nar .byte (nI b.val)) = isG 0 (nI b.val) ∧ isG 1 (vp_nar .byte (nI b.val)) = isG 1 (nI b.val) ∧ isG 2 (vp_nar .byte (nI b.val)) = isG 2 (nI b.val) := by decide +kernel
theorem nar_b2 : ∀ b : Fin 256, (decide (vp_nar .byte (nI b.val) = nI 59) = decide (nI b.val = nI 59)) ∧ (isG 1 (nI b.val) = true → vp_nar .byte (nI b.val) = nI b.val) ∧ (isG 2 (nI b.val) = true → vp_nar .byte (nI b.val) = nI b.val) := by decide +kernel
section TIE
variable {B B' : Nat → Int32} {z : Nat}
theorem ByT.g (h : ByT B B' z) {γ i : Nat} (hγ : γ < 3) (hi : i < z) : isG γ (B i) = isG γ (B' i) := by
  obtain ⟨b, hb, e1, e2⟩ := h i hi
  rw [e1, e2]
  have q := nar_b1 ⟨b, hb⟩
  match γ, hγ with
  | 0, _ => exact q.1
  | 1, _ => exact q.2.1
  | 2, _ => exact q.2.2
theorem ByT.c (h : ByT B B' z) {i : Nat} (hi : i < z) : (B i = nI 59) = (B' i = nI 59) := by
  obtain ⟨b, hb, e1, e2⟩ := h i hi
  rw [e1, e2]
  exact propext (decide_eq_decide.mp (nar_b2 ⟨b, hb⟩).1)
theorem ByT.l (h : ByT B B' z) {γ i : Nat} (hγ : γ = 1 ∨ γ = 2) (hi : i < z) (q : isG γ (B' i) = true) : B i = B' i := by
  obtain ⟨b, hb, e1, e2⟩ := h i hi
  rw [e1] at q
  rw [e1, e2]
  rcases hγ with rfl | rfl
  · exact (nar_b2 ⟨b, hb⟩).2.1 q
  · exact (nar_b2 ⟨b, hb⟩).2.2 q
theorem ByT.f (h : ByT B B' z) {γ : Nat} (hγ : γ < 3) : ∀ n p, p + n ≤ z → enF γ B n p = enF γ B' n p
  | 0, _, _ => rfl
  | n + 1, p, hp => by
    simp only [enF]
    rw [h.g hγ (show p < z by omega), h.f hγ n (p + 1) (by omega)]
theorem ByT.o (h : ByT B B' z) {γ p : Nat} (hγ : γ < 3) (hp : p ≤ z) : enO γ B z p = enO γ B' z p := h.f hγ _ _ (by omega)
/-- the same tokens -/
theorem ByT.s (h : ByT B B' z) {e : Nat} (he : e ≤ z) : stp B z e = stp B' z e := by
  have l := enO_le (γ := 0) (B := B') he
  unfold stp
  rw [h.o (by omega) he]
  by_cases c : z ≤ enO 0 B' z e
  · rw [if_pos c, if_pos c]
  · rw [if_neg c, if_neg c, h.g (γ := 1) (by omega) (show enO 0 B' z e < z by omega), h.g (γ := 2) (by omega) (show enO 0 B' z e < z by omega), h.o (γ := 1) (by omega) l.2, h.o (γ := 2) (by omega) l.2]
    simp only [h.c (show enO 0 B' z e < z by omega)]
/-- letters, figures of a token -/
theorem stp_wdl {t s e a : Nat} (h : (t, s, e) = stp B' z a) (ha : a ≤ z) (ht : t = 0) : ∀ j, s ≤ j → j < e → isG 1 (B' j) = true := by
  unfold stp at h
  split at h
  · obtain ⟨e1, _⟩ := Prod.mk.inj h; omega
  · split at h
    · obtain ⟨_, h⟩ := Prod.mk.inj h
      obtain ⟨e2, e3⟩ := Prod.mk.inj h
      rw [e2, e3]
      exact fun j j1 j2 => enO_all _ _ rfl j j1 j2
    · split at h
      · obtain ⟨e1, _⟩ := Prod.mk.inj h; omega
      · obtain ⟨e1, _⟩ := Prod.mk.inj h
        split at e1 <;> omega
theorem allF_c {P Q : Nat → Bool} : ∀ n, (∀ j, j < n → P j = Q j) → allF P n = allF Q n
  | 0, _ => rfl
  | n + 1, h => by simp only [allF]; rw [allF_c n (fun j hj => h j (by omega)), h n (by omega)]
theorem ByT.w (h : ByT B B' z) {i t s e a : Nat} (ha : a ≤ z) (q : (t, s, e) = stp B' z a) : wdB i B z t s e = wdB i B' z t s e := by
  have l := stp_le (B := B') ha
  rw [← q] at l
  have l2 : e ≤ z := l.2
  unfold wdB
  by_cases ht : t = 0
  · have g := stp_wdl q ha ht
    by_cases c : e - s = txL.getD i 0
    · congr 2
      refine allF_c _ (fun j hj => ?_)
      unfold btA
      rw [if_pos (show s + j < z by omega), if_pos (show s + j < z by omega), h.l (Or.inl rfl) (by omega) (g (s + j) (by omega) (by omega))]
    · rw [decide_eq_false c]; simp
  · rw [decide_eq_false ht]; simp
theorem ByT.nf (h : ByT B B' z) {s e : Nat} (ez : e ≤ z) (g : ∀ j, s ≤ j → j < e → isG 2 (B' j) = true) : ∀ n, s + n ≤ e → nmF B z s n = nmF B' z s n
  | 0, _ => rfl
  | n + 1, hn => by
    simp only [nmF]
    unfold btA
    rw [h.nf ez g n (by omega), if_pos (show s + n < z by omega), if_pos (show s + n < z by omega), h.l (Or.inr rfl) (by omega) (g (s + n) (by omega) (by omega))]
theorem ByT.n (h : ByT B B' z) {t s e a : Nat} {lo hi : Int32} (ha : a ≤ z) (q : (t, s, e) = stp B' z a) : nmV B z t s e lo hi = nmV B' z t s e lo hi := by
  have l := stp_le (B := B') ha
  rw [← q] at l
  have l2 : e ≤ z := l.2
  unfold nmV
  by_cases ht : t = 1 ∧ e - s ≤ 2
  · have l1 : s ≤ e := l.1
    have g := (stp_dg q ht.1).2
    rw [if_pos ht, if_pos ht, h.nf l2 (fun j j1 j2 => dg_G ▸ g j j1 j2) (e - s) (by omega)]
  · rw [if_neg ht, if_neg ht]
end TIE
end
