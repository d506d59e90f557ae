/-! PART 46: the reference, exactly: what writes in its village -/
theorem vset_same (v : Vg) (c i : Nat) : vset v c i (vF v c i) = v := by
  obtain ⟨a, b, n, f, s⟩ := v
  simp only [vset, vF, vP, vM, vN, vS, Prod.mk.injEq, true_and, and_true]
  funext c' i'
  by_cases h1 : c' = c
  · by_cases h2 : i' = i
    · simp [h1, h2]
    · simp [h1, h2]
  · simp [h1]
theorem vset_two (v : Vg) (c i : Nat) (x y : Int32) : vset (vset v c i x) c i y = vset v c i y := by
  obtain ⟨a, b, n, f, s⟩ := v
  simp only [vset, vF, vP, vM, vN, vS, Prod.mk.injEq, true_and, and_true]
  funext c' i'
  by_cases h1 : c' = c
  · by_cases h2 : i' = i
    · simp [h1, h2]
    · simp [h1, h2]
  · simp [h1]
theorem vF_set (v : Vg) (c i : Nat) (x : Int32) : vF (vset v c i x) c i = x := by simp [vset, vF]
/-- a new one's row, p of its cells cleared -/
def nwV (v : Vg) (p : Nat) : Vg := (vP v, vM v, vN v, fun c i => if 4 ≤ c ∧ c < 4 + p ∧ i = vN v then 0 else vF v c i, vS v)
theorem nw_0 (v : Vg) : nwV v 0 = v := by
  obtain ⟨a, b, n, f, s⟩ := v
  simp only [nwV, vF, vP, vM, vN, vS, Prod.mk.injEq, true_and, and_true]
  funext c i
  exact if_neg (by omega)
theorem nw_s (v : Vg) (p : Nat) : vset (nwV v p) (4 + p) (vN v) 0 = nwV v (p + 1) := by
  obtain ⟨a, b, n, f, s⟩ := v
  simp only [nwV, vset, vF, vP, vM, vN, vS, Prod.mk.injEq, true_and, and_true]
  funext c i
  by_cases h1 : c = 4 + p
  · by_cases h2 : i = n
    · simp [h1, h2]
    · simp [h1, h2]
  · by_cases h3 : 4 ≤ c ∧ c < 4 + p ∧ i = n
    · simp [h1, h3, show c < 4 + (p + 1) by omega]
    · have : ¬ (4 ≤ c ∧ c < 4 + (p + 1) ∧ i = n) := fun q => h3 ⟨q.1, by omega, q.2.2⟩
      simp [h1, h3, this]
theorem one_eq (v : Vg) (x y : Int32) : vsN (vset (vset (nwV v 4) 4 (vN v) x) 5 (vN v) y) (vN v + 1) = addOneV v x y := by
  obtain ⟨a, b, n, f, s⟩ := v
  simp only [addOneV, nwV, vsN, vset, vF, vP, vM, vN, vS, Prod.mk.injEq, true_and, and_true]
  funext c i
  by_cases h : i = n
  · by_cases q4 : c = 4
    · simp [q4, h]
    · by_cases q5 : c = 5
      · simp [q5, h]
      · by_cases q6 : c = 6
        · simp [q6, h]
        · by_cases q7 : c = 7
          · simp [q7, h]
          · simp [q4, q5, q6, q7]; intros; omega
  · simp [h]
theorem btw9 {x : Int32} {b : Nat} : btwB x 0 b = (!decide (x < 0) && !decide (nI b < x)) := by unfold btwB; rw [nI_0, decide_not, decide_not]
theorem btw99 {x : Int32} {a b : Nat} : btwB x a b = (!decide (x < nI a) && !decide (nI b < x)) := by unfold btwB; rw [decide_not, decide_not]
theorem inL_1F {x : Int32} {n : Nat} (hn : n ≤ 12) : inL x.toInt64 1 (full n).toInt64 = (!decide (x = 0) && inR x (2 ^ n)) := by
  have := pow12 hn
  unfold full
  rw [show (1 : Int64) = (nI 1).toInt64 by decide, inL_B]
  rw [Bool.eq_iff_iff]
  unfold btwB
  simp only [Bool.and_eq_true, decide_eq_true_eq, Bool.not_eq_true', decide_eq_false_iff_not]
  constructor
  · rintro ⟨h0, h1⟩
    have h2 : ¬ x < nI 0 := fun q => h0 (Int32.lt_trans q (by decide))
    have e := inR_mid (n := 2 ^ n - 1) (by omega) h2 h1
    refine ⟨fun q => h0 (by rw [q]; decide), by rwa [show 2 ^ n - 1 + 1 = 2 ^ n by omega] at e⟩
  · rintro ⟨h0, h⟩
    obtain ⟨j, hj, rfl⟩ := inR_ex (by omega) h
    refine ⟨fun q => h0 ?_, fun q => by have := (nI_ltI (by omega) (by omega)).mp q; omega⟩
    have := (nI_ltI (by omega) (by omega)).mp q
    rw [show j = 0 by omega, nI_0]
theorem crossV_e {v : Vg} {o : Int32} {b : Bool} : crossV v o b = if inR o (vN v) = true then vset v 6 o.toNatClampNeg (b2i b) else v := by
  unfold crossV
  by_cases h : inR o (vN v) = true
  · rw [if_pos h, if_pos h]
    by_cases q : vF v 6 o.toNatClampNeg = b2i b
    · rw [if_pos q, ← q, vset_same]
    · rw [if_neg q]
  · rw [if_neg h, if_neg h]
theorem sw_f {v : Vg} {p q : Nat} : vF (vset (vset v 0 p (vF v 0 q)) 0 q (vF v 0 p)) 0 p = vF v 0 q := by
  by_cases h : p = q
  · subst h; rw [vF_set]
  · simp [vset, vF, h]
theorem swapV_e {v : Vg} {p q : Int32} : swapV v p q = if (inR p (vP v) && inR q (vP v)) = true then vset (vset v 0 p.toNatClampNeg (vF v 0 q.toNatClampNeg)) 0 q.toNatClampNeg (vF v 0 p.toNatClampNeg) else v := by
  unfold swapV
  by_cases h : (inR p (vP v) && inR q (vP v)) = true
  · rw [if_pos h, if_pos h]
    by_cases e : vF v 0 p.toNatClampNeg = vF v 0 q.toNatClampNeg
    · rw [if_pos e, ← e, vset_same, e, vset_same]
    · rw [if_neg e]
  · rw [if_neg h, if_neg h]
theorem machB_e {v : Vg} {x y : Int32} (hp : vP v ≤ 12) : machB v x y = (inL x.toInt64 1 (nI 1 <<< (nI (vP v) &&& 31) - nI 1).toInt64 && btwB y 1 99) := by rw [full_sh hp, inL_1F hp, btw99]; rfl
theorem oneB_e {x y : Int32} : oneB x y = (inR x 10 && inR y 11) := by rw [← btw_R (b := 9) (by omega), ← btw_R (b := 10) (by omega), btw9, btw9]; rfl
theorem awayB_e {v : Vg} {o x : Int32} : awayB v o x = (inR o (vN v) && inR x 11) := by rw [← btw_R (b := 10) (by omega), btw9]; rfl
def ownB (v : Vg) (nd : Int32) (o p : Nat) : Bool := inB nd (nI p) && decide (vF v 0 p = nI o)
def anyB (f : Nat → Bool) : Nat → Bool
  | 0 => false
  | n + 1 => anyB f n || f n
/-- holders are people -/
def HdOk (v : Vg) : Prop := ∀ p, p < vP v → vF v 0 p = -1 ∨ ∃ o, o < vN v ∧ vF v 0 p = nI o
theorem own_a {v : Vg} {nd : Int32} {o : Nat} (ho : o < 32) : ∀ n, n ≤ 32 → (∀ p, p < n → vF v 0 p = -1 ∨ ∃ o, o < 8 ∧ vF v 0 p = nI o) → bt (ownS v nd n) o = anyB (ownB v nd o) n
  | 0, _, _ => bt_0 o
  | n + 1, hn, h => by
    have ih := own_a (nd := nd) ho n (by omega) (fun p hp => h p (by omega))
    simp only [ownS, anyB]
    by_cases q : nd &&& (nI 1 <<< (nI n &&& 31)) = 0
    · rw [if_neg (fun z => z.1 q), ih]
      have : ownB v nd o n = false := by unfold ownB inB; simp [q]
      rw [this, Bool.or_false]
    · have e1 : inB nd (nI n) = true := by
        unfold inB
        rw [decide_eq_true (show ¬ nI n = -1 from fun z => nI_nm1 (by omega) z), decide_eq_true q]; rfl
      rcases h n (by omega) with z | ⟨j, hj, z⟩
      · rw [if_neg (fun w => w.2 z), ih]
        have : ownB v nd o n = false := by unfold ownB; rw [z, decide_eq_false (fun w => nI_nm1 (by omega) w.symm), Bool.and_false]
        rw [this, Bool.or_false]
      · rw [if_pos ⟨q, fun w => nI_nm1 (o := j) (by omega) (z ▸ w)⟩, bt_or, ih, z, bt_pow2 ⟨j, by omega⟩ ⟨o, ho⟩]
        unfold ownB
        rw [e1, z, Bool.true_and]
        congr 1
        by_cases w : o = j
        · subst w; simp
        · rw [decide_eq_false w, decide_eq_false (fun x => w ((nI_eq (by omega) (by omega)).mp x).symm)]
theorem own_b {v : Vg} {nd : Int32} {o : Nat} (ho : o < 8) (hn : vP v ≤ 12) (hN : vN v ≤ 8) (h : HdOk v) : (¬ ownS v nd (vP v) &&& (nI 1 <<< (nI o &&& 31)) = 0) ↔ anyB (ownB v nd o) (vP v) = true := by
  rw [pow_0 _ (by omega), own_a (by omega) _ (by omega) (fun p hp => (h p hp).imp id (fun ⟨a, b, c⟩ => ⟨a, by omega, c⟩))]
  simp
/-- the shares in plain steps -/
theorem shr_step {u : Vg} {nd : Int32} {q : Nat} {x : Int32} (hq : q < 8) (hn : vP u ≤ 12) (hN : vN u ≤ 8) (h : HdOk u) (hx : x = vF (shrV u nd q) 7 q + (if anyB (ownB u nd q) (vP u) = true then nI 1 else nI 0)) : vset (shrV u nd q) 7 q x = shrV u nd (q + 1) := by
  rw [shrV_s, hx]
  by_cases e : anyB (ownB u nd q) (vP u) = true
  · rw [if_pos e, if_pos ((own_b hq hn hN h).mpr e)]
  · rw [if_neg e, if_neg (fun z => e ((own_b hq hn hN h).mp z)), nI_0, Int32.add_zero, vset_same]
theorem shr_0 (u : Vg) (nd : Int32) : shrV u nd 0 = u := by
  refine vg_ext rfl rfl rfl (fun c i => ?_) rfl
  simp [shrV, vF]
theorem anyB_c {f g : Nat → Bool} (h : ∀ p, f p = g p) : ∀ n, anyB f n = anyB g n
  | 0 => rfl
  | n + 1 => by simp only [anyB, h, anyB_c h n]

theorem b2i_or1 (b : Bool) : b2i b ||| nI 1 = b2i true := by cases b <;> decide
theorem cm_n {v : Vg} {n : Nat} (h : ¬ vF v 6 n = 0) : cmS v (n + 1) = cmS v n := by rw [cmS, if_neg h]
theorem cm_a {v : Vg} {n : Nat} (h : vF v 6 n = 0) (h2 : drw (cmS v n).2 < vF v 5 n) : cmS v (n + 1) = ((cmS v n).1, lcg (cmS v n).2) := by rw [cmS, if_pos h, if_pos h2]
theorem cm_b {v : Vg} {n : Nat} (h : vF v 6 n = 0) (h2 : ¬ drw (cmS v n).2 < vF v 5 n) : cmS v (n + 1) = ((cmS v n).1 ||| (nI 1 <<< (nI n &&& 31)), lcg (cmS v n).2) := by rw [cmS, if_pos h, if_neg h2]
theorem go_has {v : Vg} {ps s x : Int32} {n : Nat} : hasP (goV v ps s n) x = hasP v x := by
  unfold hasP
  simp only [goV_c v ps s (c := 0) (by decide), goV_c v ps s (c := 1) (by decide)]
  rfl
theorem go_need {v : Vg} {ps s x : Int32} {n m : Nat} : needW (goV v ps s n) (hasP (goV v ps s n) x) m = needW v (hasP v x) m := by rw [go_has]; exact needW_c (fun i => goV_c v ps s (c := 2) (by decide) i n) _ _
theorem go_step {v : Vg} {ps s x : Int32} {n m q : Nat} (hq : q < 8) (hn : vP v ≤ 12) (hN : vN v ≤ 8) (h : HdOk v) (hx : x = vF (shrV (goV v ps s n) (vF v 2 m) q) 7 q + (if anyB (ownB v (vF v 2 m) q) (vP v) = true then nI 1 else nI 0)) : vset (shrV (goV v ps s n) (vF v 2 m) q) 7 q x = shrV (goV v ps s n) (vF v 2 m) (q + 1) := by
  have e0 : ∀ p, vF (goV v ps s n) 0 p = vF v 0 p := fun p => goV_c v ps s (c := 0) (by decide) p n
  refine shr_step hq hn hN (fun p hp => by rw [e0]; exact h p hp) ?_
  rw [hx, show anyB (ownB (goV v ps s n) (vF v 2 m) q) (vP (goV v ps s n)) = anyB (ownB v (vF v 2 m) q) (vP v) from anyB_c (fun p => by unfold ownB; rw [e0]) _]
theorem e_works_go {l : Launch} {h : Hp} {k n m : Nat} {v : Vg} {ps s : Int32} (hm : MilAt h k (goV v ps s n)) (hj : m < vM v) (x : Int32) : Mp l yX7_worksOf cX7_worksOf 3 (some .boolean) 3 [vr 7 k, vi (nI m), vi x] h (vi (b2i (needW v (hasP v x) m))) := by
  rw [← go_need (ps := ps) (s := s) (n := n)]; exact e_worksOf hm hj x
theorem hd_day {v : Vg} (h : HdOk v) : HdOk (dayV v) := fun p hp => by
  have e : vF (dayV v) 0 p = vF v 0 p := goV_c v (dayP v) _ (c := 0) (by decide) p _
  rw [e]; exact h p hp
theorem hd_days {v : Vg} (h : HdOk v) : ∀ n, HdOk (daysV v n)
  | 0 => h
  | n + 1 => hd_day (hd_days h n)
theorem dysB_e {n : Int32} : dysB n = btwB n 1 60 := btw99.symm
set_option maxHeartbeats 4000000 in
theorem e_refuse {l : Launch} {h : Hp} {k : Nat} {v : Vg} (hm : MilAt h k v) {x : Int32} {j : Nat} (e : -x = nI j) (hj : j < 8) : Ms l yX7_refuse cX7_refuse 2 (some .int) 1 [vr 7 k, vi x] h (xK h) (fun r h' => r = some (vi x) ∧ MilAt h' k v ∧ Kp k h h') := by
  refine Ms.of (by decide) (Nat.le_of_ble_eq_true rfl) (fun G C X F => ?_)
  have C : Cx G cX7_refuse 2 RX7 := C
  show Rr G 0 [(0, vr 7 k), (1, vi x)] [] h
  have bP := hm.bP
  have bM := hm.bM
  have bN := hm.bN
  refine r_aload_n C (dx dX7_refuse 0 rfl) rfl ?_
  refine g_X7_37 C (dx dX7_refuse 1 rfl) ?_
  refine r_iload_n C (dx dX7_refuse 2 rfl) rfl ?_
  refine r_ineg C (dx dX7_refuse 3 rfl) ?_
  refine r_dup2 C (dx dX7_refuse 4 rfl) ?_
  refine r_iald (j := (-x).toNatClampNeg) (x := xI h (k + 17) ((-x).toNatClampNeg)) C rfl rfl (by decide) (by rw [e, clN (by omega)]) (by rw [e, clN (by omega)]; exact hj) (dx dX7_refuse 5 rfl) rfl ?_
  refine r_iconst (v := nI 1) C (dx dX7_refuse 6 rfl) rfl ?_
  refine r_iadd C (dx dX7_refuse 7 rfl) ?_
  refine r_iast (j := (-x).toNatClampNeg) C rfl rfl (by decide) (by rw [e, clN (by omega)]) (by rw [e, clN (by omega)]; exact hj) (dx dX7_refuse 8 rfl) ?_
  have mh1 : MilAt (sI h (k + 17) ((-x).toNatClampNeg) ((xI h (k + 17) ((-x).toNatClampNeg)) + (nI 1))) k v := hm.fr (Fr.sI (lo := k + 17) (hi := k + 18) (by omega) (by omega)) (by omega)
  have ph1 : Kp k h (sI h (k + 17) ((-x).toNatClampNeg) ((xI h (k + 17) ((-x).toNatClampNeg)) + (nI 1))) := Kp.c (by omega) (by omega)
  have kh1 : xK (sI h (k + 17) ((-x).toNatClampNeg) ((xI h (k + 17) ((-x).toNatClampNeg)) + (nI 1))) = xK h := rfl
  generalize sI h (k + 17) ((-x).toNatClampNeg) ((xI h (k + 17) ((-x).toNatClampNeg)) + (nI 1)) = h1 at mh1 ph1 kh1 ⊢
  refine r_iload_n C (dx dX7_refuse 9 rfl) rfl ?_
  exact F.1 _ _ _ _ .int rfl rfl (dx dX7_refuse 10 rfl) kh1 ⟨rfl, by exact mh1, ph1⟩
set_option maxHeartbeats 4000000 in
theorem e_newOne {l : Launch} {h : Hp} {k : Nat} {v : Vg} (hm : MilAt h k v) (h8 : vN v < 8) : Ms l yX7_newOne cX7_newOne 2 none 1 [vr 7 k] h (xK h) (fun r h' => r = none ∧ MilAt h' k (nwV v 4) ∧ Kp k h h') := by
  refine Ms.of (by decide) (Nat.le_of_ble_eq_true rfl) (fun G C X F => ?_)
  have C : Cx G cX7_newOne 2 RX7 := C
  show Rr G 0 [(0, vr 7 k)] [] h
  have bP := hm.bP
  have bM := hm.bM
  have bN := hm.bN
  refine r_iconst (v := nI 0) C (dx dX7_newOne 0 rfl) rfl ?_
  refine r_istore_n (ls' := [(0, vr 7 k), (1, vi (nI 0))]) C (dx dX7_newOne 1 rfl) (by decide) [1, 0] rfl ?_
  refine loopU (Φ := fun p => ∀ h9, MilAt h9 k (nwV v p) → Kp k h h9 → xK h9 = xK h → Rr G 2 [(0, vr 7 k), (1, vi (nI p))] [] h9) (N := 4) ?_ ?_ 0 (by omega) h (by rw [nw_0]; exact hm) Kp.rf rfl
  ·
    intro h9 m9 p9 k9
    refine r_iload_n C (dx dX7_newOne 2 rfl) rfl ?_
    refine r_iconst (v := nI 4) C (dx dX7_newOne 3 rfl) rfl ?_
    refine rn_ge (a := 4) (b := 4) (tgt := 25) C (by omega) (by omega) (dx dX7_newOne 4 rfl) (by decide) (fun c1 => ?_) (fun c1 => ?_)
    · first
      | (omega; done)
      | (
          have c1 : 4 ≤ 4 := c1
          exact F.2.2.1 _ _ _ rfl (dx dX7_newOne 15 rfl) k9 ⟨rfl, by exact m9, p9⟩)
    · first
      | (omega; done)
  ·
    intro p hp ih h9 m9 p9 k9
    refine r_iload_n C (dx dX7_newOne 2 rfl) rfl ?_
    refine r_iconst (v := nI 4) C (dx dX7_newOne 3 rfl) rfl ?_
    refine rn_ge (a := p) (b := 4) (tgt := 25) C (by omega) (by omega) (dx dX7_newOne 4 rfl) (by decide) (fun c3 => ?_) (fun c3 => ?_)
    · first
      | (omega; done)
      | (
          have c3 : 4 ≤ p := c3
          have eV : nwV v 4 = nwV v p := by rfl
          exact F.2.2.1 _ _ _ rfl (dx dX7_newOne 15 rfl) k9 ⟨rfl, by rw [eV]; exact m9, p9⟩)
    · first
      | (omega; done)
      | (
          have c3 : p < 4 := c3
          refine r_aload_n C (dx dX7_newOne 5 rfl) rfl ?_
          refine g_X7_54 C (dx dX7_newOne 6 rfl) ?_
          refine r_aload_n C (dx dX7_newOne 7 rfl) rfl ?_
          refine g_X7_74 (x := nI (vN v)) C (dx dX7_newOne 8 rfl) m9.eN ?_
          refine r_aald4 (j := vN v) C rfl rfl (by decide) rfl (by omega) (dx dX7_newOne 9 rfl) ?_
          refine r_iload_n C (dx dX7_newOne 10 rfl) rfl ?_
          refine r_iconst (v := nI 0) C (dx dX7_newOne 11 rfl) rfl ?_
          refine r_iast (j := p) C rfl rfl (by decide) rfl (by omega) (dx dX7_newOne 12 rfl) ?_
          have mh4 : MilAt (sI h9 (k + 23 + (vN v)) p (nI 0)) k (vset (nwV v p) (4 + p) (vN v) (nI 0)) := m9.so (by omega) (by omega)
          have ph4 : Kp k h (sI h9 (k + 23 + (vN v)) p (nI 0)) := p9.tr (Kp.c (by omega) (by omega))
          have kh4 : xK (sI h9 (k + 23 + (vN v)) p (nI 0)) = xK h := k9
          generalize sI h9 (k + 23 + (vN v)) p (nI 0) = h4 at mh4 ph4 kh4 ⊢
          refine rn_iinc (a := p) (k := 1) (ls' := [(0, vr 7 k), (1, vi (nI (p + 1)))]) C (dx dX7_newOne 13 rfl) rfl rfl (by decide) [1, 0] rfl ?_
          refine r_goto (tgt := 2) C (dx dX7_newOne 14 rfl) (by decide) ?_
          exact ih h4 (by rw [← nw_s]; exact mh4) ph4 kh4)
set_option maxHeartbeats 4000000 in
theorem e_part {l : Launch} {h : Hp} {k : Nat} {v : Vg} (hm : MilAt h k v)  : Ms l yX7_part cX7_part 1 (some .int) 3 [vr 7 k] h (xK h) (fun r h' => r = some (vi (partA v)) ∧ MilAt h' k (partV v) ∧ Kp k h h') := by
  refine Ms.of (by decide) (Nat.le_of_ble_eq_true rfl) (fun G C X F => ?_)
  have C : Cx G cX7_part 1 RX7 := C
  show Rr G 0 [(0, vr 7 k)] [] h
  have bP := hm.bP
  have bM := hm.bM
  have bN := hm.bN
  refine r_aload_n C (dx dX7_part 0 rfl) rfl ?_
  refine g_X7_64 (x := nI (vP v)) C (dx dX7_part 1 rfl) hm.eP ?_
  refine r_bipush (v := nI 12) C (dx dX7_part 2 rfl) rfl ?_
  refine rn_ne (a := vP v) (b := 12) (tgt := 16) C (by omega) (by omega) (dx dX7_part 3 rfl) (by decide) (fun c1 => ?_) (fun c1 => ?_)
  · first
    | (omega; done)
    | (
        have c1 : ¬ vP v = 12 := c1
        refine r_aload_n C (dx dX7_part 8 rfl) rfl ?_
        refine g_X7_40 C (dx dX7_part 9 rfl) ?_
        refine r_aload_n C (dx dX7_part 10 rfl) rfl ?_
        refine g_X7_64 (x := nI (vP v)) C (dx dX7_part 11 rfl) hm.eP ?_
        refine r_iconst (v := -1) C (dx dX7_part 12 rfl) rfl ?_
        refine r_iast (j := vP v) C rfl rfl (by decide) rfl (by omega) (dx dX7_part 13 rfl) ?_
        have mh2 : MilAt (sI h (k + 18) (vP v) (-1)) k (vset v 0 (vP v) (-1)) := hm.s0
        have ph2 : Kp k h (sI h (k + 18) (vP v) (-1)) := Kp.c (by omega) (by omega)
        have kh2 : xK (sI h (k + 18) (vP v) (-1)) = xK h := rfl
        generalize sI h (k + 18) (vP v) (-1) = h2 at mh2 ph2 kh2 ⊢
        refine r_aload_n C (dx dX7_part 14 rfl) rfl ?_
        refine g_X7_43 C (dx dX7_part 15 rfl) ?_
        refine r_aload_n C (dx dX7_part 16 rfl) rfl ?_
        refine g_X7_64 (x := nI (vP v)) C (dx dX7_part 17 rfl) mh2.eP ?_
        refine r_iconst (v := -1) C (dx dX7_part 18 rfl) rfl ?_
        refine r_iast (j := vP v) C rfl rfl (by decide) rfl (by omega) (dx dX7_part 19 rfl) ?_
        have mh3 : MilAt (sI h2 (k + 19) (vP v) (-1)) k (vset (vset v 0 (vP v) (-1)) 1 (vP v) (-1)) := mh2.s1
        have ph3 : Kp k h (sI h2 (k + 19) (vP v) (-1)) := ph2.tr (Kp.c (by omega) (by omega))
        have kh3 : xK (sI h2 (k + 19) (vP v) (-1)) = xK h := kh2
        generalize sI h2 (k + 19) (vP v) (-1) = h3 at mh3 ph3 kh3 ⊢
        refine r_aload_n C (dx dX7_part 20 rfl) rfl ?_
        refine r_dupR C (dx dX7_part 21 rfl) ?_
        refine g_X7_64 (x := nI (vP v)) C (dx dX7_part 22 rfl) mh3.eP ?_
        refine r_dup_x1 C (dx dX7_part 23 rfl) ?_
        refine r_iconst (v := nI 1) C (dx dX7_part 24 rfl) rfl ?_
        refine rn_iadd (a := vP v) (b := 1) C (dx dX7_part 25 rfl) ?_
        refine p_X7_64 C (dx dX7_part 26 rfl) rfl rfl ?_
        have mh4 : MilAt (sI h3 k 10 (nI (vP v + 1))) k (vsP (vset (vset v 0 (vP v) (-1)) 1 (vP v) (-1)) (vP v + 1)) := mh3.sP (n := vP v + 1) (by omega)
        have ph4 : Kp k h (sI h3 k 10 (nI (vP v + 1))) := ph3.tr (Kp.f (by decide))
        have kh4 : xK (sI h3 k 10 (nI (vP v + 1))) = xK h := kh3
        generalize sI h3 k 10 (nI (vP v + 1)) = h4 at mh4 ph4 kh4 ⊢
        have eV : partV v = vsP (vset (vset v 0 (vP v) (-1)) 1 (vP v) (-1)) (vP v + 1) := by (simp [partA, partV, addPartV, c1, (show vP v < 12 by omega)] <;> rfl)
        have eA : partA v = nI (vP v) := by (simp [partA, partV, addPartV, c1, (show vP v < 12 by omega)] <;> rfl)
        exact F.1 _ _ _ _ .int rfl rfl (dx dX7_part 27 rfl) kh4 ⟨by rw [eA], by rw [eV]; exact mh4, ph4⟩)
  · first
    | (omega; done)
    | (
        have c1 : vP v = 12 := c1
        refine r_aload_n C (dx dX7_part 4 rfl) rfl ?_
        refine r_bipush (v := -6) C (dx dX7_part 5 rfl) rfl ?_
        refine r_cv (as := [vi (-6)]) (st := []) C X I_X7_refuse l_X7_83 (e_refuse hm (x := -6) (j := 6) (by decide) (by decide)) (by decide) (Nat.le_of_ble_eq_true rfl) List.prefix_rfl List.prefix_rfl rfl rfl (Nat.le_of_ble_eq_true rfl) rfl (dx dX7_part 6 rfl) ?_
        rintro _ h5 ⟨rfl, m9h5, qh5⟩ kkh5
        have mh5 : MilAt h5 k v := m9h5
        have ph5 : Kp k h h5 := qh5
        have kh5 : xK h5 = xK h := kkh5
        have eV : partV v = v := by (simp [partA, partV, addPartV, c1, (show ¬ vP v < 12 by omega)] <;> rfl)
        have eA : partA v = -6 := by (simp [partA, partV, addPartV, c1, (show ¬ vP v < 12 by omega)] <;> rfl)
        exact F.1 _ _ _ _ .int rfl rfl (dx dX7_part 7 rfl) kh5 ⟨by rw [eA], by rw [eV]; exact mh5, ph5⟩)
set_option maxHeartbeats 4000000 in
theorem e_machine {l : Launch} {h : Hp} {k : Nat} {v : Vg} (hm : MilAt h k v) (x y : Int32) : Ms l yX7_machine cX7_machine 3 (some .int) 3 [vr 7 k, vi x, vi y] h (xK h) (fun r h' => r = some (vi (machA v x y)) ∧ MilAt h' k (machV v x y) ∧ Kp k h h') := by
  refine Ms.of (by decide) (Nat.le_of_ble_eq_true rfl) (fun G C X F => ?_)
  have C : Cx G cX7_machine 3 RX7 := C
  show Rr G 0 [(0, vr 7 k), (1, vi x), (2, vi y)] [] h
  have bP := hm.bP
  have bM := hm.bM
  have bN := hm.bN
  refine r_iload_n C (dx dX7_machine 0 rfl) rfl ?_
  refine r_i2l C (dx dX7_machine 1 rfl) ?_
  refine r_lconst (v := 1) C (dx dX7_machine 2 rfl) rfl ?_
  refine r_iconst (v := nI 1) C (dx dX7_machine 3 rfl) rfl ?_
  refine r_aload_n C (dx dX7_machine 4 rfl) rfl ?_
  refine g_X7_64 (x := nI (vP v)) C (dx dX7_machine 5 rfl) hm.eP ?_
  refine r_ishl C (dx dX7_machine 6 rfl) ?_
  refine r_iconst (v := nI 1) C (dx dX7_machine 7 rfl) rfl ?_
  refine r_isub C (dx dX7_machine 8 rfl) ?_
  refine r_i2l C (dx dX7_machine 9 rfl) ?_
  refine r_csP (as := [vl x.toInt64, vl 1, vl ((((nI 1) <<< ((nI (vP v)) &&& 31)) - (nI 1)).toInt64)]) (st := []) (v := vi (b2i (inL x.toInt64 1 ((((nI 1) <<< ((nI (vP v)) &&& 31)) - (nI 1)).toInt64)))) C X I_X7_in l_X7_67 (c_X7_in _ _ _) (by decide) (Nat.le_of_ble_eq_true rfl) List.prefix_rfl (Nat.le_of_ble_eq_true rfl) rfl (dx dX7_machine 10 rfl) ?_
  refine rb_eq (b := inL x.toInt64 1 ((((nI 1) <<< ((nI (vP v)) &&& 31)) - (nI 1)).toInt64)) (tgt := 30) C (dx dX7_machine 11 rfl) (by decide) (fun c1 => ?_) (fun c1 => ?_)
  ·
    have c1 : (inL x.toInt64 1 ((((nI 1) <<< ((nI (vP v)) &&& 31)) - (nI 1)).toInt64)) = false := c1
    refine r_aload_n C (dx dX7_machine 18 rfl) rfl ?_
    refine r_bipush (v := -2) C (dx dX7_machine 19 rfl) rfl ?_
    refine r_cv (as := [vi (-2)]) (st := []) C X I_X7_refuse l_X7_83 (e_refuse hm (x := -2) (j := 2) (by decide) (by decide)) (by decide) (Nat.le_of_ble_eq_true rfl) List.prefix_rfl List.prefix_rfl rfl rfl (Nat.le_of_ble_eq_true rfl) rfl (dx dX7_machine 20 rfl) ?_
    rintro _ h2 ⟨rfl, m9h2, qh2⟩ kkh2
    have mh2 : MilAt h2 k v := m9h2
    have ph2 : Kp k h h2 := qh2
    have kh2 : xK h2 = xK h := kkh2
    have eV : machV v x y = v := by (simp [machA, machV, machB_e bP, c1] <;> rfl)
    have eA : machA v x y = -2 := by (simp [machA, machV, machB_e bP, c1] <;> rfl)
    exact F.1 _ _ _ _ .int rfl rfl (dx dX7_machine 21 rfl) kh2 ⟨by rw [eA], by rw [eV]; exact mh2, ph2⟩
  ·
    have c1 : (inL x.toInt64 1 ((((nI 1) <<< ((nI (vP v)) &&& 31)) - (nI 1)).toInt64)) = true := c1
    refine r_iload_n C (dx dX7_machine 12 rfl) rfl ?_
    refine r_i2l C (dx dX7_machine 13 rfl) ?_
    refine r_lconst (v := 1) C (dx dX7_machine 14 rfl) rfl ?_
    refine r_ldc2 C n_X7_96 (dx dX7_machine 15 rfl) ?_
    refine r_csP (as := [vl y.toInt64, vl 1, vl 99]) (st := []) (v := vi (b2i (btwB y 1 99))) C X I_X7_in l_X7_67 (c_inB (a := 1) (b := 99) (by decide) (by decide)) (by decide) (Nat.le_of_ble_eq_true rfl) List.prefix_rfl (Nat.le_of_ble_eq_true rfl) rfl (dx dX7_machine 16 rfl) ?_
    refine rb_ne (b := btwB y 1 99) (tgt := 37) C (dx dX7_machine 17 rfl) (by decide) (fun c3 => ?_) (fun c3 => ?_)
    ·
      have c3 : (btwB y 1 99) = true := c3
      refine r_aload_n C (dx dX7_machine 22 rfl) rfl ?_
      refine g_X7_71 (x := nI (vM v)) C (dx dX7_machine 23 rfl) hm.eM ?_
      refine r_bipush (v := nI 6) C (dx dX7_machine 24 rfl) rfl ?_
      refine rn_ne (a := vM v) (b := 6) (tgt := 53) C (by omega) (by omega) (dx dX7_machine 25 rfl) (by decide) (fun c4 => ?_) (fun c4 => ?_)
      · first
        | (omega; done)
        | (
            have c4 : ¬ vM v = 6 := c4
            refine r_aload_n C (dx dX7_machine 30 rfl) rfl ?_
            refine g_X7_46 C (dx dX7_machine 31 rfl) ?_
            refine r_aload_n C (dx dX7_machine 32 rfl) rfl ?_
            refine g_X7_71 (x := nI (vM v)) C (dx dX7_machine 33 rfl) hm.eM ?_
            refine r_iload_n C (dx dX7_machine 34 rfl) rfl ?_
            refine r_iast (j := vM v) C rfl rfl (by decide) rfl (by omega) (dx dX7_machine 35 rfl) ?_
            have mh5 : MilAt (sI h (k + 20) (vM v) x) k (vset v 2 (vM v) x) := hm.s2
            have ph5 : Kp k h (sI h (k + 20) (vM v) x) := Kp.c (by omega) (by omega)
            have kh5 : xK (sI h (k + 20) (vM v) x) = xK h := rfl
            generalize sI h (k + 20) (vM v) x = h5 at mh5 ph5 kh5 ⊢
            refine r_aload_n C (dx dX7_machine 36 rfl) rfl ?_
            refine g_X7_49 C (dx dX7_machine 37 rfl) ?_
            refine r_aload_n C (dx dX7_machine 38 rfl) rfl ?_
            refine g_X7_71 (x := nI (vM v)) C (dx dX7_machine 39 rfl) mh5.eM ?_
            refine r_iload_n C (dx dX7_machine 40 rfl) rfl ?_
            refine r_iast (j := vM v) C rfl rfl (by decide) rfl (by omega) (dx dX7_machine 41 rfl) ?_
            have mh6 : MilAt (sI h5 (k + 21) (vM v) y) k (vset (vset v 2 (vM v) x) 3 (vM v) y) := mh5.s3
            have ph6 : Kp k h (sI h5 (k + 21) (vM v) y) := ph5.tr (Kp.c (by omega) (by omega))
            have kh6 : xK (sI h5 (k + 21) (vM v) y) = xK h := kh5
            generalize sI h5 (k + 21) (vM v) y = h6 at mh6 ph6 kh6 ⊢
            refine r_aload_n C (dx dX7_machine 42 rfl) rfl ?_
            refine r_dupR C (dx dX7_machine 43 rfl) ?_
            refine g_X7_71 (x := nI (vM v)) C (dx dX7_machine 44 rfl) mh6.eM ?_
            refine r_dup_x1 C (dx dX7_machine 45 rfl) ?_
            refine r_iconst (v := nI 1) C (dx dX7_machine 46 rfl) rfl ?_
            refine rn_iadd (a := vM v) (b := 1) C (dx dX7_machine 47 rfl) ?_
            refine p_X7_71 C (dx dX7_machine 48 rfl) rfl rfl ?_
            have mh7 : MilAt (sI h6 k 13 (nI (vM v + 1))) k (vsM (vset (vset v 2 (vM v) x) 3 (vM v) y) (vM v + 1)) := mh6.sM (n := vM v + 1) (by omega)
            have ph7 : Kp k h (sI h6 k 13 (nI (vM v + 1))) := ph6.tr (Kp.f (by decide))
            have kh7 : xK (sI h6 k 13 (nI (vM v + 1))) = xK h := kh6
            generalize sI h6 k 13 (nI (vM v + 1)) = h7 at mh7 ph7 kh7 ⊢
            have eV : machV v x y = vsM (vset (vset v 2 (vM v) x) 3 (vM v) y) (vM v + 1) := by (simp [machA, machV, machB_e bP, c1, c3, c4, (show vM v < 6 by omega)] <;> rfl)
            have eA : machA v x y = nI (vM v) := by (simp [machA, machV, machB_e bP, c1, c3, c4, (show vM v < 6 by omega)] <;> rfl)
            exact F.1 _ _ _ _ .int rfl rfl (dx dX7_machine 49 rfl) kh7 ⟨by rw [eA], by rw [eV]; exact mh7, ph7⟩)
      · first
        | (omega; done)
        | (
            have c4 : vM v = 6 := c4
            refine r_aload_n C (dx dX7_machine 26 rfl) rfl ?_
            refine r_bipush (v := -6) C (dx dX7_machine 27 rfl) rfl ?_
            refine r_cv (as := [vi (-6)]) (st := []) C X I_X7_refuse l_X7_83 (e_refuse hm (x := -6) (j := 6) (by decide) (by decide)) (by decide) (Nat.le_of_ble_eq_true rfl) List.prefix_rfl List.prefix_rfl rfl rfl (Nat.le_of_ble_eq_true rfl) rfl (dx dX7_machine 28 rfl) ?_
            rintro _ h8 ⟨rfl, m9h8, qh8⟩ kkh8
            have mh8 : MilAt h8 k v := m9h8
            have ph8 : Kp k h h8 := qh8
            have kh8 : xK h8 = xK h := kkh8
            have eV : machV v x y = v := by (simp [machA, machV, machB_e bP, c1, c3, c4, (show ¬ vM v < 6 by omega)] <;> rfl)
            have eA : machA v x y = -6 := by (simp [machA, machV, machB_e bP, c1, c3, c4, (show ¬ vM v < 6 by omega)] <;> rfl)
            exact F.1 _ _ _ _ .int rfl rfl (dx dX7_machine 29 rfl) kh8 ⟨by rw [eA], by rw [eV]; exact mh8, ph8⟩)
    ·
      have c3 : (btwB y 1 99) = false := c3
      refine r_aload_n C (dx dX7_machine 18 rfl) rfl ?_
      refine r_bipush (v := -2) C (dx dX7_machine 19 rfl) rfl ?_
      refine r_cv (as := [vi (-2)]) (st := []) C X I_X7_refuse l_X7_83 (e_refuse hm (x := -2) (j := 2) (by decide) (by decide)) (by decide) (Nat.le_of_ble_eq_true rfl) List.prefix_rfl List.prefix_rfl rfl rfl (Nat.le_of_ble_eq_true rfl) rfl (dx dX7_machine 20 rfl) ?_
      rintro _ h9 ⟨rfl, m9h9, qh9⟩ kkh9
      have mh9 : MilAt h9 k v := m9h9
      have ph9 : Kp k h h9 := qh9
      have kh9 : xK h9 = xK h := kkh9
      have eV : machV v x y = v := by (simp [machA, machV, machB_e bP, c1, c3] <;> rfl)
      have eA : machA v x y = -2 := by (simp [machA, machV, machB_e bP, c1, c3] <;> rfl)
      exact F.1 _ _ _ _ .int rfl rfl (dx dX7_machine 21 rfl) kh9 ⟨by rw [eA], by rw [eV]; exact mh9, ph9⟩
set_option maxHeartbeats 4000000 in
theorem e_one {l : Launch} {h : Hp} {k : Nat} {v : Vg} (hm : MilAt h k v) (x y : Int32) : Ms l yX7_one cX7_one 3 (some .int) 3 [vr 7 k, vi x, vi y] h (xK h) (fun r h' => r = some (vi (oneAn v x y)) ∧ MilAt h' k (oneV v x y) ∧ Kp k h h') := by
  refine Ms.of (by decide) (Nat.le_of_ble_eq_true rfl) (fun G C X F => ?_)
  have C : Cx G cX7_one 3 RX7 := C
  show Rr G 0 [(0, vr 7 k), (1, vi x), (2, vi y)] [] h
  have bP := hm.bP
  have bM := hm.bM
  have bN := hm.bN
  refine r_iload_n C (dx dX7_one 0 rfl) rfl ?_
  refine r_i2l C (dx dX7_one 1 rfl) ?_
  refine r_lconst (v := 0) C (dx dX7_one 2 rfl) rfl ?_
  refine r_ldc2 C n_X7_118 (dx dX7_one 3 rfl) ?_
  refine r_csP (as := [vl x.toInt64, vl 0, vl 9]) (st := []) (v := vi (b2i (inR x 10))) C X I_X7_in l_X7_67 (c_inR (b := 9) (by decide) (by decide)) (by decide) (Nat.le_of_ble_eq_true rfl) List.prefix_rfl (Nat.le_of_ble_eq_true rfl) rfl (dx dX7_one 4 rfl) ?_
  refine rb_eq (b := inR x 10) (tgt := 24) C (dx dX7_one 5 rfl) (by decide) (fun c1 => ?_) (fun c1 => ?_)
  ·
    have c1 : (inR x 10) = false := c1
    refine r_aload_n C (dx dX7_one 12 rfl) rfl ?_
    refine r_bipush (v := -2) C (dx dX7_one 13 rfl) rfl ?_
    refine r_cv (as := [vi (-2)]) (st := []) C X I_X7_refuse l_X7_83 (e_refuse hm (x := -2) (j := 2) (by decide) (by decide)) (by decide) (Nat.le_of_ble_eq_true rfl) List.prefix_rfl List.prefix_rfl rfl rfl (Nat.le_of_ble_eq_true rfl) rfl (dx dX7_one 14 rfl) ?_
    rintro _ h2 ⟨rfl, m9h2, qh2⟩ kkh2
    have mh2 : MilAt h2 k v := m9h2
    have ph2 : Kp k h h2 := qh2
    have kh2 : xK h2 = xK h := kkh2
    have eV : oneV v x y = v := by (simp [oneAn, oneV, oneB_e, one_eq, c1] <;> rfl)
    have eA : oneAn v x y = -2 := by (simp [oneAn, oneV, oneB_e, one_eq, c1] <;> rfl)
    exact F.1 _ _ _ _ .int rfl rfl (dx dX7_one 15 rfl) kh2 ⟨by rw [eA], by rw [eV]; exact mh2, ph2⟩
  ·
    have c1 : (inR x 10) = true := c1
    refine r_iload_n C (dx dX7_one 6 rfl) rfl ?_
    refine r_i2l C (dx dX7_one 7 rfl) ?_
    refine r_lconst (v := 0) C (dx dX7_one 8 rfl) rfl ?_
    refine r_ldc2 C n_X7_120 (dx dX7_one 9 rfl) ?_
    refine r_csP (as := [vl y.toInt64, vl 0, vl 10]) (st := []) (v := vi (b2i (inR y 11))) C X I_X7_in l_X7_67 (c_inR (b := 10) (by decide) (by decide)) (by decide) (Nat.le_of_ble_eq_true rfl) List.prefix_rfl (Nat.le_of_ble_eq_true rfl) rfl (dx dX7_one 10 rfl) ?_
    refine rb_ne (b := inR y 11) (tgt := 31) C (dx dX7_one 11 rfl) (by decide) (fun c3 => ?_) (fun c3 => ?_)
    ·
      have c3 : (inR y 11) = true := c3
      refine r_aload_n C (dx dX7_one 16 rfl) rfl ?_
      refine g_X7_74 (x := nI (vN v)) C (dx dX7_one 17 rfl) hm.eN ?_
      refine r_bipush (v := nI 8) C (dx dX7_one 18 rfl) rfl ?_
      refine rn_ne (a := vN v) (b := 8) (tgt := 47) C (by omega) (by omega) (dx dX7_one 19 rfl) (by decide) (fun c4 => ?_) (fun c4 => ?_)
      · first
        | (omega; done)
        | (
            have c4 : ¬ vN v = 8 := c4
            refine r_aload_n C (dx dX7_one 24 rfl) rfl ?_
            refine r_cv (as := []) (st := []) C X I_X7_newOne l_X7_122 (e_newOne hm (by omega)) (by decide) (Nat.le_of_ble_eq_true rfl) List.prefix_rfl List.prefix_rfl rfl rfl (Nat.le_of_ble_eq_true rfl) rfl (dx dX7_one 25 rfl) ?_
            rintro _ h5 ⟨rfl, m9h5, qh5⟩ kkh5
            have mh5 : MilAt h5 k (nwV v 4) := m9h5
            have ph5 : Kp k h h5 := qh5
            have kh5 : xK h5 = xK h := kkh5
            refine r_aload_n C (dx dX7_one 26 rfl) rfl ?_
            refine g_X7_54 C (dx dX7_one 27 rfl) ?_
            refine r_aload_n C (dx dX7_one 28 rfl) rfl ?_
            refine g_X7_74 (x := nI (vN v)) C (dx dX7_one 29 rfl) mh5.eN ?_
            refine r_aald4 (j := vN v) C rfl rfl (by decide) rfl (by omega) (dx dX7_one 30 rfl) ?_
            refine r_iconst (v := nI 0) C (dx dX7_one 31 rfl) rfl ?_
            refine r_iload_n C (dx dX7_one 32 rfl) rfl ?_
            refine r_iast (j := 0) C rfl rfl (by decide) rfl (by omega) (dx dX7_one 33 rfl) ?_
            have mh6 : MilAt (sI h5 (k + 23 + (vN v)) 0 x) k (vset (nwV v 4) 4 (vN v) x) := mh5.so (by omega) (by omega)
            have ph6 : Kp k h (sI h5 (k + 23 + (vN v)) 0 x) := ph5.tr (Kp.c (by omega) (by omega))
            have kh6 : xK (sI h5 (k + 23 + (vN v)) 0 x) = xK h := kh5
            generalize sI h5 (k + 23 + (vN v)) 0 x = h6 at mh6 ph6 kh6 ⊢
            refine r_aload_n C (dx dX7_one 34 rfl) rfl ?_
            refine g_X7_54 C (dx dX7_one 35 rfl) ?_
            refine r_aload_n C (dx dX7_one 36 rfl) rfl ?_
            refine g_X7_74 (x := nI (vN v)) C (dx dX7_one 37 rfl) mh6.eN ?_
            refine r_aald4 (j := vN v) C rfl rfl (by decide) rfl (by omega) (dx dX7_one 38 rfl) ?_
            refine r_iconst (v := nI 1) C (dx dX7_one 39 rfl) rfl ?_
            refine r_iload_n C (dx dX7_one 40 rfl) rfl ?_
            refine r_iast (j := 1) C rfl rfl (by decide) rfl (by omega) (dx dX7_one 41 rfl) ?_
            have mh7 : MilAt (sI h6 (k + 23 + (vN v)) 1 y) k (vset (vset (nwV v 4) 4 (vN v) x) 5 (vN v) y) := mh6.so (by omega) (by omega)
            have ph7 : Kp k h (sI h6 (k + 23 + (vN v)) 1 y) := ph6.tr (Kp.c (by omega) (by omega))
            have kh7 : xK (sI h6 (k + 23 + (vN v)) 1 y) = xK h := kh6
            generalize sI h6 (k + 23 + (vN v)) 1 y = h7 at mh7 ph7 kh7 ⊢
            refine r_aload_n C (dx dX7_one 42 rfl) rfl ?_
            refine r_dupR C (dx dX7_one 43 rfl) ?_
            refine g_X7_74 (x := nI (vN v)) C (dx dX7_one 44 rfl) mh7.eN ?_
            refine r_dup_x1 C (dx dX7_one 45 rfl) ?_
            refine r_iconst (v := nI 1) C (dx dX7_one 46 rfl) rfl ?_
            refine rn_iadd (a := vN v) (b := 1) C (dx dX7_one 47 rfl) ?_
            refine p_X7_74 C (dx dX7_one 48 rfl) rfl rfl ?_
            have mh8 : MilAt (sI h7 k 16 (nI (vN v + 1))) k (vsN (vset (vset (nwV v 4) 4 (vN v) x) 5 (vN v) y) (vN v + 1)) := mh7.sN (n := vN v + 1) (by omega)
            have ph8 : Kp k h (sI h7 k 16 (nI (vN v + 1))) := ph7.tr (Kp.f (by decide))
            have kh8 : xK (sI h7 k 16 (nI (vN v + 1))) = xK h := kh7
            generalize sI h7 k 16 (nI (vN v + 1)) = h8 at mh8 ph8 kh8 ⊢
            have eV : oneV v x y = vsN (vset (vset (nwV v 4) 4 (vN v) x) 5 (vN v) y) (vN v + 1) := by (simp [oneAn, oneV, oneB_e, one_eq, c1, c3, c4, (show vN v < 8 by omega)] <;> rfl)
            have eA : oneAn v x y = nI (vN v) := by (simp [oneAn, oneV, oneB_e, one_eq, c1, c3, c4, (show vN v < 8 by omega)] <;> rfl)
            exact F.1 _ _ _ _ .int rfl rfl (dx dX7_one 49 rfl) kh8 ⟨by rw [eA], by rw [eV]; exact mh8, ph8⟩)
      · first
        | (omega; done)
        | (
            have c4 : vN v = 8 := c4
            refine r_aload_n C (dx dX7_one 20 rfl) rfl ?_
            refine r_bipush (v := -6) C (dx dX7_one 21 rfl) rfl ?_
            refine r_cv (as := [vi (-6)]) (st := []) C X I_X7_refuse l_X7_83 (e_refuse hm (x := -6) (j := 6) (by decide) (by decide)) (by decide) (Nat.le_of_ble_eq_true rfl) List.prefix_rfl List.prefix_rfl rfl rfl (Nat.le_of_ble_eq_true rfl) rfl (dx dX7_one 22 rfl) ?_
            rintro _ h9 ⟨rfl, m9h9, qh9⟩ kkh9
            have mh9 : MilAt h9 k v := m9h9
            have ph9 : Kp k h h9 := qh9
            have kh9 : xK h9 = xK h := kkh9
            have eV : oneV v x y = v := by (simp [oneAn, oneV, oneB_e, one_eq, c1, c3, c4, (show ¬ vN v < 8 by omega)] <;> rfl)
            have eA : oneAn v x y = -6 := by (simp [oneAn, oneV, oneB_e, one_eq, c1, c3, c4, (show ¬ vN v < 8 by omega)] <;> rfl)
            exact F.1 _ _ _ _ .int rfl rfl (dx dX7_one 23 rfl) kh9 ⟨by rw [eA], by rw [eV]; exact mh9, ph9⟩)
    ·
      have c3 : (inR y 11) = false := c3
      refine r_aload_n C (dx dX7_one 12 rfl) rfl ?_
      refine r_bipush (v := -2) C (dx dX7_one 13 rfl) rfl ?_
      refine r_cv (as := [vi (-2)]) (st := []) C X I_X7_refuse l_X7_83 (e_refuse hm (x := -2) (j := 2) (by decide) (by decide)) (by decide) (Nat.le_of_ble_eq_true rfl) List.prefix_rfl List.prefix_rfl rfl rfl (Nat.le_of_ble_eq_true rfl) rfl (dx dX7_one 14 rfl) ?_
      rintro _ h10 ⟨rfl, m9h10, qh10⟩ kkh10
      have mh10 : MilAt h10 k v := m9h10
      have ph10 : Kp k h h10 := qh10
      have kh10 : xK h10 = xK h := kkh10
      have eV : oneV v x y = v := by (simp [oneAn, oneV, oneB_e, one_eq, c1, c3] <;> rfl)
      have eA : oneAn v x y = -2 := by (simp [oneAn, oneV, oneB_e, one_eq, c1, c3] <;> rfl)
      exact F.1 _ _ _ _ .int rfl rfl (dx dX7_one 15 rfl) kh10 ⟨by rw [eA], by rw [eV]; exact mh10, ph10⟩
set_option maxHeartbeats 4000000 in
theorem e_away {l : Launch} {h : Hp} {k : Nat} {v : Vg} (hm : MilAt h k v) (o1 y : Int32) : Ms l yX7_away cX7_away 4 (some .int) 4 [vr 7 k, vi o1, vi y] h (xK h) (fun r h' => r = some (vi (awayA v o1 y)) ∧ MilAt h' k (awayV v o1 y) ∧ Kp k h h') := by
  refine Ms.of (by decide) (Nat.le_of_ble_eq_true rfl) (fun G C X F => ?_)
  have C : Cx G cX7_away 4 RX7 := C
  show Rr G 0 [(0, vr 7 k), (1, vi o1), (2, vi y)] [] h
  have bP := hm.bP
  have bM := hm.bM
  have bN := hm.bN
  refine r_aload_n C (dx dX7_away 0 rfl) rfl ?_
  refine r_iload_n C (dx dX7_away 1 rfl) rfl ?_
  refine r_cvP (as := [vi o1]) (st := []) (v := vi (b2i (inR o1 (vN v)))) C X I_X7_isOne l_X7_125 (c_X7_isOne hm _) (by decide) (Nat.le_of_ble_eq_true rfl) List.prefix_rfl rfl rfl (Nat.le_of_ble_eq_true rfl) rfl (dx dX7_away 2 rfl) ?_
  refine rb_eq (b := inR o1 (vN v)) (tgt := 20) C (dx dX7_away 3 rfl) (by decide) (fun c1 => ?_) (fun c1 => ?_)
  ·
    have c1 : (inR o1 (vN v)) = false := c1
    refine r_aload_n C (dx dX7_away 10 rfl) rfl ?_
    refine r_bipush (v := -2) C (dx dX7_away 11 rfl) rfl ?_
    refine r_cv (as := [vi (-2)]) (st := []) C X I_X7_refuse l_X7_83 (e_refuse hm (x := -2) (j := 2) (by decide) (by decide)) (by decide) (Nat.le_of_ble_eq_true rfl) List.prefix_rfl List.prefix_rfl rfl rfl (Nat.le_of_ble_eq_true rfl) rfl (dx dX7_away 12 rfl) ?_
    rintro _ h2 ⟨rfl, m9h2, qh2⟩ kkh2
    have mh2 : MilAt h2 k v := m9h2
    have ph2 : Kp k h h2 := qh2
    have kh2 : xK h2 = xK h := kkh2
    have eV : awayV v o1 y = v := by (simp [awayA, awayV, awayB_e, c1] <;> rfl)
    have eA : awayA v o1 y = -2 := by (simp [awayA, awayV, awayB_e, c1] <;> rfl)
    exact F.1 _ _ _ _ .int rfl rfl (dx dX7_away 13 rfl) kh2 ⟨by rw [eA], by rw [eV]; exact mh2, ph2⟩
  ·
    have c1 : (inR o1 (vN v)) = true := c1
    obtain ⟨o19, ho19, rfl⟩ := inR_ex (n := (vN v)) (by omega) c1
    refine r_iload_n C (dx dX7_away 4 rfl) rfl ?_
    refine r_i2l C (dx dX7_away 5 rfl) ?_
    refine r_lconst (v := 0) C (dx dX7_away 6 rfl) rfl ?_
    refine r_ldc2 C n_X7_120 (dx dX7_away 7 rfl) ?_
    refine r_csP (as := [vl y.toInt64, vl 0, vl 10]) (st := []) (v := vi (b2i (inR y 11))) C X I_X7_in l_X7_67 (c_inR (b := 10) (by decide) (by decide)) (by decide) (Nat.le_of_ble_eq_true rfl) List.prefix_rfl (Nat.le_of_ble_eq_true rfl) rfl (dx dX7_away 8 rfl) ?_
    refine rb_ne (b := inR y 11) (tgt := 27) C (dx dX7_away 9 rfl) (by decide) (fun c3 => ?_) (fun c3 => ?_)
    ·
      have c3 : (inR y 11) = true := c3
      refine r_aload_n C (dx dX7_away 14 rfl) rfl ?_
      refine g_X7_54 C (dx dX7_away 15 rfl) ?_
      refine r_iload_n C (dx dX7_away 16 rfl) rfl ?_
      refine r_aald4 (j := o19) C rfl rfl (by decide) rfl (by omega) (dx dX7_away 17 rfl) ?_
      refine r_iconst (v := nI 1) C (dx dX7_away 18 rfl) rfl ?_
      refine r_iald (j := 1) (x := vF v 5 o19) C rfl rfl (by decide) rfl (by omega) (dx dX7_away 19 rfl) (hm.eo (by omega) (by omega)) ?_
      refine r_istore_n (ls' := [(0, vr 7 k), (1, vi (nI o19)), (2, vi y), (3, vi (vF v 5 o19))]) C (dx dX7_away 20 rfl) (by decide) [1, 2, 3, 0] rfl ?_
      refine r_aload_n C (dx dX7_away 21 rfl) rfl ?_
      refine g_X7_54 C (dx dX7_away 22 rfl) ?_
      refine r_iload_n C (dx dX7_away 23 rfl) rfl ?_
      refine r_aald4 (j := o19) C rfl rfl (by decide) rfl (by omega) (dx dX7_away 24 rfl) ?_
      refine r_iconst (v := nI 1) C (dx dX7_away 25 rfl) rfl ?_
      refine r_iload_n C (dx dX7_away 26 rfl) rfl ?_
      refine r_iast (j := 1) C rfl rfl (by decide) rfl (by omega) (dx dX7_away 27 rfl) ?_
      have mh4 : MilAt (sI h (k + 23 + o19) 1 y) k (vset v 5 o19 y) := hm.so (by omega) (by omega)
      have ph4 : Kp k h (sI h (k + 23 + o19) 1 y) := Kp.c (by omega) (by omega)
      have kh4 : xK (sI h (k + 23 + o19) 1 y) = xK h := rfl
      generalize sI h (k + 23 + o19) 1 y = h4 at mh4 ph4 kh4 ⊢
      refine r_iload_n C (dx dX7_away 28 rfl) rfl ?_
      have eV : awayV v (nI o19) y = vset v 5 o19 y := by (simp [awayA, awayV, awayB_e, clN (show o19 < 2 ^ 31 by omega), c1, c3] <;> rfl)
      have eA : awayA v (nI o19) y = vF v 5 o19 := by (simp [awayA, awayV, awayB_e, clN (show o19 < 2 ^ 31 by omega), c1, c3] <;> rfl)
      exact F.1 _ _ _ _ .int rfl rfl (dx dX7_away 29 rfl) kh4 ⟨by rw [eA], by rw [eV]; exact mh4, ph4⟩
    ·
      have c3 : (inR y 11) = false := c3
      refine r_aload_n C (dx dX7_away 10 rfl) rfl ?_
      refine r_bipush (v := -2) C (dx dX7_away 11 rfl) rfl ?_
      refine r_cv (as := [vi (-2)]) (st := []) C X I_X7_refuse l_X7_83 (e_refuse hm (x := -2) (j := 2) (by decide) (by decide)) (by decide) (Nat.le_of_ble_eq_true rfl) List.prefix_rfl List.prefix_rfl rfl rfl (Nat.le_of_ble_eq_true rfl) rfl (dx dX7_away 12 rfl) ?_
      rintro _ h5 ⟨rfl, m9h5, qh5⟩ kkh5
      have mh5 : MilAt h5 k v := m9h5
      have ph5 : Kp k h h5 := qh5
      have kh5 : xK h5 = xK h := kkh5
      have eV : awayV v (nI o19) y = v := by (simp [awayA, awayV, awayB_e, clN (show o19 < 2 ^ 31 by omega), c1, c3] <;> rfl)
      have eA : awayA v (nI o19) y = -2 := by (simp [awayA, awayV, awayB_e, clN (show o19 < 2 ^ 31 by omega), c1, c3] <;> rfl)
      exact F.1 _ _ _ _ .int rfl rfl (dx dX7_away 13 rfl) kh5 ⟨by rw [eA], by rw [eV]; exact mh5, ph5⟩
set_option maxHeartbeats 4000000 in
theorem e_cross {l : Launch} {h : Hp} {k : Nat} {v : Vg} (hm : MilAt h k v) (o1 : Int32) (b : Bool) : Ms l yX7_cross cX7_cross 4 (some .int) 4 [vr 7 k, vi o1, vi (b2i b)] h (xK h) (fun r h' => r = some (vi (crossA v o1 b)) ∧ MilAt h' k (crossV v o1 b) ∧ Kp k h h') := by
  refine Ms.of (by decide) (Nat.le_of_ble_eq_true rfl) (fun G C X F => ?_)
  have C : Cx G cX7_cross 4 RX7 := C
  show Rr G 0 [(0, vr 7 k), (1, vi o1), (2, vi (b2i b))] [] h
  have bP := hm.bP
  have bM := hm.bM
  have bN := hm.bN
  refine r_aload_n C (dx dX7_cross 0 rfl) rfl ?_
  refine r_iload_n C (dx dX7_cross 1 rfl) rfl ?_
  refine r_cvP (as := [vi o1]) (st := []) (v := vi (b2i (inR o1 (vN v)))) C X I_X7_isOne l_X7_125 (c_X7_isOne hm _) (by decide) (Nat.le_of_ble_eq_true rfl) List.prefix_rfl rfl rfl (Nat.le_of_ble_eq_true rfl) rfl (dx dX7_cross 2 rfl) ?_
  refine rb_ne (b := inR o1 (vN v)) (tgt := 15) C (dx dX7_cross 3 rfl) (by decide) (fun c1 => ?_) (fun c1 => ?_)
  ·
    have c1 : (inR o1 (vN v)) = true := c1
    obtain ⟨o19, ho19, rfl⟩ := inR_ex (n := (vN v)) (by omega) c1
    refine r_aload_n C (dx dX7_cross 8 rfl) rfl ?_
    refine g_X7_54 C (dx dX7_cross 9 rfl) ?_
    refine r_iload_n C (dx dX7_cross 10 rfl) rfl ?_
    refine r_aald4 (j := o19) C rfl rfl (by decide) rfl (by omega) (dx dX7_cross 11 rfl) ?_
    refine r_iconst (v := nI 2) C (dx dX7_cross 12 rfl) rfl ?_
    refine r_iald (j := 2) (x := vF v 6 o19) C rfl rfl (by decide) rfl (by omega) (dx dX7_cross 13 rfl) (hm.eo (by omega) (by omega)) ?_
    refine r_istore_n (ls' := [(0, vr 7 k), (1, vi (nI o19)), (2, vi (b2i b)), (3, vi (vF v 6 o19))]) C (dx dX7_cross 14 rfl) (by decide) [1, 2, 3, 0] rfl ?_
    refine r_aload_n C (dx dX7_cross 15 rfl) rfl ?_
    refine g_X7_54 C (dx dX7_cross 16 rfl) ?_
    refine r_iload_n C (dx dX7_cross 17 rfl) rfl ?_
    refine r_aald4 (j := o19) C rfl rfl (by decide) rfl (by omega) (dx dX7_cross 18 rfl) ?_
    refine r_iconst (v := nI 2) C (dx dX7_cross 19 rfl) rfl ?_
    refine r_iload_n C (dx dX7_cross 20 rfl) rfl ?_
    refine rb_eq (b := b) (tgt := 39) C (dx dX7_cross 21 rfl) (by decide) (fun c2 => ?_) (fun c2 => ?_)
    ·
      have c2 : b = false := c2
      refine r_iconst (v := nI 0) C (dx dX7_cross 24 rfl) rfl ?_
      refine r_iast (j := 2) C rfl rfl (by decide) rfl (by omega) (dx dX7_cross 25 rfl) ?_
      have mh3 : MilAt (sI h (k + 23 + o19) 2 (nI 0)) k (vset v 6 o19 (nI 0)) := hm.so (by omega) (by omega)
      have ph3 : Kp k h (sI h (k + 23 + o19) 2 (nI 0)) := Kp.c (by omega) (by omega)
      have kh3 : xK (sI h (k + 23 + o19) 2 (nI 0)) = xK h := rfl
      generalize sI h (k + 23 + o19) 2 (nI 0) = h3 at mh3 ph3 kh3 ⊢
      refine r_iload_n C (dx dX7_cross 26 rfl) rfl ?_
      refine r_aload_n C (dx dX7_cross 27 rfl) rfl ?_
      refine g_X7_54 C (dx dX7_cross 28 rfl) ?_
      refine r_iload_n C (dx dX7_cross 29 rfl) rfl ?_
      refine r_aald4 (j := o19) C rfl rfl (by decide) rfl (by omega) (dx dX7_cross 30 rfl) ?_
      refine r_iconst (v := nI 2) C (dx dX7_cross 31 rfl) rfl ?_
      refine r_iald (j := 2) (x := vF (vset v 6 o19 (nI 0)) 6 o19) C rfl rfl (by decide) rfl (by omega) (dx dX7_cross 32 rfl) (mh3.eo (by omega) (by omega)) ?_
      refine r_icmp_eq (tgt := 57) C (dx dX7_cross 33 rfl) (by decide) (fun c4 => ?_) (fun c4 => ?_)
      ·
        have c4 : vF v 6 o19 = vF (vset v 6 o19 (nI 0)) 6 o19 := c4
        refine r_iconst (v := nI 0) C (dx dX7_cross 36 rfl) rfl ?_
        have eV : crossV v (nI o19) b = vset v 6 o19 (nI 0) := by (have c49 := c4; (first | rw [vF_set] at c49 | rw [sw_f, eq_comm] at c49); simp [crossV_e, clN (show o19 < 2 ^ 31 by omega), c1, c2, c49, vset_same, show b2i true = nI 1 from rfl, show b2i false = nI 0 from rfl, show ¬ nI 0 = nI 1 by decide, show ¬ nI 1 = nI 0 by decide])
        have eA : crossA v (nI o19) b = nI 0 := by (have c49 := c4; (first | rw [vF_set] at c49 | rw [sw_f, eq_comm] at c49); simp [crossA, clN (show o19 < 2 ^ 31 by omega), c1, c2, c49, vset_same, show b2i true = nI 1 from rfl, show b2i false = nI 0 from rfl, show ¬ nI 0 = nI 1 by decide, show ¬ nI 1 = nI 0 by decide])
        exact F.1 _ _ _ _ .int rfl rfl (dx dX7_cross 37 rfl) kh3 ⟨by rw [eA], by rw [eV]; exact mh3, ph3⟩
      ·
        have c4 : ¬ vF v 6 o19 = vF (vset v 6 o19 (nI 0)) 6 o19 := c4
        refine r_iconst (v := nI 1) C (dx dX7_cross 34 rfl) rfl ?_
        refine r_goto (tgt := 58) C (dx dX7_cross 35 rfl) (by decide) ?_
        have eV : crossV v (nI o19) b = vset v 6 o19 (nI 0) := by (have c49 := c4; (first | rw [vF_set] at c49 | rw [sw_f, eq_comm] at c49); simp [crossV_e, clN (show o19 < 2 ^ 31 by omega), c1, c2, c49, vset_same, show b2i true = nI 1 from rfl, show b2i false = nI 0 from rfl, show ¬ nI 0 = nI 1 by decide, show ¬ nI 1 = nI 0 by decide])
        have eA : crossA v (nI o19) b = nI 1 := by (have c49 := c4; (first | rw [vF_set] at c49 | rw [sw_f, eq_comm] at c49); simp [crossA, clN (show o19 < 2 ^ 31 by omega), c1, c2, c49, vset_same, show b2i true = nI 1 from rfl, show b2i false = nI 0 from rfl, show ¬ nI 0 = nI 1 by decide, show ¬ nI 1 = nI 0 by decide])
        exact F.1 _ _ _ _ .int rfl rfl (dx dX7_cross 37 rfl) kh3 ⟨by rw [eA], by rw [eV]; exact mh3, ph3⟩
    ·
      have c2 : b = true := c2
      refine r_iconst (v := nI 1) C (dx dX7_cross 22 rfl) rfl ?_
      refine r_goto (tgt := 40) C (dx dX7_cross 23 rfl) (by decide) ?_
      refine r_iast (j := 2) C rfl rfl (by decide) rfl (by omega) (dx dX7_cross 25 rfl) ?_
      have mh5 : MilAt (sI h (k + 23 + o19) 2 (nI 1)) k (vset v 6 o19 (nI 1)) := hm.so (by omega) (by omega)
      have ph5 : Kp k h (sI h (k + 23 + o19) 2 (nI 1)) := Kp.c (by omega) (by omega)
      have kh5 : xK (sI h (k + 23 + o19) 2 (nI 1)) = xK h := rfl
      generalize sI h (k + 23 + o19) 2 (nI 1) = h5 at mh5 ph5 kh5 ⊢
      refine r_iload_n C (dx dX7_cross 26 rfl) rfl ?_
      refine r_aload_n C (dx dX7_cross 27 rfl) rfl ?_
      refine g_X7_54 C (dx dX7_cross 28 rfl) ?_
      refine r_iload_n C (dx dX7_cross 29 rfl) rfl ?_
      refine r_aald4 (j := o19) C rfl rfl (by decide) rfl (by omega) (dx dX7_cross 30 rfl) ?_
      refine r_iconst (v := nI 2) C (dx dX7_cross 31 rfl) rfl ?_
      refine r_iald (j := 2) (x := vF (vset v 6 o19 (nI 1)) 6 o19) C rfl rfl (by decide) rfl (by omega) (dx dX7_cross 32 rfl) (mh5.eo (by omega) (by omega)) ?_
      refine r_icmp_eq (tgt := 57) C (dx dX7_cross 33 rfl) (by decide) (fun c6 => ?_) (fun c6 => ?_)
      ·
        have c6 : vF v 6 o19 = vF (vset v 6 o19 (nI 1)) 6 o19 := c6
        refine r_iconst (v := nI 0) C (dx dX7_cross 36 rfl) rfl ?_
        have eV : crossV v (nI o19) b = vset v 6 o19 (nI 1) := by (have c69 := c6; (first | rw [vF_set] at c69 | rw [sw_f, eq_comm] at c69); simp [crossV_e, clN (show o19 < 2 ^ 31 by omega), c1, c2, c69, vset_same, show b2i true = nI 1 from rfl, show b2i false = nI 0 from rfl, show ¬ nI 0 = nI 1 by decide, show ¬ nI 1 = nI 0 by decide])
        have eA : crossA v (nI o19) b = nI 0 := by (have c69 := c6; (first | rw [vF_set] at c69 | rw [sw_f, eq_comm] at c69); simp [crossA, clN (show o19 < 2 ^ 31 by omega), c1, c2, c69, vset_same, show b2i true = nI 1 from rfl, show b2i false = nI 0 from rfl, show ¬ nI 0 = nI 1 by decide, show ¬ nI 1 = nI 0 by decide])
        exact F.1 _ _ _ _ .int rfl rfl (dx dX7_cross 37 rfl) kh5 ⟨by rw [eA], by rw [eV]; exact mh5, ph5⟩
      ·
        have c6 : ¬ vF v 6 o19 = vF (vset v 6 o19 (nI 1)) 6 o19 := c6
        refine r_iconst (v := nI 1) C (dx dX7_cross 34 rfl) rfl ?_
        refine r_goto (tgt := 58) C (dx dX7_cross 35 rfl) (by decide) ?_
        have eV : crossV v (nI o19) b = vset v 6 o19 (nI 1) := by (have c69 := c6; (first | rw [vF_set] at c69 | rw [sw_f, eq_comm] at c69); simp [crossV_e, clN (show o19 < 2 ^ 31 by omega), c1, c2, c69, vset_same, show b2i true = nI 1 from rfl, show b2i false = nI 0 from rfl, show ¬ nI 0 = nI 1 by decide, show ¬ nI 1 = nI 0 by decide])
        have eA : crossA v (nI o19) b = nI 1 := by (have c69 := c6; (first | rw [vF_set] at c69 | rw [sw_f, eq_comm] at c69); simp [crossA, clN (show o19 < 2 ^ 31 by omega), c1, c2, c69, vset_same, show b2i true = nI 1 from rfl, show b2i false = nI 0 from rfl, show ¬ nI 0 = nI 1 by decide, show ¬ nI 1 = nI 0 by decide])
        exact F.1 _ _ _ _ .int rfl rfl (dx dX7_cross 37 rfl) kh5 ⟨by rw [eA], by rw [eV]; exact mh5, ph5⟩
  ·
    have c1 : (inR o1 (vN v)) = false := c1
    refine r_aload_n C (dx dX7_cross 4 rfl) rfl ?_
    refine r_bipush (v := -2) C (dx dX7_cross 5 rfl) rfl ?_
    refine r_cv (as := [vi (-2)]) (st := []) C X I_X7_refuse l_X7_83 (e_refuse hm (x := -2) (j := 2) (by decide) (by decide)) (by decide) (Nat.le_of_ble_eq_true rfl) List.prefix_rfl List.prefix_rfl rfl rfl (Nat.le_of_ble_eq_true rfl) rfl (dx dX7_cross 6 rfl) ?_
    rintro _ h7 ⟨rfl, m9h7, qh7⟩ kkh7
    have mh7 : MilAt h7 k v := m9h7
    have ph7 : Kp k h h7 := qh7
    have kh7 : xK h7 = xK h := kkh7
    have eV : crossV v o1 b = v := by (simp [crossV_e, c1, vset_same, show b2i true = nI 1 from rfl, show b2i false = nI 0 from rfl, show ¬ nI 0 = nI 1 by decide, show ¬ nI 1 = nI 0 by decide])
    have eA : crossA v o1 b = -2 := by (simp [crossA, c1, vset_same, show b2i true = nI 1 from rfl, show b2i false = nI 0 from rfl, show ¬ nI 0 = nI 1 by decide, show ¬ nI 1 = nI 0 by decide])
    exact F.1 _ _ _ _ .int rfl rfl (dx dX7_cross 7 rfl) kh7 ⟨by rw [eA], by rw [eV]; exact mh7, ph7⟩
set_option maxHeartbeats 4000000 in
theorem e_give {l : Launch} {h : Hp} {k : Nat} {v : Vg} (hm : MilAt h k v) (p o1 : Int32) (b : Bool) : Ms l yX7_give cX7_give 6 (some .int) 4 [vr 7 k, vi p, vi o1, vi (b2i b)] h (xK h) (fun r h' => r = some (vi (giveA v p o1 b)) ∧ MilAt h' k (giveV v p o1 b) ∧ Kp k h h') := by
  refine Ms.of (by decide) (Nat.le_of_ble_eq_true rfl) (fun G C X F => ?_)
  have C : Cx G cX7_give 6 RX7 := C
  show Rr G 0 [(0, vr 7 k), (1, vi p), (2, vi o1), (3, vi (b2i b))] [] h
  have bP := hm.bP
  have bM := hm.bM
  have bN := hm.bN
  refine r_aload_n C (dx dX7_give 0 rfl) rfl ?_
  refine r_iload_n C (dx dX7_give 1 rfl) rfl ?_
  refine r_cvP (as := [vi p]) (st := []) (v := vi (b2i (inR p (vP v)))) C X I_X7_isPart l_X7_132 (c_X7_isPart hm _) (by decide) (Nat.le_of_ble_eq_true rfl) List.prefix_rfl rfl rfl (Nat.le_of_ble_eq_true rfl) rfl (dx dX7_give 2 rfl) ?_
  refine rb_eq (b := inR p (vP v)) (tgt := 21) C (dx dX7_give 3 rfl) (by decide) (fun c1 => ?_) (fun c1 => ?_)
  ·
    have c1 : (inR p (vP v)) = false := c1
    refine r_aload_n C (dx dX7_give 11 rfl) rfl ?_
    refine r_bipush (v := -2) C (dx dX7_give 12 rfl) rfl ?_
    refine r_cv (as := [vi (-2)]) (st := []) C X I_X7_refuse l_X7_83 (e_refuse hm (x := -2) (j := 2) (by decide) (by decide)) (by decide) (Nat.le_of_ble_eq_true rfl) List.prefix_rfl List.prefix_rfl rfl rfl (Nat.le_of_ble_eq_true rfl) rfl (dx dX7_give 13 rfl) ?_
    rintro _ h2 ⟨rfl, m9h2, qh2⟩ kkh2
    have mh2 : MilAt h2 k v := m9h2
    have ph2 : Kp k h h2 := qh2
    have kh2 : xK h2 = xK h := kkh2
    have eV : giveV v p o1 b = v := by (simp [giveA, giveV, giveF, c1] <;> rfl)
    have eA : giveA v p o1 b = -2 := by (simp [giveA, giveV, giveF, c1] <;> rfl)
    exact F.1 _ _ _ _ .int rfl rfl (dx dX7_give 14 rfl) kh2 ⟨by rw [eA], by rw [eV]; exact mh2, ph2⟩
  ·
    have c1 : (inR p (vP v)) = true := c1
    obtain ⟨π, hπ, rfl⟩ := inR_ex (n := (vP v)) (by omega) c1
    refine r_iload_n C (dx dX7_give 4 rfl) rfl ?_
    refine r_iconst (v := -1) C (dx dX7_give 5 rfl) rfl ?_
    refine r_icmp_eq (tgt := 28) C (dx dX7_give 6 rfl) (by decide) (fun c3 => ?_) (fun c3 => ?_)
    ·
      have c3 : o1 = -1 := c3
      refine r_iload_n C (dx dX7_give 15 rfl) rfl ?_
      refine rb_eq (b := b) (tgt := 39) C (dx dX7_give 16 rfl) (by decide) (fun c4 => ?_) (fun c4 => ?_)
      ·
        have c4 : b = false := c4
        refine r_aload_n C (dx dX7_give 20 rfl) rfl ?_
        refine g_X7_40 C (dx dX7_give 21 rfl) ?_
        refine r_astore (ls' := [(0, vr 7 k), (1, vi (nI π)), (2, vi o1), (3, vi (b2i b)), (4, vr 20 (k + 18))]) C (dx dX7_give 22 rfl) (by decide) [1, 2, 3, 4, 0] rfl ?_
        refine r_aload C (dx dX7_give 23 rfl) rfl ?_
        refine r_iload_n C (dx dX7_give 24 rfl) rfl ?_
        refine r_iald (j := π) (x := vF v 0 π) C rfl rfl (by decide) rfl (by omega) (dx dX7_give 25 rfl) (hm.e0 (by omega)) ?_
        refine r_istore (ls' := [(0, vr 7 k), (1, vi (nI π)), (2, vi o1), (3, vi (b2i b)), (4, vr 20 (k + 18)), (5, vi (vF v 0 π))]) C (dx dX7_give 26 rfl) (by decide) [1, 2, 3, 4, 5, 0] rfl ?_
        refine r_iload_n C (dx dX7_give 27 rfl) rfl ?_
        refine r_iconst (v := -1) C (dx dX7_give 28 rfl) rfl ?_
        refine r_icmp_eq (tgt := 77) C (dx dX7_give 29 rfl) (by decide) (fun c5 => ?_) (fun c5 => ?_)
        ·
          have c5 : o1 = -1 := c5
          refine r_aload C (dx dX7_give 41 rfl) rfl ?_
          refine r_iload_n C (dx dX7_give 42 rfl) rfl ?_
          refine r_iload_n C (dx dX7_give 43 rfl) rfl ?_
          refine r_iast (j := π) C rfl rfl (by decide) rfl (by omega) (dx dX7_give 44 rfl) ?_
          have mh6 : MilAt (sI h (k + 18) π o1) k (vset v 0 π o1) := hm.s0
          have ph6 : Kp k h (sI h (k + 18) π o1) := Kp.c (by omega) (by omega)
          have kh6 : xK (sI h (k + 18) π o1) = xK h := rfl
          generalize sI h (k + 18) π o1 = h6 at mh6 ph6 kh6 ⊢
          refine r_iload C (dx dX7_give 45 rfl) rfl ?_
          have eV : giveV v (nI π) o1 b = vset v 0 π o1 := by (simp [giveA, giveV, giveF, clN (show π < 2 ^ 31 by omega), c1, c3, c4, c5] <;> rfl)
          have eA : giveA v (nI π) o1 b = vF v 0 π := by (simp [giveA, giveV, giveF, clN (show π < 2 ^ 31 by omega), c1, c3, c4, c5] <;> rfl)
          exact F.1 _ _ _ _ .int rfl rfl (dx dX7_give 46 rfl) kh6 ⟨by rw [eA], by rw [eV]; exact mh6, ph6⟩
        ·
          have c5 : ¬ o1 = -1 := c5
          exact absurd c3 c5
      ·
        have c4 : b = true := c4
        refine r_aload_n C (dx dX7_give 17 rfl) rfl ?_
        refine g_X7_43 C (dx dX7_give 18 rfl) ?_
        refine r_goto (tgt := 43) C (dx dX7_give 19 rfl) (by decide) ?_
        refine r_astore (ls' := [(0, vr 7 k), (1, vi (nI π)), (2, vi o1), (3, vi (b2i b)), (4, vr 20 (k + 19))]) C (dx dX7_give 22 rfl) (by decide) [1, 2, 3, 4, 0] rfl ?_
        refine r_aload C (dx dX7_give 23 rfl) rfl ?_
        refine r_iload_n C (dx dX7_give 24 rfl) rfl ?_
        refine r_iald (j := π) (x := vF v 1 π) C rfl rfl (by decide) rfl (by omega) (dx dX7_give 25 rfl) (hm.e1 (by omega)) ?_
        refine r_istore (ls' := [(0, vr 7 k), (1, vi (nI π)), (2, vi o1), (3, vi (b2i b)), (4, vr 20 (k + 19)), (5, vi (vF v 1 π))]) C (dx dX7_give 26 rfl) (by decide) [1, 2, 3, 4, 5, 0] rfl ?_
        refine r_iload_n C (dx dX7_give 27 rfl) rfl ?_
        refine r_iconst (v := -1) C (dx dX7_give 28 rfl) rfl ?_
        refine r_icmp_eq (tgt := 77) C (dx dX7_give 29 rfl) (by decide) (fun c7 => ?_) (fun c7 => ?_)
        ·
          have c7 : o1 = -1 := c7
          refine r_aload C (dx dX7_give 41 rfl) rfl ?_
          refine r_iload_n C (dx dX7_give 42 rfl) rfl ?_
          refine r_iload_n C (dx dX7_give 43 rfl) rfl ?_
          refine r_iast (j := π) C rfl rfl (by decide) rfl (by omega) (dx dX7_give 44 rfl) ?_
          have mh8 : MilAt (sI h (k + 19) π o1) k (vset v 1 π o1) := hm.s1
          have ph8 : Kp k h (sI h (k + 19) π o1) := Kp.c (by omega) (by omega)
          have kh8 : xK (sI h (k + 19) π o1) = xK h := rfl
          generalize sI h (k + 19) π o1 = h8 at mh8 ph8 kh8 ⊢
          refine r_iload C (dx dX7_give 45 rfl) rfl ?_
          have eV : giveV v (nI π) o1 b = vset v 1 π o1 := by (simp [giveA, giveV, giveF, clN (show π < 2 ^ 31 by omega), c1, c3, c4, c7] <;> rfl)
          have eA : giveA v (nI π) o1 b = vF v 1 π := by (simp [giveA, giveV, giveF, clN (show π < 2 ^ 31 by omega), c1, c3, c4, c7] <;> rfl)
          exact F.1 _ _ _ _ .int rfl rfl (dx dX7_give 46 rfl) kh8 ⟨by rw [eA], by rw [eV]; exact mh8, ph8⟩
        ·
          have c7 : ¬ o1 = -1 := c7
          exact absurd c3 c7
    ·
      have c3 : ¬ o1 = -1 := c3
      refine r_aload_n C (dx dX7_give 7 rfl) rfl ?_
      refine r_iload_n C (dx dX7_give 8 rfl) rfl ?_
      refine r_cvP (as := [vi o1]) (st := []) (v := vi (b2i (inR o1 (vN v)))) C X I_X7_isOne l_X7_125 (c_X7_isOne hm _) (by decide) (Nat.le_of_ble_eq_true rfl) List.prefix_rfl rfl rfl (Nat.le_of_ble_eq_true rfl) rfl (dx dX7_give 9 rfl) ?_
      refine rb_ne (b := inR o1 (vN v)) (tgt := 28) C (dx dX7_give 10 rfl) (by decide) (fun c9 => ?_) (fun c9 => ?_)
      ·
        have c9 : (inR o1 (vN v)) = true := c9
        obtain ⟨o19, ho19, rfl⟩ := inR_ex (n := (vN v)) (by omega) c9
        refine r_iload_n C (dx dX7_give 15 rfl) rfl ?_
        refine rb_eq (b := b) (tgt := 39) C (dx dX7_give 16 rfl) (by decide) (fun c10 => ?_) (fun c10 => ?_)
        ·
          have c10 : b = false := c10
          refine r_aload_n C (dx dX7_give 20 rfl) rfl ?_
          refine g_X7_40 C (dx dX7_give 21 rfl) ?_
          refine r_astore (ls' := [(0, vr 7 k), (1, vi (nI π)), (2, vi (nI o19)), (3, vi (b2i b)), (4, vr 20 (k + 18))]) C (dx dX7_give 22 rfl) (by decide) [1, 2, 3, 4, 0] rfl ?_
          refine r_aload C (dx dX7_give 23 rfl) rfl ?_
          refine r_iload_n C (dx dX7_give 24 rfl) rfl ?_
          refine r_iald (j := π) (x := vF v 0 π) C rfl rfl (by decide) rfl (by omega) (dx dX7_give 25 rfl) (hm.e0 (by omega)) ?_
          refine r_istore (ls' := [(0, vr 7 k), (1, vi (nI π)), (2, vi (nI o19)), (3, vi (b2i b)), (4, vr 20 (k + 18)), (5, vi (vF v 0 π))]) C (dx dX7_give 26 rfl) (by decide) [1, 2, 3, 4, 5, 0] rfl ?_
          refine r_iload_n C (dx dX7_give 27 rfl) rfl ?_
          refine r_iconst (v := -1) C (dx dX7_give 28 rfl) rfl ?_
          refine r_icmp_eq (tgt := 77) C (dx dX7_give 29 rfl) (by decide) (fun c11 => ?_) (fun c11 => ?_)
          ·
            have c11 : nI o19 = -1 := c11
            refine r_aload C (dx dX7_give 41 rfl) rfl ?_
            refine r_iload_n C (dx dX7_give 42 rfl) rfl ?_
            refine r_iload_n C (dx dX7_give 43 rfl) rfl ?_
            refine r_iast (j := π) C rfl rfl (by decide) rfl (by omega) (dx dX7_give 44 rfl) ?_
            have mh12 : MilAt (sI h (k + 18) π (nI o19)) k (vset v 0 π (nI o19)) := hm.s0
            have ph12 : Kp k h (sI h (k + 18) π (nI o19)) := Kp.c (by omega) (by omega)
            have kh12 : xK (sI h (k + 18) π (nI o19)) = xK h := rfl
            generalize sI h (k + 18) π (nI o19) = h12 at mh12 ph12 kh12 ⊢
            refine r_iload C (dx dX7_give 45 rfl) rfl ?_
            have eV : giveV v (nI π) (nI o19) b = vset v 0 π (nI o19) := by (simp [giveA, giveV, giveF, clN (show π < 2 ^ 31 by omega), clN (show o19 < 2 ^ 31 by omega), c1, c3, c9, c10, c11] <;> rfl)
            have eA : giveA v (nI π) (nI o19) b = vF v 0 π := by (simp [giveA, giveV, giveF, clN (show π < 2 ^ 31 by omega), clN (show o19 < 2 ^ 31 by omega), c1, c3, c9, c10, c11] <;> rfl)
            exact F.1 _ _ _ _ .int rfl rfl (dx dX7_give 46 rfl) kh12 ⟨by rw [eA], by rw [eV]; exact mh12, ph12⟩
          ·
            have c11 : ¬ nI o19 = -1 := c11
            refine r_iload C (dx dX7_give 30 rfl) rfl ?_
            refine r_iload_n C (dx dX7_give 31 rfl) rfl ?_
            refine r_icmp_eq (tgt := 77) C (dx dX7_give 32 rfl) (by decide) (fun c13 => ?_) (fun c13 => ?_)
            ·
              have c13 : vF v 0 π = nI o19 := c13
              refine r_aload C (dx dX7_give 41 rfl) rfl ?_
              refine r_iload_n C (dx dX7_give 42 rfl) rfl ?_
              refine r_iload_n C (dx dX7_give 43 rfl) rfl ?_
              refine r_iast (j := π) C rfl rfl (by decide) rfl (by omega) (dx dX7_give 44 rfl) ?_
              have mh14 : MilAt (sI h (k + 18) π (nI o19)) k (vset v 0 π (nI o19)) := hm.s0
              have ph14 : Kp k h (sI h (k + 18) π (nI o19)) := Kp.c (by omega) (by omega)
              have kh14 : xK (sI h (k + 18) π (nI o19)) = xK h := rfl
              generalize sI h (k + 18) π (nI o19) = h14 at mh14 ph14 kh14 ⊢
              refine r_iload C (dx dX7_give 45 rfl) rfl ?_
              have eV : giveV v (nI π) (nI o19) b = vset v 0 π (nI o19) := by (simp [giveA, giveV, giveF, clN (show π < 2 ^ 31 by omega), clN (show o19 < 2 ^ 31 by omega), c1, c3, c9, c10, c11, c13] <;> rfl)
              have eA : giveA v (nI π) (nI o19) b = vF v 0 π := by (simp [giveA, giveV, giveF, clN (show π < 2 ^ 31 by omega), clN (show o19 < 2 ^ 31 by omega), c1, c3, c9, c10, c11, c13] <;> rfl)
              exact F.1 _ _ _ _ .int rfl rfl (dx dX7_give 46 rfl) kh14 ⟨by rw [eA], by rw [eV]; exact mh14, ph14⟩
            ·
              have c13 : ¬ vF v 0 π = nI o19 := c13
              refine r_aload_n C (dx dX7_give 33 rfl) rfl ?_
              refine r_iload_n C (dx dX7_give 34 rfl) rfl ?_
              refine r_cvP (as := [vi (nI o19)]) (st := []) (v := vi (b2i (hasRm v (nI o19)))) C X I_X7_hasRoom l_X7_135 (e_hasRoom hm (j := o19) (by omega)) (by decide) (Nat.le_of_ble_eq_true rfl) List.prefix_rfl rfl rfl (Nat.le_of_ble_eq_true rfl) rfl (dx dX7_give 35 rfl) ?_
              refine rb_ne (b := hasRm v (nI o19)) (tgt := 77) C (dx dX7_give 36 rfl) (by decide) (fun c15 => ?_) (fun c15 => ?_)
              ·
                have c15 : (hasRm v (nI o19)) = true := c15
                refine r_aload C (dx dX7_give 41 rfl) rfl ?_
                refine r_iload_n C (dx dX7_give 42 rfl) rfl ?_
                refine r_iload_n C (dx dX7_give 43 rfl) rfl ?_
                refine r_iast (j := π) C rfl rfl (by decide) rfl (by omega) (dx dX7_give 44 rfl) ?_
                have mh16 : MilAt (sI h (k + 18) π (nI o19)) k (vset v 0 π (nI o19)) := hm.s0
                have ph16 : Kp k h (sI h (k + 18) π (nI o19)) := Kp.c (by omega) (by omega)
                have kh16 : xK (sI h (k + 18) π (nI o19)) = xK h := rfl
                generalize sI h (k + 18) π (nI o19) = h16 at mh16 ph16 kh16 ⊢
                refine r_iload C (dx dX7_give 45 rfl) rfl ?_
                have eV : giveV v (nI π) (nI o19) b = vset v 0 π (nI o19) := by (simp [giveA, giveV, giveF, clN (show π < 2 ^ 31 by omega), clN (show o19 < 2 ^ 31 by omega), c1, c3, c9, c10, c11, c13, c15, Ne.symm c13] <;> rfl)
                have eA : giveA v (nI π) (nI o19) b = vF v 0 π := by (simp [giveA, giveV, giveF, clN (show π < 2 ^ 31 by omega), clN (show o19 < 2 ^ 31 by omega), c1, c3, c9, c10, c11, c13, c15, Ne.symm c13] <;> rfl)
                exact F.1 _ _ _ _ .int rfl rfl (dx dX7_give 46 rfl) kh16 ⟨by rw [eA], by rw [eV]; exact mh16, ph16⟩
              ·
                have c15 : (hasRm v (nI o19)) = false := c15
                refine r_aload_n C (dx dX7_give 37 rfl) rfl ?_
                refine r_bipush (v := -5) C (dx dX7_give 38 rfl) rfl ?_
                refine r_cv (as := [vi (-5)]) (st := []) C X I_X7_refuse l_X7_83 (e_refuse hm (x := -5) (j := 5) (by decide) (by decide)) (by decide) (Nat.le_of_ble_eq_true rfl) List.prefix_rfl List.prefix_rfl rfl rfl (Nat.le_of_ble_eq_true rfl) rfl (dx dX7_give 39 rfl) ?_
                rintro _ h17 ⟨rfl, m9h17, qh17⟩ kkh17
                have mh17 : MilAt h17 k v := m9h17
                have ph17 : Kp k h h17 := qh17
                have kh17 : xK h17 = xK h := kkh17
                have eV : giveV v (nI π) (nI o19) b = v := by (simp [giveA, giveV, giveF, clN (show π < 2 ^ 31 by omega), clN (show o19 < 2 ^ 31 by omega), c1, c3, c9, c10, c11, c13, c15, Ne.symm c13] <;> rfl)
                have eA : giveA v (nI π) (nI o19) b = -5 := by (simp [giveA, giveV, giveF, clN (show π < 2 ^ 31 by omega), clN (show o19 < 2 ^ 31 by omega), c1, c3, c9, c10, c11, c13, c15, Ne.symm c13] <;> rfl)
                exact F.1 _ _ _ _ .int rfl rfl (dx dX7_give 40 rfl) kh17 ⟨by rw [eA], by rw [eV]; exact mh17, ph17⟩
        ·
          have c10 : b = true := c10
          refine r_aload_n C (dx dX7_give 17 rfl) rfl ?_
          refine g_X7_43 C (dx dX7_give 18 rfl) ?_
          refine r_goto (tgt := 43) C (dx dX7_give 19 rfl) (by decide) ?_
          refine r_astore (ls' := [(0, vr 7 k), (1, vi (nI π)), (2, vi (nI o19)), (3, vi (b2i b)), (4, vr 20 (k + 19))]) C (dx dX7_give 22 rfl) (by decide) [1, 2, 3, 4, 0] rfl ?_
          refine r_aload C (dx dX7_give 23 rfl) rfl ?_
          refine r_iload_n C (dx dX7_give 24 rfl) rfl ?_
          refine r_iald (j := π) (x := vF v 1 π) C rfl rfl (by decide) rfl (by omega) (dx dX7_give 25 rfl) (hm.e1 (by omega)) ?_
          refine r_istore (ls' := [(0, vr 7 k), (1, vi (nI π)), (2, vi (nI o19)), (3, vi (b2i b)), (4, vr 20 (k + 19)), (5, vi (vF v 1 π))]) C (dx dX7_give 26 rfl) (by decide) [1, 2, 3, 4, 5, 0] rfl ?_
          refine r_iload_n C (dx dX7_give 27 rfl) rfl ?_
          refine r_iconst (v := -1) C (dx dX7_give 28 rfl) rfl ?_
          refine r_icmp_eq (tgt := 77) C (dx dX7_give 29 rfl) (by decide) (fun c18 => ?_) (fun c18 => ?_)
          ·
            have c18 : nI o19 = -1 := c18
            refine r_aload C (dx dX7_give 41 rfl) rfl ?_
            refine r_iload_n C (dx dX7_give 42 rfl) rfl ?_
            refine r_iload_n C (dx dX7_give 43 rfl) rfl ?_
            refine r_iast (j := π) C rfl rfl (by decide) rfl (by omega) (dx dX7_give 44 rfl) ?_
            have mh19 : MilAt (sI h (k + 19) π (nI o19)) k (vset v 1 π (nI o19)) := hm.s1
            have ph19 : Kp k h (sI h (k + 19) π (nI o19)) := Kp.c (by omega) (by omega)
            have kh19 : xK (sI h (k + 19) π (nI o19)) = xK h := rfl
            generalize sI h (k + 19) π (nI o19) = h19 at mh19 ph19 kh19 ⊢
            refine r_iload C (dx dX7_give 45 rfl) rfl ?_
            have eV : giveV v (nI π) (nI o19) b = vset v 1 π (nI o19) := by (simp [giveA, giveV, giveF, clN (show π < 2 ^ 31 by omega), clN (show o19 < 2 ^ 31 by omega), c1, c3, c9, c10, c18] <;> rfl)
            have eA : giveA v (nI π) (nI o19) b = vF v 1 π := by (simp [giveA, giveV, giveF, clN (show π < 2 ^ 31 by omega), clN (show o19 < 2 ^ 31 by omega), c1, c3, c9, c10, c18] <;> rfl)
            exact F.1 _ _ _ _ .int rfl rfl (dx dX7_give 46 rfl) kh19 ⟨by rw [eA], by rw [eV]; exact mh19, ph19⟩
          ·
            have c18 : ¬ nI o19 = -1 := c18
            refine r_iload C (dx dX7_give 30 rfl) rfl ?_
            refine r_iload_n C (dx dX7_give 31 rfl) rfl ?_
            refine r_icmp_eq (tgt := 77) C (dx dX7_give 32 rfl) (by decide) (fun c20 => ?_) (fun c20 => ?_)
            ·
              have c20 : vF v 1 π = nI o19 := c20
              refine r_aload C (dx dX7_give 41 rfl) rfl ?_
              refine r_iload_n C (dx dX7_give 42 rfl) rfl ?_
              refine r_iload_n C (dx dX7_give 43 rfl) rfl ?_
              refine r_iast (j := π) C rfl rfl (by decide) rfl (by omega) (dx dX7_give 44 rfl) ?_
              have mh21 : MilAt (sI h (k + 19) π (nI o19)) k (vset v 1 π (nI o19)) := hm.s1
              have ph21 : Kp k h (sI h (k + 19) π (nI o19)) := Kp.c (by omega) (by omega)
              have kh21 : xK (sI h (k + 19) π (nI o19)) = xK h := rfl
              generalize sI h (k + 19) π (nI o19) = h21 at mh21 ph21 kh21 ⊢
              refine r_iload C (dx dX7_give 45 rfl) rfl ?_
              have eV : giveV v (nI π) (nI o19) b = vset v 1 π (nI o19) := by (simp [giveA, giveV, giveF, clN (show π < 2 ^ 31 by omega), clN (show o19 < 2 ^ 31 by omega), c1, c3, c9, c10, c18, c20] <;> rfl)
              have eA : giveA v (nI π) (nI o19) b = vF v 1 π := by (simp [giveA, giveV, giveF, clN (show π < 2 ^ 31 by omega), clN (show o19 < 2 ^ 31 by omega), c1, c3, c9, c10, c18, c20] <;> rfl)
              exact F.1 _ _ _ _ .int rfl rfl (dx dX7_give 46 rfl) kh21 ⟨by rw [eA], by rw [eV]; exact mh21, ph21⟩
            ·
              have c20 : ¬ vF v 1 π = nI o19 := c20
              refine r_aload_n C (dx dX7_give 33 rfl) rfl ?_
              refine r_iload_n C (dx dX7_give 34 rfl) rfl ?_
              refine r_cvP (as := [vi (nI o19)]) (st := []) (v := vi (b2i (hasRm v (nI o19)))) C X I_X7_hasRoom l_X7_135 (e_hasRoom hm (j := o19) (by omega)) (by decide) (Nat.le_of_ble_eq_true rfl) List.prefix_rfl rfl rfl (Nat.le_of_ble_eq_true rfl) rfl (dx dX7_give 35 rfl) ?_
              refine rb_ne (b := hasRm v (nI o19)) (tgt := 77) C (dx dX7_give 36 rfl) (by decide) (fun c22 => ?_) (fun c22 => ?_)
              ·
                have c22 : (hasRm v (nI o19)) = true := c22
                refine r_aload C (dx dX7_give 41 rfl) rfl ?_
                refine r_iload_n C (dx dX7_give 42 rfl) rfl ?_
                refine r_iload_n C (dx dX7_give 43 rfl) rfl ?_
                refine r_iast (j := π) C rfl rfl (by decide) rfl (by omega) (dx dX7_give 44 rfl) ?_
                have mh23 : MilAt (sI h (k + 19) π (nI o19)) k (vset v 1 π (nI o19)) := hm.s1
                have ph23 : Kp k h (sI h (k + 19) π (nI o19)) := Kp.c (by omega) (by omega)
                have kh23 : xK (sI h (k + 19) π (nI o19)) = xK h := rfl
                generalize sI h (k + 19) π (nI o19) = h23 at mh23 ph23 kh23 ⊢
                refine r_iload C (dx dX7_give 45 rfl) rfl ?_
                have eV : giveV v (nI π) (nI o19) b = vset v 1 π (nI o19) := by (simp [giveA, giveV, giveF, clN (show π < 2 ^ 31 by omega), clN (show o19 < 2 ^ 31 by omega), c1, c3, c9, c10, c18, c20, c22, Ne.symm c20] <;> rfl)
                have eA : giveA v (nI π) (nI o19) b = vF v 1 π := by (simp [giveA, giveV, giveF, clN (show π < 2 ^ 31 by omega), clN (show o19 < 2 ^ 31 by omega), c1, c3, c9, c10, c18, c20, c22, Ne.symm c20] <;> rfl)
                exact F.1 _ _ _ _ .int rfl rfl (dx dX7_give 46 rfl) kh23 ⟨by rw [eA], by rw [eV]; exact mh23, ph23⟩
              ·
                have c22 : (hasRm v (nI o19)) = false := c22
                refine r_aload_n C (dx dX7_give 37 rfl) rfl ?_
                refine r_bipush (v := -5) C (dx dX7_give 38 rfl) rfl ?_
                refine r_cv (as := [vi (-5)]) (st := []) C X I_X7_refuse l_X7_83 (e_refuse hm (x := -5) (j := 5) (by decide) (by decide)) (by decide) (Nat.le_of_ble_eq_true rfl) List.prefix_rfl List.prefix_rfl rfl rfl (Nat.le_of_ble_eq_true rfl) rfl (dx dX7_give 39 rfl) ?_
                rintro _ h24 ⟨rfl, m9h24, qh24⟩ kkh24
                have mh24 : MilAt h24 k v := m9h24
                have ph24 : Kp k h h24 := qh24
                have kh24 : xK h24 = xK h := kkh24
                have eV : giveV v (nI π) (nI o19) b = v := by (simp [giveA, giveV, giveF, clN (show π < 2 ^ 31 by omega), clN (show o19 < 2 ^ 31 by omega), c1, c3, c9, c10, c18, c20, c22, Ne.symm c20] <;> rfl)
                have eA : giveA v (nI π) (nI o19) b = -5 := by (simp [giveA, giveV, giveF, clN (show π < 2 ^ 31 by omega), clN (show o19 < 2 ^ 31 by omega), c1, c3, c9, c10, c18, c20, c22, Ne.symm c20] <;> rfl)
                exact F.1 _ _ _ _ .int rfl rfl (dx dX7_give 40 rfl) kh24 ⟨by rw [eA], by rw [eV]; exact mh24, ph24⟩
      ·
        have c9 : (inR o1 (vN v)) = false := c9
        refine r_aload_n C (dx dX7_give 11 rfl) rfl ?_
        refine r_bipush (v := -2) C (dx dX7_give 12 rfl) rfl ?_
        refine r_cv (as := [vi (-2)]) (st := []) C X I_X7_refuse l_X7_83 (e_refuse hm (x := -2) (j := 2) (by decide) (by decide)) (by decide) (Nat.le_of_ble_eq_true rfl) List.prefix_rfl List.prefix_rfl rfl rfl (Nat.le_of_ble_eq_true rfl) rfl (dx dX7_give 13 rfl) ?_
        rintro _ h25 ⟨rfl, m9h25, qh25⟩ kkh25
        have mh25 : MilAt h25 k v := m9h25
        have ph25 : Kp k h h25 := qh25
        have kh25 : xK h25 = xK h := kkh25
        have eV : giveV v (nI π) o1 b = v := by (simp [giveA, giveV, giveF, clN (show π < 2 ^ 31 by omega), c1, c3, c9] <;> rfl)
        have eA : giveA v (nI π) o1 b = -2 := by (simp [giveA, giveV, giveF, clN (show π < 2 ^ 31 by omega), c1, c3, c9] <;> rfl)
        exact F.1 _ _ _ _ .int rfl rfl (dx dX7_give 14 rfl) kh25 ⟨by rw [eA], by rw [eV]; exact mh25, ph25⟩
set_option maxHeartbeats 4000000 in
theorem e_swap {l : Launch} {h : Hp} {k : Nat} {v : Vg} (hm : MilAt h k v) (p q : Int32) : Ms l yX7_swap cX7_swap 4 (some .int) 8 [vr 7 k, vi p, vi q] h (xK h) (fun r h' => r = some (vi (swapA v p q)) ∧ MilAt h' k (swapV v p q) ∧ Kp k h h') := by
  refine Ms.of (by decide) (Nat.le_of_ble_eq_true rfl) (fun G C X F => ?_)
  have C : Cx G cX7_swap 4 RX7 := C
  show Rr G 0 [(0, vr 7 k), (1, vi p), (2, vi q)] [] h
  have bP := hm.bP
  have bM := hm.bM
  have bN := hm.bN
  refine r_aload_n C (dx dX7_swap 0 rfl) rfl ?_
  refine r_iload_n C (dx dX7_swap 1 rfl) rfl ?_
  refine r_cvP (as := [vi p]) (st := []) (v := vi (b2i (inR p (vP v)))) C X I_X7_isPart l_X7_132 (c_X7_isPart hm _) (by decide) (Nat.le_of_ble_eq_true rfl) List.prefix_rfl rfl rfl (Nat.le_of_ble_eq_true rfl) rfl (dx dX7_swap 2 rfl) ?_
  refine rb_eq (b := inR p (vP v)) (tgt := 16) C (dx dX7_swap 3 rfl) (by decide) (fun c1 => ?_) (fun c1 => ?_)
  ·
    have c1 : (inR p (vP v)) = false := c1
    refine r_aload_n C (dx dX7_swap 8 rfl) rfl ?_
    refine r_bipush (v := -2) C (dx dX7_swap 9 rfl) rfl ?_
    refine r_cv (as := [vi (-2)]) (st := []) C X I_X7_refuse l_X7_83 (e_refuse hm (x := -2) (j := 2) (by decide) (by decide)) (by decide) (Nat.le_of_ble_eq_true rfl) List.prefix_rfl List.prefix_rfl rfl rfl (Nat.le_of_ble_eq_true rfl) rfl (dx dX7_swap 10 rfl) ?_
    rintro _ h2 ⟨rfl, m9h2, qh2⟩ kkh2
    have mh2 : MilAt h2 k v := m9h2
    have ph2 : Kp k h h2 := qh2
    have kh2 : xK h2 = xK h := kkh2
    have eV : swapV v p q = v := by (simp [swapV_e, c1, vset_same, show b2i true = nI 1 from rfl, show b2i false = nI 0 from rfl, show ¬ nI 0 = nI 1 by decide, show ¬ nI 1 = nI 0 by decide])
    have eA : swapA v p q = -2 := by (simp [swapA, c1, vset_same, show b2i true = nI 1 from rfl, show b2i false = nI 0 from rfl, show ¬ nI 0 = nI 1 by decide, show ¬ nI 1 = nI 0 by decide])
    exact F.1 _ _ _ _ .int rfl rfl (dx dX7_swap 11 rfl) kh2 ⟨by rw [eA], by rw [eV]; exact mh2, ph2⟩
  ·
    have c1 : (inR p (vP v)) = true := c1
    obtain ⟨π, hπ, rfl⟩ := inR_ex (n := (vP v)) (by omega) c1
    refine r_aload_n C (dx dX7_swap 4 rfl) rfl ?_
    refine r_iload_n C (dx dX7_swap 5 rfl) rfl ?_
    refine r_cvP (as := [vi q]) (st := []) (v := vi (b2i (inR q (vP v)))) C X I_X7_isPart l_X7_132 (c_X7_isPart hm _) (by decide) (Nat.le_of_ble_eq_true rfl) List.prefix_rfl rfl rfl (Nat.le_of_ble_eq_true rfl) rfl (dx dX7_swap 6 rfl) ?_
    refine rb_ne (b := inR q (vP v)) (tgt := 23) C (dx dX7_swap 7 rfl) (by decide) (fun c3 => ?_) (fun c3 => ?_)
    ·
      have c3 : (inR q (vP v)) = true := c3
      obtain ⟨θ, hθ, rfl⟩ := inR_ex (n := (vP v)) (by omega) c3
      refine r_aload_n C (dx dX7_swap 12 rfl) rfl ?_
      refine g_X7_40 C (dx dX7_swap 13 rfl) ?_
      refine r_iload_n C (dx dX7_swap 14 rfl) rfl ?_
      refine r_iald (j := π) (x := vF v 0 π) C rfl rfl (by decide) rfl (by omega) (dx dX7_swap 15 rfl) (hm.e0 (by omega)) ?_
      refine r_istore_n (ls' := [(0, vr 7 k), (1, vi (nI π)), (2, vi (nI θ)), (3, vi (vF v 0 π))]) C (dx dX7_swap 16 rfl) (by decide) [1, 2, 3, 0] rfl ?_
      refine r_aload_n C (dx dX7_swap 17 rfl) rfl ?_
      refine g_X7_40 C (dx dX7_swap 18 rfl) ?_
      refine r_iload_n C (dx dX7_swap 19 rfl) rfl ?_
      refine r_aload_n C (dx dX7_swap 20 rfl) rfl ?_
      refine g_X7_40 C (dx dX7_swap 21 rfl) ?_
      refine r_iload_n C (dx dX7_swap 22 rfl) rfl ?_
      refine r_iald (j := θ) (x := vF v 0 θ) C rfl rfl (by decide) rfl (by omega) (dx dX7_swap 23 rfl) (hm.e0 (by omega)) ?_
      refine r_iast (j := π) C rfl rfl (by decide) rfl (by omega) (dx dX7_swap 24 rfl) ?_
      have mh4 : MilAt (sI h (k + 18) π (vF v 0 θ)) k (vset v 0 π (vF v 0 θ)) := hm.s0
      have ph4 : Kp k h (sI h (k + 18) π (vF v 0 θ)) := Kp.c (by omega) (by omega)
      have kh4 : xK (sI h (k + 18) π (vF v 0 θ)) = xK h := rfl
      generalize sI h (k + 18) π (vF v 0 θ) = h4 at mh4 ph4 kh4 ⊢
      refine r_aload_n C (dx dX7_swap 25 rfl) rfl ?_
      refine g_X7_40 C (dx dX7_swap 26 rfl) ?_
      refine r_iload_n C (dx dX7_swap 27 rfl) rfl ?_
      refine r_iload_n C (dx dX7_swap 28 rfl) rfl ?_
      refine r_iast (j := θ) C rfl rfl (by decide) rfl (by omega) (dx dX7_swap 29 rfl) ?_
      have mh5 : MilAt (sI h4 (k + 18) θ (vF v 0 π)) k (vset (vset v 0 π (vF v 0 θ)) 0 θ (vF v 0 π)) := mh4.s0
      have ph5 : Kp k h (sI h4 (k + 18) θ (vF v 0 π)) := ph4.tr (Kp.c (by omega) (by omega))
      have kh5 : xK (sI h4 (k + 18) θ (vF v 0 π)) = xK h := kh4
      generalize sI h4 (k + 18) θ (vF v 0 π) = h5 at mh5 ph5 kh5 ⊢
      refine r_aload_n C (dx dX7_swap 30 rfl) rfl ?_
      refine g_X7_40 C (dx dX7_swap 31 rfl) ?_
      refine r_iload_n C (dx dX7_swap 32 rfl) rfl ?_
      refine r_iald (j := π) (x := vF (vset (vset v 0 π (vF v 0 θ)) 0 θ (vF v 0 π)) 0 π) C rfl rfl (by decide) rfl (by omega) (dx dX7_swap 33 rfl) (mh5.e0 (by omega)) ?_
      refine r_iload_n C (dx dX7_swap 34 rfl) rfl ?_
      refine r_icmp_eq (tgt := 63) C (dx dX7_swap 35 rfl) (by decide) (fun c6 => ?_) (fun c6 => ?_)
      ·
        have c6 : vF (vset (vset v 0 π (vF v 0 θ)) 0 θ (vF v 0 π)) 0 π = vF v 0 π := c6
        refine r_iconst (v := nI 0) C (dx dX7_swap 38 rfl) rfl ?_
        have eV : swapV v (nI π) (nI θ) = vset (vset v 0 π (vF v 0 θ)) 0 θ (vF v 0 π) := by (have c69 := c6; (first | rw [vF_set] at c69 | rw [sw_f, eq_comm] at c69); simp [swapV_e, clN (show π < 2 ^ 31 by omega), clN (show θ < 2 ^ 31 by omega), c1, c3, c69, vset_same, show b2i true = nI 1 from rfl, show b2i false = nI 0 from rfl, show ¬ nI 0 = nI 1 by decide, show ¬ nI 1 = nI 0 by decide])
        have eA : swapA v (nI π) (nI θ) = nI 0 := by (have c69 := c6; (first | rw [vF_set] at c69 | rw [sw_f, eq_comm] at c69); simp [swapA, clN (show π < 2 ^ 31 by omega), clN (show θ < 2 ^ 31 by omega), c1, c3, c69, vset_same, show b2i true = nI 1 from rfl, show b2i false = nI 0 from rfl, show ¬ nI 0 = nI 1 by decide, show ¬ nI 1 = nI 0 by decide])
        exact F.1 _ _ _ _ .int rfl rfl (dx dX7_swap 39 rfl) kh5 ⟨by rw [eA], by rw [eV]; exact mh5, ph5⟩
      ·
        have c6 : ¬ vF (vset (vset v 0 π (vF v 0 θ)) 0 θ (vF v 0 π)) 0 π = vF v 0 π := c6
        refine r_iconst (v := nI 1) C (dx dX7_swap 36 rfl) rfl ?_
        refine r_goto (tgt := 64) C (dx dX7_swap 37 rfl) (by decide) ?_
        have eV : swapV v (nI π) (nI θ) = vset (vset v 0 π (vF v 0 θ)) 0 θ (vF v 0 π) := by (have c69 := c6; (first | rw [vF_set] at c69 | rw [sw_f, eq_comm] at c69); simp [swapV_e, clN (show π < 2 ^ 31 by omega), clN (show θ < 2 ^ 31 by omega), c1, c3, c69, vset_same, show b2i true = nI 1 from rfl, show b2i false = nI 0 from rfl, show ¬ nI 0 = nI 1 by decide, show ¬ nI 1 = nI 0 by decide])
        have eA : swapA v (nI π) (nI θ) = nI 1 := by (have c69 := c6; (first | rw [vF_set] at c69 | rw [sw_f, eq_comm] at c69); simp [swapA, clN (show π < 2 ^ 31 by omega), clN (show θ < 2 ^ 31 by omega), c1, c3, c69, vset_same, show b2i true = nI 1 from rfl, show b2i false = nI 0 from rfl, show ¬ nI 0 = nI 1 by decide, show ¬ nI 1 = nI 0 by decide])
        exact F.1 _ _ _ _ .int rfl rfl (dx dX7_swap 39 rfl) kh5 ⟨by rw [eA], by rw [eV]; exact mh5, ph5⟩
    ·
      have c3 : (inR q (vP v)) = false := c3
      refine r_aload_n C (dx dX7_swap 8 rfl) rfl ?_
      refine r_bipush (v := -2) C (dx dX7_swap 9 rfl) rfl ?_
      refine r_cv (as := [vi (-2)]) (st := []) C X I_X7_refuse l_X7_83 (e_refuse hm (x := -2) (j := 2) (by decide) (by decide)) (by decide) (Nat.le_of_ble_eq_true rfl) List.prefix_rfl List.prefix_rfl rfl rfl (Nat.le_of_ble_eq_true rfl) rfl (dx dX7_swap 10 rfl) ?_
      rintro _ h7 ⟨rfl, m9h7, qh7⟩ kkh7
      have mh7 : MilAt h7 k v := m9h7
      have ph7 : Kp k h h7 := qh7
      have kh7 : xK h7 = xK h := kkh7
      have eV : swapV v (nI π) q = v := by (simp [swapV_e, clN (show π < 2 ^ 31 by omega), c1, c3, vset_same, show b2i true = nI 1 from rfl, show b2i false = nI 0 from rfl, show ¬ nI 0 = nI 1 by decide, show ¬ nI 1 = nI 0 by decide])
      have eA : swapA v (nI π) q = -2 := by (simp [swapA, clN (show π < 2 ^ 31 by omega), c1, c3, vset_same, show b2i true = nI 1 from rfl, show b2i false = nI 0 from rfl, show ¬ nI 0 = nI 1 by decide, show ¬ nI 1 = nI 0 by decide])
      exact F.1 _ _ _ _ .int rfl rfl (dx dX7_swap 11 rfl) kh7 ⟨by rw [eA], by rw [eV]; exact mh7, ph7⟩
set_option maxHeartbeats 4000000 in
theorem e_seed {l : Launch} {h : Hp} {k : Nat} {v : Vg} (hm : MilAt h k v) (x : Int32) : Ms l yX7_seed cX7_seed 3 (some .int) 8 [vr 7 k, vi x] h (xK h) (fun r h' => r = some (vi (vS v)) ∧ MilAt h' k (vsS v x) ∧ Kp k h h') := by
  refine Ms.of (by decide) (Nat.le_of_ble_eq_true rfl) (fun G C X F => ?_)
  have C : Cx G cX7_seed 3 RX7 := C
  show Rr G 0 [(0, vr 7 k), (1, vi x)] [] h
  have bP := hm.bP
  have bM := hm.bM
  have bN := hm.bN
  refine r_aload_n C (dx dX7_seed 0 rfl) rfl ?_
  refine g_X7_57 (x := vS v) C (dx dX7_seed 1 rfl) hm.eS ?_
  refine r_istore_n (ls' := [(0, vr 7 k), (1, vi x), (2, vi (vS v))]) C (dx dX7_seed 2 rfl) (by decide) [1, 2, 0] rfl ?_
  refine r_aload_n C (dx dX7_seed 3 rfl) rfl ?_
  refine r_iload_n C (dx dX7_seed 4 rfl) rfl ?_
  refine p_X7_57 C (dx dX7_seed 5 rfl) rfl rfl ?_
  have mh1 : MilAt (sI h k 20 x) k (vsS v x) := hm.sS
  have ph1 : Kp k h (sI h k 20 x) := Kp.f (by decide)
  have kh1 : xK (sI h k 20 x) = xK h := rfl
  generalize sI h k 20 x = h1 at mh1 ph1 kh1 ⊢
  refine r_iload_n C (dx dX7_seed 6 rfl) rfl ?_
  exact F.1 _ _ _ _ .int rfl rfl (dx dX7_seed 7 rfl) kh1 ⟨rfl, by exact mh1, ph1⟩
set_option maxHeartbeats 4000000 in
theorem e_draw {l : Launch} {h : Hp} {k : Nat} {v : Vg} (hm : MilAt h k v)  : Ms l yX7_draw cX7_draw 2 (some .int) 1 [vr 7 k, vi (nI 10)] h (xK h) (fun r h' => r = some (vi (drw (vS v))) ∧ MilAt h' k (vsS v (lcg (vS v))) ∧ Kp k h h') := by
  refine Ms.of (by decide) (Nat.le_of_ble_eq_true rfl) (fun G C X F => ?_)
  have C : Cx G cX7_draw 2 RX7 := C
  show Rr G 0 [(0, vr 7 k), (1, vi (nI 10))] [] h
  have bP := hm.bP
  have bM := hm.bM
  have bN := hm.bN
  refine r_aload_n C (dx dX7_draw 0 rfl) rfl ?_
  refine r_aload_n C (dx dX7_draw 1 rfl) rfl ?_
  refine g_X7_57 (x := vS v) C (dx dX7_draw 2 rfl) hm.eS ?_
  refine r_ldcw C n_X7_335 (dx dX7_draw 3 rfl) ?_
  refine r_imul C (dx dX7_draw 4 rfl) ?_
  refine r_sipush (v := nI 12345) C (dx dX7_draw 5 rfl) rfl ?_
  refine r_iadd C (dx dX7_draw 6 rfl) ?_
  refine p_X7_57 C (dx dX7_draw 7 rfl) rfl rfl ?_
  have mh1 : MilAt (sI h k 20 (((vS v) * 1103515245) + (nI 12345))) k (vsS v (((vS v) * 1103515245) + (nI 12345))) := hm.sS
  have ph1 : Kp k h (sI h k 20 (((vS v) * 1103515245) + (nI 12345))) := Kp.f (by decide)
  have kh1 : xK (sI h k 20 (((vS v) * 1103515245) + (nI 12345))) = xK h := rfl
  generalize sI h k 20 (((vS v) * 1103515245) + (nI 12345)) = h1 at mh1 ph1 kh1 ⊢
  refine r_aload_n C (dx dX7_draw 8 rfl) rfl ?_
  refine g_X7_57 (x := (((vS v) * 1103515245) + (nI 12345))) C (dx dX7_draw 9 rfl) mh1.eS ?_
  refine r_bipush (v := nI 16) C (dx dX7_draw 10 rfl) rfl ?_
  refine r_iushr C (dx dX7_draw 11 rfl) ?_
  refine r_iload_n C (dx dX7_draw 12 rfl) rfl ?_
  refine r_irem C (dx dX7_draw 13 rfl) (by decide) ?_
  have eV : vsS v (lcg (vS v)) = vsS v (((vS v) * 1103515245) + (nI 12345)) := by rfl
  have eA : drw (vS v) = (((((vS v) * 1103515245) + (nI 12345)).toUInt32 >>> ((nI 16).toUInt32 &&& Int32.toUInt32 31)).toInt32) - (((((vS v) * 1103515245) + (nI 12345)).toUInt32 >>> ((nI 16).toUInt32 &&& Int32.toUInt32 31)).toInt32) / (nI 10) * (nI 10) := by rfl
  exact F.1 _ _ _ _ .int rfl rfl (dx dX7_draw 14 rfl) kh1 ⟨by rw [eA], by rw [eV]; exact mh1, ph1⟩
set_option maxHeartbeats 4000000 in
theorem e_goes {l : Launch} {h : Hp} {k : Nat} {v : Vg} (hm : MilAt h k v) (hd : HdOk v) : Ms l yX7_goes cX7_goes 7 (some .int) 5 [vr 7 k] h (xK h) (fun r h' => r = some (vi (worthS v (dayP v))) ∧ MilAt h' k (dayV v) ∧ Kp k h h') := by
  refine Ms.of (by decide) (Nat.le_of_ble_eq_true rfl) (fun G C X F => ?_)
  have C : Cx G cX7_goes 7 RX7 := C
  show Rr G 0 [(0, vr 7 k)] [] h
  have bP := hm.bP
  have bM := hm.bM
  have bN := hm.bN
  refine r_iconst (v := nI 0) C (dx dX7_goes 0 rfl) rfl ?_
  refine r_istore_n (ls' := [(0, vr 7 k), (1, vi (nI 0))]) C (dx dX7_goes 1 rfl) (by decide) [1, 0] rfl ?_
  refine r_iconst (v := nI 0) C (dx dX7_goes 2 rfl) rfl ?_
  refine r_istore_n (ls' := [(0, vr 7 k), (1, vi (nI 0)), (2, vi (nI 0))]) C (dx dX7_goes 3 rfl) (by decide) [1, 2, 0] rfl ?_
  refine loopU (Φ := fun p => ∀ g9p, MilAt g9p k (vsS v (cmS v p).2) → Kp k h g9p → xK g9p = xK h → Rr G 4 [(0, vr 7 k), (1, vi ((cmS v p).1)), (2, vi (nI p))] [] g9p) (N := vN v) ?_ ?_ 0 (Nat.zero_le _) h hm Kp.rf rfl
  ·
    intro g9p mg9p pg9p kg9p
    refine r_iload_n C (dx dX7_goes 4 rfl) rfl ?_
    refine r_aload_n C (dx dX7_goes 5 rfl) rfl ?_
    refine g_X7_74 (x := nI (vN v)) C (dx dX7_goes 6 rfl) mg9p.eN ?_
    refine rn_ge (a := vN v) (b := vN v) (tgt := 56) C (by omega) (by omega) (dx dX7_goes 7 rfl) (by decide) (fun c1 => ?_) (fun c1 => ?_)
    · first
      | (omega; done)
      | (
          have c1 : vN v ≤ vN v := c1
          refine r_iconst (v := nI 0) C (dx dX7_goes 35 rfl) rfl ?_
          refine r_istore_n (ls' := [(0, vr 7 k), (1, vi ((cmS v (vN v)).1)), (2, vi (nI 0))]) C (dx dX7_goes 36 rfl) (by decide) [1, 2, 0] rfl ?_
          refine r_iconst (v := nI 0) C (dx dX7_goes 37 rfl) rfl ?_
          refine r_istore_n (ls' := [(0, vr 7 k), (1, vi ((cmS v (vN v)).1)), (2, vi (nI 0)), (3, vi (nI 0))]) C (dx dX7_goes 38 rfl) (by decide) [1, 2, 3, 0] rfl ?_
          refine loopU (Φ := fun p => ∀ g9p, MilAt g9p k (goV v (dayP v) (cmS v (vN v)).2 p) → Kp k h g9p → xK g9p = xK h → Rr G 60 [(0, vr 7 k), (1, vi ((cmS v (vN v)).1)), (2, vi (sumIf (needW v (dayP v)) (fun m => vF v 3 m) p)), (3, vi (nI p))] [] g9p) (N := vM v) ?_ ?_ 0 (Nat.zero_le _) g9p mg9p pg9p kg9p
          ·
            intro g9p mg9p pg9p kg9p
            refine r_iload_n C (dx dX7_goes 39 rfl) rfl ?_
            refine r_aload_n C (dx dX7_goes 40 rfl) rfl ?_
            refine g_X7_71 (x := nI (vM v)) C (dx dX7_goes 41 rfl) mg9p.eM ?_
            refine rn_ge (a := vM v) (b := vM v) (tgt := 189) C (by omega) (by omega) (dx dX7_goes 42 rfl) (by decide) (fun c2 => ?_) (fun c2 => ?_)
            · first
              | (omega; done)
              | (
                  have c2 : vM v ≤ vM v := c2
                  refine r_aload_n C (dx dX7_goes 108 rfl) rfl ?_
                  refine r_dupR C (dx dX7_goes 109 rfl) ?_
                  refine g_X7_339 (x := xI g9p k 18) C (dx dX7_goes 110 rfl) rfl ?_
                  refine r_iconst (v := nI 1) C (dx dX7_goes 111 rfl) rfl ?_
                  refine r_iadd C (dx dX7_goes 112 rfl) ?_
                  refine p_X7_339 C (dx dX7_goes 113 rfl) rfl rfl ?_
                  have mh3 : MilAt (sI g9p k 18 ((xI g9p k 18) + (nI 1))) k (goV v (dayP v) (cmS v (vN v)).2 (vM v)) := mg9p.f (by decide) (by decide) (by decide) (by decide)
                  have ph3 : Kp k h (sI g9p k 18 ((xI g9p k 18) + (nI 1))) := pg9p.tr (Kp.f (by decide))
                  have kh3 : xK (sI g9p k 18 ((xI g9p k 18) + (nI 1))) = xK h := kg9p
                  generalize sI g9p k 18 ((xI g9p k 18) + (nI 1)) = h3 at mh3 ph3 kh3 ⊢
                  refine r_iload_n C (dx dX7_goes 114 rfl) rfl ?_
                  have eV : dayV v = goV v (dayP v) (cmS v (vN v)).2 (vM v) := by rfl
                  have eA : worthS v (dayP v) = sumIf (needW v (dayP v)) (fun m => vF v 3 m) (vM v) := by rfl
                  exact F.1 _ _ _ _ .int rfl rfl (dx dX7_goes 115 rfl) kh3 ⟨by rw [eA], by rw [eV]; exact mh3, ph3⟩)
            · first
              | (omega; done)
          ·
            intro p hp ihp g9p mg9p pg9p kg9p
            refine r_iload_n C (dx dX7_goes 39 rfl) rfl ?_
            refine r_aload_n C (dx dX7_goes 40 rfl) rfl ?_
            refine g_X7_71 (x := nI (vM v)) C (dx dX7_goes 41 rfl) mg9p.eM ?_
            refine rn_ge (a := p) (b := vM v) (tgt := 189) C (by omega) (by omega) (dx dX7_goes 42 rfl) (by decide) (fun c5 => ?_) (fun c5 => ?_)
            · first
              | (omega; done)
              | (
                  have c5 : vM v ≤ p := c5
                  refine r_aload_n C (dx dX7_goes 108 rfl) rfl ?_
                  refine r_dupR C (dx dX7_goes 109 rfl) ?_
                  refine g_X7_339 (x := xI g9p k 18) C (dx dX7_goes 110 rfl) rfl ?_
                  refine r_iconst (v := nI 1) C (dx dX7_goes 111 rfl) rfl ?_
                  refine r_iadd C (dx dX7_goes 112 rfl) ?_
                  refine p_X7_339 C (dx dX7_goes 113 rfl) rfl rfl ?_
                  have mh6 : MilAt (sI g9p k 18 ((xI g9p k 18) + (nI 1))) k (goV v (dayP v) (cmS v (vN v)).2 p) := mg9p.f (by decide) (by decide) (by decide) (by decide)
                  have ph6 : Kp k h (sI g9p k 18 ((xI g9p k 18) + (nI 1))) := pg9p.tr (Kp.f (by decide))
                  have kh6 : xK (sI g9p k 18 ((xI g9p k 18) + (nI 1))) = xK h := kg9p
                  generalize sI g9p k 18 ((xI g9p k 18) + (nI 1)) = h6 at mh6 ph6 kh6 ⊢
                  refine r_iload_n C (dx dX7_goes 114 rfl) rfl ?_
                  have eV : dayV v = goV v (dayP v) (cmS v (vN v)).2 p := by rfl
                  have eA : worthS v (dayP v) = sumIf (needW v (dayP v)) (fun m => vF v 3 m) p := by rfl
                  exact F.1 _ _ _ _ .int rfl rfl (dx dX7_goes 115 rfl) kh6 ⟨by rw [eA], by rw [eV]; exact mh6, ph6⟩)
            · first
              | (omega; done)
              | (
                  have c5 : p < vM v := c5
                  refine r_aload_n C (dx dX7_goes 43 rfl) rfl ?_
                  refine r_iload_n C (dx dX7_goes 44 rfl) rfl ?_
                  refine r_iload_n C (dx dX7_goes 45 rfl) rfl ?_
                  refine r_cvP (as := [vi (nI p), vi ((cmS v (vN v)).1)]) (st := []) (v := vi (b2i (needW v (hasP v ((cmS v (vN v)).1)) p))) C X I_X7_worksOf l_X7_250 (e_works_go mg9p (m := p) (by omega) _) (by decide) (Nat.le_of_ble_eq_true rfl) (pfx_eq kg9p) rfl rfl (Nat.le_of_ble_eq_true rfl) rfl (dx dX7_goes 46 rfl) ?_
                  refine rb_eq (b := needW v (hasP v ((cmS v (vN v)).1)) p) (tgt := 183) C (dx dX7_goes 47 rfl) (by decide) (fun c7 => ?_) (fun c7 => ?_)
                  ·
                    have c7 : (needW v (hasP v ((cmS v (vN v)).1)) p) = false := c7
                    refine rn_iinc (a := p) (k := 1) (ls' := [(0, vr 7 k), (1, vi ((cmS v (vN v)).1)), (2, vi (sumIf (needW v (dayP v)) (fun m => vF v 3 m) p)), (3, vi (nI (p + 1)))]) C (dx dX7_goes 106 rfl) rfl rfl (by decide) [1, 2, 3, 0] rfl ?_
                    refine r_goto (tgt := 60) C (dx dX7_goes 107 rfl) (by decide) ?_
                    have ep2 : (sumIf (needW v (dayP v)) (fun m => vF v 3 m) p) = (sumIf (needW v (dayP v)) (fun m => vF v 3 m) (p + 1)) := by simp [sumIf, dayP, c7]
                    rw [ep2]
                    have fp : (goV v (dayP v) (cmS v (vN v)).2 p) = (goV v (dayP v) (cmS v (vN v)).2 (p + 1)) := by (rw [goV_s, if_neg (by rw [show needW v (dayP v) p = false from c7]; decide)])
                    exact ihp g9p (fp ▸ mg9p) pg9p kg9p
                  ·
                    have c7 : (needW v (hasP v ((cmS v (vN v)).1)) p) = true := c7
                    refine r_iload_n C (dx dX7_goes 48 rfl) rfl ?_
                    refine r_aload_n C (dx dX7_goes 49 rfl) rfl ?_
                    refine g_X7_49 C (dx dX7_goes 50 rfl) ?_
                    refine r_iload_n C (dx dX7_goes 51 rfl) rfl ?_
                    refine r_iald (j := p) (x := vF v 3 p) C rfl rfl (by decide) rfl (by omega) (dx dX7_goes 52 rfl) ((mg9p.e3 (by omega)).trans (by first | rfl | rw [goV_c _ _ _ (by decide)] | rw [shrV_c _ _ _ (by decide), goV_c _ _ _ (by decide)])) ?_
                    refine r_iadd C (dx dX7_goes 53 rfl) ?_
                    refine r_istore_n (ls' := [(0, vr 7 k), (1, vi ((cmS v (vN v)).1)), (2, vi ((sumIf (needW v (dayP v)) (fun m => vF v 3 m) p) + (vF v 3 p))), (3, vi (nI p))]) C (dx dX7_goes 54 rfl) (by decide) [1, 2, 0, 3] rfl ?_
                    refine r_iconst (v := nI 0) C (dx dX7_goes 55 rfl) rfl ?_
                    refine r_istore (ls' := [(0, vr 7 k), (1, vi ((cmS v (vN v)).1)), (2, vi ((sumIf (needW v (dayP v)) (fun m => vF v 3 m) p) + (vF v 3 p))), (3, vi (nI p)), (4, vi (nI 0))]) C (dx dX7_goes 56 rfl) (by decide) [1, 2, 3, 4, 0] rfl ?_
                    refine loopU (Φ := fun q => ∀ g9q, MilAt g9q k (shrV (goV v (dayP v) (cmS v (vN v)).2 p) (vF v 2 p) q) → Kp k h g9q → xK g9q = xK h → Rr G 89 [(0, vr 7 k), (1, vi ((cmS v (vN v)).1)), (2, vi ((sumIf (needW v (dayP v)) (fun m => vF v 3 m) p) + (vF v 3 p))), (3, vi (nI p)), (4, vi (nI q))] [] g9q) (N := vN v) ?_ ?_ 0 (Nat.zero_le _) g9p ((shr_0 _ _).symm ▸ mg9p) pg9p kg9p
                    ·
                      intro g9q mg9q pg9q kg9q
                      refine r_iload C (dx dX7_goes 57 rfl) rfl ?_
                      refine r_aload_n C (dx dX7_goes 58 rfl) rfl ?_
                      refine g_X7_74 (x := nI (vN v)) C (dx dX7_goes 59 rfl) mg9q.eN ?_
                      refine rn_ge (a := vN v) (b := vN v) (tgt := 183) C (by omega) (by omega) (dx dX7_goes 60 rfl) (by decide) (fun c8 => ?_) (fun c8 => ?_)
                      · first
                        | (omega; done)
                        | (
                            have c8 : vN v ≤ vN v := c8
                            refine rn_iinc (a := p) (k := 1) (ls' := [(0, vr 7 k), (1, vi ((cmS v (vN v)).1)), (2, vi ((sumIf (needW v (dayP v)) (fun m => vF v 3 m) p) + (vF v 3 p))), (3, vi (nI (p + 1))), (4, vi (nI (vN v)))]) C (dx dX7_goes 106 rfl) rfl rfl (by decide) [1, 2, 3, 0, 4] rfl ?_
                            refine r_goto (tgt := 60) C (dx dX7_goes 107 rfl) (by decide) ?_
                            have ep2 : ((sumIf (needW v (dayP v)) (fun m => vF v 3 m) p) + (vF v 3 p)) = (sumIf (needW v (dayP v)) (fun m => vF v 3 m) (p + 1)) := by simp [sumIf, dayP, c7]
                            rw [ep2]
                            refine r_weak C [0, 1, 2, 3] rfl ?_
                            have fp : (shrV (goV v (dayP v) (cmS v (vN v)).2 p) (vF v 2 p) (vN v)) = (goV v (dayP v) (cmS v (vN v)).2 (p + 1)) := by (rw [goV_s, if_pos (show needW v (dayP v) p = true from c7)])
                            exact ihp g9q (fp ▸ mg9q) pg9q kg9q)
                      · first
                        | (omega; done)
                        | (
                            have c8 : vN v < vN v := c8
                            refine r_iconst (v := nI 0) C (dx dX7_goes 61 rfl) rfl ?_
                            refine r_istore (ls' := [(0, vr 7 k), (1, vi ((cmS v (vN v)).1)), (2, vi ((sumIf (needW v (dayP v)) (fun m => vF v 3 m) p) + (vF v 3 p))), (3, vi (nI p)), (4, vi (nI (vN v))), (5, vi (nI 0))]) C (dx dX7_goes 62 rfl) (by decide) [1, 2, 3, 4, 5, 0] rfl ?_
                            refine r_iconst (v := nI 0) C (dx dX7_goes 63 rfl) rfl ?_
                            refine r_istore (ls' := [(0, vr 7 k), (1, vi ((cmS v (vN v)).1)), (2, vi ((sumIf (needW v (dayP v)) (fun m => vF v 3 m) p) + (vF v 3 p))), (3, vi (nI p)), (4, vi (nI (vN v))), (5, vi (nI 0)), (6, vi (nI 0))]) C (dx dX7_goes 64 rfl) (by decide) [1, 2, 3, 4, 5, 6, 0] rfl ?_
                            refine loopU (Φ := fun z => ∀ g9z, MilAt g9z k (shrV (goV v (dayP v) (cmS v (vN v)).2 p) (vF v 2 p) q) → Kp k h g9z → xK g9z = xK h → Rr G 104 [(0, vr 7 k), (1, vi ((cmS v (vN v)).1)), (2, vi ((sumIf (needW v (dayP v)) (fun m => vF v 3 m) p) + (vF v 3 p))), (3, vi (nI p)), (4, vi (nI (vN v))), (5, vi (b2i (anyB (ownB v (vF v 2 p) q) z))), (6, vi (nI z))] [] g9z) (N := vP v) ?_ ?_ 0 (Nat.zero_le _) g9q mg9q pg9q kg9q
                            ·
                              intro g9z mg9z pg9z kg9z
                              refine r_iload C (dx dX7_goes 65 rfl) rfl ?_
                              refine r_aload_n C (dx dX7_goes 66 rfl) rfl ?_
                              refine g_X7_64 (x := nI (vP v)) C (dx dX7_goes 67 rfl) mg9z.eP ?_
                              refine rn_ge (a := vP v) (b := vP v) (tgt := 155) C (by omega) (by omega) (dx dX7_goes 68 rfl) (by decide) (fun c9 => ?_) (fun c9 => ?_)
                              · first
                                | (omega; done)
                              · first
                                | (omega; done)
                            ·
                              intro z hz ihz g9z mg9z pg9z kg9z
                              refine r_iload C (dx dX7_goes 65 rfl) rfl ?_
                              refine r_aload_n C (dx dX7_goes 66 rfl) rfl ?_
                              refine g_X7_64 (x := nI (vP v)) C (dx dX7_goes 67 rfl) mg9z.eP ?_
                              refine rn_ge (a := z) (b := vP v) (tgt := 155) C (by omega) (by omega) (dx dX7_goes 68 rfl) (by decide) (fun c13 => ?_) (fun c13 => ?_)
                              · first
                                | (omega; done)
                              · first
                                | (omega; done)
                                | (
                                    have c13 : z < vP v := c13
                                    refine r_iload C (dx dX7_goes 69 rfl) rfl ?_
                                    refine r_aload_n C (dx dX7_goes 70 rfl) rfl ?_
                                    refine g_X7_46 C (dx dX7_goes 71 rfl) ?_
                                    refine r_iload_n C (dx dX7_goes 72 rfl) rfl ?_
                                    refine r_iald (j := p) (x := vF v 2 p) C rfl rfl (by decide) rfl (by omega) (dx dX7_goes 73 rfl) ((mg9z.e2 (by omega)).trans (by first | rfl | rw [goV_c _ _ _ (by decide)] | rw [shrV_c _ _ _ (by decide), goV_c _ _ _ (by decide)])) ?_
                                    refine r_iload C (dx dX7_goes 74 rfl) rfl ?_
                                    refine r_csP (as := [vi (vF v 2 p), vi (nI z)]) (st := [vi (b2i (anyB (ownB v (vF v 2 p) q) z))]) (v := vi (b2i (inB (vF v 2 p) (nI z)))) C X I_X7_isIn l_X7_244 (e_isIn _ _) (by decide) (Nat.le_of_ble_eq_true rfl) (pfx_eq kg9z) (Nat.le_of_ble_eq_true rfl) rfl (dx dX7_goes 75 rfl) ?_
                                    refine rb_eq (b := inB (vF v 2 p) (nI z)) (tgt := 145) C (dx dX7_goes 76 rfl) (by decide) (fun c16 => ?_) (fun c16 => ?_)
                                    ·
                                      have c16 : (inB (vF v 2 p) (nI z)) = false := c16
                                      refine r_iconst (v := nI 0) C (dx dX7_goes 85 rfl) rfl ?_
                                      refine r_ior C (dx dX7_goes 86 rfl) ?_
                                      refine r_istore (ls' := [(0, vr 7 k), (1, vi ((cmS v (vN v)).1)), (2, vi ((sumIf (needW v (dayP v)) (fun m => vF v 3 m) p) + (vF v 3 p))), (3, vi (nI p)), (4, vi (nI (vN v))), (5, vi ((b2i (anyB (ownB v (vF v 2 p) q) z)) ||| (nI 0))), (6, vi (nI z))]) C (dx dX7_goes 87 rfl) (by decide) [1, 2, 3, 4, 5, 0, 6] rfl ?_
                                      refine rn_iinc (a := z) (k := 1) (ls' := [(0, vr 7 k), (1, vi ((cmS v (vN v)).1)), (2, vi ((sumIf (needW v (dayP v)) (fun m => vF v 3 m) p) + (vF v 3 p))), (3, vi (nI p)), (4, vi (nI (vN v))), (5, vi ((b2i (anyB (ownB v (vF v 2 p) q) z)) ||| (nI 0))), (6, vi (nI (z + 1)))]) C (dx dX7_goes 88 rfl) rfl rfl (by decide) [1, 2, 3, 4, 5, 6, 0] rfl ?_
                                      refine r_goto (tgt := 104) C (dx dX7_goes 89 rfl) (by decide) ?_
                                      have ez5 : ((b2i (anyB (ownB v (vF v 2 p) q) z)) ||| (nI 0)) = (b2i (anyB (ownB v (vF v 2 p) q) (z + 1))) := by (simp only [anyB, ownB]; simp [or0, b2i_or1, c16])
                                      rw [ez5]
                                      have fz : (shrV (goV v (dayP v) (cmS v (vN v)).2 p) (vF v 2 p) q) = (shrV (goV v (dayP v) (cmS v (vN v)).2 p) (vF v 2 p) q) := by rfl
                                      exact ihz g9z (fz ▸ mg9z) pg9z kg9z
                                    ·
                                      have c16 : (inB (vF v 2 p) (nI z)) = true := c16
                                      refine r_aload_n C (dx dX7_goes 77 rfl) rfl ?_
                                      refine g_X7_40 C (dx dX7_goes 78 rfl) ?_
                                      refine r_iload C (dx dX7_goes 79 rfl) rfl ?_
                                      refine r_iald (j := z) (x := vF v 0 z) C rfl rfl (by decide) rfl (by omega) (dx dX7_goes 80 rfl) ((mg9z.e0 (by omega)).trans (by first | rfl | rw [goV_c _ _ _ (by decide)] | rw [shrV_c _ _ _ (by decide), goV_c _ _ _ (by decide)])) ?_
                                      refine r_iload C (dx dX7_goes 81 rfl) rfl ?_
                                      refine r_icmp_ne (tgt := 145) C (dx dX7_goes 82 rfl) (by decide) (fun c17 => ?_) (fun c17 => ?_)
                                      ·
                                        have c17 : ¬ vF v 0 z = nI (vN v) := c17
                                        refine r_iconst (v := nI 0) C (dx dX7_goes 85 rfl) rfl ?_
                                        refine r_ior C (dx dX7_goes 86 rfl) ?_
                                        refine r_istore (ls' := [(0, vr 7 k), (1, vi ((cmS v (vN v)).1)), (2, vi ((sumIf (needW v (dayP v)) (fun m => vF v 3 m) p) + (vF v 3 p))), (3, vi (nI p)), (4, vi (nI (vN v))), (5, vi ((b2i (anyB (ownB v (vF v 2 p) q) z)) ||| (nI 0))), (6, vi (nI z))]) C (dx dX7_goes 87 rfl) (by decide) [1, 2, 3, 4, 5, 0, 6] rfl ?_
                                        refine rn_iinc (a := z) (k := 1) (ls' := [(0, vr 7 k), (1, vi ((cmS v (vN v)).1)), (2, vi ((sumIf (needW v (dayP v)) (fun m => vF v 3 m) p) + (vF v 3 p))), (3, vi (nI p)), (4, vi (nI (vN v))), (5, vi ((b2i (anyB (ownB v (vF v 2 p) q) z)) ||| (nI 0))), (6, vi (nI (z + 1)))]) C (dx dX7_goes 88 rfl) rfl rfl (by decide) [1, 2, 3, 4, 5, 6, 0] rfl ?_
                                        refine r_goto (tgt := 104) C (dx dX7_goes 89 rfl) (by decide) ?_
                                        have ez5 : ((b2i (anyB (ownB v (vF v 2 p) q) z)) ||| (nI 0)) = (b2i (anyB (ownB v (vF v 2 p) q) (z + 1))) := by (simp only [anyB, ownB]; simp [or0, b2i_or1, c16, c17])
                                        rw [ez5]
                                        have fz : (shrV (goV v (dayP v) (cmS v (vN v)).2 p) (vF v 2 p) q) = (shrV (goV v (dayP v) (cmS v (vN v)).2 p) (vF v 2 p) q) := by rfl
                                        exact ihz g9z (fz ▸ mg9z) pg9z kg9z
                                      ·
                                        have c17 : vF v 0 z = nI (vN v) := c17
                                        refine r_iconst (v := nI 1) C (dx dX7_goes 83 rfl) rfl ?_
                                        refine r_goto (tgt := 146) C (dx dX7_goes 84 rfl) (by decide) ?_
                                        refine r_ior C (dx dX7_goes 86 rfl) ?_
                                        refine r_istore (ls' := [(0, vr 7 k), (1, vi ((cmS v (vN v)).1)), (2, vi ((sumIf (needW v (dayP v)) (fun m => vF v 3 m) p) + (vF v 3 p))), (3, vi (nI p)), (4, vi (nI (vN v))), (5, vi ((b2i (anyB (ownB v (vF v 2 p) q) z)) ||| (nI 1))), (6, vi (nI z))]) C (dx dX7_goes 87 rfl) (by decide) [1, 2, 3, 4, 5, 0, 6] rfl ?_
                                        refine rn_iinc (a := z) (k := 1) (ls' := [(0, vr 7 k), (1, vi ((cmS v (vN v)).1)), (2, vi ((sumIf (needW v (dayP v)) (fun m => vF v 3 m) p) + (vF v 3 p))), (3, vi (nI p)), (4, vi (nI (vN v))), (5, vi ((b2i (anyB (ownB v (vF v 2 p) q) z)) ||| (nI 1))), (6, vi (nI (z + 1)))]) C (dx dX7_goes 88 rfl) rfl rfl (by decide) [1, 2, 3, 4, 5, 6, 0] rfl ?_
                                        refine r_goto (tgt := 104) C (dx dX7_goes 89 rfl) (by decide) ?_
                                        have ez5 : ((b2i (anyB (ownB v (vF v 2 p) q) z)) ||| (nI 1)) = (b2i (anyB (ownB v (vF v 2 p) q) (z + 1))) := by (simp only [anyB, ownB]; simp [or0, b2i_or1, c16, c17])
                                        rw [ez5]
                                        have fz : (shrV (goV v (dayP v) (cmS v (vN v)).2 p) (vF v 2 p) q) = (shrV (goV v (dayP v) (cmS v (vN v)).2 p) (vF v 2 p) q) := by rfl
                                        exact ihz g9z (fz ▸ mg9z) pg9z kg9z))
                    ·
                      intro q hq ihq g9q mg9q pg9q kg9q
                      refine r_iload C (dx dX7_goes 57 rfl) rfl ?_
                      refine r_aload_n C (dx dX7_goes 58 rfl) rfl ?_
                      refine g_X7_74 (x := nI (vN v)) C (dx dX7_goes 59 rfl) mg9q.eN ?_
                      refine rn_ge (a := q) (b := vN v) (tgt := 183) C (by omega) (by omega) (dx dX7_goes 60 rfl) (by decide) (fun c18 => ?_) (fun c18 => ?_)
                      · first
                        | (omega; done)
                        | (
                            have c18 : vN v ≤ q := c18
                            refine rn_iinc (a := p) (k := 1) (ls' := [(0, vr 7 k), (1, vi ((cmS v (vN v)).1)), (2, vi ((sumIf (needW v (dayP v)) (fun m => vF v 3 m) p) + (vF v 3 p))), (3, vi (nI (p + 1))), (4, vi (nI q))]) C (dx dX7_goes 106 rfl) rfl rfl (by decide) [1, 2, 3, 0, 4] rfl ?_
                            refine r_goto (tgt := 60) C (dx dX7_goes 107 rfl) (by decide) ?_
                            have ep2 : ((sumIf (needW v (dayP v)) (fun m => vF v 3 m) p) + (vF v 3 p)) = (sumIf (needW v (dayP v)) (fun m => vF v 3 m) (p + 1)) := by simp [sumIf, dayP, c7]
                            rw [ep2]
                            refine r_weak C [0, 1, 2, 3] rfl ?_
                            have fp : (shrV (goV v (dayP v) (cmS v (vN v)).2 p) (vF v 2 p) q) = (goV v (dayP v) (cmS v (vN v)).2 (p + 1)) := by (rw [goV_s, if_pos (show needW v (dayP v) p = true from c7)])
                            exact ihp g9q (fp ▸ mg9q) pg9q kg9q)
                      · first
                        | (omega; done)
                        | (
                            have c18 : q < vN v := c18
                            refine r_iconst (v := nI 0) C (dx dX7_goes 61 rfl) rfl ?_
                            refine r_istore (ls' := [(0, vr 7 k), (1, vi ((cmS v (vN v)).1)), (2, vi ((sumIf (needW v (dayP v)) (fun m => vF v 3 m) p) + (vF v 3 p))), (3, vi (nI p)), (4, vi (nI q)), (5, vi (nI 0))]) C (dx dX7_goes 62 rfl) (by decide) [1, 2, 3, 4, 5, 0] rfl ?_
                            refine r_iconst (v := nI 0) C (dx dX7_goes 63 rfl) rfl ?_
                            refine r_istore (ls' := [(0, vr 7 k), (1, vi ((cmS v (vN v)).1)), (2, vi ((sumIf (needW v (dayP v)) (fun m => vF v 3 m) p) + (vF v 3 p))), (3, vi (nI p)), (4, vi (nI q)), (5, vi (nI 0)), (6, vi (nI 0))]) C (dx dX7_goes 64 rfl) (by decide) [1, 2, 3, 4, 5, 6, 0] rfl ?_
                            refine loopU (Φ := fun z => ∀ g9z, MilAt g9z k (shrV (goV v (dayP v) (cmS v (vN v)).2 p) (vF v 2 p) q) → Kp k h g9z → xK g9z = xK h → Rr G 104 [(0, vr 7 k), (1, vi ((cmS v (vN v)).1)), (2, vi ((sumIf (needW v (dayP v)) (fun m => vF v 3 m) p) + (vF v 3 p))), (3, vi (nI p)), (4, vi (nI q)), (5, vi (b2i (anyB (ownB v (vF v 2 p) q) z))), (6, vi (nI z))] [] g9z) (N := vP v) ?_ ?_ 0 (Nat.zero_le _) g9q mg9q pg9q kg9q
                            ·
                              intro g9z mg9z pg9z kg9z
                              refine r_iload C (dx dX7_goes 65 rfl) rfl ?_
                              refine r_aload_n C (dx dX7_goes 66 rfl) rfl ?_
                              refine g_X7_64 (x := nI (vP v)) C (dx dX7_goes 67 rfl) mg9z.eP ?_
                              refine rn_ge (a := vP v) (b := vP v) (tgt := 155) C (by omega) (by omega) (dx dX7_goes 68 rfl) (by decide) (fun c19 => ?_) (fun c19 => ?_)
                              · first
                                | (omega; done)
                                | (
                                    have c19 : vP v ≤ vP v := c19
                                    refine r_aload_n C (dx dX7_goes 90 rfl) rfl ?_
                                    refine g_X7_54 C (dx dX7_goes 91 rfl) ?_
                                    refine r_iload C (dx dX7_goes 92 rfl) rfl ?_
                                    refine r_aald4 (j := q) C rfl rfl (by decide) rfl (by omega) (dx dX7_goes 93 rfl) ?_
                                    refine r_iconst (v := nI 3) C (dx dX7_goes 94 rfl) rfl ?_
                                    refine r_dup2 C (dx dX7_goes 95 rfl) ?_
                                    refine r_iald (j := 3) (x := vF (shrV (goV v (dayP v) (cmS v (vN v)).2 p) (vF v 2 p) q) 7 q) C rfl rfl (by decide) rfl (by omega) (dx dX7_goes 96 rfl) (mg9z.eo (by omega) (by omega)) ?_
                                    refine r_iload C (dx dX7_goes 97 rfl) rfl ?_
                                    refine rb_eq (b := anyB (ownB v (vF v 2 p) q) (vP v)) (tgt := 174) C (dx dX7_goes 98 rfl) (by decide) (fun c20 => ?_) (fun c20 => ?_)
                                    ·
                                      have c20 : (anyB (ownB v (vF v 2 p) q) (vP v)) = false := c20
                                      refine r_iconst (v := nI 0) C (dx dX7_goes 101 rfl) rfl ?_
                                      refine r_iadd C (dx dX7_goes 102 rfl) ?_
                                      refine r_iast (j := 3) C rfl rfl (by decide) rfl (by omega) (dx dX7_goes 103 rfl) ?_
                                      have mh21 : MilAt (sI g9z (k + 23 + q) 3 ((vF (shrV (goV v (dayP v) (cmS v (vN v)).2 p) (vF v 2 p) q) 7 q) + (nI 0))) k (vset (shrV (goV v (dayP v) (cmS v (vN v)).2 p) (vF v 2 p) q) 7 q ((vF (shrV (goV v (dayP v) (cmS v (vN v)).2 p) (vF v 2 p) q) 7 q) + (nI 0))) := mg9z.so (by omega) (by omega)
                                      have ph21 : Kp k h (sI g9z (k + 23 + q) 3 ((vF (shrV (goV v (dayP v) (cmS v (vN v)).2 p) (vF v 2 p) q) 7 q) + (nI 0))) := pg9z.tr (Kp.c (by omega) (by omega))
                                      have kh21 : xK (sI g9z (k + 23 + q) 3 ((vF (shrV (goV v (dayP v) (cmS v (vN v)).2 p) (vF v 2 p) q) 7 q) + (nI 0))) = xK h := kg9z
                                      generalize sI g9z (k + 23 + q) 3 ((vF (shrV (goV v (dayP v) (cmS v (vN v)).2 p) (vF v 2 p) q) 7 q) + (nI 0)) = h21 at mh21 ph21 kh21 ⊢
                                      refine rn_iinc (a := q) (k := 1) (ls' := [(0, vr 7 k), (1, vi ((cmS v (vN v)).1)), (2, vi ((sumIf (needW v (dayP v)) (fun m => vF v 3 m) p) + (vF v 3 p))), (3, vi (nI p)), (4, vi (nI (q + 1))), (5, vi (b2i (anyB (ownB v (vF v 2 p) q) (vP v)))), (6, vi (nI (vP v)))]) C (dx dX7_goes 104 rfl) rfl rfl (by decide) [1, 2, 3, 4, 0, 5, 6] rfl ?_
                                      refine r_goto (tgt := 89) C (dx dX7_goes 105 rfl) (by decide) ?_
                                      refine r_weak C [0, 1, 2, 3, 4] rfl ?_
                                      have fq : (vset (shrV (goV v (dayP v) (cmS v (vN v)).2 p) (vF v 2 p) q) 7 q ((vF (shrV (goV v (dayP v) (cmS v (vN v)).2 p) (vF v 2 p) q) 7 q) + (nI 0))) = (shrV (goV v (dayP v) (cmS v (vN v)).2 p) (vF v 2 p) (q + 1)) := by exact go_step (by omega) bP bN hd (by rw [if_neg (by rw [c20]; decide)])
                                      exact ihq h21 (fq ▸ mh21) ph21 kh21
                                    ·
                                      have c20 : (anyB (ownB v (vF v 2 p) q) (vP v)) = true := c20
                                      refine r_iconst (v := nI 1) C (dx dX7_goes 99 rfl) rfl ?_
                                      refine r_goto (tgt := 175) C (dx dX7_goes 100 rfl) (by decide) ?_
                                      refine r_iadd C (dx dX7_goes 102 rfl) ?_
                                      refine r_iast (j := 3) C rfl rfl (by decide) rfl (by omega) (dx dX7_goes 103 rfl) ?_
                                      have mh22 : MilAt (sI g9z (k + 23 + q) 3 ((vF (shrV (goV v (dayP v) (cmS v (vN v)).2 p) (vF v 2 p) q) 7 q) + (nI 1))) k (vset (shrV (goV v (dayP v) (cmS v (vN v)).2 p) (vF v 2 p) q) 7 q ((vF (shrV (goV v (dayP v) (cmS v (vN v)).2 p) (vF v 2 p) q) 7 q) + (nI 1))) := mg9z.so (by omega) (by omega)
                                      have ph22 : Kp k h (sI g9z (k + 23 + q) 3 ((vF (shrV (goV v (dayP v) (cmS v (vN v)).2 p) (vF v 2 p) q) 7 q) + (nI 1))) := pg9z.tr (Kp.c (by omega) (by omega))
                                      have kh22 : xK (sI g9z (k + 23 + q) 3 ((vF (shrV (goV v (dayP v) (cmS v (vN v)).2 p) (vF v 2 p) q) 7 q) + (nI 1))) = xK h := kg9z
                                      generalize sI g9z (k + 23 + q) 3 ((vF (shrV (goV v (dayP v) (cmS v (vN v)).2 p) (vF v 2 p) q) 7 q) + (nI 1)) = h22 at mh22 ph22 kh22 ⊢
                                      refine rn_iinc (a := q) (k := 1) (ls' := [(0, vr 7 k), (1, vi ((cmS v (vN v)).1)), (2, vi ((sumIf (needW v (dayP v)) (fun m => vF v 3 m) p) + (vF v 3 p))), (3, vi (nI p)), (4, vi (nI (q + 1))), (5, vi (b2i (anyB (ownB v (vF v 2 p) q) (vP v)))), (6, vi (nI (vP v)))]) C (dx dX7_goes 104 rfl) rfl rfl (by decide) [1, 2, 3, 4, 0, 5, 6] rfl ?_
                                      refine r_goto (tgt := 89) C (dx dX7_goes 105 rfl) (by decide) ?_
                                      refine r_weak C [0, 1, 2, 3, 4] rfl ?_
                                      have fq : (vset (shrV (goV v (dayP v) (cmS v (vN v)).2 p) (vF v 2 p) q) 7 q ((vF (shrV (goV v (dayP v) (cmS v (vN v)).2 p) (vF v 2 p) q) 7 q) + (nI 1))) = (shrV (goV v (dayP v) (cmS v (vN v)).2 p) (vF v 2 p) (q + 1)) := by exact go_step (by omega) bP bN hd (by rw [if_pos c20])
                                      exact ihq h22 (fq ▸ mh22) ph22 kh22)
                              · first
                                | (omega; done)
                            ·
                              intro z hz ihz g9z mg9z pg9z kg9z
                              refine r_iload C (dx dX7_goes 65 rfl) rfl ?_
                              refine r_aload_n C (dx dX7_goes 66 rfl) rfl ?_
                              refine g_X7_64 (x := nI (vP v)) C (dx dX7_goes 67 rfl) mg9z.eP ?_
                              refine rn_ge (a := z) (b := vP v) (tgt := 155) C (by omega) (by omega) (dx dX7_goes 68 rfl) (by decide) (fun c24 => ?_) (fun c24 => ?_)
                              · first
                                | (omega; done)
                                | (
                                    have c24 : vP v ≤ z := c24
                                    refine r_aload_n C (dx dX7_goes 90 rfl) rfl ?_
                                    refine g_X7_54 C (dx dX7_goes 91 rfl) ?_
                                    refine r_iload C (dx dX7_goes 92 rfl) rfl ?_
                                    refine r_aald4 (j := q) C rfl rfl (by decide) rfl (by omega) (dx dX7_goes 93 rfl) ?_
                                    refine r_iconst (v := nI 3) C (dx dX7_goes 94 rfl) rfl ?_
                                    refine r_dup2 C (dx dX7_goes 95 rfl) ?_
                                    refine r_iald (j := 3) (x := vF (shrV (goV v (dayP v) (cmS v (vN v)).2 p) (vF v 2 p) q) 7 q) C rfl rfl (by decide) rfl (by omega) (dx dX7_goes 96 rfl) (mg9z.eo (by omega) (by omega)) ?_
                                    refine r_iload C (dx dX7_goes 97 rfl) rfl ?_
                                    refine rb_eq (b := anyB (ownB v (vF v 2 p) q) z) (tgt := 174) C (dx dX7_goes 98 rfl) (by decide) (fun c25 => ?_) (fun c25 => ?_)
                                    ·
                                      have c25 : (anyB (ownB v (vF v 2 p) q) z) = false := c25
                                      refine r_iconst (v := nI 0) C (dx dX7_goes 101 rfl) rfl ?_
                                      refine r_iadd C (dx dX7_goes 102 rfl) ?_
                                      refine r_iast (j := 3) C rfl rfl (by decide) rfl (by omega) (dx dX7_goes 103 rfl) ?_
                                      have mh26 : MilAt (sI g9z (k + 23 + q) 3 ((vF (shrV (goV v (dayP v) (cmS v (vN v)).2 p) (vF v 2 p) q) 7 q) + (nI 0))) k (vset (shrV (goV v (dayP v) (cmS v (vN v)).2 p) (vF v 2 p) q) 7 q ((vF (shrV (goV v (dayP v) (cmS v (vN v)).2 p) (vF v 2 p) q) 7 q) + (nI 0))) := mg9z.so (by omega) (by omega)
                                      have ph26 : Kp k h (sI g9z (k + 23 + q) 3 ((vF (shrV (goV v (dayP v) (cmS v (vN v)).2 p) (vF v 2 p) q) 7 q) + (nI 0))) := pg9z.tr (Kp.c (by omega) (by omega))
                                      have kh26 : xK (sI g9z (k + 23 + q) 3 ((vF (shrV (goV v (dayP v) (cmS v (vN v)).2 p) (vF v 2 p) q) 7 q) + (nI 0))) = xK h := kg9z
                                      generalize sI g9z (k + 23 + q) 3 ((vF (shrV (goV v (dayP v) (cmS v (vN v)).2 p) (vF v 2 p) q) 7 q) + (nI 0)) = h26 at mh26 ph26 kh26 ⊢
                                      refine rn_iinc (a := q) (k := 1) (ls' := [(0, vr 7 k), (1, vi ((cmS v (vN v)).1)), (2, vi ((sumIf (needW v (dayP v)) (fun m => vF v 3 m) p) + (vF v 3 p))), (3, vi (nI p)), (4, vi (nI (q + 1))), (5, vi (b2i (anyB (ownB v (vF v 2 p) q) z))), (6, vi (nI z))]) C (dx dX7_goes 104 rfl) rfl rfl (by decide) [1, 2, 3, 4, 0, 5, 6] rfl ?_
                                      refine r_goto (tgt := 89) C (dx dX7_goes 105 rfl) (by decide) ?_
                                      refine r_weak C [0, 1, 2, 3, 4] rfl ?_
                                      have fq : (vset (shrV (goV v (dayP v) (cmS v (vN v)).2 p) (vF v 2 p) q) 7 q ((vF (shrV (goV v (dayP v) (cmS v (vN v)).2 p) (vF v 2 p) q) 7 q) + (nI 0))) = (shrV (goV v (dayP v) (cmS v (vN v)).2 p) (vF v 2 p) (q + 1)) := by exact go_step (by omega) bP bN hd (by rw [if_neg (by rw [c25]; decide)])
                                      exact ihq h26 (fq ▸ mh26) ph26 kh26
                                    ·
                                      have c25 : (anyB (ownB v (vF v 2 p) q) z) = true := c25
                                      refine r_iconst (v := nI 1) C (dx dX7_goes 99 rfl) rfl ?_
                                      refine r_goto (tgt := 175) C (dx dX7_goes 100 rfl) (by decide) ?_
                                      refine r_iadd C (dx dX7_goes 102 rfl) ?_
                                      refine r_iast (j := 3) C rfl rfl (by decide) rfl (by omega) (dx dX7_goes 103 rfl) ?_
                                      have mh27 : MilAt (sI g9z (k + 23 + q) 3 ((vF (shrV (goV v (dayP v) (cmS v (vN v)).2 p) (vF v 2 p) q) 7 q) + (nI 1))) k (vset (shrV (goV v (dayP v) (cmS v (vN v)).2 p) (vF v 2 p) q) 7 q ((vF (shrV (goV v (dayP v) (cmS v (vN v)).2 p) (vF v 2 p) q) 7 q) + (nI 1))) := mg9z.so (by omega) (by omega)
                                      have ph27 : Kp k h (sI g9z (k + 23 + q) 3 ((vF (shrV (goV v (dayP v) (cmS v (vN v)).2 p) (vF v 2 p) q) 7 q) + (nI 1))) := pg9z.tr (Kp.c (by omega) (by omega))
                                      have kh27 : xK (sI g9z (k + 23 + q) 3 ((vF (shrV (goV v (dayP v) (cmS v (vN v)).2 p) (vF v 2 p) q) 7 q) + (nI 1))) = xK h := kg9z
                                      generalize sI g9z (k + 23 + q) 3 ((vF (shrV (goV v (dayP v) (cmS v (vN v)).2 p) (vF v 2 p) q) 7 q) + (nI 1)) = h27 at mh27 ph27 kh27 ⊢
                                      refine rn_iinc (a := q) (k := 1) (ls' := [(0, vr 7 k), (1, vi ((cmS v (vN v)).1)), (2, vi ((sumIf (needW v (dayP v)) (fun m => vF v 3 m) p) + (vF v 3 p))), (3, vi (nI p)), (4, vi (nI (q + 1))), (5, vi (b2i (anyB (ownB v (vF v 2 p) q) z))), (6, vi (nI z))]) C (dx dX7_goes 104 rfl) rfl rfl (by decide) [1, 2, 3, 4, 0, 5, 6] rfl ?_
                                      refine r_goto (tgt := 89) C (dx dX7_goes 105 rfl) (by decide) ?_
                                      refine r_weak C [0, 1, 2, 3, 4] rfl ?_
                                      have fq : (vset (shrV (goV v (dayP v) (cmS v (vN v)).2 p) (vF v 2 p) q) 7 q ((vF (shrV (goV v (dayP v) (cmS v (vN v)).2 p) (vF v 2 p) q) 7 q) + (nI 1))) = (shrV (goV v (dayP v) (cmS v (vN v)).2 p) (vF v 2 p) (q + 1)) := by exact go_step (by omega) bP bN hd (by rw [if_pos c25])
                                      exact ihq h27 (fq ▸ mh27) ph27 kh27)
                              · first
                                | (omega; done)
                                | (
                                    have c24 : z < vP v := c24
                                    refine r_iload C (dx dX7_goes 69 rfl) rfl ?_
                                    refine r_aload_n C (dx dX7_goes 70 rfl) rfl ?_
                                    refine g_X7_46 C (dx dX7_goes 71 rfl) ?_
                                    refine r_iload_n C (dx dX7_goes 72 rfl) rfl ?_
                                    refine r_iald (j := p) (x := vF v 2 p) C rfl rfl (by decide) rfl (by omega) (dx dX7_goes 73 rfl) ((mg9z.e2 (by omega)).trans (by first | rfl | rw [goV_c _ _ _ (by decide)] | rw [shrV_c _ _ _ (by decide), goV_c _ _ _ (by decide)])) ?_
                                    refine r_iload C (dx dX7_goes 74 rfl) rfl ?_
                                    refine r_csP (as := [vi (vF v 2 p), vi (nI z)]) (st := [vi (b2i (anyB (ownB v (vF v 2 p) q) z))]) (v := vi (b2i (inB (vF v 2 p) (nI z)))) C X I_X7_isIn l_X7_244 (e_isIn _ _) (by decide) (Nat.le_of_ble_eq_true rfl) (pfx_eq kg9z) (Nat.le_of_ble_eq_true rfl) rfl (dx dX7_goes 75 rfl) ?_
                                    refine rb_eq (b := inB (vF v 2 p) (nI z)) (tgt := 145) C (dx dX7_goes 76 rfl) (by decide) (fun c28 => ?_) (fun c28 => ?_)
                                    ·
                                      have c28 : (inB (vF v 2 p) (nI z)) = false := c28
                                      refine r_iconst (v := nI 0) C (dx dX7_goes 85 rfl) rfl ?_
                                      refine r_ior C (dx dX7_goes 86 rfl) ?_
                                      refine r_istore (ls' := [(0, vr 7 k), (1, vi ((cmS v (vN v)).1)), (2, vi ((sumIf (needW v (dayP v)) (fun m => vF v 3 m) p) + (vF v 3 p))), (3, vi (nI p)), (4, vi (nI q)), (5, vi ((b2i (anyB (ownB v (vF v 2 p) q) z)) ||| (nI 0))), (6, vi (nI z))]) C (dx dX7_goes 87 rfl) (by decide) [1, 2, 3, 4, 5, 0, 6] rfl ?_
                                      refine rn_iinc (a := z) (k := 1) (ls' := [(0, vr 7 k), (1, vi ((cmS v (vN v)).1)), (2, vi ((sumIf (needW v (dayP v)) (fun m => vF v 3 m) p) + (vF v 3 p))), (3, vi (nI p)), (4, vi (nI q)), (5, vi ((b2i (anyB (ownB v (vF v 2 p) q) z)) ||| (nI 0))), (6, vi (nI (z + 1)))]) C (dx dX7_goes 88 rfl) rfl rfl (by decide) [1, 2, 3, 4, 5, 6, 0] rfl ?_
                                      refine r_goto (tgt := 104) C (dx dX7_goes 89 rfl) (by decide) ?_
                                      have ez5 : ((b2i (anyB (ownB v (vF v 2 p) q) z)) ||| (nI 0)) = (b2i (anyB (ownB v (vF v 2 p) q) (z + 1))) := by (simp only [anyB, ownB]; simp [or0, b2i_or1, c28])
                                      rw [ez5]
                                      have fz : (shrV (goV v (dayP v) (cmS v (vN v)).2 p) (vF v 2 p) q) = (shrV (goV v (dayP v) (cmS v (vN v)).2 p) (vF v 2 p) q) := by rfl
                                      exact ihz g9z (fz ▸ mg9z) pg9z kg9z
                                    ·
                                      have c28 : (inB (vF v 2 p) (nI z)) = true := c28
                                      refine r_aload_n C (dx dX7_goes 77 rfl) rfl ?_
                                      refine g_X7_40 C (dx dX7_goes 78 rfl) ?_
                                      refine r_iload C (dx dX7_goes 79 rfl) rfl ?_
                                      refine r_iald (j := z) (x := vF v 0 z) C rfl rfl (by decide) rfl (by omega) (dx dX7_goes 80 rfl) ((mg9z.e0 (by omega)).trans (by first | rfl | rw [goV_c _ _ _ (by decide)] | rw [shrV_c _ _ _ (by decide), goV_c _ _ _ (by decide)])) ?_
                                      refine r_iload C (dx dX7_goes 81 rfl) rfl ?_
                                      refine r_icmp_ne (tgt := 145) C (dx dX7_goes 82 rfl) (by decide) (fun c29 => ?_) (fun c29 => ?_)
                                      ·
                                        have c29 : ¬ vF v 0 z = nI q := c29
                                        refine r_iconst (v := nI 0) C (dx dX7_goes 85 rfl) rfl ?_
                                        refine r_ior C (dx dX7_goes 86 rfl) ?_
                                        refine r_istore (ls' := [(0, vr 7 k), (1, vi ((cmS v (vN v)).1)), (2, vi ((sumIf (needW v (dayP v)) (fun m => vF v 3 m) p) + (vF v 3 p))), (3, vi (nI p)), (4, vi (nI q)), (5, vi ((b2i (anyB (ownB v (vF v 2 p) q) z)) ||| (nI 0))), (6, vi (nI z))]) C (dx dX7_goes 87 rfl) (by decide) [1, 2, 3, 4, 5, 0, 6] rfl ?_
                                        refine rn_iinc (a := z) (k := 1) (ls' := [(0, vr 7 k), (1, vi ((cmS v (vN v)).1)), (2, vi ((sumIf (needW v (dayP v)) (fun m => vF v 3 m) p) + (vF v 3 p))), (3, vi (nI p)), (4, vi (nI q)), (5, vi ((b2i (anyB (ownB v (vF v 2 p) q) z)) ||| (nI 0))), (6, vi (nI (z + 1)))]) C (dx dX7_goes 88 rfl) rfl rfl (by decide) [1, 2, 3, 4, 5, 6, 0] rfl ?_
                                        refine r_goto (tgt := 104) C (dx dX7_goes 89 rfl) (by decide) ?_
                                        have ez5 : ((b2i (anyB (ownB v (vF v 2 p) q) z)) ||| (nI 0)) = (b2i (anyB (ownB v (vF v 2 p) q) (z + 1))) := by (simp only [anyB, ownB]; simp [or0, b2i_or1, c28, c29])
                                        rw [ez5]
                                        have fz : (shrV (goV v (dayP v) (cmS v (vN v)).2 p) (vF v 2 p) q) = (shrV (goV v (dayP v) (cmS v (vN v)).2 p) (vF v 2 p) q) := by rfl
                                        exact ihz g9z (fz ▸ mg9z) pg9z kg9z
                                      ·
                                        have c29 : vF v 0 z = nI q := c29
                                        refine r_iconst (v := nI 1) C (dx dX7_goes 83 rfl) rfl ?_
                                        refine r_goto (tgt := 146) C (dx dX7_goes 84 rfl) (by decide) ?_
                                        refine r_ior C (dx dX7_goes 86 rfl) ?_
                                        refine r_istore (ls' := [(0, vr 7 k), (1, vi ((cmS v (vN v)).1)), (2, vi ((sumIf (needW v (dayP v)) (fun m => vF v 3 m) p) + (vF v 3 p))), (3, vi (nI p)), (4, vi (nI q)), (5, vi ((b2i (anyB (ownB v (vF v 2 p) q) z)) ||| (nI 1))), (6, vi (nI z))]) C (dx dX7_goes 87 rfl) (by decide) [1, 2, 3, 4, 5, 0, 6] rfl ?_
                                        refine rn_iinc (a := z) (k := 1) (ls' := [(0, vr 7 k), (1, vi ((cmS v (vN v)).1)), (2, vi ((sumIf (needW v (dayP v)) (fun m => vF v 3 m) p) + (vF v 3 p))), (3, vi (nI p)), (4, vi (nI q)), (5, vi ((b2i (anyB (ownB v (vF v 2 p) q) z)) ||| (nI 1))), (6, vi (nI (z + 1)))]) C (dx dX7_goes 88 rfl) rfl rfl (by decide) [1, 2, 3, 4, 5, 6, 0] rfl ?_
                                        refine r_goto (tgt := 104) C (dx dX7_goes 89 rfl) (by decide) ?_
                                        have ez5 : ((b2i (anyB (ownB v (vF v 2 p) q) z)) ||| (nI 1)) = (b2i (anyB (ownB v (vF v 2 p) q) (z + 1))) := by (simp only [anyB, ownB]; simp [or0, b2i_or1, c28, c29])
                                        rw [ez5]
                                        have fz : (shrV (goV v (dayP v) (cmS v (vN v)).2 p) (vF v 2 p) q) = (shrV (goV v (dayP v) (cmS v (vN v)).2 p) (vF v 2 p) q) := by rfl
                                        exact ihz g9z (fz ▸ mg9z) pg9z kg9z))))
    · first
      | (omega; done)
  ·
    intro p hp ihp g9p mg9p pg9p kg9p
    refine r_iload_n C (dx dX7_goes 4 rfl) rfl ?_
    refine r_aload_n C (dx dX7_goes 5 rfl) rfl ?_
    refine g_X7_74 (x := nI (vN v)) C (dx dX7_goes 6 rfl) mg9p.eN ?_
    refine rn_ge (a := p) (b := vN v) (tgt := 56) C (by omega) (by omega) (dx dX7_goes 7 rfl) (by decide) (fun c31 => ?_) (fun c31 => ?_)
    · first
      | (omega; done)
      | (
          have c31 : vN v ≤ p := c31
          refine r_iconst (v := nI 0) C (dx dX7_goes 35 rfl) rfl ?_
          refine r_istore_n (ls' := [(0, vr 7 k), (1, vi ((cmS v p).1)), (2, vi (nI 0))]) C (dx dX7_goes 36 rfl) (by decide) [1, 2, 0] rfl ?_
          refine r_iconst (v := nI 0) C (dx dX7_goes 37 rfl) rfl ?_
          refine r_istore_n (ls' := [(0, vr 7 k), (1, vi ((cmS v p).1)), (2, vi (nI 0)), (3, vi (nI 0))]) C (dx dX7_goes 38 rfl) (by decide) [1, 2, 3, 0] rfl ?_
          refine loopU (Φ := fun p => ∀ g9p, MilAt g9p k (goV v (dayP v) (cmS v (vN v)).2 p) → Kp k h g9p → xK g9p = xK h → Rr G 60 [(0, vr 7 k), (1, vi ((cmS v p).1)), (2, vi (sumIf (needW v (dayP v)) (fun m => vF v 3 m) p)), (3, vi (nI p))] [] g9p) (N := vM v) ?_ ?_ 0 (Nat.zero_le _) g9p mg9p pg9p kg9p
          ·
            intro g9p mg9p pg9p kg9p
            refine r_iload_n C (dx dX7_goes 39 rfl) rfl ?_
            refine r_aload_n C (dx dX7_goes 40 rfl) rfl ?_
            refine g_X7_71 (x := nI (vM v)) C (dx dX7_goes 41 rfl) mg9p.eM ?_
            refine rn_ge (a := vM v) (b := vM v) (tgt := 189) C (by omega) (by omega) (dx dX7_goes 42 rfl) (by decide) (fun c32 => ?_) (fun c32 => ?_)
            · first
              | (omega; done)
              | (
                  have c32 : vM v ≤ vM v := c32
                  refine r_aload_n C (dx dX7_goes 108 rfl) rfl ?_
                  refine r_dupR C (dx dX7_goes 109 rfl) ?_
                  refine g_X7_339 (x := xI g9p k 18) C (dx dX7_goes 110 rfl) rfl ?_
                  refine r_iconst (v := nI 1) C (dx dX7_goes 111 rfl) rfl ?_
                  refine r_iadd C (dx dX7_goes 112 rfl) ?_
                  refine p_X7_339 C (dx dX7_goes 113 rfl) rfl rfl ?_
                  have mh33 : MilAt (sI g9p k 18 ((xI g9p k 18) + (nI 1))) k (goV v (dayP v) (cmS v (vN v)).2 (vM v)) := mg9p.f (by decide) (by decide) (by decide) (by decide)
                  have ph33 : Kp k h (sI g9p k 18 ((xI g9p k 18) + (nI 1))) := pg9p.tr (Kp.f (by decide))
                  have kh33 : xK (sI g9p k 18 ((xI g9p k 18) + (nI 1))) = xK h := kg9p
                  generalize sI g9p k 18 ((xI g9p k 18) + (nI 1)) = h33 at mh33 ph33 kh33 ⊢
                  refine r_iload_n C (dx dX7_goes 114 rfl) rfl ?_
                  have eV : dayV v = goV v (dayP v) (cmS v (vN v)).2 (vM v) := by rfl
                  have eA : worthS v (dayP v) = sumIf (needW v (dayP v)) (fun m => vF v 3 m) (vM v) := by rfl
                  exact F.1 _ _ _ _ .int rfl rfl (dx dX7_goes 115 rfl) kh33 ⟨by rw [eA], by rw [eV]; exact mh33, ph33⟩)
            · first
              | (omega; done)
          ·
            intro p hp ihp g9p mg9p pg9p kg9p
            refine r_iload_n C (dx dX7_goes 39 rfl) rfl ?_
            refine r_aload_n C (dx dX7_goes 40 rfl) rfl ?_
            refine g_X7_71 (x := nI (vM v)) C (dx dX7_goes 41 rfl) mg9p.eM ?_
            refine rn_ge (a := p) (b := vM v) (tgt := 189) C (by omega) (by omega) (dx dX7_goes 42 rfl) (by decide) (fun c35 => ?_) (fun c35 => ?_)
            · first
              | (omega; done)
              | (
                  have c35 : vM v ≤ p := c35
                  refine r_aload_n C (dx dX7_goes 108 rfl) rfl ?_
                  refine r_dupR C (dx dX7_goes 109 rfl) ?_
                  refine g_X7_339 (x := xI g9p k 18) C (dx dX7_goes 110 rfl) rfl ?_
                  refine r_iconst (v := nI 1) C (dx dX7_goes 111 rfl) rfl ?_
                  refine r_iadd C (dx dX7_goes 112 rfl) ?_
                  refine p_X7_339 C (dx dX7_goes 113 rfl) rfl rfl ?_
                  have mh36 : MilAt (sI g9p k 18 ((xI g9p k 18) + (nI 1))) k (goV v (dayP v) (cmS v (vN v)).2 p) := mg9p.f (by decide) (by decide) (by decide) (by decide)
                  have ph36 : Kp k h (sI g9p k 18 ((xI g9p k 18) + (nI 1))) := pg9p.tr (Kp.f (by decide))
                  have kh36 : xK (sI g9p k 18 ((xI g9p k 18) + (nI 1))) = xK h := kg9p
                  generalize sI g9p k 18 ((xI g9p k 18) + (nI 1)) = h36 at mh36 ph36 kh36 ⊢
                  refine r_iload_n C (dx dX7_goes 114 rfl) rfl ?_
                  have eV : dayV v = goV v (dayP v) (cmS v (vN v)).2 p := by rfl
                  have eA : worthS v (dayP v) = sumIf (needW v (dayP v)) (fun m => vF v 3 m) p := by rfl
                  exact F.1 _ _ _ _ .int rfl rfl (dx dX7_goes 115 rfl) kh36 ⟨by rw [eA], by rw [eV]; exact mh36, ph36⟩)
            · first
              | (omega; done)
              | (
                  have c35 : p < vM v := c35
                  refine r_aload_n C (dx dX7_goes 43 rfl) rfl ?_
                  refine r_iload_n C (dx dX7_goes 44 rfl) rfl ?_
                  refine r_iload_n C (dx dX7_goes 45 rfl) rfl ?_
                  refine r_cvP (as := [vi (nI p), vi ((cmS v p).1)]) (st := []) (v := vi (b2i (needW v (hasP v ((cmS v p).1)) p))) C X I_X7_worksOf l_X7_250 (e_works_go mg9p (m := p) (by omega) _) (by decide) (Nat.le_of_ble_eq_true rfl) (pfx_eq kg9p) rfl rfl (Nat.le_of_ble_eq_true rfl) rfl (dx dX7_goes 46 rfl) ?_
                  refine rb_eq (b := needW v (hasP v ((cmS v p).1)) p) (tgt := 183) C (dx dX7_goes 47 rfl) (by decide) (fun c37 => ?_) (fun c37 => ?_)
                  ·
                    have c37 : (needW v (hasP v ((cmS v p).1)) p) = false := c37
                    refine rn_iinc (a := p) (k := 1) (ls' := [(0, vr 7 k), (1, vi ((cmS v p).1)), (2, vi (sumIf (needW v (dayP v)) (fun m => vF v 3 m) p)), (3, vi (nI (p + 1)))]) C (dx dX7_goes 106 rfl) rfl rfl (by decide) [1, 2, 3, 0] rfl ?_
                    refine r_goto (tgt := 60) C (dx dX7_goes 107 rfl) (by decide) ?_
                    have ep2 : (sumIf (needW v (dayP v)) (fun m => vF v 3 m) p) = (sumIf (needW v (dayP v)) (fun m => vF v 3 m) (p + 1)) := by simp [sumIf, dayP, c37]
                    rw [ep2]
                    have fp : (goV v (dayP v) (cmS v (vN v)).2 p) = (goV v (dayP v) (cmS v (vN v)).2 (p + 1)) := by (rw [goV_s, if_neg (by rw [show needW v (dayP v) p = false from c37]; decide)])
                    exact ihp g9p (fp ▸ mg9p) pg9p kg9p
                  ·
                    have c37 : (needW v (hasP v ((cmS v p).1)) p) = true := c37
                    refine r_iload_n C (dx dX7_goes 48 rfl) rfl ?_
                    refine r_aload_n C (dx dX7_goes 49 rfl) rfl ?_
                    refine g_X7_49 C (dx dX7_goes 50 rfl) ?_
                    refine r_iload_n C (dx dX7_goes 51 rfl) rfl ?_
                    refine r_iald (j := p) (x := vF v 3 p) C rfl rfl (by decide) rfl (by omega) (dx dX7_goes 52 rfl) ((mg9p.e3 (by omega)).trans (by first | rfl | rw [goV_c _ _ _ (by decide)] | rw [shrV_c _ _ _ (by decide), goV_c _ _ _ (by decide)])) ?_
                    refine r_iadd C (dx dX7_goes 53 rfl) ?_
                    refine r_istore_n (ls' := [(0, vr 7 k), (1, vi ((cmS v p).1)), (2, vi ((sumIf (needW v (dayP v)) (fun m => vF v 3 m) p) + (vF v 3 p))), (3, vi (nI p))]) C (dx dX7_goes 54 rfl) (by decide) [1, 2, 0, 3] rfl ?_
                    refine r_iconst (v := nI 0) C (dx dX7_goes 55 rfl) rfl ?_
                    refine r_istore (ls' := [(0, vr 7 k), (1, vi ((cmS v p).1)), (2, vi ((sumIf (needW v (dayP v)) (fun m => vF v 3 m) p) + (vF v 3 p))), (3, vi (nI p)), (4, vi (nI 0))]) C (dx dX7_goes 56 rfl) (by decide) [1, 2, 3, 4, 0] rfl ?_
                    refine loopU (Φ := fun q => ∀ g9q, MilAt g9q k (shrV (goV v (dayP v) (cmS v (vN v)).2 p) (vF v 2 p) q) → Kp k h g9q → xK g9q = xK h → Rr G 89 [(0, vr 7 k), (1, vi ((cmS v p).1)), (2, vi ((sumIf (needW v (dayP v)) (fun m => vF v 3 m) p) + (vF v 3 p))), (3, vi (nI p)), (4, vi (nI q))] [] g9q) (N := vN v) ?_ ?_ 0 (Nat.zero_le _) g9p ((shr_0 _ _).symm ▸ mg9p) pg9p kg9p
                    ·
                      intro g9q mg9q pg9q kg9q
                      refine r_iload C (dx dX7_goes 57 rfl) rfl ?_
                      refine r_aload_n C (dx dX7_goes 58 rfl) rfl ?_
                      refine g_X7_74 (x := nI (vN v)) C (dx dX7_goes 59 rfl) mg9q.eN ?_
                      refine rn_ge (a := vN v) (b := vN v) (tgt := 183) C (by omega) (by omega) (dx dX7_goes 60 rfl) (by decide) (fun c38 => ?_) (fun c38 => ?_)
                      · first
                        | (omega; done)
                        | (
                            have c38 : vN v ≤ vN v := c38
                            refine rn_iinc (a := p) (k := 1) (ls' := [(0, vr 7 k), (1, vi ((cmS v p).1)), (2, vi ((sumIf (needW v (dayP v)) (fun m => vF v 3 m) p) + (vF v 3 p))), (3, vi (nI (p + 1))), (4, vi (nI (vN v)))]) C (dx dX7_goes 106 rfl) rfl rfl (by decide) [1, 2, 3, 0, 4] rfl ?_
                            refine r_goto (tgt := 60) C (dx dX7_goes 107 rfl) (by decide) ?_
                            have ep2 : ((sumIf (needW v (dayP v)) (fun m => vF v 3 m) p) + (vF v 3 p)) = (sumIf (needW v (dayP v)) (fun m => vF v 3 m) (p + 1)) := by simp [sumIf, dayP, c37]
                            rw [ep2]
                            refine r_weak C [0, 1, 2, 3] rfl ?_
                            have fp : (shrV (goV v (dayP v) (cmS v (vN v)).2 p) (vF v 2 p) (vN v)) = (goV v (dayP v) (cmS v (vN v)).2 (p + 1)) := by (rw [goV_s, if_pos (show needW v (dayP v) p = true from c37)])
                            exact ihp g9q (fp ▸ mg9q) pg9q kg9q)
                      · first
                        | (omega; done)
                        | (
                            have c38 : vN v < vN v := c38
                            refine r_iconst (v := nI 0) C (dx dX7_goes 61 rfl) rfl ?_
                            refine r_istore (ls' := [(0, vr 7 k), (1, vi ((cmS v p).1)), (2, vi ((sumIf (needW v (dayP v)) (fun m => vF v 3 m) p) + (vF v 3 p))), (3, vi (nI p)), (4, vi (nI (vN v))), (5, vi (nI 0))]) C (dx dX7_goes 62 rfl) (by decide) [1, 2, 3, 4, 5, 0] rfl ?_
                            refine r_iconst (v := nI 0) C (dx dX7_goes 63 rfl) rfl ?_
                            refine r_istore (ls' := [(0, vr 7 k), (1, vi ((cmS v p).1)), (2, vi ((sumIf (needW v (dayP v)) (fun m => vF v 3 m) p) + (vF v 3 p))), (3, vi (nI p)), (4, vi (nI (vN v))), (5, vi (nI 0)), (6, vi (nI 0))]) C (dx dX7_goes 64 rfl) (by decide) [1, 2, 3, 4, 5, 6, 0] rfl ?_
                            refine loopU (Φ := fun z => ∀ g9z, MilAt g9z k (shrV (goV v (dayP v) (cmS v (vN v)).2 p) (vF v 2 p) q) → Kp k h g9z → xK g9z = xK h → Rr G 104 [(0, vr 7 k), (1, vi ((cmS v p).1)), (2, vi ((sumIf (needW v (dayP v)) (fun m => vF v 3 m) p) + (vF v 3 p))), (3, vi (nI p)), (4, vi (nI (vN v))), (5, vi (b2i (anyB (ownB v (vF v 2 p) q) z))), (6, vi (nI z))] [] g9z) (N := vP v) ?_ ?_ 0 (Nat.zero_le _) g9q mg9q pg9q kg9q
                            ·
                              intro g9z mg9z pg9z kg9z
                              refine r_iload C (dx dX7_goes 65 rfl) rfl ?_
                              refine r_aload_n C (dx dX7_goes 66 rfl) rfl ?_
                              refine g_X7_64 (x := nI (vP v)) C (dx dX7_goes 67 rfl) mg9z.eP ?_
                              refine rn_ge (a := vP v) (b := vP v) (tgt := 155) C (by omega) (by omega) (dx dX7_goes 68 rfl) (by decide) (fun c39 => ?_) (fun c39 => ?_)
                              · first
                                | (omega; done)
                              · first
                                | (omega; done)
                            ·
                              intro z hz ihz g9z mg9z pg9z kg9z
                              refine r_iload C (dx dX7_goes 65 rfl) rfl ?_
                              refine r_aload_n C (dx dX7_goes 66 rfl) rfl ?_
                              refine g_X7_64 (x := nI (vP v)) C (dx dX7_goes 67 rfl) mg9z.eP ?_
                              refine rn_ge (a := z) (b := vP v) (tgt := 155) C (by omega) (by omega) (dx dX7_goes 68 rfl) (by decide) (fun c43 => ?_) (fun c43 => ?_)
                              · first
                                | (omega; done)
                              · first
                                | (omega; done)
                                | (
                                    have c43 : z < vP v := c43
                                    refine r_iload C (dx dX7_goes 69 rfl) rfl ?_
                                    refine r_aload_n C (dx dX7_goes 70 rfl) rfl ?_
                                    refine g_X7_46 C (dx dX7_goes 71 rfl) ?_
                                    refine r_iload_n C (dx dX7_goes 72 rfl) rfl ?_
                                    refine r_iald (j := p) (x := vF v 2 p) C rfl rfl (by decide) rfl (by omega) (dx dX7_goes 73 rfl) ((mg9z.e2 (by omega)).trans (by first | rfl | rw [goV_c _ _ _ (by decide)] | rw [shrV_c _ _ _ (by decide), goV_c _ _ _ (by decide)])) ?_
                                    refine r_iload C (dx dX7_goes 74 rfl) rfl ?_
                                    refine r_csP (as := [vi (vF v 2 p), vi (nI z)]) (st := [vi (b2i (anyB (ownB v (vF v 2 p) q) z))]) (v := vi (b2i (inB (vF v 2 p) (nI z)))) C X I_X7_isIn l_X7_244 (e_isIn _ _) (by decide) (Nat.le_of_ble_eq_true rfl) (pfx_eq kg9z) (Nat.le_of_ble_eq_true rfl) rfl (dx dX7_goes 75 rfl) ?_
                                    refine rb_eq (b := inB (vF v 2 p) (nI z)) (tgt := 145) C (dx dX7_goes 76 rfl) (by decide) (fun c46 => ?_) (fun c46 => ?_)
                                    ·
                                      have c46 : (inB (vF v 2 p) (nI z)) = false := c46
                                      refine r_iconst (v := nI 0) C (dx dX7_goes 85 rfl) rfl ?_
                                      refine r_ior C (dx dX7_goes 86 rfl) ?_
                                      refine r_istore (ls' := [(0, vr 7 k), (1, vi ((cmS v p).1)), (2, vi ((sumIf (needW v (dayP v)) (fun m => vF v 3 m) p) + (vF v 3 p))), (3, vi (nI p)), (4, vi (nI (vN v))), (5, vi ((b2i (anyB (ownB v (vF v 2 p) q) z)) ||| (nI 0))), (6, vi (nI z))]) C (dx dX7_goes 87 rfl) (by decide) [1, 2, 3, 4, 5, 0, 6] rfl ?_
                                      refine rn_iinc (a := z) (k := 1) (ls' := [(0, vr 7 k), (1, vi ((cmS v p).1)), (2, vi ((sumIf (needW v (dayP v)) (fun m => vF v 3 m) p) + (vF v 3 p))), (3, vi (nI p)), (4, vi (nI (vN v))), (5, vi ((b2i (anyB (ownB v (vF v 2 p) q) z)) ||| (nI 0))), (6, vi (nI (z + 1)))]) C (dx dX7_goes 88 rfl) rfl rfl (by decide) [1, 2, 3, 4, 5, 6, 0] rfl ?_
                                      refine r_goto (tgt := 104) C (dx dX7_goes 89 rfl) (by decide) ?_
                                      have ez5 : ((b2i (anyB (ownB v (vF v 2 p) q) z)) ||| (nI 0)) = (b2i (anyB (ownB v (vF v 2 p) q) (z + 1))) := by (simp only [anyB, ownB]; simp [or0, b2i_or1, c46])
                                      rw [ez5]
                                      have fz : (shrV (goV v (dayP v) (cmS v (vN v)).2 p) (vF v 2 p) q) = (shrV (goV v (dayP v) (cmS v (vN v)).2 p) (vF v 2 p) q) := by rfl
                                      exact ihz g9z (fz ▸ mg9z) pg9z kg9z
                                    ·
                                      have c46 : (inB (vF v 2 p) (nI z)) = true := c46
                                      refine r_aload_n C (dx dX7_goes 77 rfl) rfl ?_
                                      refine g_X7_40 C (dx dX7_goes 78 rfl) ?_
                                      refine r_iload C (dx dX7_goes 79 rfl) rfl ?_
                                      refine r_iald (j := z) (x := vF v 0 z) C rfl rfl (by decide) rfl (by omega) (dx dX7_goes 80 rfl) ((mg9z.e0 (by omega)).trans (by first | rfl | rw [goV_c _ _ _ (by decide)] | rw [shrV_c _ _ _ (by decide), goV_c _ _ _ (by decide)])) ?_
                                      refine r_iload C (dx dX7_goes 81 rfl) rfl ?_
                                      refine r_icmp_ne (tgt := 145) C (dx dX7_goes 82 rfl) (by decide) (fun c47 => ?_) (fun c47 => ?_)
                                      ·
                                        have c47 : ¬ vF v 0 z = nI (vN v) := c47
                                        refine r_iconst (v := nI 0) C (dx dX7_goes 85 rfl) rfl ?_
                                        refine r_ior C (dx dX7_goes 86 rfl) ?_
                                        refine r_istore (ls' := [(0, vr 7 k), (1, vi ((cmS v p).1)), (2, vi ((sumIf (needW v (dayP v)) (fun m => vF v 3 m) p) + (vF v 3 p))), (3, vi (nI p)), (4, vi (nI (vN v))), (5, vi ((b2i (anyB (ownB v (vF v 2 p) q) z)) ||| (nI 0))), (6, vi (nI z))]) C (dx dX7_goes 87 rfl) (by decide) [1, 2, 3, 4, 5, 0, 6] rfl ?_
                                        refine rn_iinc (a := z) (k := 1) (ls' := [(0, vr 7 k), (1, vi ((cmS v p).1)), (2, vi ((sumIf (needW v (dayP v)) (fun m => vF v 3 m) p) + (vF v 3 p))), (3, vi (nI p)), (4, vi (nI (vN v))), (5, vi ((b2i (anyB (ownB v (vF v 2 p) q) z)) ||| (nI 0))), (6, vi (nI (z + 1)))]) C (dx dX7_goes 88 rfl) rfl rfl (by decide) [1, 2, 3, 4, 5, 6, 0] rfl ?_
                                        refine r_goto (tgt := 104) C (dx dX7_goes 89 rfl) (by decide) ?_
                                        have ez5 : ((b2i (anyB (ownB v (vF v 2 p) q) z)) ||| (nI 0)) = (b2i (anyB (ownB v (vF v 2 p) q) (z + 1))) := by (simp only [anyB, ownB]; simp [or0, b2i_or1, c46, c47])
                                        rw [ez5]
                                        have fz : (shrV (goV v (dayP v) (cmS v (vN v)).2 p) (vF v 2 p) q) = (shrV (goV v (dayP v) (cmS v (vN v)).2 p) (vF v 2 p) q) := by rfl
                                        exact ihz g9z (fz ▸ mg9z) pg9z kg9z
                                      ·
                                        have c47 : vF v 0 z = nI (vN v) := c47
                                        refine r_iconst (v := nI 1) C (dx dX7_goes 83 rfl) rfl ?_
                                        refine r_goto (tgt := 146) C (dx dX7_goes 84 rfl) (by decide) ?_
                                        refine r_ior C (dx dX7_goes 86 rfl) ?_
                                        refine r_istore (ls' := [(0, vr 7 k), (1, vi ((cmS v p).1)), (2, vi ((sumIf (needW v (dayP v)) (fun m => vF v 3 m) p) + (vF v 3 p))), (3, vi (nI p)), (4, vi (nI (vN v))), (5, vi ((b2i (anyB (ownB v (vF v 2 p) q) z)) ||| (nI 1))), (6, vi (nI z))]) C (dx dX7_goes 87 rfl) (by decide) [1, 2, 3, 4, 5, 0, 6] rfl ?_
                                        refine rn_iinc (a := z) (k := 1) (ls' := [(0, vr 7 k), (1, vi ((cmS v p).1)), (2, vi ((sumIf (needW v (dayP v)) (fun m => vF v 3 m) p) + (vF v 3 p))), (3, vi (nI p)), (4, vi (nI (vN v))), (5, vi ((b2i (anyB (ownB v (vF v 2 p) q) z)) ||| (nI 1))), (6, vi (nI (z + 1)))]) C (dx dX7_goes 88 rfl) rfl rfl (by decide) [1, 2, 3, 4, 5, 6, 0] rfl ?_
                                        refine r_goto (tgt := 104) C (dx dX7_goes 89 rfl) (by decide) ?_
                                        have ez5 : ((b2i (anyB (ownB v (vF v 2 p) q) z)) ||| (nI 1)) = (b2i (anyB (ownB v (vF v 2 p) q) (z + 1))) := by (simp only [anyB, ownB]; simp [or0, b2i_or1, c46, c47])
                                        rw [ez5]
                                        have fz : (shrV (goV v (dayP v) (cmS v (vN v)).2 p) (vF v 2 p) q) = (shrV (goV v (dayP v) (cmS v (vN v)).2 p) (vF v 2 p) q) := by rfl
                                        exact ihz g9z (fz ▸ mg9z) pg9z kg9z))
                    ·
                      intro q hq ihq g9q mg9q pg9q kg9q
                      refine r_iload C (dx dX7_goes 57 rfl) rfl ?_
                      refine r_aload_n C (dx dX7_goes 58 rfl) rfl ?_
                      refine g_X7_74 (x := nI (vN v)) C (dx dX7_goes 59 rfl) mg9q.eN ?_
                      refine rn_ge (a := q) (b := vN v) (tgt := 183) C (by omega) (by omega) (dx dX7_goes 60 rfl) (by decide) (fun c48 => ?_) (fun c48 => ?_)
                      · first
                        | (omega; done)
                        | (
                            have c48 : vN v ≤ q := c48
                            refine rn_iinc (a := p) (k := 1) (ls' := [(0, vr 7 k), (1, vi ((cmS v p).1)), (2, vi ((sumIf (needW v (dayP v)) (fun m => vF v 3 m) p) + (vF v 3 p))), (3, vi (nI (p + 1))), (4, vi (nI q))]) C (dx dX7_goes 106 rfl) rfl rfl (by decide) [1, 2, 3, 0, 4] rfl ?_
                            refine r_goto (tgt := 60) C (dx dX7_goes 107 rfl) (by decide) ?_
                            have ep2 : ((sumIf (needW v (dayP v)) (fun m => vF v 3 m) p) + (vF v 3 p)) = (sumIf (needW v (dayP v)) (fun m => vF v 3 m) (p + 1)) := by simp [sumIf, dayP, c37]
                            rw [ep2]
                            refine r_weak C [0, 1, 2, 3] rfl ?_
                            have fp : (shrV (goV v (dayP v) (cmS v (vN v)).2 p) (vF v 2 p) q) = (goV v (dayP v) (cmS v (vN v)).2 (p + 1)) := by (rw [goV_s, if_pos (show needW v (dayP v) p = true from c37)])
                            exact ihp g9q (fp ▸ mg9q) pg9q kg9q)
                      · first
                        | (omega; done)
                        | (
                            have c48 : q < vN v := c48
                            refine r_iconst (v := nI 0) C (dx dX7_goes 61 rfl) rfl ?_
                            refine r_istore (ls' := [(0, vr 7 k), (1, vi ((cmS v p).1)), (2, vi ((sumIf (needW v (dayP v)) (fun m => vF v 3 m) p) + (vF v 3 p))), (3, vi (nI p)), (4, vi (nI q)), (5, vi (nI 0))]) C (dx dX7_goes 62 rfl) (by decide) [1, 2, 3, 4, 5, 0] rfl ?_
                            refine r_iconst (v := nI 0) C (dx dX7_goes 63 rfl) rfl ?_
                            refine r_istore (ls' := [(0, vr 7 k), (1, vi ((cmS v p).1)), (2, vi ((sumIf (needW v (dayP v)) (fun m => vF v 3 m) p) + (vF v 3 p))), (3, vi (nI p)), (4, vi (nI q)), (5, vi (nI 0)), (6, vi (nI 0))]) C (dx dX7_goes 64 rfl) (by decide) [1, 2, 3, 4, 5, 6, 0] rfl ?_
                            refine loopU (Φ := fun z => ∀ g9z, MilAt g9z k (shrV (goV v (dayP v) (cmS v (vN v)).2 p) (vF v 2 p) q) → Kp k h g9z → xK g9z = xK h → Rr G 104 [(0, vr 7 k), (1, vi ((cmS v p).1)), (2, vi ((sumIf (needW v (dayP v)) (fun m => vF v 3 m) p) + (vF v 3 p))), (3, vi (nI p)), (4, vi (nI q)), (5, vi (b2i (anyB (ownB v (vF v 2 p) q) z))), (6, vi (nI z))] [] g9z) (N := vP v) ?_ ?_ 0 (Nat.zero_le _) g9q mg9q pg9q kg9q
                            ·
                              intro g9z mg9z pg9z kg9z
                              refine r_iload C (dx dX7_goes 65 rfl) rfl ?_
                              refine r_aload_n C (dx dX7_goes 66 rfl) rfl ?_
                              refine g_X7_64 (x := nI (vP v)) C (dx dX7_goes 67 rfl) mg9z.eP ?_
                              refine rn_ge (a := vP v) (b := vP v) (tgt := 155) C (by omega) (by omega) (dx dX7_goes 68 rfl) (by decide) (fun c49 => ?_) (fun c49 => ?_)
                              · first
                                | (omega; done)
                                | (
                                    have c49 : vP v ≤ vP v := c49
                                    refine r_aload_n C (dx dX7_goes 90 rfl) rfl ?_
                                    refine g_X7_54 C (dx dX7_goes 91 rfl) ?_
                                    refine r_iload C (dx dX7_goes 92 rfl) rfl ?_
                                    refine r_aald4 (j := q) C rfl rfl (by decide) rfl (by omega) (dx dX7_goes 93 rfl) ?_
                                    refine r_iconst (v := nI 3) C (dx dX7_goes 94 rfl) rfl ?_
                                    refine r_dup2 C (dx dX7_goes 95 rfl) ?_
                                    refine r_iald (j := 3) (x := vF (shrV (goV v (dayP v) (cmS v (vN v)).2 p) (vF v 2 p) q) 7 q) C rfl rfl (by decide) rfl (by omega) (dx dX7_goes 96 rfl) (mg9z.eo (by omega) (by omega)) ?_
                                    refine r_iload C (dx dX7_goes 97 rfl) rfl ?_
                                    refine rb_eq (b := anyB (ownB v (vF v 2 p) q) (vP v)) (tgt := 174) C (dx dX7_goes 98 rfl) (by decide) (fun c50 => ?_) (fun c50 => ?_)
                                    ·
                                      have c50 : (anyB (ownB v (vF v 2 p) q) (vP v)) = false := c50
                                      refine r_iconst (v := nI 0) C (dx dX7_goes 101 rfl) rfl ?_
                                      refine r_iadd C (dx dX7_goes 102 rfl) ?_
                                      refine r_iast (j := 3) C rfl rfl (by decide) rfl (by omega) (dx dX7_goes 103 rfl) ?_
                                      have mh51 : MilAt (sI g9z (k + 23 + q) 3 ((vF (shrV (goV v (dayP v) (cmS v (vN v)).2 p) (vF v 2 p) q) 7 q) + (nI 0))) k (vset (shrV (goV v (dayP v) (cmS v (vN v)).2 p) (vF v 2 p) q) 7 q ((vF (shrV (goV v (dayP v) (cmS v (vN v)).2 p) (vF v 2 p) q) 7 q) + (nI 0))) := mg9z.so (by omega) (by omega)
                                      have ph51 : Kp k h (sI g9z (k + 23 + q) 3 ((vF (shrV (goV v (dayP v) (cmS v (vN v)).2 p) (vF v 2 p) q) 7 q) + (nI 0))) := pg9z.tr (Kp.c (by omega) (by omega))
                                      have kh51 : xK (sI g9z (k + 23 + q) 3 ((vF (shrV (goV v (dayP v) (cmS v (vN v)).2 p) (vF v 2 p) q) 7 q) + (nI 0))) = xK h := kg9z
                                      generalize sI g9z (k + 23 + q) 3 ((vF (shrV (goV v (dayP v) (cmS v (vN v)).2 p) (vF v 2 p) q) 7 q) + (nI 0)) = h51 at mh51 ph51 kh51 ⊢
                                      refine rn_iinc (a := q) (k := 1) (ls' := [(0, vr 7 k), (1, vi ((cmS v p).1)), (2, vi ((sumIf (needW v (dayP v)) (fun m => vF v 3 m) p) + (vF v 3 p))), (3, vi (nI p)), (4, vi (nI (q + 1))), (5, vi (b2i (anyB (ownB v (vF v 2 p) q) (vP v)))), (6, vi (nI (vP v)))]) C (dx dX7_goes 104 rfl) rfl rfl (by decide) [1, 2, 3, 4, 0, 5, 6] rfl ?_
                                      refine r_goto (tgt := 89) C (dx dX7_goes 105 rfl) (by decide) ?_
                                      refine r_weak C [0, 1, 2, 3, 4] rfl ?_
                                      have fq : (vset (shrV (goV v (dayP v) (cmS v (vN v)).2 p) (vF v 2 p) q) 7 q ((vF (shrV (goV v (dayP v) (cmS v (vN v)).2 p) (vF v 2 p) q) 7 q) + (nI 0))) = (shrV (goV v (dayP v) (cmS v (vN v)).2 p) (vF v 2 p) (q + 1)) := by exact go_step (by omega) bP bN hd (by rw [if_neg (by rw [c50]; decide)])
                                      exact ihq h51 (fq ▸ mh51) ph51 kh51
                                    ·
                                      have c50 : (anyB (ownB v (vF v 2 p) q) (vP v)) = true := c50
                                      refine r_iconst (v := nI 1) C (dx dX7_goes 99 rfl) rfl ?_
                                      refine r_goto (tgt := 175) C (dx dX7_goes 100 rfl) (by decide) ?_
                                      refine r_iadd C (dx dX7_goes 102 rfl) ?_
                                      refine r_iast (j := 3) C rfl rfl (by decide) rfl (by omega) (dx dX7_goes 103 rfl) ?_
                                      have mh52 : MilAt (sI g9z (k + 23 + q) 3 ((vF (shrV (goV v (dayP v) (cmS v (vN v)).2 p) (vF v 2 p) q) 7 q) + (nI 1))) k (vset (shrV (goV v (dayP v) (cmS v (vN v)).2 p) (vF v 2 p) q) 7 q ((vF (shrV (goV v (dayP v) (cmS v (vN v)).2 p) (vF v 2 p) q) 7 q) + (nI 1))) := mg9z.so (by omega) (by omega)
                                      have ph52 : Kp k h (sI g9z (k + 23 + q) 3 ((vF (shrV (goV v (dayP v) (cmS v (vN v)).2 p) (vF v 2 p) q) 7 q) + (nI 1))) := pg9z.tr (Kp.c (by omega) (by omega))
                                      have kh52 : xK (sI g9z (k + 23 + q) 3 ((vF (shrV (goV v (dayP v) (cmS v (vN v)).2 p) (vF v 2 p) q) 7 q) + (nI 1))) = xK h := kg9z
                                      generalize sI g9z (k + 23 + q) 3 ((vF (shrV (goV v (dayP v) (cmS v (vN v)).2 p) (vF v 2 p) q) 7 q) + (nI 1)) = h52 at mh52 ph52 kh52 ⊢
                                      refine rn_iinc (a := q) (k := 1) (ls' := [(0, vr 7 k), (1, vi ((cmS v p).1)), (2, vi ((sumIf (needW v (dayP v)) (fun m => vF v 3 m) p) + (vF v 3 p))), (3, vi (nI p)), (4, vi (nI (q + 1))), (5, vi (b2i (anyB (ownB v (vF v 2 p) q) (vP v)))), (6, vi (nI (vP v)))]) C (dx dX7_goes 104 rfl) rfl rfl (by decide) [1, 2, 3, 4, 0, 5, 6] rfl ?_
                                      refine r_goto (tgt := 89) C (dx dX7_goes 105 rfl) (by decide) ?_
                                      refine r_weak C [0, 1, 2, 3, 4] rfl ?_
                                      have fq : (vset (shrV (goV v (dayP v) (cmS v (vN v)).2 p) (vF v 2 p) q) 7 q ((vF (shrV (goV v (dayP v) (cmS v (vN v)).2 p) (vF v 2 p) q) 7 q) + (nI 1))) = (shrV (goV v (dayP v) (cmS v (vN v)).2 p) (vF v 2 p) (q + 1)) := by exact go_step (by omega) bP bN hd (by rw [if_pos c50])
                                      exact ihq h52 (fq ▸ mh52) ph52 kh52)
                              · first
                                | (omega; done)
                            ·
                              intro z hz ihz g9z mg9z pg9z kg9z
                              refine r_iload C (dx dX7_goes 65 rfl) rfl ?_
                              refine r_aload_n C (dx dX7_goes 66 rfl) rfl ?_
                              refine g_X7_64 (x := nI (vP v)) C (dx dX7_goes 67 rfl) mg9z.eP ?_
                              refine rn_ge (a := z) (b := vP v) (tgt := 155) C (by omega) (by omega) (dx dX7_goes 68 rfl) (by decide) (fun c54 => ?_) (fun c54 => ?_)
                              · first
                                | (omega; done)
                                | (
                                    have c54 : vP v ≤ z := c54
                                    refine r_aload_n C (dx dX7_goes 90 rfl) rfl ?_
                                    refine g_X7_54 C (dx dX7_goes 91 rfl) ?_
                                    refine r_iload C (dx dX7_goes 92 rfl) rfl ?_
                                    refine r_aald4 (j := q) C rfl rfl (by decide) rfl (by omega) (dx dX7_goes 93 rfl) ?_
                                    refine r_iconst (v := nI 3) C (dx dX7_goes 94 rfl) rfl ?_
                                    refine r_dup2 C (dx dX7_goes 95 rfl) ?_
                                    refine r_iald (j := 3) (x := vF (shrV (goV v (dayP v) (cmS v (vN v)).2 p) (vF v 2 p) q) 7 q) C rfl rfl (by decide) rfl (by omega) (dx dX7_goes 96 rfl) (mg9z.eo (by omega) (by omega)) ?_
                                    refine r_iload C (dx dX7_goes 97 rfl) rfl ?_
                                    refine rb_eq (b := anyB (ownB v (vF v 2 p) q) z) (tgt := 174) C (dx dX7_goes 98 rfl) (by decide) (fun c55 => ?_) (fun c55 => ?_)
                                    ·
                                      have c55 : (anyB (ownB v (vF v 2 p) q) z) = false := c55
                                      refine r_iconst (v := nI 0) C (dx dX7_goes 101 rfl) rfl ?_
                                      refine r_iadd C (dx dX7_goes 102 rfl) ?_
                                      refine r_iast (j := 3) C rfl rfl (by decide) rfl (by omega) (dx dX7_goes 103 rfl) ?_
                                      have mh56 : MilAt (sI g9z (k + 23 + q) 3 ((vF (shrV (goV v (dayP v) (cmS v (vN v)).2 p) (vF v 2 p) q) 7 q) + (nI 0))) k (vset (shrV (goV v (dayP v) (cmS v (vN v)).2 p) (vF v 2 p) q) 7 q ((vF (shrV (goV v (dayP v) (cmS v (vN v)).2 p) (vF v 2 p) q) 7 q) + (nI 0))) := mg9z.so (by omega) (by omega)
                                      have ph56 : Kp k h (sI g9z (k + 23 + q) 3 ((vF (shrV (goV v (dayP v) (cmS v (vN v)).2 p) (vF v 2 p) q) 7 q) + (nI 0))) := pg9z.tr (Kp.c (by omega) (by omega))
                                      have kh56 : xK (sI g9z (k + 23 + q) 3 ((vF (shrV (goV v (dayP v) (cmS v (vN v)).2 p) (vF v 2 p) q) 7 q) + (nI 0))) = xK h := kg9z
                                      generalize sI g9z (k + 23 + q) 3 ((vF (shrV (goV v (dayP v) (cmS v (vN v)).2 p) (vF v 2 p) q) 7 q) + (nI 0)) = h56 at mh56 ph56 kh56 ⊢
                                      refine rn_iinc (a := q) (k := 1) (ls' := [(0, vr 7 k), (1, vi ((cmS v p).1)), (2, vi ((sumIf (needW v (dayP v)) (fun m => vF v 3 m) p) + (vF v 3 p))), (3, vi (nI p)), (4, vi (nI (q + 1))), (5, vi (b2i (anyB (ownB v (vF v 2 p) q) z))), (6, vi (nI z))]) C (dx dX7_goes 104 rfl) rfl rfl (by decide) [1, 2, 3, 4, 0, 5, 6] rfl ?_
                                      refine r_goto (tgt := 89) C (dx dX7_goes 105 rfl) (by decide) ?_
                                      refine r_weak C [0, 1, 2, 3, 4] rfl ?_
                                      have fq : (vset (shrV (goV v (dayP v) (cmS v (vN v)).2 p) (vF v 2 p) q) 7 q ((vF (shrV (goV v (dayP v) (cmS v (vN v)).2 p) (vF v 2 p) q) 7 q) + (nI 0))) = (shrV (goV v (dayP v) (cmS v (vN v)).2 p) (vF v 2 p) (q + 1)) := by exact go_step (by omega) bP bN hd (by rw [if_neg (by rw [c55]; decide)])
                                      exact ihq h56 (fq ▸ mh56) ph56 kh56
                                    ·
                                      have c55 : (anyB (ownB v (vF v 2 p) q) z) = true := c55
                                      refine r_iconst (v := nI 1) C (dx dX7_goes 99 rfl) rfl ?_
                                      refine r_goto (tgt := 175) C (dx dX7_goes 100 rfl) (by decide) ?_
                                      refine r_iadd C (dx dX7_goes 102 rfl) ?_
                                      refine r_iast (j := 3) C rfl rfl (by decide) rfl (by omega) (dx dX7_goes 103 rfl) ?_
                                      have mh57 : MilAt (sI g9z (k + 23 + q) 3 ((vF (shrV (goV v (dayP v) (cmS v (vN v)).2 p) (vF v 2 p) q) 7 q) + (nI 1))) k (vset (shrV (goV v (dayP v) (cmS v (vN v)).2 p) (vF v 2 p) q) 7 q ((vF (shrV (goV v (dayP v) (cmS v (vN v)).2 p) (vF v 2 p) q) 7 q) + (nI 1))) := mg9z.so (by omega) (by omega)
                                      have ph57 : Kp k h (sI g9z (k + 23 + q) 3 ((vF (shrV (goV v (dayP v) (cmS v (vN v)).2 p) (vF v 2 p) q) 7 q) + (nI 1))) := pg9z.tr (Kp.c (by omega) (by omega))
                                      have kh57 : xK (sI g9z (k + 23 + q) 3 ((vF (shrV (goV v (dayP v) (cmS v (vN v)).2 p) (vF v 2 p) q) 7 q) + (nI 1))) = xK h := kg9z
                                      generalize sI g9z (k + 23 + q) 3 ((vF (shrV (goV v (dayP v) (cmS v (vN v)).2 p) (vF v 2 p) q) 7 q) + (nI 1)) = h57 at mh57 ph57 kh57 ⊢
                                      refine rn_iinc (a := q) (k := 1) (ls' := [(0, vr 7 k), (1, vi ((cmS v p).1)), (2, vi ((sumIf (needW v (dayP v)) (fun m => vF v 3 m) p) + (vF v 3 p))), (3, vi (nI p)), (4, vi (nI (q + 1))), (5, vi (b2i (anyB (ownB v (vF v 2 p) q) z))), (6, vi (nI z))]) C (dx dX7_goes 104 rfl) rfl rfl (by decide) [1, 2, 3, 4, 0, 5, 6] rfl ?_
                                      refine r_goto (tgt := 89) C (dx dX7_goes 105 rfl) (by decide) ?_
                                      refine r_weak C [0, 1, 2, 3, 4] rfl ?_
                                      have fq : (vset (shrV (goV v (dayP v) (cmS v (vN v)).2 p) (vF v 2 p) q) 7 q ((vF (shrV (goV v (dayP v) (cmS v (vN v)).2 p) (vF v 2 p) q) 7 q) + (nI 1))) = (shrV (goV v (dayP v) (cmS v (vN v)).2 p) (vF v 2 p) (q + 1)) := by exact go_step (by omega) bP bN hd (by rw [if_pos c55])
                                      exact ihq h57 (fq ▸ mh57) ph57 kh57)
                              · first
                                | (omega; done)
                                | (
                                    have c54 : z < vP v := c54
                                    refine r_iload C (dx dX7_goes 69 rfl) rfl ?_
                                    refine r_aload_n C (dx dX7_goes 70 rfl) rfl ?_
                                    refine g_X7_46 C (dx dX7_goes 71 rfl) ?_
                                    refine r_iload_n C (dx dX7_goes 72 rfl) rfl ?_
                                    refine r_iald (j := p) (x := vF v 2 p) C rfl rfl (by decide) rfl (by omega) (dx dX7_goes 73 rfl) ((mg9z.e2 (by omega)).trans (by first | rfl | rw [goV_c _ _ _ (by decide)] | rw [shrV_c _ _ _ (by decide), goV_c _ _ _ (by decide)])) ?_
                                    refine r_iload C (dx dX7_goes 74 rfl) rfl ?_
                                    refine r_csP (as := [vi (vF v 2 p), vi (nI z)]) (st := [vi (b2i (anyB (ownB v (vF v 2 p) q) z))]) (v := vi (b2i (inB (vF v 2 p) (nI z)))) C X I_X7_isIn l_X7_244 (e_isIn _ _) (by decide) (Nat.le_of_ble_eq_true rfl) (pfx_eq kg9z) (Nat.le_of_ble_eq_true rfl) rfl (dx dX7_goes 75 rfl) ?_
                                    refine rb_eq (b := inB (vF v 2 p) (nI z)) (tgt := 145) C (dx dX7_goes 76 rfl) (by decide) (fun c58 => ?_) (fun c58 => ?_)
                                    ·
                                      have c58 : (inB (vF v 2 p) (nI z)) = false := c58
                                      refine r_iconst (v := nI 0) C (dx dX7_goes 85 rfl) rfl ?_
                                      refine r_ior C (dx dX7_goes 86 rfl) ?_
                                      refine r_istore (ls' := [(0, vr 7 k), (1, vi ((cmS v p).1)), (2, vi ((sumIf (needW v (dayP v)) (fun m => vF v 3 m) p) + (vF v 3 p))), (3, vi (nI p)), (4, vi (nI q)), (5, vi ((b2i (anyB (ownB v (vF v 2 p) q) z)) ||| (nI 0))), (6, vi (nI z))]) C (dx dX7_goes 87 rfl) (by decide) [1, 2, 3, 4, 5, 0, 6] rfl ?_
                                      refine rn_iinc (a := z) (k := 1) (ls' := [(0, vr 7 k), (1, vi ((cmS v p).1)), (2, vi ((sumIf (needW v (dayP v)) (fun m => vF v 3 m) p) + (vF v 3 p))), (3, vi (nI p)), (4, vi (nI q)), (5, vi ((b2i (anyB (ownB v (vF v 2 p) q) z)) ||| (nI 0))), (6, vi (nI (z + 1)))]) C (dx dX7_goes 88 rfl) rfl rfl (by decide) [1, 2, 3, 4, 5, 6, 0] rfl ?_
                                      refine r_goto (tgt := 104) C (dx dX7_goes 89 rfl) (by decide) ?_
                                      have ez5 : ((b2i (anyB (ownB v (vF v 2 p) q) z)) ||| (nI 0)) = (b2i (anyB (ownB v (vF v 2 p) q) (z + 1))) := by (simp only [anyB, ownB]; simp [or0, b2i_or1, c58])
                                      rw [ez5]
                                      have fz : (shrV (goV v (dayP v) (cmS v (vN v)).2 p) (vF v 2 p) q) = (shrV (goV v (dayP v) (cmS v (vN v)).2 p) (vF v 2 p) q) := by rfl
                                      exact ihz g9z (fz ▸ mg9z) pg9z kg9z
                                    ·
                                      have c58 : (inB (vF v 2 p) (nI z)) = true := c58
                                      refine r_aload_n C (dx dX7_goes 77 rfl) rfl ?_
                                      refine g_X7_40 C (dx dX7_goes 78 rfl) ?_
                                      refine r_iload C (dx dX7_goes 79 rfl) rfl ?_
                                      refine r_iald (j := z) (x := vF v 0 z) C rfl rfl (by decide) rfl (by omega) (dx dX7_goes 80 rfl) ((mg9z.e0 (by omega)).trans (by first | rfl | rw [goV_c _ _ _ (by decide)] | rw [shrV_c _ _ _ (by decide), goV_c _ _ _ (by decide)])) ?_
                                      refine r_iload C (dx dX7_goes 81 rfl) rfl ?_
                                      refine r_icmp_ne (tgt := 145) C (dx dX7_goes 82 rfl) (by decide) (fun c59 => ?_) (fun c59 => ?_)
                                      ·
                                        have c59 : ¬ vF v 0 z = nI q := c59
                                        refine r_iconst (v := nI 0) C (dx dX7_goes 85 rfl) rfl ?_
                                        refine r_ior C (dx dX7_goes 86 rfl) ?_
                                        refine r_istore (ls' := [(0, vr 7 k), (1, vi ((cmS v p).1)), (2, vi ((sumIf (needW v (dayP v)) (fun m => vF v 3 m) p) + (vF v 3 p))), (3, vi (nI p)), (4, vi (nI q)), (5, vi ((b2i (anyB (ownB v (vF v 2 p) q) z)) ||| (nI 0))), (6, vi (nI z))]) C (dx dX7_goes 87 rfl) (by decide) [1, 2, 3, 4, 5, 0, 6] rfl ?_
                                        refine rn_iinc (a := z) (k := 1) (ls' := [(0, vr 7 k), (1, vi ((cmS v p).1)), (2, vi ((sumIf (needW v (dayP v)) (fun m => vF v 3 m) p) + (vF v 3 p))), (3, vi (nI p)), (4, vi (nI q)), (5, vi ((b2i (anyB (ownB v (vF v 2 p) q) z)) ||| (nI 0))), (6, vi (nI (z + 1)))]) C (dx dX7_goes 88 rfl) rfl rfl (by decide) [1, 2, 3, 4, 5, 6, 0] rfl ?_
                                        refine r_goto (tgt := 104) C (dx dX7_goes 89 rfl) (by decide) ?_
                                        have ez5 : ((b2i (anyB (ownB v (vF v 2 p) q) z)) ||| (nI 0)) = (b2i (anyB (ownB v (vF v 2 p) q) (z + 1))) := by (simp only [anyB, ownB]; simp [or0, b2i_or1, c58, c59])
                                        rw [ez5]
                                        have fz : (shrV (goV v (dayP v) (cmS v (vN v)).2 p) (vF v 2 p) q) = (shrV (goV v (dayP v) (cmS v (vN v)).2 p) (vF v 2 p) q) := by rfl
                                        exact ihz g9z (fz ▸ mg9z) pg9z kg9z
                                      ·
                                        have c59 : vF v 0 z = nI q := c59
                                        refine r_iconst (v := nI 1) C (dx dX7_goes 83 rfl) rfl ?_
                                        refine r_goto (tgt := 146) C (dx dX7_goes 84 rfl) (by decide) ?_
                                        refine r_ior C (dx dX7_goes 86 rfl) ?_
                                        refine r_istore (ls' := [(0, vr 7 k), (1, vi ((cmS v p).1)), (2, vi ((sumIf (needW v (dayP v)) (fun m => vF v 3 m) p) + (vF v 3 p))), (3, vi (nI p)), (4, vi (nI q)), (5, vi ((b2i (anyB (ownB v (vF v 2 p) q) z)) ||| (nI 1))), (6, vi (nI z))]) C (dx dX7_goes 87 rfl) (by decide) [1, 2, 3, 4, 5, 0, 6] rfl ?_
                                        refine rn_iinc (a := z) (k := 1) (ls' := [(0, vr 7 k), (1, vi ((cmS v p).1)), (2, vi ((sumIf (needW v (dayP v)) (fun m => vF v 3 m) p) + (vF v 3 p))), (3, vi (nI p)), (4, vi (nI q)), (5, vi ((b2i (anyB (ownB v (vF v 2 p) q) z)) ||| (nI 1))), (6, vi (nI (z + 1)))]) C (dx dX7_goes 88 rfl) rfl rfl (by decide) [1, 2, 3, 4, 5, 6, 0] rfl ?_
                                        refine r_goto (tgt := 104) C (dx dX7_goes 89 rfl) (by decide) ?_
                                        have ez5 : ((b2i (anyB (ownB v (vF v 2 p) q) z)) ||| (nI 1)) = (b2i (anyB (ownB v (vF v 2 p) q) (z + 1))) := by (simp only [anyB, ownB]; simp [or0, b2i_or1, c58, c59])
                                        rw [ez5]
                                        have fz : (shrV (goV v (dayP v) (cmS v (vN v)).2 p) (vF v 2 p) q) = (shrV (goV v (dayP v) (cmS v (vN v)).2 p) (vF v 2 p) q) := by rfl
                                        exact ihz g9z (fz ▸ mg9z) pg9z kg9z))))
    · first
      | (omega; done)
      | (
          have c31 : p < vN v := c31
          refine r_aload_n C (dx dX7_goes 8 rfl) rfl ?_
          refine g_X7_54 C (dx dX7_goes 9 rfl) ?_
          refine r_iload_n C (dx dX7_goes 10 rfl) rfl ?_
          refine r_aald4 (j := p) C rfl rfl (by decide) rfl (by omega) (dx dX7_goes 11 rfl) ?_
          refine r_iconst (v := nI 2) C (dx dX7_goes 12 rfl) rfl ?_
          refine r_iald (j := 2) (x := vF v 6 p) C rfl rfl (by decide) rfl (by omega) (dx dX7_goes 13 rfl) ((mg9p.eo (by omega) (by omega)).trans (by first | rfl | rw [goV_c _ _ _ (by decide)] | rw [shrV_c _ _ _ (by decide), goV_c _ _ _ (by decide)])) ?_
          refine r_if_ne (tgt := 50) C (dx dX7_goes 14 rfl) (by decide) (fun c60 => ?_) (fun c60 => ?_)
          ·
            have c60 : ¬ vF v 6 p = 0 := c60
            refine rn_iinc (a := p) (k := 1) (ls' := [(0, vr 7 k), (1, vi ((cmS v p).1)), (2, vi (nI (p + 1)))]) C (dx dX7_goes 33 rfl) rfl rfl (by decide) [1, 2, 0] rfl ?_
            refine r_goto (tgt := 4) C (dx dX7_goes 34 rfl) (by decide) ?_
            have ep1 : ((cmS v p).1) = ((cmS v (p + 1)).1) := by rw [cm_n c60]
            rw [ep1]
            have fp : (vsS v (cmS v p).2) = (vsS v (cmS v (p + 1)).2) := by rw [cm_n c60]
            exact ihp g9p (fp ▸ mg9p) pg9p kg9p
          ·
            have c60 : vF v 6 p = 0 := c60
            refine r_iload_n C (dx dX7_goes 15 rfl) rfl ?_
            refine r_aload_n C (dx dX7_goes 16 rfl) rfl ?_
            refine r_bipush (v := nI 10) C (dx dX7_goes 17 rfl) rfl ?_
            refine r_cv (as := [vi (nI 10)]) (st := [vi ((cmS v p).1)]) C X I_X7_draw l_X7_336 (e_draw mg9p) (by decide) (Nat.le_of_ble_eq_true rfl) List.prefix_rfl (pfx_eq kg9p) rfl rfl (Nat.le_of_ble_eq_true rfl) rfl (dx dX7_goes 18 rfl) ?_
            rintro _ h61 ⟨rfl, m9h61, qh61⟩ kkh61
            have mh61 : MilAt h61 k (vsS (vsS v (cmS v p).2) (lcg (vS (vsS v (cmS v p).2)))) := m9h61
            have ph61 : Kp k h h61 := pg9p.tr (qh61)
            have kh61 : xK h61 = xK h := (kkh61).trans kg9p
            refine r_aload_n C (dx dX7_goes 19 rfl) rfl ?_
            refine g_X7_54 C (dx dX7_goes 20 rfl) ?_
            refine r_iload_n C (dx dX7_goes 21 rfl) rfl ?_
            refine r_aald4 (j := p) C rfl rfl (by decide) rfl (by omega) (dx dX7_goes 22 rfl) ?_
            refine r_iconst (v := nI 1) C (dx dX7_goes 23 rfl) rfl ?_
            refine r_iald (j := 1) (x := vF v 5 p) C rfl rfl (by decide) rfl (by omega) (dx dX7_goes 24 rfl) ((mh61.eo (by omega) (by omega)).trans (by first | rfl | rw [goV_c _ _ _ (by decide)] | rw [shrV_c _ _ _ (by decide), goV_c _ _ _ (by decide)])) ?_
            refine r_icmp_ge (tgt := 45) C (dx dX7_goes 25 rfl) (by decide) (fun c62 => ?_) (fun c62 => ?_)
            ·
              have c62 : vF v 5 p ≤ drw (vS (vsS v (cmS v p).2)) := c62
              refine r_iconst (v := nI 1) C (dx dX7_goes 28 rfl) rfl ?_
              refine r_iload_n C (dx dX7_goes 29 rfl) rfl ?_
              refine r_ishl C (dx dX7_goes 30 rfl) ?_
              refine r_ior C (dx dX7_goes 31 rfl) ?_
              refine r_istore_n (ls' := [(0, vr 7 k), (1, vi (((cmS v p).1) ||| ((nI 1) <<< ((nI p) &&& 31)))), (2, vi (nI p))]) C (dx dX7_goes 32 rfl) (by decide) [1, 0, 2] rfl ?_
              refine rn_iinc (a := p) (k := 1) (ls' := [(0, vr 7 k), (1, vi (((cmS v p).1) ||| ((nI 1) <<< ((nI p) &&& 31)))), (2, vi (nI (p + 1)))]) C (dx dX7_goes 33 rfl) rfl rfl (by decide) [1, 2, 0] rfl ?_
              refine r_goto (tgt := 4) C (dx dX7_goes 34 rfl) (by decide) ?_
              have ep1 : (((cmS v p).1) ||| ((nI 1) <<< ((nI p) &&& 31))) = ((cmS v (p + 1)).1) := by rw [cm_b c60 (Int32.not_lt.mpr c62)]
              rw [ep1]
              have fp : (vsS (vsS v (cmS v p).2) (lcg (vS (vsS v (cmS v p).2)))) = (vsS v (cmS v (p + 1)).2) := by (rw [cm_b c60 (Int32.not_lt.mpr c62)]; rfl)
              exact ihp h61 (fp ▸ mh61) ph61 kh61
            ·
              have c62 : ¬ vF v 5 p ≤ drw (vS (vsS v (cmS v p).2)) := c62
              refine r_iconst (v := nI 0) C (dx dX7_goes 26 rfl) rfl ?_
              refine r_goto (tgt := 48) C (dx dX7_goes 27 rfl) (by decide) ?_
              refine r_ior C (dx dX7_goes 31 rfl) ?_
              refine r_istore_n (ls' := [(0, vr 7 k), (1, vi (((cmS v p).1) ||| (nI 0))), (2, vi (nI p))]) C (dx dX7_goes 32 rfl) (by decide) [1, 0, 2] rfl ?_
              refine rn_iinc (a := p) (k := 1) (ls' := [(0, vr 7 k), (1, vi (((cmS v p).1) ||| (nI 0))), (2, vi (nI (p + 1)))]) C (dx dX7_goes 33 rfl) rfl rfl (by decide) [1, 2, 0] rfl ?_
              refine r_goto (tgt := 4) C (dx dX7_goes 34 rfl) (by decide) ?_
              have ep1 : (((cmS v p).1) ||| (nI 0)) = ((cmS v (p + 1)).1) := by (rw [cm_a c60 (Int32.not_le.mp c62)]; exact or0 _)
              rw [ep1]
              have fp : (vsS (vsS v (cmS v p).2) (lcg (vS (vsS v (cmS v p).2)))) = (vsS v (cmS v (p + 1)).2) := by (rw [cm_a c60 (Int32.not_le.mp c62)]; rfl)
              exact ihp h61 (fp ▸ mh61) ph61 kh61)
set_option maxHeartbeats 4000000 in
theorem e_days {l : Launch} {h : Hp} {k : Nat} {v : Vg} (hm : MilAt h k v) (hd : HdOk v) (n : Int32) : Ms l yX7_days cX7_days 4 (some .int) 8 [vr 7 k, vi n] h (xK h) (fun r h' => r = some (vi (daysA v n)) ∧ MilAt h' k (daysX v n) ∧ Kp k h h') := by
  refine Ms.of (by decide) (Nat.le_of_ble_eq_true rfl) (fun G C X F => ?_)
  have C : Cx G cX7_days 4 RX7 := C
  show Rr G 0 [(0, vr 7 k), (1, vi n)] [] h
  have bP := hm.bP
  have bM := hm.bM
  have bN := hm.bN
  refine r_iload_n C (dx dX7_days 0 rfl) rfl ?_
  refine r_i2l C (dx dX7_days 1 rfl) ?_
  refine r_lconst (v := 1) C (dx dX7_days 2 rfl) rfl ?_
  refine r_ldc2 C n_X7_342 (dx dX7_days 3 rfl) ?_
  refine r_csP (as := [vl n.toInt64, vl 1, vl 60]) (st := []) (v := vi (b2i (btwB n 1 60))) C X I_X7_in l_X7_67 (c_inB (a := 1) (b := 60) (by decide) (by decide)) (by decide) (Nat.le_of_ble_eq_true rfl) List.prefix_rfl (Nat.le_of_ble_eq_true rfl) rfl (dx dX7_days 4 rfl) ?_
  refine rb_ne (b := btwB n 1 60) (tgt := 19) C (dx dX7_days 5 rfl) (by decide) (fun c1 => ?_) (fun c1 => ?_)
  ·
    have c1 : (btwB n 1 60) = true := c1
    obtain ⟨ν, hν, hν2, rfl⟩ := btw_ex (a := 1) (b := 60) (by omega) (by omega) c1
    refine r_iconst (v := nI 0) C (dx dX7_days 10 rfl) rfl ?_
    refine r_istore_n (ls' := [(0, vr 7 k), (1, vi (nI ν)), (2, vi (nI 0))]) C (dx dX7_days 11 rfl) (by decide) [1, 2, 0] rfl ?_
    refine r_iconst (v := nI 0) C (dx dX7_days 12 rfl) rfl ?_
    refine r_istore_n (ls' := [(0, vr 7 k), (1, vi (nI ν)), (2, vi (nI 0)), (3, vi (nI 0))]) C (dx dX7_days 13 rfl) (by decide) [1, 2, 3, 0] rfl ?_
    refine loopU (Φ := fun p => ∀ g9p, MilAt g9p k (daysV v p) → Kp k h g9p → xK g9p = xK h → Rr G 23 [(0, vr 7 k), (1, vi (nI ν)), (2, vi (daysS v p)), (3, vi (nI p))] [] g9p) (N := ν) ?_ ?_ 0 (Nat.zero_le _) h hm Kp.rf rfl
    ·
      intro g9p mg9p pg9p kg9p
      refine r_iload_n C (dx dX7_days 14 rfl) rfl ?_
      refine r_iload_n C (dx dX7_days 15 rfl) rfl ?_
      refine rn_ge (a := ν) (b := ν) (tgt := 41) C (by omega) (by omega) (dx dX7_days 16 rfl) (by decide) (fun c2 => ?_) (fun c2 => ?_)
      · first
        | (omega; done)
        | (
            have c2 : ν ≤ ν := c2
            refine r_aload_n C (dx dX7_days 24 rfl) rfl ?_
            refine r_dupR C (dx dX7_days 25 rfl) ?_
            refine g_X7_347 (x := xI g9p k 19) C (dx dX7_days 26 rfl) rfl ?_
            refine r_iload_n C (dx dX7_days 27 rfl) rfl ?_
            refine r_iadd C (dx dX7_days 28 rfl) ?_
            refine p_X7_347 C (dx dX7_days 29 rfl) rfl rfl ?_
            have mh3 : MilAt (sI g9p k 19 ((xI g9p k 19) + (daysS v ν))) k (daysV v ν) := mg9p.f (by decide) (by decide) (by decide) (by decide)
            have ph3 : Kp k h (sI g9p k 19 ((xI g9p k 19) + (daysS v ν))) := pg9p.tr (Kp.f (by decide))
            have kh3 : xK (sI g9p k 19 ((xI g9p k 19) + (daysS v ν))) = xK h := kg9p
            generalize sI g9p k 19 ((xI g9p k 19) + (daysS v ν)) = h3 at mh3 ph3 kh3 ⊢
            refine r_iload_n C (dx dX7_days 30 rfl) rfl ?_
            have eV : daysX v (nI ν) = daysV v ν := by (simp [daysA, daysX, dysB_e, clN (show ν < 2 ^ 31 by omega), c1, c2] <;> rfl)
            have eA : daysA v (nI ν) = daysS v ν := by (simp [daysA, daysX, dysB_e, clN (show ν < 2 ^ 31 by omega), c1, c2] <;> rfl)
            exact F.1 _ _ _ _ .int rfl rfl (dx dX7_days 31 rfl) kh3 ⟨by rw [eA], by rw [eV]; exact mh3, ph3⟩)
      · first
        | (omega; done)
    ·
      intro p hp ihp g9p mg9p pg9p kg9p
      refine r_iload_n C (dx dX7_days 14 rfl) rfl ?_
      refine r_iload_n C (dx dX7_days 15 rfl) rfl ?_
      refine rn_ge (a := p) (b := ν) (tgt := 41) C (by omega) (by omega) (dx dX7_days 16 rfl) (by decide) (fun c5 => ?_) (fun c5 => ?_)
      · first
        | (omega; done)
        | (
            have c5 : ν ≤ p := c5
            refine r_aload_n C (dx dX7_days 24 rfl) rfl ?_
            refine r_dupR C (dx dX7_days 25 rfl) ?_
            refine g_X7_347 (x := xI g9p k 19) C (dx dX7_days 26 rfl) rfl ?_
            refine r_iload_n C (dx dX7_days 27 rfl) rfl ?_
            refine r_iadd C (dx dX7_days 28 rfl) ?_
            refine p_X7_347 C (dx dX7_days 29 rfl) rfl rfl ?_
            have mh6 : MilAt (sI g9p k 19 ((xI g9p k 19) + (daysS v p))) k (daysV v p) := mg9p.f (by decide) (by decide) (by decide) (by decide)
            have ph6 : Kp k h (sI g9p k 19 ((xI g9p k 19) + (daysS v p))) := pg9p.tr (Kp.f (by decide))
            have kh6 : xK (sI g9p k 19 ((xI g9p k 19) + (daysS v p))) = xK h := kg9p
            generalize sI g9p k 19 ((xI g9p k 19) + (daysS v p)) = h6 at mh6 ph6 kh6 ⊢
            refine r_iload_n C (dx dX7_days 30 rfl) rfl ?_
            have eV : daysX v (nI ν) = daysV v p := by (simp [daysA, daysX, dysB_e, clN (show ν < 2 ^ 31 by omega), c1, c5] <;> rfl)
            have eA : daysA v (nI ν) = daysS v p := by (simp [daysA, daysX, dysB_e, clN (show ν < 2 ^ 31 by omega), c1, c5] <;> rfl)
            exact F.1 _ _ _ _ .int rfl rfl (dx dX7_days 31 rfl) kh6 ⟨by rw [eA], by rw [eV]; exact mh6, ph6⟩)
      · first
        | (omega; done)
        | (
            have c5 : p < ν := c5
            refine r_iload_n C (dx dX7_days 17 rfl) rfl ?_
            refine r_aload_n C (dx dX7_days 18 rfl) rfl ?_
            refine r_cv (as := []) (st := [vi (daysS v p)]) C X I_X7_goes l_X7_344 (e_goes mg9p (hd_days hd _)) (by decide) (Nat.le_of_ble_eq_true rfl) List.prefix_rfl (pfx_eq kg9p) rfl rfl (Nat.le_of_ble_eq_true rfl) rfl (dx dX7_days 19 rfl) ?_
            rintro _ h7 ⟨rfl, m9h7, qh7⟩ kkh7
            have mh7 : MilAt h7 k (dayV (daysV v p)) := m9h7
            have ph7 : Kp k h h7 := pg9p.tr (qh7)
            have kh7 : xK h7 = xK h := (kkh7).trans kg9p
            refine r_iadd C (dx dX7_days 20 rfl) ?_
            refine r_istore_n (ls' := [(0, vr 7 k), (1, vi (nI ν)), (2, vi ((daysS v p) + (worthS (daysV v p) (dayP (daysV v p))))), (3, vi (nI p))]) C (dx dX7_days 21 rfl) (by decide) [1, 2, 0, 3] rfl ?_
            refine rn_iinc (a := p) (k := 1) (ls' := [(0, vr 7 k), (1, vi (nI ν)), (2, vi ((daysS v p) + (worthS (daysV v p) (dayP (daysV v p))))), (3, vi (nI (p + 1)))]) C (dx dX7_days 22 rfl) rfl rfl (by decide) [1, 2, 3, 0] rfl ?_
            refine r_goto (tgt := 23) C (dx dX7_days 23 rfl) (by decide) ?_
            have ep2 : ((daysS v p) + (worthS (daysV v p) (dayP (daysV v p)))) = (daysS v (p + 1)) := by rfl
            rw [ep2]
            have fp : (dayV (daysV v p)) = (daysV v (p + 1)) := by rfl
            exact ihp h7 (fp ▸ mh7) ph7 kh7)
  ·
    have c1 : (btwB n 1 60) = false := c1
    refine r_aload_n C (dx dX7_days 6 rfl) rfl ?_
    refine r_bipush (v := -2) C (dx dX7_days 7 rfl) rfl ?_
    refine r_cv (as := [vi (-2)]) (st := []) C X I_X7_refuse l_X7_83 (e_refuse hm (x := -2) (j := 2) (by decide) (by decide)) (by decide) (Nat.le_of_ble_eq_true rfl) List.prefix_rfl List.prefix_rfl rfl rfl (Nat.le_of_ble_eq_true rfl) rfl (dx dX7_days 8 rfl) ?_
    rintro _ h8 ⟨rfl, m9h8, qh8⟩ kkh8
    have mh8 : MilAt h8 k v := m9h8
    have ph8 : Kp k h h8 := qh8
    have kh8 : xK h8 = xK h := kkh8
    have eV : daysX v n = v := by (simp [daysA, daysX, dysB_e, c1] <;> rfl)
    have eA : daysA v n = -2 := by (simp [daysA, daysX, dysB_e, c1] <;> rfl)
    exact F.1 _ _ _ _ .int rfl rfl (dx dX7_days 9 rfl) kh8 ⟨by rw [eA], by rw [eV]; exact mh8, ph8⟩

