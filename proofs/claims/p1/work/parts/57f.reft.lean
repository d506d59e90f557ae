/-! PART 57f: the reference: villages tried, holdings told -/
def dyR (v : Vg) : Int64 := sumL (dyF v) (2 ^ vN v)
def haR (v : Vg) : Nat → Int32 × Int64
  | 0 => (-1, 0)
  | n + 1 => if vF v 6 n = 0 ∧ ((haR v n).1 = -1 ∨ ¬ (haR v n).2 ≤ dyR (vset v 6 n (nI 1))) then (nI n, dyR (vset v 6 n (nI 1))) else haR v n
def harR (v : Vg) : Int32 := if (haR v (vN v)).1 = -1 then -5 else (haR v (vN v)).1
def spI (v : Vg) (x : Int32 × Int64) (p : Nat) : Nat → Int32 × Int64
  | 0 => x
  | n + 1 => if vF v 1 p = -1 ∧ ¬ nI n = vF v 0 p ∧ hasRm v (nI n) = true ∧ ¬ dyR (vset v 1 p (nI n)) ≤ (spI v x p n).2 then (nI (10 * p + n), dyR (vset v 1 p (nI n))) else spI v x p n
theorem spI_no {v : Vg} {x : Int32 × Int64} {p : Nat} (h : ¬ vF v 1 p = -1) : ∀ n, spI v x p n = x
  | 0 => rfl
  | n + 1 => by simp only [spI]; rw [if_neg (fun z => h z.1), spI_no h n]
def spO (v : Vg) : Nat → Int32 × Int64
  | 0 => (-1, dyR v)
  | n + 1 => spI v (spO v n) n (vN v)
def spaR (v : Vg) : Int32 := (spO v (vP v)).1
def gifR (v : Vg) (p o : Int32) : Int64 := if (inR p (vP v) && inR o (vN v)) = true then (if ¬ vF v 0 p.toNatClampNeg = o ∧ hasRm v o = false then -1000000000005 else dyR (vset v 0 p.toNatClampNeg o) - dyR v) else -1000000000002
theorem hnd_0 (v : Vg) (a b : Int32) : handV v a b 0 = v := by
  obtain ⟨x1, x2, x3, f, x5⟩ := v
  simp only [handV, vF, vP, vM, vN, vS, Prod.mk.injEq, true_and, and_true]
  funext c i
  exact if_neg (by omega)
theorem hnd_s {v : Vg} {a b : Int32} {p : Nat} {x y : Int32} (hx : x = if vF v 0 p = a then b else vF v 0 p) (hy : y = if vF v 1 p = a then b else vF v 1 p) : vset (vset (handV v a b p) 0 p x) 1 p y = handV v a b (p + 1) := by
  obtain ⟨x1, x2, x3, f, x5⟩ := v
  simp only [handV, vset, vF, vP, vM, vN, vS, Prod.mk.injEq, true_and, and_true] at hx hy ⊢
  funext c i
  by_cases h1 : c = 1
  · subst h1
    by_cases h2 : i = p
    · subst h2
      rw [if_pos rfl, if_pos rfl, hy]
      by_cases q : f 1 i = a
      · rw [if_pos q, if_pos ⟨by omega, by omega, q⟩]
      · rw [if_neg q, if_neg (fun z => q z.2.2)]
    · rw [if_pos rfl, if_neg h2, if_neg (by decide)]
      by_cases q : i < p ∧ f 1 i = a
      · rw [if_pos ⟨by omega, q.1, q.2⟩, if_pos ⟨by omega, by omega, q.2⟩]
      · rw [if_neg (fun z => q z.2), if_neg (fun z => q ⟨by omega, z.2.2⟩)]
  · rw [if_neg h1]
    by_cases h0 : c = 0
    · subst h0
      by_cases h2 : i = p
      · subst h2
        rw [if_pos rfl, if_pos rfl, hx]
        by_cases q : f 0 i = a
        · rw [if_pos q, if_pos ⟨by omega, by omega, q⟩]
        · rw [if_neg q, if_neg (fun z => q z.2.2)]
      · rw [if_pos rfl, if_neg h2]
        by_cases q : i < p ∧ f 0 i = a
        · rw [if_pos ⟨by omega, q.1, q.2⟩, if_pos ⟨by omega, by omega, q.2⟩]
        · rw [if_neg (fun z => q z.2), if_neg (fun z => q ⟨by omega, z.2.2⟩)]
    · rw [if_neg h0, if_neg (fun z => by omega), if_neg (fun z => by omega)]
def truR (v : Vg) (a b : Int32) : Int64 := if inR a (vN v) = true ∧ inR b (vN v) = true ∧ ¬ a = b then dyR (handV v a b (vP v)) - dyR v else -1000000000002
def hcN (u : Vg) (c : Nat) : Nat := cnt (fun p => decide (¬ vF u c p = -1)) (vP u)
def hdW (v : Vg) (g : Sg) (s : Int32) : Vg := hAR v (kdV g s).toNatClampNeg (byV g s).toNatClampNeg
def sayA (v : Vg) (g : Sg) (s x : Int32) : Int32 := if (inR s 8 && inR x 6) = true then (if hfV g s = 0 then (if undV (kdV g s) x = true then (if x = 0 then byV g s else nI (hcN (hdW v g s) (if x = nI 3 then 1 else 0))) else -3) else hfV g s) else -2
def layR (v : Vg) (g : Sg) (s : Int32) : Int32 := if nhA g s = 0 then nI (hcN (hdW v g s) 0) else nhA g s
def wouR (v : Vg) (g : Sg) (s : Int32) : Int64 := if nhA g s = 0 then dyR (hdW v g s) else (nhA g s).toInt64
def hdR (v : Vg) (g : Sg) : Nat → Int32 × Int64
  | 0 => (-1, 0)
  | n + 1 => if holdB g (nI n) = true ∧ ((hdR v g n).1 = -1 ∨ ¬ dyR (hdW v g (nI n)) ≤ (hdR v g n).2) then (nI n, dyR (hdW v g (nI n))) else hdR v g n
def heaR (v : Vg) (g : Sg) : Int32 := if (hdR v g 8).1 = -1 then -5 else (hdR v g 8).1
theorem hdW_e {v : Vg} {g : Sg} {σ η β : Nat} (hσ : σ < 8) (hη : η ≤ 5) (hβ : β < 100) (e : gT g σ = nI (10 + η)) (e2 : gY g σ = nI β) : hdW v g (nI σ) = hAR v η β := by
  unfold hdW
  rw [kd_hold hσ hη e e2, (sh_hold hσ hη e e2).2.2.2.2.2.2.2, clN (by omega), clN (by omega)]
set_option maxHeartbeats 4000000 in
theorem e_harms {l : Launch} {h : Hp} {k : Nat} {v : Vg} (hm : MilAt h k v)  : Ms l yX7_harms cX7_harms 7 (some .int) 8 [vr 7 k] h (xK h) (fun r h' => r = some (vi (harR v)) ∧ MilAt h' k v ∧ Kp k h h') := by
  refine Ms.of (by decide) (Nat.le_of_ble_eq_true rfl) (fun G C X F => ?_)
  have C : Cx G cX7_harms 7 RX7 := C
  show Rr G 0 [(0, vr 7 k)] [] h
  have bP := hm.bP
  have bM := hm.bM
  have bN := hm.bN
  refine r_iconst (v := -1) C (dx dX7_harms 0 rfl) rfl ?_
  refine r_istore_n (ls' := [(0, vr 7 k), (1, vi (-1))]) C (dx dX7_harms 1 rfl) (by decide) [1, 0] rfl ?_
  refine r_lconst (v := 0) C (dx dX7_harms 2 rfl) rfl ?_
  refine r_lstore_n (ls' := [(0, vr 7 k), (1, vi (-1)), (2, vl 0)]) C (dx dX7_harms 3 rfl) (by decide) [1, 2, 0] rfl ?_
  refine r_iconst (v := nI 0) C (dx dX7_harms 4 rfl) rfl ?_
  refine r_istore (ls' := [(0, vr 7 k), (1, vi (-1)), (2, vl 0), (4, vi (nI 0))]) C (dx dX7_harms 5 rfl) (by decide) [1, 2, 3, 0] rfl ?_
  refine loopU (Φ := fun p => ∀ g9p, MilAt g9p k (v) → Kp k h g9p → xK g9p = xK h → Rr G 7 [(0, vr 7 k), (1, vi ((haR v p).1)), (2, vl ((haR v p).2)), (4, vi (nI p))] [] g9p) (N := vN v) ?_ ?_ 0 (Nat.zero_le _) h hm Kp.rf rfl
  ·
    intro g9p mg9p pg9p kg9p
    refine r_iload C (dx dX7_harms 6 rfl) rfl ?_
    refine r_aload_n C (dx dX7_harms 7 rfl) rfl ?_
    refine g_X7_74 (x := nI (vN v)) C (dx dX7_harms 8 rfl) mg9p.eN ?_
    refine rn_ge (a := vN v) (b := vN v) (tgt := 78) C (by omega) (by omega) (dx dX7_harms 9 rfl) (by decide) (fun c1 => ?_) (fun c1 => ?_)
    · first
      | (omega; done)
      | (
          have c1 : vN v ≤ vN v := c1
          refine r_iload_n C (dx dX7_harms 47 rfl) rfl ?_
          refine r_iconst (v := -1) C (dx dX7_harms 48 rfl) rfl ?_
          refine r_icmp_ne (tgt := 92) C (dx dX7_harms 49 rfl) (by decide) (fun c2 => ?_) (fun c2 => ?_)
          ·
            have c2 : ¬ (haR v (vN v)).1 = -1 := c2
            refine r_iload_n C (dx dX7_harms 54 rfl) rfl ?_
            have eA : harR v = (haR v (vN v)).1 := by (unfold harR; rw [if_neg c2])
            exact F.1 _ _ _ _ .int rfl rfl (dx dX7_harms 55 rfl) kg9p ⟨by (rw [eA]; first | done | rfl), by exact mg9p, pg9p⟩
          ·
            have c2 : (haR v (vN v)).1 = -1 := c2
            refine r_aload_n C (dx dX7_harms 50 rfl) rfl ?_
            refine r_bipush (v := -5) C (dx dX7_harms 51 rfl) rfl ?_
            refine r_cv (as := [vi (-5)]) (st := []) C X I_X7_refuse l_X7_83 (e_refuse mg9p (x := -5) (j := 5) (by decide) (by decide)) (by decide) (Nat.le_of_ble_eq_true rfl) List.prefix_rfl (pfx_eq kg9p) rfl rfl (Nat.le_of_ble_eq_true rfl) rfl (dx dX7_harms 52 rfl) ?_
            rintro _ h3 ⟨rfl, m9h3, qh3⟩ kkh3
            have mh3 : MilAt h3 k v := m9h3
            have ph3 : Kp k h h3 := pg9p.tr (qh3)
            have kh3 : xK h3 = xK h := (kkh3).trans kg9p
            refine r_goto (tgt := 93) C (dx dX7_harms 53 rfl) (by decide) ?_
            have eA : harR v = -5 := by (unfold harR; rw [if_pos c2])
            exact F.1 _ _ _ _ .int rfl rfl (dx dX7_harms 55 rfl) kh3 ⟨by (rw [eA]; first | done | rfl), by exact mh3, ph3⟩)
    · first
      | (omega; done)
  ·
    intro p hp ihp g9p mg9p pg9p kg9p
    refine r_iload C (dx dX7_harms 6 rfl) rfl ?_
    refine r_aload_n C (dx dX7_harms 7 rfl) rfl ?_
    refine g_X7_74 (x := nI (vN v)) C (dx dX7_harms 8 rfl) mg9p.eN ?_
    refine rn_ge (a := p) (b := vN v) (tgt := 78) C (by omega) (by omega) (dx dX7_harms 9 rfl) (by decide) (fun c5 => ?_) (fun c5 => ?_)
    · first
      | (omega; done)
      | (
          have c5 : vN v ≤ p := c5
          refine r_iload_n C (dx dX7_harms 47 rfl) rfl ?_
          refine r_iconst (v := -1) C (dx dX7_harms 48 rfl) rfl ?_
          refine r_icmp_ne (tgt := 92) C (dx dX7_harms 49 rfl) (by decide) (fun c6 => ?_) (fun c6 => ?_)
          ·
            have c6 : ¬ (haR v p).1 = -1 := c6
            refine r_iload_n C (dx dX7_harms 54 rfl) rfl ?_
            have eA : harR v = (haR v p).1 := by (unfold harR; rw [if_neg None])
            exact F.1 _ _ _ _ .int rfl rfl (dx dX7_harms 55 rfl) kg9p ⟨by (rw [eA]; first | done | rfl), by exact mg9p, pg9p⟩
          ·
            have c6 : (haR v p).1 = -1 := c6
            refine r_aload_n C (dx dX7_harms 50 rfl) rfl ?_
            refine r_bipush (v := -5) C (dx dX7_harms 51 rfl) rfl ?_
            refine r_cv (as := [vi (-5)]) (st := []) C X I_X7_refuse l_X7_83 (e_refuse mg9p (x := -5) (j := 5) (by decide) (by decide)) (by decide) (Nat.le_of_ble_eq_true rfl) List.prefix_rfl (pfx_eq kg9p) rfl rfl (Nat.le_of_ble_eq_true rfl) rfl (dx dX7_harms 52 rfl) ?_
            rintro _ h7 ⟨rfl, m9h7, qh7⟩ kkh7
            have mh7 : MilAt h7 k v := m9h7
            have ph7 : Kp k h h7 := pg9p.tr (qh7)
            have kh7 : xK h7 = xK h := (kkh7).trans kg9p
            refine r_goto (tgt := 93) C (dx dX7_harms 53 rfl) (by decide) ?_
            have eA : harR v = -5 := by (unfold harR; rw [if_neg None])
            exact F.1 _ _ _ _ .int rfl rfl (dx dX7_harms 55 rfl) kh7 ⟨by (rw [eA]; first | done | rfl), by exact mh7, ph7⟩)
    · first
      | (omega; done)
      | (
          have c5 : p < vN v := c5
          refine r_aload_n C (dx dX7_harms 10 rfl) rfl ?_
          refine g_X7_54 C (dx dX7_harms 11 rfl) ?_
          refine r_iload C (dx dX7_harms 12 rfl) rfl ?_
          refine r_aald4 (j := p) C rfl rfl (by decide) rfl (by omega) (dx dX7_harms 13 rfl) ?_
          refine r_iconst (v := nI 2) C (dx dX7_harms 14 rfl) rfl ?_
          refine r_iald (j := 2) (x := vF v 6 p) C rfl rfl (by decide) rfl (by omega) (dx dX7_harms 15 rfl) (mg9p.eo (by omega) (by omega)) ?_
          refine r_if_ne (tgt := 72) C (dx dX7_harms 16 rfl) (by decide) (fun c8 => ?_) (fun c8 => ?_)
          ·
            have c8 : ¬ vF v 6 p = 0 := c8
            refine rn_iinc (a := p) (k := 1) (ls' := [(0, vr 7 k), (1, vi ((haR v p).1)), (2, vl ((haR v p).2)), (4, vi (nI (p + 1)))]) C (dx dX7_harms 45 rfl) rfl rfl (by decide) [1, 2, 3, 0] rfl ?_
            refine r_goto (tgt := 7) C (dx dX7_harms 46 rfl) (by decide) ?_
            have ep1 : ((haR v p).1) = ((haR v (p + 1)).1) := by (simp only [haR]; rw [if_neg (fun z => c8 z.1)])
            rw [ep1]
            have ep2 : ((haR v p).2) = ((haR v (p + 1)).2) := by (simp only [haR]; rw [if_neg (fun z => c8 z.1)])
            rw [ep2]
            have fp : (v) = (v) := by rfl
            exact ihp g9p (fp ▸ mg9p) pg9p kg9p
          ·
            have c8 : vF v 6 p = 0 := c8
            refine r_aload_n C (dx dX7_harms 17 rfl) rfl ?_
            refine g_X7_54 C (dx dX7_harms 18 rfl) ?_
            refine r_iload C (dx dX7_harms 19 rfl) rfl ?_
            refine r_aald4 (j := p) C rfl rfl (by decide) rfl (by omega) (dx dX7_harms 20 rfl) ?_
            refine r_iconst (v := nI 2) C (dx dX7_harms 21 rfl) rfl ?_
            refine r_iconst (v := nI 1) C (dx dX7_harms 22 rfl) rfl ?_
            refine r_iast (j := 2) C rfl rfl (by decide) rfl (by omega) (dx dX7_harms 23 rfl) ?_
            have mh9 : MilAt (sI g9p (k + 23 + p) 2 (nI 1)) k (vset v 6 p (nI 1)) := mg9p.so (by omega) (by omega)
            have ph9 : Kp k h (sI g9p (k + 23 + p) 2 (nI 1)) := pg9p.tr (Kp.c (by omega) (by omega))
            have kh9 : xK (sI g9p (k + 23 + p) 2 (nI 1)) = xK h := kg9p
            generalize sI g9p (k + 23 + p) 2 (nI 1) = h9 at mh9 ph9 kh9 ⊢
            refine r_aload_n C (dx dX7_harms 24 rfl) rfl ?_
            refine r_cvP (as := []) (st := []) (v := vl (dyR (vset v 6 p (nI 1)))) C X I_X7_day l_X7_295 (e_day mh9) (by decide) (Nat.le_of_ble_eq_true rfl) (pfx_eq kh9) rfl rfl (Nat.le_of_ble_eq_true rfl) rfl (dx dX7_harms 25 rfl) ?_
            refine r_lstore (ls' := [(0, vr 7 k), (1, vi ((haR v p).1)), (2, vl ((haR v p).2)), (4, vi (nI p)), (5, vl (dyR (vset v 6 p (nI 1))))]) C (dx dX7_harms 26 rfl) (by decide) [1, 2, 3, 4, 0] rfl ?_
            refine r_aload_n C (dx dX7_harms 27 rfl) rfl ?_
            refine g_X7_54 C (dx dX7_harms 28 rfl) ?_
            refine r_iload C (dx dX7_harms 29 rfl) rfl ?_
            refine r_aald4 (j := p) C rfl rfl (by decide) rfl (by omega) (dx dX7_harms 30 rfl) ?_
            refine r_iconst (v := nI 2) C (dx dX7_harms 31 rfl) rfl ?_
            refine r_iconst (v := nI 0) C (dx dX7_harms 32 rfl) rfl ?_
            refine r_iast (j := 2) C rfl rfl (by decide) rfl (by omega) (dx dX7_harms 33 rfl) ?_
            have mh10 : MilAt (sI h9 (k + 23 + p) 2 (nI 0)) k (vset (vset v 6 p (nI 1)) 6 p (nI 0)) := mh9.so (by omega) (by omega)
            have ph10 : Kp k h (sI h9 (k + 23 + p) 2 (nI 0)) := ph9.tr (Kp.c (by omega) (by omega))
            have kh10 : xK (sI h9 (k + 23 + p) 2 (nI 0)) = xK h := kh9
            generalize sI h9 (k + 23 + p) 2 (nI 0) = h10 at mh10 ph10 kh10 ⊢
            refine r_iload_n C (dx dX7_harms 34 rfl) rfl ?_
            refine r_iconst (v := -1) C (dx dX7_harms 35 rfl) rfl ?_
            refine r_icmp_eq (tgt := 66) C (dx dX7_harms 36 rfl) (by decide) (fun c11 => ?_) (fun c11 => ?_)
            ·
              have c11 : (haR v p).1 = -1 := c11
              refine r_iload C (dx dX7_harms 41 rfl) rfl ?_
              refine r_istore_n (ls' := [(0, vr 7 k), (1, vi (nI p)), (2, vl ((haR v p).2)), (4, vi (nI p)), (5, vl (dyR (vset v 6 p (nI 1))))]) C (dx dX7_harms 42 rfl) (by decide) [1, 0, 2, 3, 4] rfl ?_
              refine r_lload C (dx dX7_harms 43 rfl) rfl ?_
              refine r_lstore_n (ls' := [(0, vr 7 k), (1, vi (nI p)), (2, vl (dyR (vset v 6 p (nI 1)))), (4, vi (nI p)), (5, vl (dyR (vset v 6 p (nI 1))))]) C (dx dX7_harms 44 rfl) (by decide) [1, 2, 0, 3, 4] rfl ?_
              refine rn_iinc (a := p) (k := 1) (ls' := [(0, vr 7 k), (1, vi (nI p)), (2, vl (dyR (vset v 6 p (nI 1)))), (4, vi (nI (p + 1))), (5, vl (dyR (vset v 6 p (nI 1))))]) C (dx dX7_harms 45 rfl) rfl rfl (by decide) [1, 2, 3, 0, 4] rfl ?_
              refine r_goto (tgt := 7) C (dx dX7_harms 46 rfl) (by decide) ?_
              have ep1 : (nI p) = ((haR v (p + 1)).1) := by (simp only [haR]; rw [if_pos ⟨c8, Or.inl c11⟩])
              rw [ep1]
              have ep2 : (dyR (vset v 6 p (nI 1))) = ((haR v (p + 1)).2) := by (simp only [haR]; rw [if_pos ⟨c8, Or.inl c11⟩])
              rw [ep2]
              refine r_weak C [0, 1, 2, 3] rfl ?_
              have fp : (vset (vset v 6 p (nI 1)) 6 p (nI 0)) = (v) := by (rw [vset_two, show nI 0 = vF v 6 p from c8.symm, vset_same])
              exact ihp h10 (fp ▸ mh10) ph10 kh10
            ·
              have c11 : ¬ (haR v p).1 = -1 := c11
              refine r_lload C (dx dX7_harms 37 rfl) rfl ?_
              refine r_lload_n C (dx dX7_harms 38 rfl) rfl ?_
              refine r_lcmp C (dx dX7_harms 39 rfl) ?_
              refine r_if_ge (tgt := 72) C (dx dX7_harms 40 rfl) (by decide) (fun c12 => ?_) (fun c12 => ?_)
              ·
                have c12 : (haR v p).2 ≤ dyR (vset v 6 p (nI 1)) := (lg_cmp_ge _ _).mp c12
                refine rn_iinc (a := p) (k := 1) (ls' := [(0, vr 7 k), (1, vi ((haR v p).1)), (2, vl ((haR v p).2)), (4, vi (nI (p + 1))), (5, vl (dyR (vset v 6 p (nI 1))))]) C (dx dX7_harms 45 rfl) rfl rfl (by decide) [1, 2, 3, 0, 4] rfl ?_
                refine r_goto (tgt := 7) C (dx dX7_harms 46 rfl) (by decide) ?_
                have ep1 : ((haR v p).1) = ((haR v (p + 1)).1) := by (simp only [haR]; rw [if_neg (fun z => z.2.elim c11 (fun y => y c12))])
                rw [ep1]
                have ep2 : ((haR v p).2) = ((haR v (p + 1)).2) := by (simp only [haR]; rw [if_neg (fun z => z.2.elim c11 (fun y => y c12))])
                rw [ep2]
                refine r_weak C [0, 1, 2, 3] rfl ?_
                have fp : (vset (vset v 6 p (nI 1)) 6 p (nI 0)) = (v) := by (rw [vset_two, show nI 0 = vF v 6 p from c8.symm, vset_same])
                exact ihp h10 (fp ▸ mh10) ph10 kh10
              ·
                have c12 : ¬ ((haR v p).2 ≤ dyR (vset v 6 p (nI 1))) := fun q => c12 ((lg_cmp_ge _ _).mpr q)
                refine r_iload C (dx dX7_harms 41 rfl) rfl ?_
                refine r_istore_n (ls' := [(0, vr 7 k), (1, vi (nI p)), (2, vl ((haR v p).2)), (4, vi (nI p)), (5, vl (dyR (vset v 6 p (nI 1))))]) C (dx dX7_harms 42 rfl) (by decide) [1, 0, 2, 3, 4] rfl ?_
                refine r_lload C (dx dX7_harms 43 rfl) rfl ?_
                refine r_lstore_n (ls' := [(0, vr 7 k), (1, vi (nI p)), (2, vl (dyR (vset v 6 p (nI 1)))), (4, vi (nI p)), (5, vl (dyR (vset v 6 p (nI 1))))]) C (dx dX7_harms 44 rfl) (by decide) [1, 2, 0, 3, 4] rfl ?_
                refine rn_iinc (a := p) (k := 1) (ls' := [(0, vr 7 k), (1, vi (nI p)), (2, vl (dyR (vset v 6 p (nI 1)))), (4, vi (nI (p + 1))), (5, vl (dyR (vset v 6 p (nI 1))))]) C (dx dX7_harms 45 rfl) rfl rfl (by decide) [1, 2, 3, 0, 4] rfl ?_
                refine r_goto (tgt := 7) C (dx dX7_harms 46 rfl) (by decide) ?_
                have ep1 : (nI p) = ((haR v (p + 1)).1) := by (simp only [haR]; rw [if_pos ⟨c8, Or.inr c12⟩])
                rw [ep1]
                have ep2 : (dyR (vset v 6 p (nI 1))) = ((haR v (p + 1)).2) := by (simp only [haR]; rw [if_pos ⟨c8, Or.inr c12⟩])
                rw [ep2]
                refine r_weak C [0, 1, 2, 3] rfl ?_
                have fp : (vset (vset v 6 p (nI 1)) 6 p (nI 0)) = (v) := by (rw [vset_two, show nI 0 = vF v 6 p from c8.symm, vset_same])
                exact ihp h10 (fp ▸ mh10) ph10 kh10)
set_option maxHeartbeats 4000000 in
theorem e_spare {l : Launch} {h : Hp} {k : Nat} {v : Vg} (hm : MilAt h k v)  : Ms l yX7_spare cX7_spare 8 (some .int) 8 [vr 7 k] h (xK h) (fun r h' => r = some (vi (spaR v)) ∧ MilAt h' k v ∧ Kp k h h') := by
  refine Ms.of (by decide) (Nat.le_of_ble_eq_true rfl) (fun G C X F => ?_)
  have C : Cx G cX7_spare 8 RX7 := C
  show Rr G 0 [(0, vr 7 k)] [] h
  have bP := hm.bP
  have bM := hm.bM
  have bN := hm.bN
  refine r_iconst (v := -1) C (dx dX7_spare 0 rfl) rfl ?_
  refine r_istore_n (ls' := [(0, vr 7 k), (1, vi (-1))]) C (dx dX7_spare 1 rfl) (by decide) [1, 0] rfl ?_
  refine r_aload_n C (dx dX7_spare 2 rfl) rfl ?_
  refine r_cvP (as := []) (st := []) (v := vl (dyR v)) C X I_X7_day l_X7_295 (e_day hm) (by decide) (Nat.le_of_ble_eq_true rfl) List.prefix_rfl rfl rfl (Nat.le_of_ble_eq_true rfl) rfl (dx dX7_spare 3 rfl) ?_
  refine r_lstore_n (ls' := [(0, vr 7 k), (1, vi (-1)), (2, vl (dyR v))]) C (dx dX7_spare 4 rfl) (by decide) [1, 2, 0] rfl ?_
  refine r_iconst (v := nI 0) C (dx dX7_spare 5 rfl) rfl ?_
  refine r_istore (ls' := [(0, vr 7 k), (1, vi (-1)), (2, vl (dyR v)), (4, vi (nI 0))]) C (dx dX7_spare 6 rfl) (by decide) [1, 2, 3, 0] rfl ?_
  refine loopU (Φ := fun p => ∀ g9p, MilAt g9p k (v) → Kp k h g9p → xK g9p = xK h → Rr G 10 [(0, vr 7 k), (1, vi ((spO v p).1)), (2, vl ((spO v p).2)), (4, vi (nI p))] [] g9p) (N := vP v) ?_ ?_ 0 (Nat.zero_le _) h hm Kp.rf rfl
  ·
    intro g9p mg9p pg9p kg9p
    refine r_iload C (dx dX7_spare 7 rfl) rfl ?_
    refine r_aload_n C (dx dX7_spare 8 rfl) rfl ?_
    refine g_X7_64 (x := nI (vP v)) C (dx dX7_spare 9 rfl) mg9p.eP ?_
    refine rn_ge (a := vP v) (b := vP v) (tgt := 117) C (by omega) (by omega) (dx dX7_spare 10 rfl) (by decide) (fun c1 => ?_) (fun c1 => ?_)
    · first
      | (omega; done)
      | (
          have c1 : vP v ≤ vP v := c1
          refine r_iload_n C (dx dX7_spare 62 rfl) rfl ?_
          have eA : spaR v = (spO v (vP v)).1 := by rfl
          exact F.1 _ _ _ _ .int rfl rfl (dx dX7_spare 63 rfl) kg9p ⟨by (rw [eA]; first | done | rfl), by exact mg9p, pg9p⟩)
    · first
      | (omega; done)
      | (
          have c1 : vP v < vP v := c1
          refine r_iconst (v := nI 0) C (dx dX7_spare 11 rfl) rfl ?_
          refine r_istore (ls' := [(0, vr 7 k), (1, vi ((spO v (vP v)).1)), (2, vl ((spO v (vP v)).2)), (4, vi (nI (vP v))), (5, vi (nI 0))]) C (dx dX7_spare 12 rfl) (by decide) [1, 2, 3, 4, 0] rfl ?_
          refine loopU (Φ := fun q => ∀ g9q, MilAt g9q k (v) → Kp k h g9q → xK g9q = xK h → Rr G 22 [(0, vr 7 k), (1, vi ((spI v (spO v p) p q).1)), (2, vl ((spI v (spO v p) p q).2)), (4, vi (nI (vP v))), (5, vi (nI q))] [] g9q) (N := vN v) ?_ ?_ 0 (Nat.zero_le _) g9p mg9p pg9p kg9p
          ·
            intro g9q mg9q pg9q kg9q
            refine r_iload C (dx dX7_spare 13 rfl) rfl ?_
            refine r_aload_n C (dx dX7_spare 14 rfl) rfl ?_
            refine g_X7_74 (x := nI (vN v)) C (dx dX7_spare 15 rfl) mg9q.eN ?_
            refine rn_ge (a := vN v) (b := vN v) (tgt := 111) C (by omega) (by omega) (dx dX7_spare 16 rfl) (by decide) (fun c2 => ?_) (fun c2 => ?_)
            · first
              | (omega; done)
            · first
              | (omega; done)
          ·
            intro q hq ihq g9q mg9q pg9q kg9q
            refine r_iload C (dx dX7_spare 13 rfl) rfl ?_
            refine r_aload_n C (dx dX7_spare 14 rfl) rfl ?_
            refine g_X7_74 (x := nI (vN v)) C (dx dX7_spare 15 rfl) mg9q.eN ?_
            refine rn_ge (a := q) (b := vN v) (tgt := 111) C (by omega) (by omega) (dx dX7_spare 16 rfl) (by decide) (fun c4 => ?_) (fun c4 => ?_)
            · first
              | (omega; done)
            · first
              | (omega; done))
  ·
    intro p hp ihp g9p mg9p pg9p kg9p
    refine r_iload C (dx dX7_spare 7 rfl) rfl ?_
    refine r_aload_n C (dx dX7_spare 8 rfl) rfl ?_
    refine g_X7_64 (x := nI (vP v)) C (dx dX7_spare 9 rfl) mg9p.eP ?_
    refine rn_ge (a := p) (b := vP v) (tgt := 117) C (by omega) (by omega) (dx dX7_spare 10 rfl) (by decide) (fun c6 => ?_) (fun c6 => ?_)
    · first
      | (omega; done)
      | (
          have c6 : vP v ≤ p := c6
          refine r_iload_n C (dx dX7_spare 62 rfl) rfl ?_
          have eA : spaR v = (spO v p).1 := by rfl
          exact F.1 _ _ _ _ .int rfl rfl (dx dX7_spare 63 rfl) kg9p ⟨by (rw [eA]; first | done | rfl), by exact mg9p, pg9p⟩)
    · first
      | (omega; done)
      | (
          have c6 : p < vP v := c6
          refine r_iconst (v := nI 0) C (dx dX7_spare 11 rfl) rfl ?_
          refine r_istore (ls' := [(0, vr 7 k), (1, vi ((spO v p).1)), (2, vl ((spO v p).2)), (4, vi (nI p)), (5, vi (nI 0))]) C (dx dX7_spare 12 rfl) (by decide) [1, 2, 3, 4, 0] rfl ?_
          refine loopU (Φ := fun q => ∀ g9q, MilAt g9q k (v) → Kp k h g9q → xK g9q = xK h → Rr G 22 [(0, vr 7 k), (1, vi ((spI v (spO v p) p q).1)), (2, vl ((spI v (spO v p) p q).2)), (4, vi (nI p)), (5, vi (nI q))] [] g9q) (N := vN v) ?_ ?_ 0 (Nat.zero_le _) g9p mg9p pg9p kg9p
          ·
            intro g9q mg9q pg9q kg9q
            refine r_iload C (dx dX7_spare 13 rfl) rfl ?_
            refine r_aload_n C (dx dX7_spare 14 rfl) rfl ?_
            refine g_X7_74 (x := nI (vN v)) C (dx dX7_spare 15 rfl) mg9q.eN ?_
            refine rn_ge (a := vN v) (b := vN v) (tgt := 111) C (by omega) (by omega) (dx dX7_spare 16 rfl) (by decide) (fun c7 => ?_) (fun c7 => ?_)
            · first
              | (omega; done)
              | (
                  have c7 : vN v ≤ vN v := c7
                  refine rn_iinc (a := p) (k := 1) (ls' := [(0, vr 7 k), (1, vi ((spI v (spO v p) p (vN v)).1)), (2, vl ((spI v (spO v p) p (vN v)).2)), (4, vi (nI (p + 1))), (5, vi (nI (vN v)))]) C (dx dX7_spare 60 rfl) rfl rfl (by decide) [1, 2, 3, 0, 4] rfl ?_
                  refine r_goto (tgt := 10) C (dx dX7_spare 61 rfl) (by decide) ?_
                  have ep1 : ((spI v (spO v p) p (vN v)).1) = ((spO v (p + 1)).1) := by rfl
                  rw [ep1]
                  have ep2 : ((spI v (spO v p) p (vN v)).2) = ((spO v (p + 1)).2) := by rfl
                  rw [ep2]
                  refine r_weak C [0, 1, 2, 3] rfl ?_
                  have fp : (v) = (v) := by rfl
                  exact ihp g9q (fp ▸ mg9q) pg9q kg9q)
            · first
              | (omega; done)
          ·
            intro q hq ihq g9q mg9q pg9q kg9q
            refine r_iload C (dx dX7_spare 13 rfl) rfl ?_
            refine r_aload_n C (dx dX7_spare 14 rfl) rfl ?_
            refine g_X7_74 (x := nI (vN v)) C (dx dX7_spare 15 rfl) mg9q.eN ?_
            refine rn_ge (a := q) (b := vN v) (tgt := 111) C (by omega) (by omega) (dx dX7_spare 16 rfl) (by decide) (fun c10 => ?_) (fun c10 => ?_)
            · first
              | (omega; done)
              | (
                  have c10 : vN v ≤ q := c10
                  refine rn_iinc (a := p) (k := 1) (ls' := [(0, vr 7 k), (1, vi ((spI v (spO v p) p q).1)), (2, vl ((spI v (spO v p) p q).2)), (4, vi (nI (p + 1))), (5, vi (nI q))]) C (dx dX7_spare 60 rfl) rfl rfl (by decide) [1, 2, 3, 0, 4] rfl ?_
                  refine r_goto (tgt := 10) C (dx dX7_spare 61 rfl) (by decide) ?_
                  have ep1 : ((spI v (spO v p) p q).1) = ((spO v (p + 1)).1) := by rfl
                  rw [ep1]
                  have ep2 : ((spI v (spO v p) p q).2) = ((spO v (p + 1)).2) := by rfl
                  rw [ep2]
                  refine r_weak C [0, 1, 2, 3] rfl ?_
                  have fp : (v) = (v) := by rfl
                  exact ihp g9q (fp ▸ mg9q) pg9q kg9q)
            · first
              | (omega; done)
              | (
                  have c10 : q < vN v := c10
                  refine r_aload_n C (dx dX7_spare 17 rfl) rfl ?_
                  refine g_X7_43 C (dx dX7_spare 18 rfl) ?_
                  refine r_iload C (dx dX7_spare 19 rfl) rfl ?_
                  refine r_iald (j := p) (x := vF v 1 p) C rfl rfl (by decide) rfl (by omega) (dx dX7_spare 20 rfl) (mg9q.e1 (by omega)) ?_
                  refine r_iconst (v := -1) C (dx dX7_spare 21 rfl) rfl ?_
                  refine r_icmp_ne (tgt := 111) C (dx dX7_spare 22 rfl) (by decide) (fun c11 => ?_) (fun c11 => ?_)
                  ·
                    have c11 : ¬ vF v 1 p = -1 := c11
                    refine rn_iinc (a := p) (k := 1) (ls' := [(0, vr 7 k), (1, vi ((spI v (spO v p) p q).1)), (2, vl ((spI v (spO v p) p q).2)), (4, vi (nI (p + 1))), (5, vi (nI q))]) C (dx dX7_spare 60 rfl) rfl rfl (by decide) [1, 2, 3, 0, 4] rfl ?_
                    refine r_goto (tgt := 10) C (dx dX7_spare 61 rfl) (by decide) ?_
                    have ep1 : ((spI v (spO v p) p q).1) = ((spO v (p + 1)).1) := by (simp only [spO]; rw [spI_no c11, spI_no c11])
                    rw [ep1]
                    have ep2 : ((spI v (spO v p) p q).2) = ((spO v (p + 1)).2) := by (simp only [spO]; rw [spI_no c11, spI_no c11])
                    rw [ep2]
                    refine r_weak C [0, 1, 2, 3] rfl ?_
                    have fp : (v) = (v) := by rfl
                    exact ihp g9q (fp ▸ mg9q) pg9q kg9q
                  ·
                    have c11 : vF v 1 p = -1 := c11
                    refine r_iload C (dx dX7_spare 23 rfl) rfl ?_
                    refine r_aload_n C (dx dX7_spare 24 rfl) rfl ?_
                    refine g_X7_40 C (dx dX7_spare 25 rfl) ?_
                    refine r_iload C (dx dX7_spare 26 rfl) rfl ?_
                    refine r_iald (j := p) (x := vF v 0 p) C rfl rfl (by decide) rfl (by omega) (dx dX7_spare 27 rfl) (mg9q.e0 (by omega)) ?_
                    refine r_icmp_eq (tgt := 105) C (dx dX7_spare 28 rfl) (by decide) (fun c12 => ?_) (fun c12 => ?_)
                    ·
                      have c12 : nI q = vF v 0 p := c12
                      refine rn_iinc (a := q) (k := 1) (ls' := [(0, vr 7 k), (1, vi ((spI v (spO v p) p q).1)), (2, vl ((spI v (spO v p) p q).2)), (4, vi (nI p)), (5, vi (nI (q + 1)))]) C (dx dX7_spare 58 rfl) rfl rfl (by decide) [1, 2, 3, 4, 0] rfl ?_
                      refine r_goto (tgt := 22) C (dx dX7_spare 59 rfl) (by decide) ?_
                      have eq1 : ((spI v (spO v p) p q).1) = ((spI v (spO v p) p (q + 1)).1) := by (simp only [spI]; rw [if_neg (fun z => z.2.1 c12)])
                      rw [eq1]
                      have eq2 : ((spI v (spO v p) p q).2) = ((spI v (spO v p) p (q + 1)).2) := by (simp only [spI]; rw [if_neg (fun z => z.2.1 c12)])
                      rw [eq2]
                      have fq : (v) = (v) := by rfl
                      exact ihq g9q (fq ▸ mg9q) pg9q kg9q
                    ·
                      have c12 : ¬ nI q = vF v 0 p := c12
                      refine r_aload_n C (dx dX7_spare 29 rfl) rfl ?_
                      refine r_iload C (dx dX7_spare 30 rfl) rfl ?_
                      refine r_cvP (as := [vi (nI q)]) (st := []) (v := vi (b2i (hasRm v (nI q)))) C X I_X7_hasRoom l_X7_135 (e_hasRoom mg9q (j := q) (by omega)) (by decide) (Nat.le_of_ble_eq_true rfl) (pfx_eq kg9q) rfl rfl (Nat.le_of_ble_eq_true rfl) rfl (dx dX7_spare 31 rfl) ?_
                      refine rb_eq (b := hasRm v (nI q)) (tgt := 105) C (dx dX7_spare 32 rfl) (by decide) (fun c13 => ?_) (fun c13 => ?_)
                      ·
                        have c13 : (hasRm v (nI q)) = false := c13
                        refine rn_iinc (a := q) (k := 1) (ls' := [(0, vr 7 k), (1, vi ((spI v (spO v p) p q).1)), (2, vl ((spI v (spO v p) p q).2)), (4, vi (nI p)), (5, vi (nI (q + 1)))]) C (dx dX7_spare 58 rfl) rfl rfl (by decide) [1, 2, 3, 4, 0] rfl ?_
                        refine r_goto (tgt := 22) C (dx dX7_spare 59 rfl) (by decide) ?_
                        have eq1 : ((spI v (spO v p) p q).1) = ((spI v (spO v p) p (q + 1)).1) := by (simp only [spI]; rw [if_neg (fun z => by have z1 := z.2.2.1; rw [c13] at z1; exact absurd z1 (by decide))])
                        rw [eq1]
                        have eq2 : ((spI v (spO v p) p q).2) = ((spI v (spO v p) p (q + 1)).2) := by (simp only [spI]; rw [if_neg (fun z => by have z1 := z.2.2.1; rw [c13] at z1; exact absurd z1 (by decide))])
                        rw [eq2]
                        have fq : (v) = (v) := by rfl
                        exact ihq g9q (fq ▸ mg9q) pg9q kg9q
                      ·
                        have c13 : (hasRm v (nI q)) = true := c13
                        refine r_aload_n C (dx dX7_spare 33 rfl) rfl ?_
                        refine g_X7_43 C (dx dX7_spare 34 rfl) ?_
                        refine r_iload C (dx dX7_spare 35 rfl) rfl ?_
                        refine r_iload C (dx dX7_spare 36 rfl) rfl ?_
                        refine r_iast (j := p) C rfl rfl (by decide) rfl (by omega) (dx dX7_spare 37 rfl) ?_
                        have mh14 : MilAt (sI g9q (k + 19) p (nI q)) k (vset v 1 p (nI q)) := mg9q.s1
                        have ph14 : Kp k h (sI g9q (k + 19) p (nI q)) := pg9q.tr (Kp.c (by omega) (by omega))
                        have kh14 : xK (sI g9q (k + 19) p (nI q)) = xK h := kg9q
                        generalize sI g9q (k + 19) p (nI q) = h14 at mh14 ph14 kh14 ⊢
                        refine r_aload_n C (dx dX7_spare 38 rfl) rfl ?_
                        refine r_cvP (as := []) (st := []) (v := vl (dyR (vset v 1 p (nI q)))) C X I_X7_day l_X7_295 (e_day mh14) (by decide) (Nat.le_of_ble_eq_true rfl) (pfx_eq kh14) rfl rfl (Nat.le_of_ble_eq_true rfl) rfl (dx dX7_spare 39 rfl) ?_
                        refine r_lstore (ls' := [(0, vr 7 k), (1, vi ((spI v (spO v p) p q).1)), (2, vl ((spI v (spO v p) p q).2)), (4, vi (nI p)), (5, vi (nI q)), (6, vl (dyR (vset v 1 p (nI q))))]) C (dx dX7_spare 40 rfl) (by decide) [1, 2, 3, 4, 5, 0] rfl ?_
                        refine r_aload_n C (dx dX7_spare 41 rfl) rfl ?_
                        refine g_X7_43 C (dx dX7_spare 42 rfl) ?_
                        refine r_iload C (dx dX7_spare 43 rfl) rfl ?_
                        refine r_iconst (v := -1) C (dx dX7_spare 44 rfl) rfl ?_
                        refine r_iast (j := p) C rfl rfl (by decide) rfl (by omega) (dx dX7_spare 45 rfl) ?_
                        have mh15 : MilAt (sI h14 (k + 19) p (-1)) k (vset (vset v 1 p (nI q)) 1 p (-1)) := mh14.s1
                        have ph15 : Kp k h (sI h14 (k + 19) p (-1)) := ph14.tr (Kp.c (by omega) (by omega))
                        have kh15 : xK (sI h14 (k + 19) p (-1)) = xK h := kh14
                        generalize sI h14 (k + 19) p (-1) = h15 at mh15 ph15 kh15 ⊢
                        refine r_lload C (dx dX7_spare 46 rfl) rfl ?_
                        refine r_lload_n C (dx dX7_spare 47 rfl) rfl ?_
                        refine r_lcmp C (dx dX7_spare 48 rfl) ?_
                        refine r_if_le (tgt := 105) C (dx dX7_spare 49 rfl) (by decide) (fun c16 => ?_) (fun c16 => ?_)
                        ·
                          have c16 : dyR (vset v 1 p (nI q)) ≤ (spI v (spO v p) p q).2 := (lg_cmp_le _ _).mp c16
                          refine rn_iinc (a := q) (k := 1) (ls' := [(0, vr 7 k), (1, vi ((spI v (spO v p) p q).1)), (2, vl ((spI v (spO v p) p q).2)), (4, vi (nI p)), (5, vi (nI (q + 1))), (6, vl (dyR (vset v 1 p (nI q))))]) C (dx dX7_spare 58 rfl) rfl rfl (by decide) [1, 2, 3, 4, 0, 5] rfl ?_
                          refine r_goto (tgt := 22) C (dx dX7_spare 59 rfl) (by decide) ?_
                          have eq1 : ((spI v (spO v p) p q).1) = ((spI v (spO v p) p (q + 1)).1) := by (simp only [spI]; rw [if_neg (fun z => z.2.2.2 c16)])
                          rw [eq1]
                          have eq2 : ((spI v (spO v p) p q).2) = ((spI v (spO v p) p (q + 1)).2) := by (simp only [spI]; rw [if_neg (fun z => z.2.2.2 c16)])
                          rw [eq2]
                          refine r_weak C [0, 1, 2, 3, 4] rfl ?_
                          have fq : (vset (vset v 1 p (nI q)) 1 p (-1)) = (v) := by (rw [vset_two, show (-1 : Int32) = vF v 1 p from c11.symm, vset_same])
                          exact ihq h15 (fq ▸ mh15) ph15 kh15
                        ·
                          have c16 : ¬ (dyR (vset v 1 p (nI q)) ≤ (spI v (spO v p) p q).2) := fun q => c16 ((lg_cmp_le _ _).mpr q)
                          refine r_bipush (v := nI 10) C (dx dX7_spare 50 rfl) rfl ?_
                          refine r_iload C (dx dX7_spare 51 rfl) rfl ?_
                          refine rn_imul (a := 10) (b := p) C (dx dX7_spare 52 rfl) ?_
                          refine r_iload C (dx dX7_spare 53 rfl) rfl ?_
                          refine rn_iadd (a := 10 * p) (b := q) C (dx dX7_spare 54 rfl) ?_
                          refine r_istore_n (ls' := [(0, vr 7 k), (1, vi (nI (10 * p + q))), (2, vl ((spI v (spO v p) p q).2)), (4, vi (nI p)), (5, vi (nI q)), (6, vl (dyR (vset v 1 p (nI q))))]) C (dx dX7_spare 55 rfl) (by decide) [1, 0, 2, 3, 4, 5] rfl ?_
                          refine r_lload C (dx dX7_spare 56 rfl) rfl ?_
                          refine r_lstore_n (ls' := [(0, vr 7 k), (1, vi (nI (10 * p + q))), (2, vl (dyR (vset v 1 p (nI q)))), (4, vi (nI p)), (5, vi (nI q)), (6, vl (dyR (vset v 1 p (nI q))))]) C (dx dX7_spare 57 rfl) (by decide) [1, 2, 0, 3, 4, 5] rfl ?_
                          refine rn_iinc (a := q) (k := 1) (ls' := [(0, vr 7 k), (1, vi (nI (10 * p + q))), (2, vl (dyR (vset v 1 p (nI q)))), (4, vi (nI p)), (5, vi (nI (q + 1))), (6, vl (dyR (vset v 1 p (nI q))))]) C (dx dX7_spare 58 rfl) rfl rfl (by decide) [1, 2, 3, 4, 0, 5] rfl ?_
                          refine r_goto (tgt := 22) C (dx dX7_spare 59 rfl) (by decide) ?_
                          have eq1 : (nI (10 * p + q)) = ((spI v (spO v p) p (q + 1)).1) := by (simp only [spI]; rw [if_pos ⟨c11, c12, c13, c16⟩])
                          rw [eq1]
                          have eq2 : (dyR (vset v 1 p (nI q))) = ((spI v (spO v p) p (q + 1)).2) := by (simp only [spI]; rw [if_pos ⟨c11, c12, c13, c16⟩])
                          rw [eq2]
                          refine r_weak C [0, 1, 2, 3, 4] rfl ?_
                          have fq : (vset (vset v 1 p (nI q)) 1 p (-1)) = (v) := by (rw [vset_two, show (-1 : Int32) = vF v 1 p from c11.symm, vset_same])
                          exact ihq h15 (fq ▸ mh15) ph15 kh15))
set_option maxHeartbeats 4000000 in
theorem e_gift {l : Launch} {h : Hp} {k : Nat} {v : Vg} (hm : MilAt h k v) (p o1 : Int32) : Ms l yX7_gift cX7_gift 8 (some .long) 8 [vr 7 k, vi p, vi o1] h (xK h) (fun r h' => r = some (vl (gifR v p o1)) ∧ MilAt h' k v ∧ Kp k h h') := by
  refine Ms.of (by decide) (Nat.le_of_ble_eq_true rfl) (fun G C X F => ?_)
  have C : Cx G cX7_gift 8 RX7 := C
  show Rr G 0 [(0, vr 7 k), (1, vi p), (2, vi o1)] [] h
  have bP := hm.bP
  have bM := hm.bM
  have bN := hm.bN
  refine r_aload_n C (dx dX7_gift 0 rfl) rfl ?_
  refine r_iload_n C (dx dX7_gift 1 rfl) rfl ?_
  refine r_cvP (as := [vi p]) (st := []) (v := vi (b2i (inR p (vP v)))) C X I_X7_isPart l_X7_132 (c_X7_isPart hm _) (by decide) (Nat.le_of_ble_eq_true rfl) List.prefix_rfl rfl rfl (Nat.le_of_ble_eq_true rfl) rfl (dx dX7_gift 2 rfl) ?_
  refine rb_eq (b := inR p (vP v)) (tgt := 16) C (dx dX7_gift 3 rfl) (by decide) (fun c1 => ?_) (fun c1 => ?_)
  ·
    have c1 : (inR p (vP v)) = false := c1
    refine r_aload_n C (dx dX7_gift 8 rfl) rfl ?_
    refine r_bipush (v := -2) C (dx dX7_gift 9 rfl) rfl ?_
    refine r_cv (as := [vi (-2)]) (st := []) C X I_X7_refuse l_X7_83 (e_refuse hm (x := -2) (j := 2) (by decide) (by decide)) (by decide) (Nat.le_of_ble_eq_true rfl) List.prefix_rfl List.prefix_rfl rfl rfl (Nat.le_of_ble_eq_true rfl) rfl (dx dX7_gift 10 rfl) ?_
    rintro _ h2 ⟨rfl, m9h2, qh2⟩ kkh2
    have mh2 : MilAt h2 k v := m9h2
    have ph2 : Kp k h h2 := qh2
    have kh2 : xK h2 = xK h := kkh2
    refine r_i2l C (dx dX7_gift 11 rfl) ?_
    refine r_ldc2 C n_X7_320 (dx dX7_gift 12 rfl) ?_
    refine r_lsub C (dx dX7_gift 13 rfl) ?_
    have eA : gifR v p o1 = ((-2).toInt64) - 1000000000000 := by (first | (simp [gifR, c1]; done) | (simp [gifR, c1] <;> decide) | (simp [gifR, c1] <;> rfl))
    exact F.2.1 _ _ _ _ rfl (dx dX7_gift 14 rfl) kh2 ⟨by (rw [eA]; first | done | rfl), by exact mh2, ph2⟩
  ·
    have c1 : (inR p (vP v)) = true := c1
    obtain ⟨π, hπ, rfl⟩ := inR_ex (n := (vP v)) (by omega) c1
    refine r_aload_n C (dx dX7_gift 4 rfl) rfl ?_
    refine r_iload_n C (dx dX7_gift 5 rfl) rfl ?_
    refine r_cvP (as := [vi o1]) (st := []) (v := vi (b2i (inR o1 (vN v)))) C X I_X7_isOne l_X7_125 (c_X7_isOne hm _) (by decide) (Nat.le_of_ble_eq_true rfl) List.prefix_rfl rfl rfl (Nat.le_of_ble_eq_true rfl) rfl (dx dX7_gift 6 rfl) ?_
    refine rb_ne (b := inR o1 (vN v)) (tgt := 28) C (dx dX7_gift 7 rfl) (by decide) (fun c3 => ?_) (fun c3 => ?_)
    ·
      have c3 : (inR o1 (vN v)) = true := c3
      obtain ⟨o19, ho19, rfl⟩ := inR_ex (n := (vN v)) (by omega) c3
      refine r_aload_n C (dx dX7_gift 15 rfl) rfl ?_
      refine g_X7_40 C (dx dX7_gift 16 rfl) ?_
      refine r_iload_n C (dx dX7_gift 17 rfl) rfl ?_
      refine r_iald (j := π) (x := vF v 0 π) C rfl rfl (by decide) rfl (by omega) (dx dX7_gift 18 rfl) (hm.e0 (by omega)) ?_
      refine r_istore_n (ls' := [(0, vr 7 k), (1, vi (nI π)), (2, vi (nI o19)), (3, vi (vF v 0 π))]) C (dx dX7_gift 19 rfl) (by decide) [1, 2, 3, 0] rfl ?_
      refine r_iload_n C (dx dX7_gift 20 rfl) rfl ?_
      refine r_iload_n C (dx dX7_gift 21 rfl) rfl ?_
      refine r_icmp_eq (tgt := 60) C (dx dX7_gift 22 rfl) (by decide) (fun c4 => ?_) (fun c4 => ?_)
      ·
        have c4 : vF v 0 π = nI o19 := c4
        refine r_aload_n C (dx dX7_gift 34 rfl) rfl ?_
        refine r_cvP (as := []) (st := []) (v := vl (dyR v)) C X I_X7_day l_X7_295 (e_day hm) (by decide) (Nat.le_of_ble_eq_true rfl) List.prefix_rfl rfl rfl (Nat.le_of_ble_eq_true rfl) rfl (dx dX7_gift 35 rfl) ?_
        refine r_lstore (ls' := [(0, vr 7 k), (1, vi (nI π)), (2, vi (nI o19)), (3, vi (vF v 0 π)), (4, vl (dyR v))]) C (dx dX7_gift 36 rfl) (by decide) [1, 2, 3, 4, 0] rfl ?_
        refine r_aload_n C (dx dX7_gift 37 rfl) rfl ?_
        refine g_X7_40 C (dx dX7_gift 38 rfl) ?_
        refine r_iload_n C (dx dX7_gift 39 rfl) rfl ?_
        refine r_iload_n C (dx dX7_gift 40 rfl) rfl ?_
        refine r_iast (j := π) C rfl rfl (by decide) rfl (by omega) (dx dX7_gift 41 rfl) ?_
        have mh5 : MilAt (sI h (k + 18) π (nI o19)) k (vset v 0 π (nI o19)) := hm.s0
        have ph5 : Kp k h (sI h (k + 18) π (nI o19)) := Kp.c (by omega) (by omega)
        have kh5 : xK (sI h (k + 18) π (nI o19)) = xK h := rfl
        generalize sI h (k + 18) π (nI o19) = h5 at mh5 ph5 kh5 ⊢
        refine r_aload_n C (dx dX7_gift 42 rfl) rfl ?_
        refine r_cvP (as := []) (st := []) (v := vl (dyR (vset v 0 π (nI o19)))) C X I_X7_day l_X7_295 (e_day mh5) (by decide) (Nat.le_of_ble_eq_true rfl) (pfx_eq kh5) rfl rfl (Nat.le_of_ble_eq_true rfl) rfl (dx dX7_gift 43 rfl) ?_
        refine r_lstore (ls' := [(0, vr 7 k), (1, vi (nI π)), (2, vi (nI o19)), (3, vi (vF v 0 π)), (4, vl (dyR v)), (6, vl (dyR (vset v 0 π (nI o19))))]) C (dx dX7_gift 44 rfl) (by decide) [1, 2, 3, 4, 5, 0] rfl ?_
        refine r_aload_n C (dx dX7_gift 45 rfl) rfl ?_
        refine g_X7_40 C (dx dX7_gift 46 rfl) ?_
        refine r_iload_n C (dx dX7_gift 47 rfl) rfl ?_
        refine r_iload_n C (dx dX7_gift 48 rfl) rfl ?_
        refine r_iast (j := π) C rfl rfl (by decide) rfl (by omega) (dx dX7_gift 49 rfl) ?_
        have mh6 : MilAt (sI h5 (k + 18) π (vF v 0 π)) k (vset (vset v 0 π (nI o19)) 0 π (vF v 0 π)) := mh5.s0
        have ph6 : Kp k h (sI h5 (k + 18) π (vF v 0 π)) := ph5.tr (Kp.c (by omega) (by omega))
        have kh6 : xK (sI h5 (k + 18) π (vF v 0 π)) = xK h := kh5
        generalize sI h5 (k + 18) π (vF v 0 π) = h6 at mh6 ph6 kh6 ⊢
        refine r_lload C (dx dX7_gift 50 rfl) rfl ?_
        refine r_lload C (dx dX7_gift 51 rfl) rfl ?_
        refine r_lsub C (dx dX7_gift 52 rfl) ?_
        have eV : v = vset (vset v 0 π (nI o19)) 0 π (vF v 0 π) := by (rw [vset_two, vset_same])
        have eA : gifR v (nI π) (nI o19) = (dyR (vset v 0 π (nI o19))) - (dyR v) := by (first | (simp [gifR, clN (show π < 2 ^ 31 by omega), clN (show o19 < 2 ^ 31 by omega), c1, c3, c4]; done) | (simp [gifR, clN (show π < 2 ^ 31 by omega), clN (show o19 < 2 ^ 31 by omega), c1, c3, c4] <;> decide) | (simp [gifR, clN (show π < 2 ^ 31 by omega), clN (show o19 < 2 ^ 31 by omega), c1, c3, c4] <;> rfl))
        exact F.2.1 _ _ _ _ rfl (dx dX7_gift 53 rfl) kh6 ⟨by (rw [eA]; first | done | rfl), by rw [eV]; exact mh6, ph6⟩
      ·
        have c4 : ¬ vF v 0 π = nI o19 := c4
        refine r_aload_n C (dx dX7_gift 23 rfl) rfl ?_
        refine r_iload_n C (dx dX7_gift 24 rfl) rfl ?_
        refine r_cvP (as := [vi (nI o19)]) (st := []) (v := vi (b2i (hasRm v (nI o19)))) C X I_X7_hasRoom l_X7_135 (e_hasRoom hm (j := o19) (by omega)) (by decide) (Nat.le_of_ble_eq_true rfl) List.prefix_rfl rfl rfl (Nat.le_of_ble_eq_true rfl) rfl (dx dX7_gift 25 rfl) ?_
        refine rb_ne (b := hasRm v (nI o19)) (tgt := 60) C (dx dX7_gift 26 rfl) (by decide) (fun c7 => ?_) (fun c7 => ?_)
        ·
          have c7 : (hasRm v (nI o19)) = true := c7
          refine r_aload_n C (dx dX7_gift 34 rfl) rfl ?_
          refine r_cvP (as := []) (st := []) (v := vl (dyR v)) C X I_X7_day l_X7_295 (e_day hm) (by decide) (Nat.le_of_ble_eq_true rfl) List.prefix_rfl rfl rfl (Nat.le_of_ble_eq_true rfl) rfl (dx dX7_gift 35 rfl) ?_
          refine r_lstore (ls' := [(0, vr 7 k), (1, vi (nI π)), (2, vi (nI o19)), (3, vi (vF v 0 π)), (4, vl (dyR v))]) C (dx dX7_gift 36 rfl) (by decide) [1, 2, 3, 4, 0] rfl ?_
          refine r_aload_n C (dx dX7_gift 37 rfl) rfl ?_
          refine g_X7_40 C (dx dX7_gift 38 rfl) ?_
          refine r_iload_n C (dx dX7_gift 39 rfl) rfl ?_
          refine r_iload_n C (dx dX7_gift 40 rfl) rfl ?_
          refine r_iast (j := π) C rfl rfl (by decide) rfl (by omega) (dx dX7_gift 41 rfl) ?_
          have mh8 : MilAt (sI h (k + 18) π (nI o19)) k (vset v 0 π (nI o19)) := hm.s0
          have ph8 : Kp k h (sI h (k + 18) π (nI o19)) := Kp.c (by omega) (by omega)
          have kh8 : xK (sI h (k + 18) π (nI o19)) = xK h := rfl
          generalize sI h (k + 18) π (nI o19) = h8 at mh8 ph8 kh8 ⊢
          refine r_aload_n C (dx dX7_gift 42 rfl) rfl ?_
          refine r_cvP (as := []) (st := []) (v := vl (dyR (vset v 0 π (nI o19)))) C X I_X7_day l_X7_295 (e_day mh8) (by decide) (Nat.le_of_ble_eq_true rfl) (pfx_eq kh8) rfl rfl (Nat.le_of_ble_eq_true rfl) rfl (dx dX7_gift 43 rfl) ?_
          refine r_lstore (ls' := [(0, vr 7 k), (1, vi (nI π)), (2, vi (nI o19)), (3, vi (vF v 0 π)), (4, vl (dyR v)), (6, vl (dyR (vset v 0 π (nI o19))))]) C (dx dX7_gift 44 rfl) (by decide) [1, 2, 3, 4, 5, 0] rfl ?_
          refine r_aload_n C (dx dX7_gift 45 rfl) rfl ?_
          refine g_X7_40 C (dx dX7_gift 46 rfl) ?_
          refine r_iload_n C (dx dX7_gift 47 rfl) rfl ?_
          refine r_iload_n C (dx dX7_gift 48 rfl) rfl ?_
          refine r_iast (j := π) C rfl rfl (by decide) rfl (by omega) (dx dX7_gift 49 rfl) ?_
          have mh9 : MilAt (sI h8 (k + 18) π (vF v 0 π)) k (vset (vset v 0 π (nI o19)) 0 π (vF v 0 π)) := mh8.s0
          have ph9 : Kp k h (sI h8 (k + 18) π (vF v 0 π)) := ph8.tr (Kp.c (by omega) (by omega))
          have kh9 : xK (sI h8 (k + 18) π (vF v 0 π)) = xK h := kh8
          generalize sI h8 (k + 18) π (vF v 0 π) = h9 at mh9 ph9 kh9 ⊢
          refine r_lload C (dx dX7_gift 50 rfl) rfl ?_
          refine r_lload C (dx dX7_gift 51 rfl) rfl ?_
          refine r_lsub C (dx dX7_gift 52 rfl) ?_
          have eV : v = vset (vset v 0 π (nI o19)) 0 π (vF v 0 π) := by (rw [vset_two, vset_same])
          have eA : gifR v (nI π) (nI o19) = (dyR (vset v 0 π (nI o19))) - (dyR v) := by (first | (simp [gifR, clN (show π < 2 ^ 31 by omega), clN (show o19 < 2 ^ 31 by omega), c1, c3, c4, c7]; done) | (simp [gifR, clN (show π < 2 ^ 31 by omega), clN (show o19 < 2 ^ 31 by omega), c1, c3, c4, c7] <;> decide) | (simp [gifR, clN (show π < 2 ^ 31 by omega), clN (show o19 < 2 ^ 31 by omega), c1, c3, c4, c7] <;> rfl))
          exact F.2.1 _ _ _ _ rfl (dx dX7_gift 53 rfl) kh9 ⟨by (rw [eA]; first | done | rfl), by rw [eV]; exact mh9, ph9⟩
        ·
          have c7 : (hasRm v (nI o19)) = false := c7
          refine r_aload_n C (dx dX7_gift 27 rfl) rfl ?_
          refine r_bipush (v := -5) C (dx dX7_gift 28 rfl) rfl ?_
          refine r_cv (as := [vi (-5)]) (st := []) C X I_X7_refuse l_X7_83 (e_refuse hm (x := -5) (j := 5) (by decide) (by decide)) (by decide) (Nat.le_of_ble_eq_true rfl) List.prefix_rfl List.prefix_rfl rfl rfl (Nat.le_of_ble_eq_true rfl) rfl (dx dX7_gift 29 rfl) ?_
          rintro _ h10 ⟨rfl, m9h10, qh10⟩ kkh10
          have mh10 : MilAt h10 k v := m9h10
          have ph10 : Kp k h h10 := qh10
          have kh10 : xK h10 = xK h := kkh10
          refine r_i2l C (dx dX7_gift 30 rfl) ?_
          refine r_ldc2 C n_X7_320 (dx dX7_gift 31 rfl) ?_
          refine r_lsub C (dx dX7_gift 32 rfl) ?_
          have eA : gifR v (nI π) (nI o19) = ((-5).toInt64) - 1000000000000 := by (first | (simp [gifR, clN (show π < 2 ^ 31 by omega), clN (show o19 < 2 ^ 31 by omega), c1, c3, c4, c7]; done) | (simp [gifR, clN (show π < 2 ^ 31 by omega), clN (show o19 < 2 ^ 31 by omega), c1, c3, c4, c7] <;> decide) | (simp [gifR, clN (show π < 2 ^ 31 by omega), clN (show o19 < 2 ^ 31 by omega), c1, c3, c4, c7] <;> rfl))
          exact F.2.1 _ _ _ _ rfl (dx dX7_gift 33 rfl) kh10 ⟨by (rw [eA]; first | done | rfl), by exact mh10, ph10⟩
    ·
      have c3 : (inR o1 (vN v)) = false := c3
      refine r_aload_n C (dx dX7_gift 8 rfl) rfl ?_
      refine r_bipush (v := -2) C (dx dX7_gift 9 rfl) rfl ?_
      refine r_cv (as := [vi (-2)]) (st := []) C X I_X7_refuse l_X7_83 (e_refuse hm (x := -2) (j := 2) (by decide) (by decide)) (by decide) (Nat.le_of_ble_eq_true rfl) List.prefix_rfl List.prefix_rfl rfl rfl (Nat.le_of_ble_eq_true rfl) rfl (dx dX7_gift 10 rfl) ?_
      rintro _ h11 ⟨rfl, m9h11, qh11⟩ kkh11
      have mh11 : MilAt h11 k v := m9h11
      have ph11 : Kp k h h11 := qh11
      have kh11 : xK h11 = xK h := kkh11
      refine r_i2l C (dx dX7_gift 11 rfl) ?_
      refine r_ldc2 C n_X7_320 (dx dX7_gift 12 rfl) ?_
      refine r_lsub C (dx dX7_gift 13 rfl) ?_
      have eA : gifR v (nI π) o1 = ((-2).toInt64) - 1000000000000 := by (first | (simp [gifR, clN (show π < 2 ^ 31 by omega), c1, c3]; done) | (simp [gifR, clN (show π < 2 ^ 31 by omega), c1, c3] <;> decide) | (simp [gifR, clN (show π < 2 ^ 31 by omega), c1, c3] <;> rfl))
      exact F.2.1 _ _ _ _ rfl (dx dX7_gift 14 rfl) kh11 ⟨by (rw [eA]; first | done | rfl), by exact mh11, ph11⟩
set_option maxHeartbeats 4000000 in
theorem w_wouldBy {l : Launch} {h : Hp} {P : List Nat} {k z : Nat} {v : Vg} {g : Sg} {κ τ : Bool} {ω : Vg} {Bt : Nat → Int32} (M : Md h P k v g z κ τ) (x0 : XT h k κ ω Bt) {σ η β : Nat} (hσ : σ < 8) (hη : 1 ≤ η ∧ η ≤ 5) (hβ : β < 100) (eT : gT g σ = nI (10 + η)) (eY : gY g σ = nI β) : Ms l yX7_wouldBy cX7_wouldBy 2 (some .long) 10 [vr 7 k, vi (nI σ)] h (AL P κ true) (fun r h' => r = some (vl (dyR (hAR v η β))) ∧ Md h' P k v g z κ true ∧ Lo k h h' ∧ XT h' k κ ω Bt) := by
  refine Ms.of (by decide) (Nat.le_of_ble_eq_true rfl) (fun G C X F => ?_)
  have C : Cx G cX7_wouldBy 2 RX7 := C
  show Rr G 0 [(0, vr 7 k), (1, vi (nI σ))] [] h
  have hm := M.1
  have hs := M.2.1
  have al := M.al
  have hk7 := M.hk
  have bP := hm.bP
  have bM := hm.bM
  have bN := hm.bN
  obtain ⟨o1, o2, o3⟩ := hs.hold hσ hη hβ eT eY
  refine r_aload_n C (dx dX7_wouldBy 0 rfl) rfl ?_
  refine r_cv (as := []) (st := []) C X I_X7_fresh l_X7_102 (e_fresh M x0) (by decide) (Nat.le_of_ble_eq_true rfl) (by rw [M.al]; exact AL_pre id (fun _ => rfl)) (by first | exact List.prefix_rfl | (rw [al]; exact AL_pre id (fun _ => rfl))) rfl rfl (Nat.le_of_ble_eq_true rfl) rfl (dx dX7_wouldBy 1 rfl) ?_
  rintro _ hF ⟨b, rfl, ebF, BF, MF, hb, hlF, loF, xF⟩ kF
  obtain ⟨r1, r2, r3⟩ := MF.2.1.hold hσ hη hβ eT eY
  refine r_aload_n C (dx dX7_wouldBy 2 rfl) rfl ?_
  refine g_X7_28 C (dx dX7_wouldBy 3 rfl) ?_
  refine r_iload_n C (dx dX7_wouldBy 4 rfl) rfl ?_
  refine r_iald (j := σ) (x := nI η) C rfl rfl (by decide) rfl (by omega) (dx dX7_wouldBy 5 rfl) r2 ?_
  refine r_aload_n C (dx dX7_wouldBy 6 rfl) rfl ?_
  refine g_X7_31 C (dx dX7_wouldBy 7 rfl) ?_
  refine r_iload_n C (dx dX7_wouldBy 8 rfl) rfl ?_
  refine r_iald (j := σ) (x := nI β) C rfl rfl (by decide) rfl (by omega) (dx dX7_wouldBy 9 rfl) r3 ?_
  refine r_cv (as := [vi (nI η), vi (nI β)]) (st := []) C X I_X7_holdAll l_X7_106 (e_holdAll BF (κ := η) (b := β) (by omega) (by omega)) (by decide) (Nat.le_of_ble_eq_true rfl) List.prefix_rfl (pfx_eq kF) rfl rfl (Nat.le_of_ble_eq_true rfl) rfl (dx dX7_wouldBy 10 rfl) ?_
  rintro _ h1 ⟨rfl, Bh1, qh1⟩ kkh1
  have xh1 : XT h1 k κ ω Bt := xF.tk MF hb ebF qh1
  have Mh1 := MF.tk (b := b) hb hlF Bh1 qh1 (show xK h1 = xK hF from kkh1)
  have loh1 : Lo k h h1 := loF.tr (Lo.fr (Fr.vc qh1) (by omega))
  have ebh1 : xN h1 k 22 = b + 1 := by rw [((Fr.vc qh1) k (by omega)).2.2]; exact ebF
  have hlh1 : b + 32 ≤ (xK h1).length := by rw [show xK h1 = xK hF from kkh1]; exact hlF
  have kh1 : xK h1 = AL P κ true := (show xK h1 = xK hF from kkh1).trans kF
  refine r_aload_n C (dx dX7_wouldBy 11 rfl) rfl ?_
  refine r_getN (k := 7) (j := 22) (T := TX7) (N := 32) C rfl rfl rfl (by decide) f_X7_110 (dx dX7_wouldBy 12 rfl) ebh1 (Or.inr (by rw [Nat.add_sub_cancel]; exact Mh1.k7 (by omega) hlh1)) ?_
  refine r_some C ?_
  refine r_cvP (as := []) (st := []) (v := vl (dyR (hAR v η β))) C X I_X7_day l_X7_295 (e_day Bh1) (by decide) (Nat.le_of_ble_eq_true rfl) (pfx_eq kh1) rfl rfl (Nat.le_of_ble_eq_true rfl) rfl (dx dX7_wouldBy 13 rfl) ?_
  exact F.2.1 _ _ _ _ rfl (dx dX7_wouldBy 14 rfl) kh1 ⟨rfl, Mh1, loh1, xh1⟩
set_option maxHeartbeats 4000000 in
theorem w_says_y {l : Launch} {h : Hp} {P : List Nat} {k z : Nat} {v : Vg} {g : Sg} {κ τ : Bool} {ω : Vg} {Bt : Nat → Int32} (M : Md h P k v g z κ τ) (x0 : XT h k κ ω Bt) {σ η β : Nat} (hσ : σ < 8) (hη : 1 ≤ η ∧ η ≤ 5) (hβ : β < 100) (eT : gT g σ = nI (10 + η)) (eY : gY g σ = nI β) {x : Int32} (hq : inR x 6 = true) (hu : undV (nI η) x = true) (h0 : ¬ x = 0) : Ms l yX7_says cX7_says 3 (some .int) 10 [vr 7 k, vi (nI σ), vi x] h (AL P κ true) (fun r h' => r = some (vi (nI (hcN (hAR v η β) (if x = nI 3 then 1 else 0)))) ∧ Md h' P k v g z κ true ∧ Lo k h h' ∧ XT h' k κ ω Bt) := by
  refine Ms.of (by decide) (Nat.le_of_ble_eq_true rfl) (fun G C X F => ?_)
  have C : Cx G cX7_says 3 RX7 := C
  show Rr G 0 [(0, vr 7 k), (1, vi (nI σ)), (2, vi x)] [] h
  have hm := M.1
  have hs := M.2.1
  have al := M.al
  have hk7 := M.hk
  have bP := hm.bP
  have bM := hm.bM
  have bN := hm.bN
  obtain ⟨o1, o2, o3⟩ := hs.hold hσ hη hβ eT eY
  refine r_iload_n C (dx dX7_says 0 rfl) rfl ?_
  refine r_i2l C (dx dX7_says 1 rfl) ?_
  refine r_lconst (v := 0) C (dx dX7_says 2 rfl) rfl ?_
  refine r_ldc2 C n_X7_77 (dx dX7_says 3 rfl) ?_
  refine r_csP (as := [vl ((nI σ).toInt64), vl 0, vl 7]) (st := []) (v := vi (b2i (inR (nI σ) 8))) C X I_X7_in l_X7_67 (c_inR (b := 7) (by decide) (by decide)) (by decide) (Nat.le_of_ble_eq_true rfl) (by first | exact List.prefix_rfl | (rw [al]; exact AL_pre id (fun _ => rfl))) (Nat.le_of_ble_eq_true rfl) rfl (dx dX7_says 4 rfl) ?_
  refine rb_eq (b := inR (nI σ) 8) (tgt := 24) C (dx dX7_says 5 rfl) (by decide) (fun c1 => ?_) (fun c1 => ?_)
  ·
    have c1 : (inR (nI σ) 8) = false := c1
    exact absurd ((inN (by omega) hσ).symm.trans c1) (by decide)
  ·
    have c1 : (inR (nI σ) 8) = true := c1
    refine r_iload_n C (dx dX7_says 6 rfl) rfl ?_
    refine r_i2l C (dx dX7_says 7 rfl) ?_
    refine r_lconst (v := 0) C (dx dX7_says 8 rfl) rfl ?_
    refine r_ldc2 C n_X7_94 (dx dX7_says 9 rfl) ?_
    refine r_csP (as := [vl x.toInt64, vl 0, vl 5]) (st := []) (v := vi (b2i (inR x 6))) C X I_X7_in l_X7_67 (c_inR (b := 5) (by decide) (by decide)) (by decide) (Nat.le_of_ble_eq_true rfl) (by first | exact List.prefix_rfl | (rw [al]; exact AL_pre id (fun _ => rfl))) (Nat.le_of_ble_eq_true rfl) rfl (dx dX7_says 10 rfl) ?_
    refine rb_ne (b := inR x 6) (tgt := 31) C (dx dX7_says 11 rfl) (by decide) (fun c2 => ?_) (fun c2 => ?_)
    ·
      have c2 : (inR x 6) = true := c2
      refine r_aload_n C (dx dX7_says 16 rfl) rfl ?_
      refine g_X7_7 C (dx dX7_says 17 rfl) ?_
      refine r_iload_n C (dx dX7_says 18 rfl) rfl ?_
      refine r_iald (j := σ) (x := nI 2) C rfl rfl (by decide) rfl (by omega) (dx dX7_says 19 rfl) o1 ?_
      refine r_iconst (v := nI 1) C (dx dX7_says 20 rfl) rfl ?_
      refine rn_eq (a := 2) (b := 1) (tgt := 64) C (by omega) (by omega) (dx dX7_says 21 rfl) (by decide) (fun c3 => ?_) (fun c3 => ?_)
      · first
        | (omega; done)
        | (
            have c3 : 2 = 1 := c3
            refine r_aload_n C (dx dX7_says 35 rfl) rfl ?_
            refine r_bipush (v := -3) C (dx dX7_says 36 rfl) rfl ?_
            refine r_cv (as := [vi (-3)]) (st := []) C X I_X7_refuse l_X7_83 (c_X7_refuse hm (x := -3) (j := 3) (by decide) (by decide)) (by decide) (Nat.le_of_ble_eq_true rfl) List.prefix_rfl (by first | exact List.prefix_rfl | (rw [al]; exact AL_pre id (fun _ => rfl))) rfl rfl (Nat.le_of_ble_eq_true rfl) rfl (dx dX7_says 37 rfl) ?_
            rintro _ h4 ⟨rfl, ⟨wh4, m9h4, s9h4⟩, qh4⟩ kkh4
            obtain ⟨vh4, mh4, zh4⟩ : ∃ v9, MilAt h4 k v9 ∧ Sz v v9 := ⟨_, m9h4, s9h4⟩
            have ph4 : Kp k h h4 := qh4
            have kh4 : xK h4 = xK h := kkh4
            obtain ⟨ah4, bh4, ch4⟩ := zh4
            have eA : nI (hcN (hAR v η β) (if x = nI 3 then 1 else 0)) = -3 := by (unfold hcN; rw [if_neg None]; first | done | rfl)
            exact F.1 _ _ _ _ .int rfl rfl (dx dX7_says 38 rfl) kh4 ⟨by (rw [eA]; first | done | rfl), M, Lo.rf, x0⟩)
      · first
        | (omega; done)
        | (
            have c3 : ¬ 2 = 1 := c3
            refine r_aload_n C (dx dX7_says 22 rfl) rfl ?_
            refine g_X7_7 C (dx dX7_says 23 rfl) ?_
            refine r_iload_n C (dx dX7_says 24 rfl) rfl ?_
            refine r_iald (j := σ) (x := nI 2) C rfl rfl (by decide) rfl (by omega) (dx dX7_says 25 rfl) o1 ?_
            refine r_iconst (v := nI 2) C (dx dX7_says 26 rfl) rfl ?_
            refine rn_ne (a := 2) (b := 2) (tgt := 71) C (by omega) (by omega) (dx dX7_says 27 rfl) (by decide) (fun c5 => ?_) (fun c5 => ?_)
            · first
              | (omega; done)
              | (
                  have c5 : ¬ 2 = 2 := c5
                  refine r_aload_n C (dx dX7_says 39 rfl) rfl ?_
                  refine g_X7_7 C (dx dX7_says 40 rfl) ?_
                  refine r_iload_n C (dx dX7_says 41 rfl) rfl ?_
                  refine r_iald (j := σ) (x := nI 2) C rfl rfl (by decide) rfl (by omega) (dx dX7_says 42 rfl) o1 ?_
                  refine r_if_ne (tgt := 87) C (dx dX7_says 43 rfl) (by decide) (fun _ => ?_) (fun c6 => (show False from by revert c6; decide).elim)
                  refine r_iload_n C (dx dX7_says 48 rfl) rfl ?_
                  refine r_if_ne (tgt := 98) C (dx dX7_says 49 rfl) (by decide) (fun c7 => ?_) (fun c7 => ?_)
                  ·
                    have c7 : ¬ x = 0 := c7
                    refine r_aload_n C (dx dX7_says 55 rfl) rfl ?_
                    refine r_cv (as := []) (st := []) C X I_X7_fresh l_X7_102 (e_fresh M x0) (by decide) (Nat.le_of_ble_eq_true rfl) (by rw [M.al]; exact AL_pre id (fun _ => rfl)) (by first | exact List.prefix_rfl | (rw [al]; exact AL_pre id (fun _ => rfl))) rfl rfl (Nat.le_of_ble_eq_true rfl) rfl (dx dX7_says 56 rfl) ?_
                    rintro _ hF ⟨b, rfl, ebF, BF, MF, hb, hlF, loF, xF⟩ kF
                    obtain ⟨r1, r2, r3⟩ := MF.2.1.hold hσ hη hβ eT eY
                    refine r_aload_n C (dx dX7_says 57 rfl) rfl ?_
                    refine g_X7_28 C (dx dX7_says 58 rfl) ?_
                    refine r_iload_n C (dx dX7_says 59 rfl) rfl ?_
                    refine r_iald (j := σ) (x := nI η) C rfl rfl (by decide) rfl (by omega) (dx dX7_says 60 rfl) r2 ?_
                    refine r_aload_n C (dx dX7_says 61 rfl) rfl ?_
                    refine g_X7_31 C (dx dX7_says 62 rfl) ?_
                    refine r_iload_n C (dx dX7_says 63 rfl) rfl ?_
                    refine r_iald (j := σ) (x := nI β) C rfl rfl (by decide) rfl (by omega) (dx dX7_says 64 rfl) r3 ?_
                    refine r_cv (as := [vi (nI η), vi (nI β)]) (st := []) C X I_X7_holdAll l_X7_106 (e_holdAll BF (κ := η) (b := β) (by omega) (by omega)) (by decide) (Nat.le_of_ble_eq_true rfl) List.prefix_rfl (pfx_eq kF) rfl rfl (Nat.le_of_ble_eq_true rfl) rfl (dx dX7_says 65 rfl) ?_
                    rintro _ h8 ⟨rfl, Bh8, qh8⟩ kkh8
                    have xh8 : XT h8 k κ ω Bt := xF.tk MF hb ebF qh8
                    have Mh8 := MF.tk (b := b) hb hlF Bh8 qh8 (show xK h8 = xK hF from kkh8)
                    have loh8 : Lo k h h8 := loF.tr (Lo.fr (Fr.vc qh8) (by omega))
                    have ebh8 : xN h8 k 22 = b + 1 := by rw [((Fr.vc qh8) k (by omega)).2.2]; exact ebF
                    have hlh8 : b + 32 ≤ (xK h8).length := by rw [show xK h8 = xK hF from kkh8]; exact hlF
                    have kh8 : xK h8 = AL P κ true := (show xK h8 = xK hF from kkh8).trans kF
                    refine r_aload_n C (dx dX7_says 66 rfl) rfl ?_
                    refine r_getN (k := 7) (j := 22) (T := TX7) (N := 32) C rfl rfl rfl (by decide) f_X7_110 (dx dX7_says 67 rfl) ebh8 (Or.inr (by rw [Nat.add_sub_cancel]; exact Mh8.k7 (by omega) hlh8)) ?_
                    refine r_some C ?_
                    refine r_iload_n C (dx dX7_says 68 rfl) rfl ?_
                    refine r_iconst (v := nI 3) C (dx dX7_says 69 rfl) rfl ?_
                    refine r_icmp_ne (tgt := 130) C (dx dX7_says 70 rfl) (by decide) (fun c9 => ?_) (fun c9 => ?_)
                    ·
                      have c9 : ¬ x = nI 3 := c9
                      refine r_iconst (v := nI 0) C (dx dX7_says 73 rfl) rfl ?_
                      refine r_cvP (as := [vi (nI 0)]) (st := []) (v := vi (nI (cnt (fun p => decide (¬ vF (hAR v η β) (if false then 1 else 0) p = -1)) (vP (hAR v η β))))) C X I_X7_held l_X7_114 (e_held Bh8 false) (by decide) (Nat.le_of_ble_eq_true rfl) (pfx_eq kh8) rfl rfl (Nat.le_of_ble_eq_true rfl) rfl (dx dX7_says 74 rfl) ?_
                      have eA : nI (hcN (hAR v η β) (if x = nI 3 then 1 else 0)) = nI (cnt (fun p => decide (¬ vF (hAR v η β) (if false then 1 else 0) p = -1)) (vP (hAR v η β))) := by (unfold hcN; rw [if_neg c9]; first | done | rfl)
                      exact F.1 _ _ _ _ .int rfl rfl (dx dX7_says 75 rfl) kh8 ⟨by (rw [eA]; first | done | rfl), Mh8, loh8, xh8⟩
                    ·
                      have c9 : x = nI 3 := c9
                      refine r_iconst (v := nI 1) C (dx dX7_says 71 rfl) rfl ?_
                      refine r_goto (tgt := 131) C (dx dX7_says 72 rfl) (by decide) ?_
                      refine r_cvP (as := [vi (nI 1)]) (st := []) (v := vi (nI (cnt (fun p => decide (¬ vF (hAR v η β) (if true then 1 else 0) p = -1)) (vP (hAR v η β))))) C X I_X7_held l_X7_114 (e_held Bh8 true) (by decide) (Nat.le_of_ble_eq_true rfl) (pfx_eq kh8) rfl rfl (Nat.le_of_ble_eq_true rfl) rfl (dx dX7_says 74 rfl) ?_
                      have eA : nI (hcN (hAR v η β) (if x = nI 3 then 1 else 0)) = nI (cnt (fun p => decide (¬ vF (hAR v η β) (if true then 1 else 0) p = -1)) (vP (hAR v η β))) := by (unfold hcN; rw [if_pos c9]; first | done | rfl)
                      exact F.1 _ _ _ _ .int rfl rfl (dx dX7_says 75 rfl) kh8 ⟨by (rw [eA]; first | done | rfl), Mh8, loh8, xh8⟩
                  ·
                    have c7 : x = 0 := c7
                    exact absurd c7 h0)
            · first
              | (omega; done)
              | (
                  have c5 : 2 = 2 := c5
                  refine r_aload_n C (dx dX7_says 28 rfl) rfl ?_
                  refine g_X7_28 C (dx dX7_says 29 rfl) ?_
                  refine r_iload_n C (dx dX7_says 30 rfl) rfl ?_
                  refine r_iald (j := σ) (x := nI η) C rfl rfl (by decide) rfl (by omega) (dx dX7_says 31 rfl) o2 ?_
                  refine r_iload_n C (dx dX7_says 32 rfl) rfl ?_
                  refine r_csP (as := [vi (nI η), vi x]) (st := []) (v := vi (b2i (undV (nI η) x))) C X I_X7_isUnder l_X7_98 (c_X7_isUnder _ _) (by decide) (Nat.le_of_ble_eq_true rfl) (by first | exact List.prefix_rfl | (rw [al]; exact AL_pre id (fun _ => rfl))) (Nat.le_of_ble_eq_true rfl) rfl (dx dX7_says 33 rfl) ?_
                  refine rb_ne (b := undV (nI η) x) (tgt := 71) C (dx dX7_says 34 rfl) (by decide) (fun c10 => ?_) (fun c10 => ?_)
                  ·
                    have c10 : (undV (nI η) x) = true := c10
                    refine r_aload_n C (dx dX7_says 39 rfl) rfl ?_
                    refine g_X7_7 C (dx dX7_says 40 rfl) ?_
                    refine r_iload_n C (dx dX7_says 41 rfl) rfl ?_
                    refine r_iald (j := σ) (x := nI 2) C rfl rfl (by decide) rfl (by omega) (dx dX7_says 42 rfl) o1 ?_
                    refine r_if_ne (tgt := 87) C (dx dX7_says 43 rfl) (by decide) (fun _ => ?_) (fun c11 => (show False from by revert c11; decide).elim)
                    refine r_iload_n C (dx dX7_says 48 rfl) rfl ?_
                    refine r_if_ne (tgt := 98) C (dx dX7_says 49 rfl) (by decide) (fun c12 => ?_) (fun c12 => ?_)
                    ·
                      have c12 : ¬ x = 0 := c12
                      refine r_aload_n C (dx dX7_says 55 rfl) rfl ?_
                      refine r_cv (as := []) (st := []) C X I_X7_fresh l_X7_102 (e_fresh M x0) (by decide) (Nat.le_of_ble_eq_true rfl) (by rw [M.al]; exact AL_pre id (fun _ => rfl)) (by first | exact List.prefix_rfl | (rw [al]; exact AL_pre id (fun _ => rfl))) rfl rfl (Nat.le_of_ble_eq_true rfl) rfl (dx dX7_says 56 rfl) ?_
                      rintro _ hF ⟨b, rfl, ebF, BF, MF, hb, hlF, loF, xF⟩ kF
                      obtain ⟨r1, r2, r3⟩ := MF.2.1.hold hσ hη hβ eT eY
                      refine r_aload_n C (dx dX7_says 57 rfl) rfl ?_
                      refine g_X7_28 C (dx dX7_says 58 rfl) ?_
                      refine r_iload_n C (dx dX7_says 59 rfl) rfl ?_
                      refine r_iald (j := σ) (x := nI η) C rfl rfl (by decide) rfl (by omega) (dx dX7_says 60 rfl) r2 ?_
                      refine r_aload_n C (dx dX7_says 61 rfl) rfl ?_
                      refine g_X7_31 C (dx dX7_says 62 rfl) ?_
                      refine r_iload_n C (dx dX7_says 63 rfl) rfl ?_
                      refine r_iald (j := σ) (x := nI β) C rfl rfl (by decide) rfl (by omega) (dx dX7_says 64 rfl) r3 ?_
                      refine r_cv (as := [vi (nI η), vi (nI β)]) (st := []) C X I_X7_holdAll l_X7_106 (e_holdAll BF (κ := η) (b := β) (by omega) (by omega)) (by decide) (Nat.le_of_ble_eq_true rfl) List.prefix_rfl (pfx_eq kF) rfl rfl (Nat.le_of_ble_eq_true rfl) rfl (dx dX7_says 65 rfl) ?_
                      rintro _ h13 ⟨rfl, Bh13, qh13⟩ kkh13
                      have xh13 : XT h13 k κ ω Bt := xF.tk MF hb ebF qh13
                      have Mh13 := MF.tk (b := b) hb hlF Bh13 qh13 (show xK h13 = xK hF from kkh13)
                      have loh13 : Lo k h h13 := loF.tr (Lo.fr (Fr.vc qh13) (by omega))
                      have ebh13 : xN h13 k 22 = b + 1 := by rw [((Fr.vc qh13) k (by omega)).2.2]; exact ebF
                      have hlh13 : b + 32 ≤ (xK h13).length := by rw [show xK h13 = xK hF from kkh13]; exact hlF
                      have kh13 : xK h13 = AL P κ true := (show xK h13 = xK hF from kkh13).trans kF
                      refine r_aload_n C (dx dX7_says 66 rfl) rfl ?_
                      refine r_getN (k := 7) (j := 22) (T := TX7) (N := 32) C rfl rfl rfl (by decide) f_X7_110 (dx dX7_says 67 rfl) ebh13 (Or.inr (by rw [Nat.add_sub_cancel]; exact Mh13.k7 (by omega) hlh13)) ?_
                      refine r_some C ?_
                      refine r_iload_n C (dx dX7_says 68 rfl) rfl ?_
                      refine r_iconst (v := nI 3) C (dx dX7_says 69 rfl) rfl ?_
                      refine r_icmp_ne (tgt := 130) C (dx dX7_says 70 rfl) (by decide) (fun c14 => ?_) (fun c14 => ?_)
                      ·
                        have c14 : ¬ x = nI 3 := c14
                        refine r_iconst (v := nI 0) C (dx dX7_says 73 rfl) rfl ?_
                        refine r_cvP (as := [vi (nI 0)]) (st := []) (v := vi (nI (cnt (fun p => decide (¬ vF (hAR v η β) (if false then 1 else 0) p = -1)) (vP (hAR v η β))))) C X I_X7_held l_X7_114 (e_held Bh13 false) (by decide) (Nat.le_of_ble_eq_true rfl) (pfx_eq kh13) rfl rfl (Nat.le_of_ble_eq_true rfl) rfl (dx dX7_says 74 rfl) ?_
                        have eA : nI (hcN (hAR v η β) (if x = nI 3 then 1 else 0)) = nI (cnt (fun p => decide (¬ vF (hAR v η β) (if false then 1 else 0) p = -1)) (vP (hAR v η β))) := by (unfold hcN; rw [if_neg c14]; first | done | rfl)
                        exact F.1 _ _ _ _ .int rfl rfl (dx dX7_says 75 rfl) kh13 ⟨by (rw [eA]; first | done | rfl), Mh13, loh13, xh13⟩
                      ·
                        have c14 : x = nI 3 := c14
                        refine r_iconst (v := nI 1) C (dx dX7_says 71 rfl) rfl ?_
                        refine r_goto (tgt := 131) C (dx dX7_says 72 rfl) (by decide) ?_
                        refine r_cvP (as := [vi (nI 1)]) (st := []) (v := vi (nI (cnt (fun p => decide (¬ vF (hAR v η β) (if true then 1 else 0) p = -1)) (vP (hAR v η β))))) C X I_X7_held l_X7_114 (e_held Bh13 true) (by decide) (Nat.le_of_ble_eq_true rfl) (pfx_eq kh13) rfl rfl (Nat.le_of_ble_eq_true rfl) rfl (dx dX7_says 74 rfl) ?_
                        have eA : nI (hcN (hAR v η β) (if x = nI 3 then 1 else 0)) = nI (cnt (fun p => decide (¬ vF (hAR v η β) (if true then 1 else 0) p = -1)) (vP (hAR v η β))) := by (unfold hcN; rw [if_pos c14]; first | done | rfl)
                        exact F.1 _ _ _ _ .int rfl rfl (dx dX7_says 75 rfl) kh13 ⟨by (rw [eA]; first | done | rfl), Mh13, loh13, xh13⟩
                    ·
                      have c12 : x = 0 := c12
                      exact absurd c12 h0
                  ·
                    have c10 : (undV (nI η) x) = false := c10
                    exact absurd (hu.symm.trans c10) (by decide)))
    ·
      have c2 : (inR x 6) = false := c2
      exact absurd (hq.symm.trans c2) (by decide)
set_option maxHeartbeats 4000000 in
theorem w_would_y {l : Launch} {h : Hp} {P : List Nat} {k z : Nat} {v : Vg} {g : Sg} {κ τ : Bool} {ω : Vg} {Bt : Nat → Int32} (M : Md h P k v g z κ τ) (x0 : XT h k κ ω Bt) {σ η β : Nat} (hσ : σ < 8) (hη : 1 ≤ η ∧ η ≤ 5) (hβ : β < 100) (eT : gT g σ = nI (10 + η)) (eY : gY g σ = nI β) : Ms l yX7_would cX7_would 3 (some .long) 11 [vr 7 k, vi (nI σ)] h (AL P κ true) (fun r h' => r = some (vl (dyR (hAR v η β))) ∧ Md h' P k v g z κ true ∧ Lo k h h' ∧ XT h' k κ ω Bt) := by
  refine Ms.of (by decide) (Nat.le_of_ble_eq_true rfl) (fun G C X F => ?_)
  have C : Cx G cX7_would 3 RX7 := C
  show Rr G 0 [(0, vr 7 k), (1, vi (nI σ))] [] h
  have hm := M.1
  have hs := M.2.1
  have al := M.al
  have hk7 := M.hk
  have bP := hm.bP
  have bM := hm.bM
  have bN := hm.bN
  have hq := nh_hold hσ (by omega) eT eY
  refine r_aload_n C (dx dX7_would 0 rfl) rfl ?_
  refine r_iload_n C (dx dX7_would 1 rfl) rfl ?_
  refine r_cv (as := [vi (nI σ)]) (st := []) C X I_X7_noHolding l_X7_292 (v_X7_noHolding M.1 M.2.1 (nI σ)) (by decide) (Nat.le_of_ble_eq_true rfl) List.prefix_rfl (by first | exact List.prefix_rfl | (rw [al]; exact AL_pre id (fun _ => rfl))) rfl rfl (Nat.le_of_ble_eq_true rfl) rfl (dx dX7_would 2 rfl) ?_
  rintro _ h1 ⟨rfl, mh1, qh1⟩ kkh1
  have Mh1 := M.kp mh1 qh1 kkh1
  have xh1 := x0.kp M qh1
  have loh1 : Lo k h h1 := Lo.tr (Lo.rf (a := k) (h := h)) (Lo.fr (Fr.vc qh1) (Nat.le_refl _))
  refine r_istore_n (ls' := [(0, vr 7 k), (1, vi (nI σ)), (2, vi (nhA g (nI σ)))]) C (dx dX7_would 3 rfl) (by decide) [1, 2, 0] rfl ?_
  refine r_iload_n C (dx dX7_would 4 rfl) rfl ?_
  refine r_if_eq (tgt := 15) C (dx dX7_would 5 rfl) (by decide) (fun c2 => ?_) (fun c2 => ?_)
  ·
    have c2 : nhA g (nI σ) = 0 := c2
    refine r_aload_n C (dx dX7_would 9 rfl) rfl ?_
    refine r_iload_n C (dx dX7_would 10 rfl) rfl ?_
    refine r_cv (as := [vi (nI σ)]) (st := []) C X I_X7_wouldBy l_X7_299 (w_wouldBy Mh1 xh1 hσ hη hβ eT eY) (by decide) (Nat.le_of_ble_eq_true rfl) (by rw [Mh1.al]; exact AL_pre id (fun _ => rfl)) (by first | exact List.prefix_rfl | (rw [al]; exact AL_pre id (fun _ => rfl))) rfl rfl (Nat.le_of_ble_eq_true rfl) rfl (dx dX7_would 11 rfl) ?_
    rintro _ hF ⟨rfl, MF, loF9, xF⟩ kF
    have loF := loh1.tr loF9
    exact F.2.1 _ _ _ _ rfl (dx dX7_would 12 rfl) kF ⟨rfl, MF, loF, xF⟩
  ·
    have c2 : ¬ nhA g (nI σ) = 0 := c2
    exact absurd hq c2
set_option maxHeartbeats 4000000 in
theorem w_would_n {l : Launch} {h : Hp} {k : Nat} {v : Vg} {g : Sg} (hm : MilAt h k v) (hs : MshAt h k g) (s : Int32) (hq : ¬ nhA g s = 0) : Ms l yX7_would cX7_would 3 (some .long) 11 [vr 7 k, vi s] h (xK h) (fun r h' => r = some (vl ((nhA g s).toInt64)) ∧ MilAt h' k v ∧ Kp k h h') := by
  refine Ms.of (by decide) (Nat.le_of_ble_eq_true rfl) (fun G C X F => ?_)
  have C : Cx G cX7_would 3 RX7 := C
  show Rr G 0 [(0, vr 7 k), (1, vi s)] [] h
  have bP := hm.bP
  have bM := hm.bM
  have bN := hm.bN
  refine r_aload_n C (dx dX7_would 0 rfl) rfl ?_
  refine r_iload_n C (dx dX7_would 1 rfl) rfl ?_
  refine r_cv (as := [vi s]) (st := []) C X I_X7_noHolding l_X7_292 (v_X7_noHolding hm hs s) (by decide) (Nat.le_of_ble_eq_true rfl) List.prefix_rfl List.prefix_rfl rfl rfl (Nat.le_of_ble_eq_true rfl) rfl (dx dX7_would 2 rfl) ?_
  rintro _ h1 ⟨rfl, m9h1, qh1⟩ kkh1
  have mh1 : MilAt h1 k v := m9h1
  have ph1 : Kp k h h1 := qh1
  have kh1 : xK h1 = xK h := kkh1
  refine r_istore_n (ls' := [(0, vr 7 k), (1, vi s), (2, vi (nhA g s))]) C (dx dX7_would 3 rfl) (by decide) [1, 2, 0] rfl ?_
  refine r_iload_n C (dx dX7_would 4 rfl) rfl ?_
  refine r_if_eq (tgt := 15) C (dx dX7_would 5 rfl) (by decide) (fun c2 => ?_) (fun c2 => ?_)
  ·
    have c2 : nhA g s = 0 := c2
    exact absurd c2 hq
  ·
    have c2 : ¬ nhA g s = 0 := c2
    refine r_iload_n C (dx dX7_would 6 rfl) rfl ?_
    refine r_i2l C (dx dX7_would 7 rfl) ?_
    refine r_goto (tgt := 20) C (dx dX7_would 8 rfl) (by decide) ?_
    exact F.2.1 _ _ _ _ rfl (dx dX7_would 12 rfl) kh1 ⟨rfl, by exact mh1, ph1⟩
set_option maxHeartbeats 4000000 in
theorem w_lay_n {l : Launch} {h : Hp} {k : Nat} {v : Vg} {g : Sg} (hm : MilAt h k v) (hs : MshAt h k g) (s : Int32) (hq : ¬ nhA g s = 0) : Ms l yX7_lay cX7_lay 3 (some .int) 10 [vr 7 k, vi s] h (xK h) (fun r h' => r = some (vi (nhA g s)) ∧ MilAt h' k v ∧ Kp k h h') := by
  refine Ms.of (by decide) (Nat.le_of_ble_eq_true rfl) (fun G C X F => ?_)
  have C : Cx G cX7_lay 3 RX7 := C
  show Rr G 0 [(0, vr 7 k), (1, vi s)] [] h
  have bP := hm.bP
  have bM := hm.bM
  have bN := hm.bN
  refine r_aload_n C (dx dX7_lay 0 rfl) rfl ?_
  refine r_iload_n C (dx dX7_lay 1 rfl) rfl ?_
  refine r_cv (as := [vi s]) (st := []) C X I_X7_noHolding l_X7_292 (v_X7_noHolding hm hs s) (by decide) (Nat.le_of_ble_eq_true rfl) List.prefix_rfl List.prefix_rfl rfl rfl (Nat.le_of_ble_eq_true rfl) rfl (dx dX7_lay 2 rfl) ?_
  rintro _ h1 ⟨rfl, m9h1, qh1⟩ kkh1
  have mh1 : MilAt h1 k v := m9h1
  have ph1 : Kp k h h1 := qh1
  have kh1 : xK h1 = xK h := kkh1
  refine r_istore_n (ls' := [(0, vr 7 k), (1, vi s), (2, vi (nhA g s))]) C (dx dX7_lay 3 rfl) (by decide) [1, 2, 0] rfl ?_
  refine r_iload_n C (dx dX7_lay 4 rfl) rfl ?_
  refine r_if_eq (tgt := 12) C (dx dX7_lay 5 rfl) (by decide) (fun c2 => ?_) (fun c2 => ?_)
  ·
    have c2 : nhA g s = 0 := c2
    exact absurd c2 hq
  ·
    have c2 : ¬ nhA g s = 0 := c2
    refine r_iload_n C (dx dX7_lay 6 rfl) rfl ?_
    exact F.1 _ _ _ _ .int rfl rfl (dx dX7_lay 7 rfl) kh1 ⟨rfl, by exact mh1, ph1⟩
set_option maxHeartbeats 4000000 in
theorem w_lay_y {l : Launch} {h : Hp} {k : Nat} {v : Vg} {g : Sg} (hm : MilAt h k v) (hs : MshAt h k g) {σ η β : Nat} (hσ : σ < 8) (hη : 1 ≤ η ∧ η ≤ 5) (hβ : β < 100) (eT : gT g σ = nI (10 + η)) (eY : gY g σ = nI β) : Ms l yX7_lay cX7_lay 3 (some .int) 10 [vr 7 k, vi (nI σ)] h (xK h) (fun r h' => r = some (vi (nI (hcN (hAR v η β) 0))) ∧ MilAt h' k (hAR v η β) ∧ Kp k h h') := by
  refine Ms.of (by decide) (Nat.le_of_ble_eq_true rfl) (fun G C X F => ?_)
  have C : Cx G cX7_lay 3 RX7 := C
  show Rr G 0 [(0, vr 7 k), (1, vi (nI σ))] [] h
  have bP := hm.bP
  have bM := hm.bM
  have bN := hm.bN
  obtain ⟨o1, o2, o3⟩ := hs.hold hσ hη hβ eT eY
  have hq := nh_hold hσ (by omega) eT eY
  refine r_aload_n C (dx dX7_lay 0 rfl) rfl ?_
  refine r_iload_n C (dx dX7_lay 1 rfl) rfl ?_
  refine r_cv (as := [vi (nI σ)]) (st := []) C X I_X7_noHolding l_X7_292 (v_X7_noHolding hm hs (nI σ)) (by decide) (Nat.le_of_ble_eq_true rfl) List.prefix_rfl List.prefix_rfl rfl rfl (Nat.le_of_ble_eq_true rfl) rfl (dx dX7_lay 2 rfl) ?_
  rintro _ h1 ⟨rfl, m9h1, qh1⟩ kkh1
  have mh1 : MilAt h1 k v := m9h1
  have ph1 : Kp k h h1 := qh1
  have kh1 : xK h1 = xK h := kkh1
  obtain ⟨r1, r2, r3⟩ := (hs.kp ph1).hold hσ hη hβ eT eY
  refine r_istore_n (ls' := [(0, vr 7 k), (1, vi (nI σ)), (2, vi (nhA g (nI σ)))]) C (dx dX7_lay 3 rfl) (by decide) [1, 2, 0] rfl ?_
  refine r_iload_n C (dx dX7_lay 4 rfl) rfl ?_
  refine r_if_eq (tgt := 12) C (dx dX7_lay 5 rfl) (by decide) (fun c2 => ?_) (fun c2 => ?_)
  ·
    have c2 : nhA g (nI σ) = 0 := c2
    refine r_aload_n C (dx dX7_lay 8 rfl) rfl ?_
    refine r_aload_n C (dx dX7_lay 9 rfl) rfl ?_
    refine g_X7_28 C (dx dX7_lay 10 rfl) ?_
    refine r_iload_n C (dx dX7_lay 11 rfl) rfl ?_
    refine r_iald (j := σ) (x := nI η) C rfl rfl (by decide) rfl (by omega) (dx dX7_lay 12 rfl) r2 ?_
    refine r_aload_n C (dx dX7_lay 13 rfl) rfl ?_
    refine g_X7_31 C (dx dX7_lay 14 rfl) ?_
    refine r_iload_n C (dx dX7_lay 15 rfl) rfl ?_
    refine r_iald (j := σ) (x := nI β) C rfl rfl (by decide) rfl (by omega) (dx dX7_lay 16 rfl) r3 ?_
    refine r_cv (as := [vi (nI η), vi (nI β)]) (st := []) C X I_X7_holdAll l_X7_106 (e_holdAll mh1 (κ := η) (b := β) (by omega) (by omega)) (by decide) (Nat.le_of_ble_eq_true rfl) List.prefix_rfl (pfx_eq kh1) rfl rfl (Nat.le_of_ble_eq_true rfl) rfl (dx dX7_lay 17 rfl) ?_
    rintro _ h3 ⟨rfl, m9h3, qh3⟩ kkh3
    have mh3 : MilAt h3 k (hAR v η β) := m9h3
    have ph3 : Kp k h h3 := ph1.tr (qh3)
    have kh3 : xK h3 = xK h := (kkh3).trans kh1
    refine r_aload_n C (dx dX7_lay 18 rfl) rfl ?_
    refine r_iconst (v := nI 0) C (dx dX7_lay 19 rfl) rfl ?_
    refine r_cvP (as := [vi (nI 0)]) (st := []) (v := vi (nI (cnt (fun p => decide (¬ vF (hAR v η β) (if false then 1 else 0) p = -1)) (vP (hAR v η β))))) C X I_X7_held l_X7_114 (e_held mh3 false) (by decide) (Nat.le_of_ble_eq_true rfl) (pfx_eq kh3) rfl rfl (Nat.le_of_ble_eq_true rfl) rfl (dx dX7_lay 20 rfl) ?_
    have eA : nI (hcN (hAR v η β) 0) = nI (cnt (fun p => decide (¬ vF (hAR v η β) (if false then 1 else 0) p = -1)) (vP (hAR v η β))) := by (unfold hcN; first | done | rfl)
    exact F.1 _ _ _ _ .int rfl rfl (dx dX7_lay 21 rfl) kh3 ⟨by (rw [eA]; first | done | rfl), by exact mh3, ph3⟩
  ·
    have c2 : ¬ nhA g (nI σ) = 0 := c2
    exact absurd hq c2
set_option maxHeartbeats 4000000 in
theorem w_says_n {l : Launch} {h : Hp} {k : Nat} {v : Vg} {g : Sg} (hm : MilAt h k v) (hs : MshAt h k g) (s x : Int32) (hn : ¬ ∃ σ η β, σ < 8 ∧ s = nI σ ∧ (1 ≤ η ∧ η ≤ 5) ∧ β < 100 ∧ gT g σ = nI (10 + η) ∧ gY g σ = nI β ∧ inR x 6 = true ∧ undV (nI η) x = true ∧ ¬ x = 0) : Ms l yX7_says cX7_says 3 (some .int) 10 [vr 7 k, vi s, vi x] h (xK h) (fun r h' => r = some (vi (sayA v g s x)) ∧ MilAt h' k v ∧ Kp k h h') := by
  refine Ms.of (by decide) (Nat.le_of_ble_eq_true rfl) (fun G C X F => ?_)
  have C : Cx G cX7_says 3 RX7 := C
  show Rr G 0 [(0, vr 7 k), (1, vi s), (2, vi x)] [] h
  have bP := hm.bP
  have bM := hm.bM
  have bN := hm.bN
  refine r_iload_n C (dx dX7_says 0 rfl) rfl ?_
  refine r_i2l C (dx dX7_says 1 rfl) ?_
  refine r_lconst (v := 0) C (dx dX7_says 2 rfl) rfl ?_
  refine r_ldc2 C n_X7_77 (dx dX7_says 3 rfl) ?_
  refine r_csP (as := [vl s.toInt64, vl 0, vl 7]) (st := []) (v := vi (b2i (inR s 8))) C X I_X7_in l_X7_67 (c_inR (b := 7) (by decide) (by decide)) (by decide) (Nat.le_of_ble_eq_true rfl) List.prefix_rfl (Nat.le_of_ble_eq_true rfl) rfl (dx dX7_says 4 rfl) ?_
  refine rb_eq (b := inR s 8) (tgt := 24) C (dx dX7_says 5 rfl) (by decide) (fun c1 => ?_) (fun c1 => ?_)
  ·
    have c1 : (inR s 8) = false := c1
    refine r_aload_n C (dx dX7_says 12 rfl) rfl ?_
    refine r_bipush (v := -2) C (dx dX7_says 13 rfl) rfl ?_
    refine r_cv (as := [vi (-2)]) (st := []) C X I_X7_refuse l_X7_83 (e_refuse hm (x := -2) (j := 2) (by decide) (by decide)) (by decide) (Nat.le_of_ble_eq_true rfl) List.prefix_rfl List.prefix_rfl rfl rfl (Nat.le_of_ble_eq_true rfl) rfl (dx dX7_says 14 rfl) ?_
    rintro _ h2 ⟨rfl, m9h2, qh2⟩ kkh2
    have mh2 : MilAt h2 k v := m9h2
    have ph2 : Kp k h h2 := qh2
    have kh2 : xK h2 = xK h := kkh2
    have eA : sayA v g s x = -2 := by simp [sayA, c1]
    exact F.1 _ _ _ _ .int rfl rfl (dx dX7_says 15 rfl) kh2 ⟨by (rw [eA]; first | done | rfl), by exact mh2, ph2⟩
  ·
    have c1 : (inR s 8) = true := c1
    obtain ⟨σ, hσ, rfl⟩ := inR_ex (n := 8) (by omega) c1
    refine r_iload_n C (dx dX7_says 6 rfl) rfl ?_
    refine r_i2l C (dx dX7_says 7 rfl) ?_
    refine r_lconst (v := 0) C (dx dX7_says 8 rfl) rfl ?_
    refine r_ldc2 C n_X7_94 (dx dX7_says 9 rfl) ?_
    refine r_csP (as := [vl x.toInt64, vl 0, vl 5]) (st := []) (v := vi (b2i (inR x 6))) C X I_X7_in l_X7_67 (c_inR (b := 5) (by decide) (by decide)) (by decide) (Nat.le_of_ble_eq_true rfl) List.prefix_rfl (Nat.le_of_ble_eq_true rfl) rfl (dx dX7_says 10 rfl) ?_
    refine rb_ne (b := inR x 6) (tgt := 31) C (dx dX7_says 11 rfl) (by decide) (fun c3 => ?_) (fun c3 => ?_)
    ·
      have c3 : (inR x 6) = true := c3
      rcases hs σ hσ with ⟨a11, a21⟩ | ⟨τ1, ν1, a11, a21, a31, a41, a51, a61, a71, a81⟩ | ⟨κ1, b1, a11, a21, a31, a41, a51, a61, a71, a81⟩
      ·
        obtain ⟨e01, e11, e21, e31, e41, e51, e61⟩ := sh_bare hσ a21
        refine r_aload_n C (dx dX7_says 16 rfl) rfl ?_
        refine g_X7_7 C (dx dX7_says 17 rfl) ?_
        refine r_iload_n C (dx dX7_says 18 rfl) rfl ?_
        refine r_iald (j := σ) (x := nI 0) C rfl rfl (by decide) rfl (by omega) (dx dX7_says 19 rfl) a11 ?_
        refine r_iconst (v := nI 1) C (dx dX7_says 20 rfl) rfl ?_
        refine rn_eq (a := 0) (b := 1) (tgt := 64) C (by omega) (by omega) (dx dX7_says 21 rfl) (by decide) (fun c4 => ?_) (fun c4 => ?_)
        · first
          | (omega; done)
          | (
              have c4 : 0 = 1 := c4
              refine r_aload_n C (dx dX7_says 35 rfl) rfl ?_
              refine r_bipush (v := -3) C (dx dX7_says 36 rfl) rfl ?_
              refine r_cv (as := [vi (-3)]) (st := []) C X I_X7_refuse l_X7_83 (e_refuse hm (x := -3) (j := 3) (by decide) (by decide)) (by decide) (Nat.le_of_ble_eq_true rfl) List.prefix_rfl List.prefix_rfl rfl rfl (Nat.le_of_ble_eq_true rfl) rfl (dx dX7_says 37 rfl) ?_
              rintro _ h5 ⟨rfl, m9h5, qh5⟩ kkh5
              have mh5 : MilAt h5 k v := m9h5
              have ph5 : Kp k h h5 := qh5
              have kh5 : xK h5 = xK h := kkh5
              have eA : sayA v g (nI σ) x = -3 := by simp [sayA, c1, c3, c4, e01, e11, e21, e31, e41, e51, e61, clN (show σ < 2 ^ 31 by omega), inR_nI (show σ < 2 ^ 31 by omega), show σ < 8 by omega]
              exact F.1 _ _ _ _ .int rfl rfl (dx dX7_says 38 rfl) kh5 ⟨by (rw [eA]; first | done | rfl), by exact mh5, ph5⟩)
        · first
          | (omega; done)
          | (
              have c4 : ¬ 0 = 1 := c4
              refine r_aload_n C (dx dX7_says 22 rfl) rfl ?_
              refine g_X7_7 C (dx dX7_says 23 rfl) ?_
              refine r_iload_n C (dx dX7_says 24 rfl) rfl ?_
              refine r_iald (j := σ) (x := nI 0) C rfl rfl (by decide) rfl (by omega) (dx dX7_says 25 rfl) a11 ?_
              refine r_iconst (v := nI 2) C (dx dX7_says 26 rfl) rfl ?_
              refine rn_ne (a := 0) (b := 2) (tgt := 71) C (by omega) (by omega) (dx dX7_says 27 rfl) (by decide) (fun c6 => ?_) (fun c6 => ?_)
              · first
                | (omega; done)
                | (
                    have c6 : ¬ 0 = 2 := c6
                    refine r_aload_n C (dx dX7_says 39 rfl) rfl ?_
                    refine g_X7_7 C (dx dX7_says 40 rfl) ?_
                    refine r_iload_n C (dx dX7_says 41 rfl) rfl ?_
                    refine r_iald (j := σ) (x := nI 0) C rfl rfl (by decide) rfl (by omega) (dx dX7_says 42 rfl) a11 ?_
                    refine r_if_ne (tgt := 87) C (dx dX7_says 43 rfl) (by decide) (fun c7 => (show False from by revert c7; decide).elim) (fun _ => ?_)
                    refine r_aload_n C (dx dX7_says 44 rfl) rfl ?_
                    refine r_bipush (v := -4) C (dx dX7_says 45 rfl) rfl ?_
                    refine r_cv (as := [vi (-4)]) (st := []) C X I_X7_refuse l_X7_83 (e_refuse hm (x := -4) (j := 4) (by decide) (by decide)) (by decide) (Nat.le_of_ble_eq_true rfl) List.prefix_rfl List.prefix_rfl rfl rfl (Nat.le_of_ble_eq_true rfl) rfl (dx dX7_says 46 rfl) ?_
                    rintro _ h8 ⟨rfl, m9h8, qh8⟩ kkh8
                    have mh8 : MilAt h8 k v := m9h8
                    have ph8 : Kp k h h8 := qh8
                    have kh8 : xK h8 = xK h := kkh8
                    have eA : sayA v g (nI σ) x = -4 := by simp [sayA, c1, c3, c4, c6, e01, e11, e21, e31, e41, e51, e61, clN (show σ < 2 ^ 31 by omega), inR_nI (show σ < 2 ^ 31 by omega), show σ < 8 by omega]
                    exact F.1 _ _ _ _ .int rfl rfl (dx dX7_says 47 rfl) kh8 ⟨by (rw [eA]; first | done | rfl), by exact mh8, ph8⟩)
              · first
                | (omega; done)
                | (
                    have c6 : 0 = 2 := c6
                    refine r_aload_n C (dx dX7_says 28 rfl) rfl ?_
                    refine g_X7_28 C (dx dX7_says 29 rfl) ?_
                    refine r_iload_n C (dx dX7_says 30 rfl) rfl ?_
                    refine r_iald (j := σ) (x := xI h (k + 14) σ) C rfl rfl (by decide) rfl (by omega) (dx dX7_says 31 rfl) rfl ?_
                    refine r_iload_n C (dx dX7_says 32 rfl) rfl ?_
                    refine r_csP (as := [vi (xI h (k + 14) σ), vi x]) (st := []) (v := vi (b2i (undV (xI h (k + 14) σ) x))) C X I_X7_isUnder l_X7_98 (c_X7_isUnder _ _) (by decide) (Nat.le_of_ble_eq_true rfl) List.prefix_rfl (Nat.le_of_ble_eq_true rfl) rfl (dx dX7_says 33 rfl) ?_
                    refine rb_ne (b := undV (xI h (k + 14) σ) x) (tgt := 71) C (dx dX7_says 34 rfl) (by decide) (fun c9 => ?_) (fun c9 => ?_)
                    ·
                      have c9 : (undV (xI h (k + 14) σ) x) = true := c9
                      refine r_aload_n C (dx dX7_says 39 rfl) rfl ?_
                      refine g_X7_7 C (dx dX7_says 40 rfl) ?_
                      refine r_iload_n C (dx dX7_says 41 rfl) rfl ?_
                      refine r_iald (j := σ) (x := nI 0) C rfl rfl (by decide) rfl (by omega) (dx dX7_says 42 rfl) a11 ?_
                      refine r_if_ne (tgt := 87) C (dx dX7_says 43 rfl) (by decide) (fun c10 => (show False from by revert c10; decide).elim) (fun _ => ?_)
                      refine r_aload_n C (dx dX7_says 44 rfl) rfl ?_
                      refine r_bipush (v := -4) C (dx dX7_says 45 rfl) rfl ?_
                      refine r_cv (as := [vi (-4)]) (st := []) C X I_X7_refuse l_X7_83 (e_refuse hm (x := -4) (j := 4) (by decide) (by decide)) (by decide) (Nat.le_of_ble_eq_true rfl) List.prefix_rfl List.prefix_rfl rfl rfl (Nat.le_of_ble_eq_true rfl) rfl (dx dX7_says 46 rfl) ?_
                      rintro _ h11 ⟨rfl, m9h11, qh11⟩ kkh11
                      have mh11 : MilAt h11 k v := m9h11
                      have ph11 : Kp k h h11 := qh11
                      have kh11 : xK h11 = xK h := kkh11
                      have eA : sayA v g (nI σ) x = -4 := by simp [sayA, c1, c3, c4, c6, c9, e01, e11, e21, e31, e41, e51, e61, clN (show σ < 2 ^ 31 by omega), inR_nI (show σ < 2 ^ 31 by omega), show σ < 8 by omega]
                      exact F.1 _ _ _ _ .int rfl rfl (dx dX7_says 47 rfl) kh11 ⟨by (rw [eA]; first | done | rfl), by exact mh11, ph11⟩
                    ·
                      have c9 : (undV (xI h (k + 14) σ) x) = false := c9
                      refine r_aload_n C (dx dX7_says 35 rfl) rfl ?_
                      refine r_bipush (v := -3) C (dx dX7_says 36 rfl) rfl ?_
                      refine r_cv (as := [vi (-3)]) (st := []) C X I_X7_refuse l_X7_83 (e_refuse hm (x := -3) (j := 3) (by decide) (by decide)) (by decide) (Nat.le_of_ble_eq_true rfl) List.prefix_rfl List.prefix_rfl rfl rfl (Nat.le_of_ble_eq_true rfl) rfl (dx dX7_says 37 rfl) ?_
                      rintro _ h12 ⟨rfl, m9h12, qh12⟩ kkh12
                      have mh12 : MilAt h12 k v := m9h12
                      have ph12 : Kp k h h12 := qh12
                      have kh12 : xK h12 = xK h := kkh12
                      have eA : sayA v g (nI σ) x = -3 := by simp [sayA, c1, c3, c4, c6, c9, e01, e11, e21, e31, e41, e51, e61, clN (show σ < 2 ^ 31 by omega), inR_nI (show σ < 2 ^ 31 by omega), show σ < 8 by omega]
                      exact F.1 _ _ _ _ .int rfl rfl (dx dX7_says 38 rfl) kh12 ⟨by (rw [eA]; first | done | rfl), by exact mh12, ph12⟩))
      ·
        obtain ⟨e01, e11, e21, e31, e41, e51, e61⟩ := sh_row hσ a11 a61 a71
        refine r_aload_n C (dx dX7_says 16 rfl) rfl ?_
        refine g_X7_7 C (dx dX7_says 17 rfl) ?_
        refine r_iload_n C (dx dX7_says 18 rfl) rfl ?_
        refine r_iald (j := σ) (x := nI 1) C rfl rfl (by decide) rfl (by omega) (dx dX7_says 19 rfl) a31 ?_
        refine r_iconst (v := nI 1) C (dx dX7_says 20 rfl) rfl ?_
        refine rn_eq (a := 1) (b := 1) (tgt := 64) C (by omega) (by omega) (dx dX7_says 21 rfl) (by decide) (fun c13 => ?_) (fun c13 => ?_)
        · first
          | (omega; done)
          | (
              have c13 : 1 = 1 := c13
              refine r_aload_n C (dx dX7_says 35 rfl) rfl ?_
              refine r_bipush (v := -3) C (dx dX7_says 36 rfl) rfl ?_
              refine r_cv (as := [vi (-3)]) (st := []) C X I_X7_refuse l_X7_83 (e_refuse hm (x := -3) (j := 3) (by decide) (by decide)) (by decide) (Nat.le_of_ble_eq_true rfl) List.prefix_rfl List.prefix_rfl rfl rfl (Nat.le_of_ble_eq_true rfl) rfl (dx dX7_says 37 rfl) ?_
              rintro _ h14 ⟨rfl, m9h14, qh14⟩ kkh14
              have mh14 : MilAt h14 k v := m9h14
              have ph14 : Kp k h h14 := qh14
              have kh14 : xK h14 = xK h := kkh14
              have eA : sayA v g (nI σ) x = -3 := by simp [sayA, c1, c3, c13, e01, e11, e21, e31, e41, e51, e61, clN (show σ < 2 ^ 31 by omega), inR_nI (show σ < 2 ^ 31 by omega), show σ < 8 by omega]
              exact F.1 _ _ _ _ .int rfl rfl (dx dX7_says 38 rfl) kh14 ⟨by (rw [eA]; first | done | rfl), by exact mh14, ph14⟩)
        · first
          | (omega; done)
          | (
              have c13 : ¬ 1 = 1 := c13
              refine r_aload_n C (dx dX7_says 22 rfl) rfl ?_
              refine g_X7_7 C (dx dX7_says 23 rfl) ?_
              refine r_iload_n C (dx dX7_says 24 rfl) rfl ?_
              refine r_iald (j := σ) (x := nI 1) C rfl rfl (by decide) rfl (by omega) (dx dX7_says 25 rfl) a31 ?_
              refine r_iconst (v := nI 2) C (dx dX7_says 26 rfl) rfl ?_
              refine rn_ne (a := 1) (b := 2) (tgt := 71) C (by omega) (by omega) (dx dX7_says 27 rfl) (by decide) (fun c15 => ?_) (fun c15 => ?_)
              · first
                | (omega; done)
                | (
                    have c15 : ¬ 1 = 2 := c15
                    refine r_aload_n C (dx dX7_says 39 rfl) rfl ?_
                    refine g_X7_7 C (dx dX7_says 40 rfl) ?_
                    refine r_iload_n C (dx dX7_says 41 rfl) rfl ?_
                    refine r_iald (j := σ) (x := nI 1) C rfl rfl (by decide) rfl (by omega) (dx dX7_says 42 rfl) a31 ?_
                    refine r_if_ne (tgt := 87) C (dx dX7_says 43 rfl) (by decide) (fun _ => ?_) (fun c16 => (show False from by revert c16; decide).elim)
                    refine r_iload_n C (dx dX7_says 48 rfl) rfl ?_
                    refine r_if_ne (tgt := 98) C (dx dX7_says 49 rfl) (by decide) (fun c17 => ?_) (fun c17 => ?_)
                    ·
                      have c17 : ¬ x = 0 := c17
                      exact absurd XX hn
                    ·
                      have c17 : x = 0 := c17
                      refine r_aload_n C (dx dX7_says 50 rfl) rfl ?_
                      refine g_X7_31 C (dx dX7_says 51 rfl) ?_
                      refine r_iload_n C (dx dX7_says 52 rfl) rfl ?_
                      refine r_iald (j := σ) (x := xI h (k + 15) σ) C rfl rfl (by decide) rfl (by omega) (dx dX7_says 53 rfl) rfl ?_
                      have eA : sayA v g (nI σ) x = xI h (k + 15) σ := by simp [sayA, c1, c3, c13, c15, c17, e01, e11, e21, e31, e41, e51, e61, clN (show σ < 2 ^ 31 by omega), inR_nI (show σ < 2 ^ 31 by omega), show σ < 8 by omega]
                      exact F.1 _ _ _ _ .int rfl rfl (dx dX7_says 54 rfl) rfl ⟨by (rw [eA]; first | done | rfl), by exact hm, Kp.rf⟩)
              · first
                | (omega; done)
                | (
                    have c15 : 1 = 2 := c15
                    refine r_aload_n C (dx dX7_says 28 rfl) rfl ?_
                    refine g_X7_28 C (dx dX7_says 29 rfl) ?_
                    refine r_iload_n C (dx dX7_says 30 rfl) rfl ?_
                    refine r_iald (j := σ) (x := xI h (k + 14) σ) C rfl rfl (by decide) rfl (by omega) (dx dX7_says 31 rfl) rfl ?_
                    refine r_iload_n C (dx dX7_says 32 rfl) rfl ?_
                    refine r_csP (as := [vi (xI h (k + 14) σ), vi x]) (st := []) (v := vi (b2i (undV (xI h (k + 14) σ) x))) C X I_X7_isUnder l_X7_98 (c_X7_isUnder _ _) (by decide) (Nat.le_of_ble_eq_true rfl) List.prefix_rfl (Nat.le_of_ble_eq_true rfl) rfl (dx dX7_says 33 rfl) ?_
                    refine rb_ne (b := undV (xI h (k + 14) σ) x) (tgt := 71) C (dx dX7_says 34 rfl) (by decide) (fun c18 => ?_) (fun c18 => ?_)
                    ·
                      have c18 : (undV (xI h (k + 14) σ) x) = true := c18
                      refine r_aload_n C (dx dX7_says 39 rfl) rfl ?_
                      refine g_X7_7 C (dx dX7_says 40 rfl) ?_
                      refine r_iload_n C (dx dX7_says 41 rfl) rfl ?_
                      refine r_iald (j := σ) (x := nI 1) C rfl rfl (by decide) rfl (by omega) (dx dX7_says 42 rfl) a31 ?_
                      refine r_if_ne (tgt := 87) C (dx dX7_says 43 rfl) (by decide) (fun _ => ?_) (fun c19 => (show False from by revert c19; decide).elim)
                      refine r_iload_n C (dx dX7_says 48 rfl) rfl ?_
                      refine r_if_ne (tgt := 98) C (dx dX7_says 49 rfl) (by decide) (fun c20 => ?_) (fun c20 => ?_)
                      ·
                        have c20 : ¬ x = 0 := c20
                        exact absurd XX hn
                      ·
                        have c20 : x = 0 := c20
                        refine r_aload_n C (dx dX7_says 50 rfl) rfl ?_
                        refine g_X7_31 C (dx dX7_says 51 rfl) ?_
                        refine r_iload_n C (dx dX7_says 52 rfl) rfl ?_
                        refine r_iald (j := σ) (x := xI h (k + 15) σ) C rfl rfl (by decide) rfl (by omega) (dx dX7_says 53 rfl) rfl ?_
                        have eA : sayA v g (nI σ) x = xI h (k + 15) σ := by simp [sayA, c1, c3, c13, c15, c18, c20, e01, e11, e21, e31, e41, e51, e61, clN (show σ < 2 ^ 31 by omega), inR_nI (show σ < 2 ^ 31 by omega), show σ < 8 by omega]
                        exact F.1 _ _ _ _ .int rfl rfl (dx dX7_says 54 rfl) rfl ⟨by (rw [eA]; first | done | rfl), by exact hm, Kp.rf⟩
                    ·
                      have c18 : (undV (xI h (k + 14) σ) x) = false := c18
                      refine r_aload_n C (dx dX7_says 35 rfl) rfl ?_
                      refine r_bipush (v := -3) C (dx dX7_says 36 rfl) rfl ?_
                      refine r_cv (as := [vi (-3)]) (st := []) C X I_X7_refuse l_X7_83 (e_refuse hm (x := -3) (j := 3) (by decide) (by decide)) (by decide) (Nat.le_of_ble_eq_true rfl) List.prefix_rfl List.prefix_rfl rfl rfl (Nat.le_of_ble_eq_true rfl) rfl (dx dX7_says 37 rfl) ?_
                      rintro _ h21 ⟨rfl, m9h21, qh21⟩ kkh21
                      have mh21 : MilAt h21 k v := m9h21
                      have ph21 : Kp k h h21 := qh21
                      have kh21 : xK h21 = xK h := kkh21
                      have eA : sayA v g (nI σ) x = -3 := by simp [sayA, c1, c3, c13, c15, c18, e01, e11, e21, e31, e41, e51, e61, clN (show σ < 2 ^ 31 by omega), inR_nI (show σ < 2 ^ 31 by omega), show σ < 8 by omega]
                      exact F.1 _ _ _ _ .int rfl rfl (dx dX7_says 38 rfl) kh21 ⟨by (rw [eA]; first | done | rfl), by exact mh21, ph21⟩))
      ·
        obtain ⟨e01, e11, e21, e31, e41, e51, e61, e71⟩ := sh_hold hσ a21 a71 a81
        refine r_aload_n C (dx dX7_says 16 rfl) rfl ?_
        refine g_X7_7 C (dx dX7_says 17 rfl) ?_
        refine r_iload_n C (dx dX7_says 18 rfl) rfl ?_
        refine r_iald (j := σ) (x := nI 2) C rfl rfl (by decide) rfl (by omega) (dx dX7_says 19 rfl) a41 ?_
        refine r_iconst (v := nI 1) C (dx dX7_says 20 rfl) rfl ?_
        refine rn_eq (a := 2) (b := 1) (tgt := 64) C (by omega) (by omega) (dx dX7_says 21 rfl) (by decide) (fun c22 => ?_) (fun c22 => ?_)
        · first
          | (omega; done)
          | (
              have c22 : 2 = 1 := c22
              refine r_aload_n C (dx dX7_says 35 rfl) rfl ?_
              refine r_bipush (v := -3) C (dx dX7_says 36 rfl) rfl ?_
              refine r_cv (as := [vi (-3)]) (st := []) C X I_X7_refuse l_X7_83 (e_refuse hm (x := -3) (j := 3) (by decide) (by decide)) (by decide) (Nat.le_of_ble_eq_true rfl) List.prefix_rfl List.prefix_rfl rfl rfl (Nat.le_of_ble_eq_true rfl) rfl (dx dX7_says 37 rfl) ?_
              rintro _ h23 ⟨rfl, m9h23, qh23⟩ kkh23
              have mh23 : MilAt h23 k v := m9h23
              have ph23 : Kp k h h23 := qh23
              have kh23 : xK h23 = xK h := kkh23
              have eA : sayA v g (nI σ) x = -3 := by (unfold sayA; rw [inN (show σ < 2 ^ 31 by omega) hσ, c3, e61, if_pos (show (true && true) = true from rfl), if_pos (show nI 0 = 0 from rfl), kd_hold hσ a21 a71 a81, if_neg (by rw [None]; decide)])
              exact F.1 _ _ _ _ .int rfl rfl (dx dX7_says 38 rfl) kh23 ⟨by (rw [eA]; first | done | rfl), by exact mh23, ph23⟩)
        · first
          | (omega; done)
          | (
              have c22 : ¬ 2 = 1 := c22
              refine r_aload_n C (dx dX7_says 22 rfl) rfl ?_
              refine g_X7_7 C (dx dX7_says 23 rfl) ?_
              refine r_iload_n C (dx dX7_says 24 rfl) rfl ?_
              refine r_iald (j := σ) (x := nI 2) C rfl rfl (by decide) rfl (by omega) (dx dX7_says 25 rfl) a41 ?_
              refine r_iconst (v := nI 2) C (dx dX7_says 26 rfl) rfl ?_
              refine rn_ne (a := 2) (b := 2) (tgt := 71) C (by omega) (by omega) (dx dX7_says 27 rfl) (by decide) (fun c24 => ?_) (fun c24 => ?_)
              · first
                | (omega; done)
                | (
                    have c24 : ¬ 2 = 2 := c24
                    refine r_aload_n C (dx dX7_says 39 rfl) rfl ?_
                    refine g_X7_7 C (dx dX7_says 40 rfl) ?_
                    refine r_iload_n C (dx dX7_says 41 rfl) rfl ?_
                    refine r_iald (j := σ) (x := nI 2) C rfl rfl (by decide) rfl (by omega) (dx dX7_says 42 rfl) a41 ?_
                    refine r_if_ne (tgt := 87) C (dx dX7_says 43 rfl) (by decide) (fun _ => ?_) (fun c25 => (show False from by revert c25; decide).elim)
                    refine r_iload_n C (dx dX7_says 48 rfl) rfl ?_
                    refine r_if_ne (tgt := 98) C (dx dX7_says 49 rfl) (by decide) (fun c26 => ?_) (fun c26 => ?_)
                    ·
                      have c26 : ¬ x = 0 := c26
                      exact absurd ⟨σ, κ1, b1, hσ, rfl, ⟨a11, a21⟩, a31, a71, a81, c3, XX, c26⟩ hn
                    ·
                      have c26 : x = 0 := c26
                      refine r_aload_n C (dx dX7_says 50 rfl) rfl ?_
                      refine g_X7_31 C (dx dX7_says 51 rfl) ?_
                      refine r_iload_n C (dx dX7_says 52 rfl) rfl ?_
                      refine r_iald (j := σ) (x := nI b1) C rfl rfl (by decide) rfl (by omega) (dx dX7_says 53 rfl) a61 ?_
                      have eA : sayA v g (nI σ) x = nI b1 := by (unfold sayA; rw [inN (show σ < 2 ^ 31 by omega) hσ, c3, e61, if_pos (show (true && true) = true from rfl), if_pos (show nI 0 = 0 from rfl), kd_hold hσ a21 a71 a81, if_neg (by rw [None]; decide)])
                      exact F.1 _ _ _ _ .int rfl rfl (dx dX7_says 54 rfl) rfl ⟨by (rw [eA]; first | done | rfl), by exact hm, Kp.rf⟩)
              · first
                | (omega; done)
                | (
                    have c24 : 2 = 2 := c24
                    refine r_aload_n C (dx dX7_says 28 rfl) rfl ?_
                    refine g_X7_28 C (dx dX7_says 29 rfl) ?_
                    refine r_iload_n C (dx dX7_says 30 rfl) rfl ?_
                    refine r_iald (j := σ) (x := nI κ1) C rfl rfl (by decide) rfl (by omega) (dx dX7_says 31 rfl) a51 ?_
                    refine r_iload_n C (dx dX7_says 32 rfl) rfl ?_
                    refine r_csP (as := [vi (nI κ1), vi x]) (st := []) (v := vi (b2i (undV (nI κ1) x))) C X I_X7_isUnder l_X7_98 (c_X7_isUnder _ _) (by decide) (Nat.le_of_ble_eq_true rfl) List.prefix_rfl (Nat.le_of_ble_eq_true rfl) rfl (dx dX7_says 33 rfl) ?_
                    refine rb_ne (b := undV (nI κ1) x) (tgt := 71) C (dx dX7_says 34 rfl) (by decide) (fun c27 => ?_) (fun c27 => ?_)
                    ·
                      have c27 : (undV (nI κ1) x) = true := c27
                      refine r_aload_n C (dx dX7_says 39 rfl) rfl ?_
                      refine g_X7_7 C (dx dX7_says 40 rfl) ?_
                      refine r_iload_n C (dx dX7_says 41 rfl) rfl ?_
                      refine r_iald (j := σ) (x := nI 2) C rfl rfl (by decide) rfl (by omega) (dx dX7_says 42 rfl) a41 ?_
                      refine r_if_ne (tgt := 87) C (dx dX7_says 43 rfl) (by decide) (fun _ => ?_) (fun c28 => (show False from by revert c28; decide).elim)
                      refine r_iload_n C (dx dX7_says 48 rfl) rfl ?_
                      refine r_if_ne (tgt := 98) C (dx dX7_says 49 rfl) (by decide) (fun c29 => ?_) (fun c29 => ?_)
                      ·
                        have c29 : ¬ x = 0 := c29
                        exact absurd ⟨σ, κ1, b1, hσ, rfl, ⟨a11, a21⟩, a31, a71, a81, c3, c27, c29⟩ hn
                      ·
                        have c29 : x = 0 := c29
                        refine r_aload_n C (dx dX7_says 50 rfl) rfl ?_
                        refine g_X7_31 C (dx dX7_says 51 rfl) ?_
                        refine r_iload_n C (dx dX7_says 52 rfl) rfl ?_
                        refine r_iald (j := σ) (x := nI b1) C rfl rfl (by decide) rfl (by omega) (dx dX7_says 53 rfl) a61 ?_
                        have eA : sayA v g (nI σ) x = nI b1 := by (unfold sayA; rw [inN (show σ < 2 ^ 31 by omega) hσ, c3, e61, if_pos (show (true && true) = true from rfl), if_pos (show nI 0 = 0 from rfl), kd_hold hσ a21 a71 a81, if_pos c27, if_pos c29, e71])
                        exact F.1 _ _ _ _ .int rfl rfl (dx dX7_says 54 rfl) rfl ⟨by (rw [eA]; first | done | rfl), by exact hm, Kp.rf⟩
                    ·
                      have c27 : (undV (nI κ1) x) = false := c27
                      refine r_aload_n C (dx dX7_says 35 rfl) rfl ?_
                      refine r_bipush (v := -3) C (dx dX7_says 36 rfl) rfl ?_
                      refine r_cv (as := [vi (-3)]) (st := []) C X I_X7_refuse l_X7_83 (e_refuse hm (x := -3) (j := 3) (by decide) (by decide)) (by decide) (Nat.le_of_ble_eq_true rfl) List.prefix_rfl List.prefix_rfl rfl rfl (Nat.le_of_ble_eq_true rfl) rfl (dx dX7_says 37 rfl) ?_
                      rintro _ h30 ⟨rfl, m9h30, qh30⟩ kkh30
                      have mh30 : MilAt h30 k v := m9h30
                      have ph30 : Kp k h h30 := qh30
                      have kh30 : xK h30 = xK h := kkh30
                      have eA : sayA v g (nI σ) x = -3 := by (unfold sayA; rw [inN (show σ < 2 ^ 31 by omega) hσ, c3, e61, if_pos (show (true && true) = true from rfl), if_pos (show nI 0 = 0 from rfl), kd_hold hσ a21 a71 a81, if_neg (by rw [c27]; decide)])
                      exact F.1 _ _ _ _ .int rfl rfl (dx dX7_says 38 rfl) kh30 ⟨by (rw [eA]; first | done | rfl), by exact mh30, ph30⟩))
    ·
      have c3 : (inR x 6) = false := c3
      refine r_aload_n C (dx dX7_says 12 rfl) rfl ?_
      refine r_bipush (v := -2) C (dx dX7_says 13 rfl) rfl ?_
      refine r_cv (as := [vi (-2)]) (st := []) C X I_X7_refuse l_X7_83 (e_refuse hm (x := -2) (j := 2) (by decide) (by decide)) (by decide) (Nat.le_of_ble_eq_true rfl) List.prefix_rfl List.prefix_rfl rfl rfl (Nat.le_of_ble_eq_true rfl) rfl (dx dX7_says 14 rfl) ?_
      rintro _ h31 ⟨rfl, m9h31, qh31⟩ kkh31
      have mh31 : MilAt h31 k v := m9h31
      have ph31 : Kp k h h31 := qh31
      have kh31 : xK h31 = xK h := kkh31
      have eA : sayA v g (nI σ) x = -2 := by simp [sayA, c1, c3, clN (show σ < 2 ^ 31 by omega), inR_nI (show σ < 2 ^ 31 by omega), show σ < 8 by omega]
      exact F.1 _ _ _ _ .int rfl rfl (dx dX7_says 15 rfl) kh31 ⟨by (rw [eA]; first | done | rfl), by exact mh31, ph31⟩
set_option maxHeartbeats 4000000 in
theorem w_trust_y {l : Launch} {h : Hp} {P : List Nat} {k z : Nat} {v : Vg} {g : Sg} {κ τ : Bool} {ω : Vg} {Bt : Nat → Int32} (M : Md h P k v g z κ τ) (x0 : XT h k κ ω Bt) {o1 o2 : Int32} (q1 : inR o1 (vN v) = true) (q2 : inR o2 (vN v) = true) (q3 : ¬ o1 = o2) : Ms l yX7_trust cX7_trust 5 (some .long) 5 [vr 7 k, vi o1, vi o2] h (AL P κ true) (fun r h' => r = some (vl (dyR (handV v o1 o2 (vP v)) - dyR v)) ∧ Md h' P k v g z κ true ∧ Lo k h h' ∧ XT h' k κ ω Bt) := by
  refine Ms.of (by decide) (Nat.le_of_ble_eq_true rfl) (fun G C X F => ?_)
  have C : Cx G cX7_trust 5 RX7 := C
  show Rr G 0 [(0, vr 7 k), (1, vi o1), (2, vi o2)] [] h
  have hm := M.1
  have hs := M.2.1
  have al := M.al
  have hk7 := M.hk
  have bP := hm.bP
  have bM := hm.bM
  have bN := hm.bN
  refine r_aload_n C (dx dX7_trust 0 rfl) rfl ?_
  refine r_iload_n C (dx dX7_trust 1 rfl) rfl ?_
  refine r_cvP (as := [vi o1]) (st := []) (v := vi (b2i (inR o1 (vN v)))) C X I_X7_isOne l_X7_125 (c_X7_isOne hm _) (by decide) (Nat.le_of_ble_eq_true rfl) (by first | exact List.prefix_rfl | (rw [al]; exact AL_pre id (fun _ => rfl))) rfl rfl (Nat.le_of_ble_eq_true rfl) rfl (dx dX7_trust 2 rfl) ?_
  refine rb_eq (b := inR o1 (vN v)) (tgt := 21) C (dx dX7_trust 3 rfl) (by decide) (fun c1 => ?_) (fun c1 => ?_)
  ·
    have c1 : (inR o1 (vN v)) = false := c1
    exact absurd (q1.symm.trans c1) (by decide)
  ·
    have c1 : (inR o1 (vN v)) = true := c1
    refine r_aload_n C (dx dX7_trust 4 rfl) rfl ?_
    refine r_iload_n C (dx dX7_trust 5 rfl) rfl ?_
    refine r_cvP (as := [vi o2]) (st := []) (v := vi (b2i (inR o2 (vN v)))) C X I_X7_isOne l_X7_125 (c_X7_isOne hm _) (by decide) (Nat.le_of_ble_eq_true rfl) (by first | exact List.prefix_rfl | (rw [al]; exact AL_pre id (fun _ => rfl))) rfl rfl (Nat.le_of_ble_eq_true rfl) rfl (dx dX7_trust 6 rfl) ?_
    refine rb_eq (b := inR o2 (vN v)) (tgt := 21) C (dx dX7_trust 7 rfl) (by decide) (fun c2 => ?_) (fun c2 => ?_)
    ·
      have c2 : (inR o2 (vN v)) = false := c2
      exact absurd (q2.symm.trans c2) (by decide)
    ·
      have c2 : (inR o2 (vN v)) = true := c2
      refine r_iload_n C (dx dX7_trust 8 rfl) rfl ?_
      refine r_iload_n C (dx dX7_trust 9 rfl) rfl ?_
      refine r_icmp_ne (tgt := 33) C (dx dX7_trust 10 rfl) (by decide) (fun c3 => ?_) (fun c3 => ?_)
      ·
        have c3 : ¬ o1 = o2 := c3
        refine r_aload_n C (dx dX7_trust 18 rfl) rfl ?_
        refine r_cv (as := []) (st := []) C X I_X7_fresh l_X7_102 (e_fresh M x0) (by decide) (Nat.le_of_ble_eq_true rfl) (by rw [M.al]; exact AL_pre id (fun _ => rfl)) (by first | exact List.prefix_rfl | (rw [al]; exact AL_pre id (fun _ => rfl))) rfl rfl (Nat.le_of_ble_eq_true rfl) rfl (dx dX7_trust 19 rfl) ?_
        rintro _ hF ⟨b, rfl, ebF, BF, MF, hb, hlF, loF, xF⟩ kF
        refine r_astore_n (ls' := [(0, vr 7 k), (1, vi o1), (2, vi o2), (3, vr 7 b)]) C (dx dX7_trust 20 rfl) (by decide) [1, 2, 3, 0] rfl ?_
        refine r_iconst (v := nI 0) C (dx dX7_trust 21 rfl) rfl ?_
        refine r_istore (ls' := [(0, vr 7 k), (1, vi o1), (2, vi o2), (3, vr 7 b), (4, vi (nI 0))]) C (dx dX7_trust 22 rfl) (by decide) [1, 2, 3, 4, 0] rfl ?_
        refine loopU (Φ := fun p => ∀ h9, Md h9 P k v g z κ true → MilAt h9 b (handV v o1 o2 p) → Lo k h h9 → XT h9 k κ ω Bt → xN h9 k 22 = b + 1 → xK h9 = AL P κ true → Rr G 41 [(0, vr 7 k), (1, vi o1), (2, vi o2), (3, vr 7 b), (4, vi (nI p))] [] h9) (N := vP v) ?_ ?_ 0 (Nat.zero_le _) _ MF (by rw [hnd_0]; exact BF) loF xF ebF kF
        ·
          intro h9 M9 B9 lo9 x9 eb9 k9
          have hl9 : b + 32 ≤ (xK h9).length := by rw [k9, ← kF]; exact hlF
          refine r_iload C (dx dX7_trust 23 rfl) rfl ?_
          refine r_aload_n C (dx dX7_trust 24 rfl) rfl ?_
          refine g_X7_64 (x := nI (vP v)) C (dx dX7_trust 25 rfl) M9.1.eP ?_
          refine rn_ge (a := (vP v)) (b := vP v) (tgt := 114) C (by omega) (by omega) (dx dX7_trust 26 rfl) (by decide) (fun c4 => ?_) (fun c4 => ?_)
          · first
            | (omega; done)
            | (
                have c4 : vP v ≤ (vP v) := c4
                refine r_aload_n C (dx dX7_trust 61 rfl) rfl ?_
                refine r_cvP (as := []) (st := []) (v := vl (dyR (handV v o1 o2 (vP v)))) C X I_X7_day l_X7_295 (e_day B9) (by decide) (Nat.le_of_ble_eq_true rfl) (pfx_eq k9) rfl rfl (Nat.le_of_ble_eq_true rfl) rfl (dx dX7_trust 62 rfl) ?_
                refine r_aload_n C (dx dX7_trust 63 rfl) rfl ?_
                refine r_cvP (as := []) (st := [vl (dyR (handV v o1 o2 (vP v)))]) (v := vl (dyR v)) C X I_X7_day l_X7_295 (e_day M9.1) (by decide) (Nat.le_of_ble_eq_true rfl) (pfx_eq k9) rfl rfl (Nat.le_of_ble_eq_true rfl) rfl (dx dX7_trust 64 rfl) ?_
                refine r_lsub C (dx dX7_trust 65 rfl) ?_
                exact F.2.1 _ _ _ _ rfl (dx dX7_trust 66 rfl) k9 ⟨rfl, M9, lo9, x9⟩)
          · first
            | (omega; done)
        ·
          intro p hp ih h9 M9 B9 lo9 x9 eb9 k9
          have hl9 : b + 32 ≤ (xK h9).length := by rw [k9, ← kF]; exact hlF
          refine r_iload C (dx dX7_trust 23 rfl) rfl ?_
          refine r_aload_n C (dx dX7_trust 24 rfl) rfl ?_
          refine g_X7_64 (x := nI (vP v)) C (dx dX7_trust 25 rfl) M9.1.eP ?_
          refine rn_ge (a := p) (b := vP v) (tgt := 114) C (by omega) (by omega) (dx dX7_trust 26 rfl) (by decide) (fun c9 => ?_) (fun c9 => ?_)
          · first
            | (omega; done)
            | (
                have c9 : vP v ≤ p := c9
                refine r_aload_n C (dx dX7_trust 61 rfl) rfl ?_
                refine r_cvP (as := []) (st := []) (v := vl (dyR (handV v o1 o2 p))) C X I_X7_day l_X7_295 (e_day B9) (by decide) (Nat.le_of_ble_eq_true rfl) (pfx_eq k9) rfl rfl (Nat.le_of_ble_eq_true rfl) rfl (dx dX7_trust 62 rfl) ?_
                refine r_aload_n C (dx dX7_trust 63 rfl) rfl ?_
                refine r_cvP (as := []) (st := [vl (dyR (handV v o1 o2 p))]) (v := vl (dyR v)) C X I_X7_day l_X7_295 (e_day M9.1) (by decide) (Nat.le_of_ble_eq_true rfl) (pfx_eq k9) rfl rfl (Nat.le_of_ble_eq_true rfl) rfl (dx dX7_trust 64 rfl) ?_
                refine r_lsub C (dx dX7_trust 65 rfl) ?_
                have eA : dyR (handV v o1 o2 (vP v)) - dyR v = (dyR (handV v o1 o2 p)) - (dyR v) := by rfl
                exact F.2.1 _ _ _ _ rfl (dx dX7_trust 66 rfl) k9 ⟨by (rw [eA]; first | done | rfl), M9, lo9, x9⟩)
          · first
            | (omega; done)
            | (
                have c9 : p < vP v := c9
                refine r_aload_n C (dx dX7_trust 27 rfl) rfl ?_
                refine g_X7_40 C (dx dX7_trust 28 rfl) ?_
                refine r_iload C (dx dX7_trust 29 rfl) rfl ?_
                refine r_aload_n C (dx dX7_trust 30 rfl) rfl ?_
                refine g_X7_40 C (dx dX7_trust 31 rfl) ?_
                refine r_iload C (dx dX7_trust 32 rfl) rfl ?_
                refine r_iald (j := p) (x := vF v 0 p) C rfl rfl (by decide) rfl (by omega) (dx dX7_trust 33 rfl) (M9.1.e0 (by omega)) ?_
                refine r_iload_n C (dx dX7_trust 34 rfl) rfl ?_
                refine r_icmp_ne (tgt := 71) C (dx dX7_trust 35 rfl) (by decide) (fun c10 => ?_) (fun c10 => ?_)
                ·
                  have c10 : ¬ vF v 0 p = o1 := c10
                  refine r_aload_n C (dx dX7_trust 38 rfl) rfl ?_
                  refine g_X7_40 C (dx dX7_trust 39 rfl) ?_
                  refine r_iload C (dx dX7_trust 40 rfl) rfl ?_
                  refine r_iald (j := p) (x := vF v 0 p) C rfl rfl (by decide) rfl (by omega) (dx dX7_trust 41 rfl) (M9.1.e0 (by omega)) ?_
                  refine r_iast (j := p) C rfl rfl (by decide) rfl (by omega) (dx dX7_trust 42 rfl) ?_
                  have Bh11 : MilAt (sI h9 (b + 18) p (vF v 0 p)) b (vset (handV v o1 o2 p) 0 p (vF v 0 p)) := B9.s0
                  have qh11 : Kp b h9 (sI h9 (b + 18) p (vF v 0 p)) := Kp.c (by omega) (by omega)
                  have xh11 : XT (sI h9 (b + 18) p (vF v 0 p)) k κ ω Bt := x9.tk M9 hb eb9 qh11
                  have Mh11 := M9.tk (b := b) hb hl9 Bh11 qh11 (show xK (sI h9 (b + 18) p (vF v 0 p)) = xK h9 from rfl)
                  have loh11 : Lo k h (sI h9 (b + 18) p (vF v 0 p)) := lo9.tr (Lo.fr (Fr.vc qh11) (by omega))
                  have ebh11 : xN (sI h9 (b + 18) p (vF v 0 p)) k 22 = b + 1 := by rw [((Fr.vc qh11) k (by omega)).2.2]; exact eb9
                  have hlh11 : b + 32 ≤ (xK (sI h9 (b + 18) p (vF v 0 p))).length := by rw [show xK (sI h9 (b + 18) p (vF v 0 p)) = xK h9 from rfl]; exact hl9
                  have kh11 : xK (sI h9 (b + 18) p (vF v 0 p)) = AL P κ true := (show xK (sI h9 (b + 18) p (vF v 0 p)) = xK h9 from rfl).trans k9
                  generalize sI h9 (b + 18) p (vF v 0 p) = h11 at Bh11 qh11 Mh11 loh11 ebh11 hlh11 kh11 xh11 ⊢
                  refine r_aload_n C (dx dX7_trust 43 rfl) rfl ?_
                  refine g_X7_43 C (dx dX7_trust 44 rfl) ?_
                  refine r_iload C (dx dX7_trust 45 rfl) rfl ?_
                  refine r_aload_n C (dx dX7_trust 46 rfl) rfl ?_
                  refine g_X7_43 C (dx dX7_trust 47 rfl) ?_
                  refine r_iload C (dx dX7_trust 48 rfl) rfl ?_
                  refine r_iald (j := p) (x := vF v 1 p) C rfl rfl (by decide) rfl (by omega) (dx dX7_trust 49 rfl) (Mh11.1.e1 (by omega)) ?_
                  refine r_iload_n C (dx dX7_trust 50 rfl) rfl ?_
                  refine r_icmp_ne (tgt := 100) C (dx dX7_trust 51 rfl) (by decide) (fun c12 => ?_) (fun c12 => ?_)
                  ·
                    have c12 : ¬ vF v 1 p = o1 := c12
                    refine r_aload_n C (dx dX7_trust 54 rfl) rfl ?_
                    refine g_X7_43 C (dx dX7_trust 55 rfl) ?_
                    refine r_iload C (dx dX7_trust 56 rfl) rfl ?_
                    refine r_iald (j := p) (x := vF v 1 p) C rfl rfl (by decide) rfl (by omega) (dx dX7_trust 57 rfl) (Mh11.1.e1 (by omega)) ?_
                    refine r_iast (j := p) C rfl rfl (by decide) rfl (by omega) (dx dX7_trust 58 rfl) ?_
                    have Bh13 : MilAt (sI h11 (b + 19) p (vF v 1 p)) b (vset (vset (handV v o1 o2 p) 0 p (vF v 0 p)) 1 p (vF v 1 p)) := Bh11.s1
                    have qh13 : Kp b h11 (sI h11 (b + 19) p (vF v 1 p)) := Kp.c (by omega) (by omega)
                    have xh13 : XT (sI h11 (b + 19) p (vF v 1 p)) k κ ω Bt := xh11.tk Mh11 hb ebh11 qh13
                    have Mh13 := Mh11.tk (b := b) hb hlh11 Bh13 qh13 (show xK (sI h11 (b + 19) p (vF v 1 p)) = xK h11 from rfl)
                    have loh13 : Lo k h (sI h11 (b + 19) p (vF v 1 p)) := loh11.tr (Lo.fr (Fr.vc qh13) (by omega))
                    have ebh13 : xN (sI h11 (b + 19) p (vF v 1 p)) k 22 = b + 1 := by rw [((Fr.vc qh13) k (by omega)).2.2]; exact ebh11
                    have hlh13 : b + 32 ≤ (xK (sI h11 (b + 19) p (vF v 1 p))).length := by rw [show xK (sI h11 (b + 19) p (vF v 1 p)) = xK h11 from rfl]; exact hlh11
                    have kh13 : xK (sI h11 (b + 19) p (vF v 1 p)) = AL P κ true := (show xK (sI h11 (b + 19) p (vF v 1 p)) = xK h11 from rfl).trans kh11
                    generalize sI h11 (b + 19) p (vF v 1 p) = h13 at Bh13 qh13 Mh13 loh13 ebh13 hlh13 kh13 xh13 ⊢
                    refine rn_iinc (a := p) (k := 1) (ls' := [(0, vr 7 k), (1, vi o1), (2, vi o2), (3, vr 7 b), (4, vi (nI (p + 1)))]) C (dx dX7_trust 59 rfl) rfl rfl (by decide) [1, 2, 3, 4, 0] rfl ?_
                    refine r_goto (tgt := 41) C (dx dX7_trust 60 rfl) (by decide) ?_
                    exact ih _ Mh13 (hnd_s (v := v) (a := o1) (b := o2) (p := p) (x := (vF v 0 p)) (y := (vF v 1 p)) (by rw [if_neg c10]) (by rw [if_neg c12]) ▸ Bh13) loh13 xh13 ebh13 kh13
                  ·
                    have c12 : vF v 1 p = o1 := c12
                    refine r_iload_n C (dx dX7_trust 52 rfl) rfl ?_
                    refine r_goto (tgt := 107) C (dx dX7_trust 53 rfl) (by decide) ?_
                    refine r_iast (j := p) C rfl rfl (by decide) rfl (by omega) (dx dX7_trust 58 rfl) ?_
                    have Bh14 : MilAt (sI h11 (b + 19) p o2) b (vset (vset (handV v o1 o2 p) 0 p (vF v 0 p)) 1 p o2) := Bh11.s1
                    have qh14 : Kp b h11 (sI h11 (b + 19) p o2) := Kp.c (by omega) (by omega)
                    have xh14 : XT (sI h11 (b + 19) p o2) k κ ω Bt := xh11.tk Mh11 hb ebh11 qh14
                    have Mh14 := Mh11.tk (b := b) hb hlh11 Bh14 qh14 (show xK (sI h11 (b + 19) p o2) = xK h11 from rfl)
                    have loh14 : Lo k h (sI h11 (b + 19) p o2) := loh11.tr (Lo.fr (Fr.vc qh14) (by omega))
                    have ebh14 : xN (sI h11 (b + 19) p o2) k 22 = b + 1 := by rw [((Fr.vc qh14) k (by omega)).2.2]; exact ebh11
                    have hlh14 : b + 32 ≤ (xK (sI h11 (b + 19) p o2)).length := by rw [show xK (sI h11 (b + 19) p o2) = xK h11 from rfl]; exact hlh11
                    have kh14 : xK (sI h11 (b + 19) p o2) = AL P κ true := (show xK (sI h11 (b + 19) p o2) = xK h11 from rfl).trans kh11
                    generalize sI h11 (b + 19) p o2 = h14 at Bh14 qh14 Mh14 loh14 ebh14 hlh14 kh14 xh14 ⊢
                    refine rn_iinc (a := p) (k := 1) (ls' := [(0, vr 7 k), (1, vi o1), (2, vi o2), (3, vr 7 b), (4, vi (nI (p + 1)))]) C (dx dX7_trust 59 rfl) rfl rfl (by decide) [1, 2, 3, 4, 0] rfl ?_
                    refine r_goto (tgt := 41) C (dx dX7_trust 60 rfl) (by decide) ?_
                    exact ih _ Mh14 (hnd_s (v := v) (a := o1) (b := o2) (p := p) (x := (vF v 0 p)) (y := o2) (by rw [if_neg c10]) (by rw [if_pos c12]) ▸ Bh14) loh14 xh14 ebh14 kh14
                ·
                  have c10 : vF v 0 p = o1 := c10
                  refine r_iload_n C (dx dX7_trust 36 rfl) rfl ?_
                  refine r_goto (tgt := 78) C (dx dX7_trust 37 rfl) (by decide) ?_
                  refine r_iast (j := p) C rfl rfl (by decide) rfl (by omega) (dx dX7_trust 42 rfl) ?_
                  have Bh15 : MilAt (sI h9 (b + 18) p o2) b (vset (handV v o1 o2 p) 0 p o2) := B9.s0
                  have qh15 : Kp b h9 (sI h9 (b + 18) p o2) := Kp.c (by omega) (by omega)
                  have xh15 : XT (sI h9 (b + 18) p o2) k κ ω Bt := x9.tk M9 hb eb9 qh15
                  have Mh15 := M9.tk (b := b) hb hl9 Bh15 qh15 (show xK (sI h9 (b + 18) p o2) = xK h9 from rfl)
                  have loh15 : Lo k h (sI h9 (b + 18) p o2) := lo9.tr (Lo.fr (Fr.vc qh15) (by omega))
                  have ebh15 : xN (sI h9 (b + 18) p o2) k 22 = b + 1 := by rw [((Fr.vc qh15) k (by omega)).2.2]; exact eb9
                  have hlh15 : b + 32 ≤ (xK (sI h9 (b + 18) p o2)).length := by rw [show xK (sI h9 (b + 18) p o2) = xK h9 from rfl]; exact hl9
                  have kh15 : xK (sI h9 (b + 18) p o2) = AL P κ true := (show xK (sI h9 (b + 18) p o2) = xK h9 from rfl).trans k9
                  generalize sI h9 (b + 18) p o2 = h15 at Bh15 qh15 Mh15 loh15 ebh15 hlh15 kh15 xh15 ⊢
                  refine r_aload_n C (dx dX7_trust 43 rfl) rfl ?_
                  refine g_X7_43 C (dx dX7_trust 44 rfl) ?_
                  refine r_iload C (dx dX7_trust 45 rfl) rfl ?_
                  refine r_aload_n C (dx dX7_trust 46 rfl) rfl ?_
                  refine g_X7_43 C (dx dX7_trust 47 rfl) ?_
                  refine r_iload C (dx dX7_trust 48 rfl) rfl ?_
                  refine r_iald (j := p) (x := vF v 1 p) C rfl rfl (by decide) rfl (by omega) (dx dX7_trust 49 rfl) (Mh15.1.e1 (by omega)) ?_
                  refine r_iload_n C (dx dX7_trust 50 rfl) rfl ?_
                  refine r_icmp_ne (tgt := 100) C (dx dX7_trust 51 rfl) (by decide) (fun c16 => ?_) (fun c16 => ?_)
                  ·
                    have c16 : ¬ vF v 1 p = o1 := c16
                    refine r_aload_n C (dx dX7_trust 54 rfl) rfl ?_
                    refine g_X7_43 C (dx dX7_trust 55 rfl) ?_
                    refine r_iload C (dx dX7_trust 56 rfl) rfl ?_
                    refine r_iald (j := p) (x := vF v 1 p) C rfl rfl (by decide) rfl (by omega) (dx dX7_trust 57 rfl) (Mh15.1.e1 (by omega)) ?_
                    refine r_iast (j := p) C rfl rfl (by decide) rfl (by omega) (dx dX7_trust 58 rfl) ?_
                    have Bh17 : MilAt (sI h15 (b + 19) p (vF v 1 p)) b (vset (vset (handV v o1 o2 p) 0 p o2) 1 p (vF v 1 p)) := Bh15.s1
                    have qh17 : Kp b h15 (sI h15 (b + 19) p (vF v 1 p)) := Kp.c (by omega) (by omega)
                    have xh17 : XT (sI h15 (b + 19) p (vF v 1 p)) k κ ω Bt := xh15.tk Mh15 hb ebh15 qh17
                    have Mh17 := Mh15.tk (b := b) hb hlh15 Bh17 qh17 (show xK (sI h15 (b + 19) p (vF v 1 p)) = xK h15 from rfl)
                    have loh17 : Lo k h (sI h15 (b + 19) p (vF v 1 p)) := loh15.tr (Lo.fr (Fr.vc qh17) (by omega))
                    have ebh17 : xN (sI h15 (b + 19) p (vF v 1 p)) k 22 = b + 1 := by rw [((Fr.vc qh17) k (by omega)).2.2]; exact ebh15
                    have hlh17 : b + 32 ≤ (xK (sI h15 (b + 19) p (vF v 1 p))).length := by rw [show xK (sI h15 (b + 19) p (vF v 1 p)) = xK h15 from rfl]; exact hlh15
                    have kh17 : xK (sI h15 (b + 19) p (vF v 1 p)) = AL P κ true := (show xK (sI h15 (b + 19) p (vF v 1 p)) = xK h15 from rfl).trans kh15
                    generalize sI h15 (b + 19) p (vF v 1 p) = h17 at Bh17 qh17 Mh17 loh17 ebh17 hlh17 kh17 xh17 ⊢
                    refine rn_iinc (a := p) (k := 1) (ls' := [(0, vr 7 k), (1, vi o1), (2, vi o2), (3, vr 7 b), (4, vi (nI (p + 1)))]) C (dx dX7_trust 59 rfl) rfl rfl (by decide) [1, 2, 3, 4, 0] rfl ?_
                    refine r_goto (tgt := 41) C (dx dX7_trust 60 rfl) (by decide) ?_
                    exact ih _ Mh17 (hnd_s (v := v) (a := o1) (b := o2) (p := p) (x := o2) (y := (vF v 1 p)) (by rw [if_pos c10]) (by rw [if_neg c16]) ▸ Bh17) loh17 xh17 ebh17 kh17
                  ·
                    have c16 : vF v 1 p = o1 := c16
                    refine r_iload_n C (dx dX7_trust 52 rfl) rfl ?_
                    refine r_goto (tgt := 107) C (dx dX7_trust 53 rfl) (by decide) ?_
                    refine r_iast (j := p) C rfl rfl (by decide) rfl (by omega) (dx dX7_trust 58 rfl) ?_
                    have Bh18 : MilAt (sI h15 (b + 19) p o2) b (vset (vset (handV v o1 o2 p) 0 p o2) 1 p o2) := Bh15.s1
                    have qh18 : Kp b h15 (sI h15 (b + 19) p o2) := Kp.c (by omega) (by omega)
                    have xh18 : XT (sI h15 (b + 19) p o2) k κ ω Bt := xh15.tk Mh15 hb ebh15 qh18
                    have Mh18 := Mh15.tk (b := b) hb hlh15 Bh18 qh18 (show xK (sI h15 (b + 19) p o2) = xK h15 from rfl)
                    have loh18 : Lo k h (sI h15 (b + 19) p o2) := loh15.tr (Lo.fr (Fr.vc qh18) (by omega))
                    have ebh18 : xN (sI h15 (b + 19) p o2) k 22 = b + 1 := by rw [((Fr.vc qh18) k (by omega)).2.2]; exact ebh15
                    have hlh18 : b + 32 ≤ (xK (sI h15 (b + 19) p o2)).length := by rw [show xK (sI h15 (b + 19) p o2) = xK h15 from rfl]; exact hlh15
                    have kh18 : xK (sI h15 (b + 19) p o2) = AL P κ true := (show xK (sI h15 (b + 19) p o2) = xK h15 from rfl).trans kh15
                    generalize sI h15 (b + 19) p o2 = h18 at Bh18 qh18 Mh18 loh18 ebh18 hlh18 kh18 xh18 ⊢
                    refine rn_iinc (a := p) (k := 1) (ls' := [(0, vr 7 k), (1, vi o1), (2, vi o2), (3, vr 7 b), (4, vi (nI (p + 1)))]) C (dx dX7_trust 59 rfl) rfl rfl (by decide) [1, 2, 3, 4, 0] rfl ?_
                    refine r_goto (tgt := 41) C (dx dX7_trust 60 rfl) (by decide) ?_
                    exact ih _ Mh18 (hnd_s (v := v) (a := o1) (b := o2) (p := p) (x := o2) (y := o2) (by rw [if_pos c10]) (by rw [if_pos c16]) ▸ Bh18) loh18 xh18 ebh18 kh18)
      ·
        have c3 : o1 = o2 := c3
        exact absurd c3 q3
set_option maxHeartbeats 4000000 in
theorem w_trust_n {l : Launch} {h : Hp} {k : Nat} {v : Vg} {g : Sg} (hm : MilAt h k v) (hs : MshAt h k g) (o1 o2 : Int32) (hn : ¬ (inR o1 (vN v) = true ∧ inR o2 (vN v) = true ∧ ¬ o1 = o2)) : Ms l yX7_trust cX7_trust 5 (some .long) 5 [vr 7 k, vi o1, vi o2] h (xK h) (fun r h' => r = some (vl (-1000000000002)) ∧ MilAt h' k v ∧ Kp k h h') := by
  refine Ms.of (by decide) (Nat.le_of_ble_eq_true rfl) (fun G C X F => ?_)
  have C : Cx G cX7_trust 5 RX7 := C
  show Rr G 0 [(0, vr 7 k), (1, vi o1), (2, vi o2)] [] h
  have bP := hm.bP
  have bM := hm.bM
  have bN := hm.bN
  refine r_aload_n C (dx dX7_trust 0 rfl) rfl ?_
  refine r_iload_n C (dx dX7_trust 1 rfl) rfl ?_
  refine r_cvP (as := [vi o1]) (st := []) (v := vi (b2i (inR o1 (vN v)))) C X I_X7_isOne l_X7_125 (c_X7_isOne hm _) (by decide) (Nat.le_of_ble_eq_true rfl) List.prefix_rfl rfl rfl (Nat.le_of_ble_eq_true rfl) rfl (dx dX7_trust 2 rfl) ?_
  refine rb_eq (b := inR o1 (vN v)) (tgt := 21) C (dx dX7_trust 3 rfl) (by decide) (fun c1 => ?_) (fun c1 => ?_)
  ·
    have c1 : (inR o1 (vN v)) = false := c1
    refine r_aload_n C (dx dX7_trust 11 rfl) rfl ?_
    refine r_bipush (v := -2) C (dx dX7_trust 12 rfl) rfl ?_
    refine r_cv (as := [vi (-2)]) (st := []) C X I_X7_refuse l_X7_83 (e_refuse hm (x := -2) (j := 2) (by decide) (by decide)) (by decide) (Nat.le_of_ble_eq_true rfl) List.prefix_rfl List.prefix_rfl rfl rfl (Nat.le_of_ble_eq_true rfl) rfl (dx dX7_trust 13 rfl) ?_
    rintro _ h2 ⟨rfl, m9h2, qh2⟩ kkh2
    have mh2 : MilAt h2 k v := m9h2
    have ph2 : Kp k h h2 := qh2
    have kh2 : xK h2 = xK h := kkh2
    refine r_i2l C (dx dX7_trust 14 rfl) ?_
    refine r_ldc2 C n_X7_320 (dx dX7_trust 15 rfl) ?_
    refine r_lsub C (dx dX7_trust 16 rfl) ?_
    have eA : (-1000000000002) = ((-2).toInt64) - 1000000000000 := by (first | rfl | decide)
    exact F.2.1 _ _ _ _ rfl (dx dX7_trust 17 rfl) kh2 ⟨by (rw [eA]; first | done | rfl), by exact mh2, ph2⟩
  ·
    have c1 : (inR o1 (vN v)) = true := c1
    refine r_aload_n C (dx dX7_trust 4 rfl) rfl ?_
    refine r_iload_n C (dx dX7_trust 5 rfl) rfl ?_
    refine r_cvP (as := [vi o2]) (st := []) (v := vi (b2i (inR o2 (vN v)))) C X I_X7_isOne l_X7_125 (c_X7_isOne hm _) (by decide) (Nat.le_of_ble_eq_true rfl) List.prefix_rfl rfl rfl (Nat.le_of_ble_eq_true rfl) rfl (dx dX7_trust 6 rfl) ?_
    refine rb_eq (b := inR o2 (vN v)) (tgt := 21) C (dx dX7_trust 7 rfl) (by decide) (fun c3 => ?_) (fun c3 => ?_)
    ·
      have c3 : (inR o2 (vN v)) = false := c3
      refine r_aload_n C (dx dX7_trust 11 rfl) rfl ?_
      refine r_bipush (v := -2) C (dx dX7_trust 12 rfl) rfl ?_
      refine r_cv (as := [vi (-2)]) (st := []) C X I_X7_refuse l_X7_83 (e_refuse hm (x := -2) (j := 2) (by decide) (by decide)) (by decide) (Nat.le_of_ble_eq_true rfl) List.prefix_rfl List.prefix_rfl rfl rfl (Nat.le_of_ble_eq_true rfl) rfl (dx dX7_trust 13 rfl) ?_
      rintro _ h4 ⟨rfl, m9h4, qh4⟩ kkh4
      have mh4 : MilAt h4 k v := m9h4
      have ph4 : Kp k h h4 := qh4
      have kh4 : xK h4 = xK h := kkh4
      refine r_i2l C (dx dX7_trust 14 rfl) ?_
      refine r_ldc2 C n_X7_320 (dx dX7_trust 15 rfl) ?_
      refine r_lsub C (dx dX7_trust 16 rfl) ?_
      have eA : (-1000000000002) = ((-2).toInt64) - 1000000000000 := by (first | rfl | decide)
      exact F.2.1 _ _ _ _ rfl (dx dX7_trust 17 rfl) kh4 ⟨by (rw [eA]; first | done | rfl), by exact mh4, ph4⟩
    ·
      have c3 : (inR o2 (vN v)) = true := c3
      refine r_iload_n C (dx dX7_trust 8 rfl) rfl ?_
      refine r_iload_n C (dx dX7_trust 9 rfl) rfl ?_
      refine r_icmp_ne (tgt := 33) C (dx dX7_trust 10 rfl) (by decide) (fun c5 => ?_) (fun c5 => ?_)
      ·
        have c5 : ¬ o1 = o2 := c5
        exact absurd ⟨c1, c3, c5⟩ hn
      ·
        have c5 : o1 = o2 := c5
        refine r_aload_n C (dx dX7_trust 11 rfl) rfl ?_
        refine r_bipush (v := -2) C (dx dX7_trust 12 rfl) rfl ?_
        refine r_cv (as := [vi (-2)]) (st := []) C X I_X7_refuse l_X7_83 (e_refuse hm (x := -2) (j := 2) (by decide) (by decide)) (by decide) (Nat.le_of_ble_eq_true rfl) List.prefix_rfl List.prefix_rfl rfl rfl (Nat.le_of_ble_eq_true rfl) rfl (dx dX7_trust 13 rfl) ?_
        rintro _ h6 ⟨rfl, m9h6, qh6⟩ kkh6
        have mh6 : MilAt h6 k v := m9h6
        have ph6 : Kp k h h6 := qh6
        have kh6 : xK h6 = xK h := kkh6
        refine r_i2l C (dx dX7_trust 14 rfl) ?_
        refine r_ldc2 C n_X7_320 (dx dX7_trust 15 rfl) ?_
        refine r_lsub C (dx dX7_trust 16 rfl) ?_
        have eA : (-1000000000002) = ((-2).toInt64) - 1000000000000 := by (first | rfl | decide)
        exact F.2.1 _ _ _ _ rfl (dx dX7_trust 17 rfl) kh6 ⟨by (rw [eA]; first | done | rfl), by exact mh6, ph6⟩
set_option maxHeartbeats 4000000 in
theorem w_head {l : Launch} {h : Hp} {P : List Nat} {k z : Nat} {v : Vg} {g : Sg} {κ τ : Bool} {ω : Vg} {Bt : Nat → Int32} (M : Md h P k v g z κ τ) (x0 : XT h k κ ω Bt)  : Ms l yX7_head cX7_head 7 (some .int) 11 [vr 7 k] h (AL P κ (τ || hdB g 8)) (fun r h' => r = some (vi (heaR v g)) ∧ Md h' P k v g z κ (τ || hdB g 8) ∧ Lo k h h' ∧ XT h' k κ ω Bt) := by
  refine Ms.of (by decide) (Nat.le_of_ble_eq_true rfl) (fun G C X F => ?_)
  have C : Cx G cX7_head 7 RX7 := C
  show Rr G 0 [(0, vr 7 k)] [] h
  have hm := M.1
  have hs := M.2.1
  have al := M.al
  have hk7 := M.hk
  have bP := hm.bP
  have bM := hm.bM
  have bN := hm.bN
  refine r_iconst (v := -1) C (dx dX7_head 0 rfl) rfl ?_
  refine r_istore_n (ls' := [(0, vr 7 k), (1, vi (-1))]) C (dx dX7_head 1 rfl) (by decide) [1, 0] rfl ?_
  refine r_lconst (v := 0) C (dx dX7_head 2 rfl) rfl ?_
  refine r_lstore_n (ls' := [(0, vr 7 k), (1, vi (-1)), (2, vl 0)]) C (dx dX7_head 3 rfl) (by decide) [1, 2, 0] rfl ?_
  refine r_iconst (v := nI 0) C (dx dX7_head 4 rfl) rfl ?_
  refine r_istore (ls' := [(0, vr 7 k), (1, vi (-1)), (2, vl 0), (4, vi (nI 0))]) C (dx dX7_head 5 rfl) (by decide) [1, 2, 3, 0] rfl ?_
  refine loopU (Φ := fun p => ∀ (h9 : Hp), Md h9 P k v g z κ (τ || hdB g p) → Lo k h h9 → XT h9 k κ ω Bt → xK h9 = AL P κ (τ || hdB g p) → Rr G 7 [(0, vr 7 k), (1, vi ((hdR v g p).1)), (2, vl ((hdR v g p).2)), (4, vi (nI p))] [] h9) (N := 8) ?_ ?_ 0 (by omega) _ (by rw [show hdB g 0 = false from rfl, Bool.or_false]; exact M) Lo.rf x0 (by rw [show hdB g 0 = false from rfl, Bool.or_false]; exact al)
  ·
    intro h9 M9 lo9 x9 k9
    have hs := M9.2.1
    refine r_iload C (dx dX7_head 6 rfl) rfl ?_
    refine r_bipush (v := nI 8) C (dx dX7_head 7 rfl) rfl ?_
    refine rn_ge (a := 8) (b := 8) (tgt := 57) C (by omega) (by omega) (dx dX7_head 8 rfl) (by decide) (fun c1 => ?_) (fun c1 => ?_)
    · first
      | (omega; done)
      | (
          have c1 : 8 ≤ 8 := c1
          refine r_iload_n C (dx dX7_head 32 rfl) rfl ?_
          refine r_iconst (v := -1) C (dx dX7_head 33 rfl) rfl ?_
          refine r_icmp_ne (tgt := 71) C (dx dX7_head 34 rfl) (by decide) (fun c2 => ?_) (fun c2 => ?_)
          ·
            have c2 : ¬ (hdR v g 8).1 = -1 := c2
            refine r_iload_n C (dx dX7_head 39 rfl) rfl ?_
            have eA : heaR v g = (hdR v g 8).1 := by (unfold heaR; rw [if_neg c2])
            exact F.1 _ _ _ _ .int rfl rfl (dx dX7_head 40 rfl) k9 ⟨by (rw [eA]; first | done | rfl), M9, lo9, x9⟩
          ·
            have c2 : (hdR v g 8).1 = -1 := c2
            refine r_aload_n C (dx dX7_head 35 rfl) rfl ?_
            refine r_bipush (v := -5) C (dx dX7_head 36 rfl) rfl ?_
            refine r_cv (as := [vi (-5)]) (st := []) C X I_X7_refuse l_X7_83 (q_refuse M9.1 (x := -5) (j := 5) (by decide) (by decide)) (by decide) (Nat.le_of_ble_eq_true rfl) List.prefix_rfl (pfx_eq k9) rfl rfl (Nat.le_of_ble_eq_true rfl) rfl (dx dX7_head 37 rfl) ?_
            rintro _ h3 ⟨rfl, mh3, qh3⟩ kkh3
            have Mh3 := M9.kp mh3 qh3.1 kkh3
            have xh3 := x9.kp M9 qh3.1
            have loh3 : Lo k h h3 := Lo.tr lo9 (Lo.fr (Fr.vc qh3.1) (Nat.le_refl _))
            have kh3 := kkh3.trans k9
            refine r_goto (tgt := 72) C (dx dX7_head 38 rfl) (by decide) ?_
            have eA : heaR v g = -5 := by (unfold heaR; rw [if_pos c2])
            exact F.1 _ _ _ _ .int rfl rfl (dx dX7_head 40 rfl) kh3 ⟨by (rw [eA]; first | done | rfl), Mh3, loh3, xh3⟩)
    · first
      | (omega; done)
  ·
    intro p hp ih h9 M9 lo9 x9 k9
    have hs := M9.2.1
    refine r_iload C (dx dX7_head 6 rfl) rfl ?_
    refine r_bipush (v := nI 8) C (dx dX7_head 7 rfl) rfl ?_
    refine rn_ge (a := p) (b := 8) (tgt := 57) C (by omega) (by omega) (dx dX7_head 8 rfl) (by decide) (fun c5 => ?_) (fun c5 => ?_)
    · first
      | (omega; done)
      | (
          have c5 : 8 ≤ p := c5
          refine r_iload_n C (dx dX7_head 32 rfl) rfl ?_
          refine r_iconst (v := -1) C (dx dX7_head 33 rfl) rfl ?_
          refine r_icmp_ne (tgt := 71) C (dx dX7_head 34 rfl) (by decide) (fun c6 => ?_) (fun c6 => ?_)
          ·
            have c6 : ¬ (hdR v g p).1 = -1 := c6
            refine r_iload_n C (dx dX7_head 39 rfl) rfl ?_
            have eA : heaR v g = (hdR v g p).1 := by (unfold heaR; rw [if_neg None])
            exact F.1 _ _ _ _ .int rfl rfl (dx dX7_head 40 rfl) k9 ⟨by (rw [eA]; first | done | rfl), M9, lo9, x9⟩
          ·
            have c6 : (hdR v g p).1 = -1 := c6
            refine r_aload_n C (dx dX7_head 35 rfl) rfl ?_
            refine r_bipush (v := -5) C (dx dX7_head 36 rfl) rfl ?_
            refine r_cv (as := [vi (-5)]) (st := []) C X I_X7_refuse l_X7_83 (q_refuse M9.1 (x := -5) (j := 5) (by decide) (by decide)) (by decide) (Nat.le_of_ble_eq_true rfl) List.prefix_rfl (pfx_eq k9) rfl rfl (Nat.le_of_ble_eq_true rfl) rfl (dx dX7_head 37 rfl) ?_
            rintro _ h7 ⟨rfl, mh7, qh7⟩ kkh7
            have Mh7 := M9.kp mh7 qh7.1 kkh7
            have xh7 := x9.kp M9 qh7.1
            have loh7 : Lo k h h7 := Lo.tr lo9 (Lo.fr (Fr.vc qh7.1) (Nat.le_refl _))
            have kh7 := kkh7.trans k9
            refine r_goto (tgt := 72) C (dx dX7_head 38 rfl) (by decide) ?_
            have eA : heaR v g = -5 := by (unfold heaR; rw [if_neg None])
            exact F.1 _ _ _ _ .int rfl rfl (dx dX7_head 40 rfl) kh7 ⟨by (rw [eA]; first | done | rfl), Mh7, loh7, xh7⟩)
    · first
      | (omega; done)
      | (
          have c5 : p < 8 := c5
          rcases hs p hp with ⟨a11, a21⟩ | ⟨τ1, ν1, a11, a21, a31, a41, a51, a61, a71, a81⟩ | ⟨κ1, b1, a11, a21, a31, a41, a51, a61, a71, a81⟩
          ·
            obtain ⟨e01, e11, e21, e31, e41, e51, e61⟩ := sh_bare hp a21
            have hd : (τ || hdB g (p + 1)) = (τ || hdB g p) := by simp [hdB, e11]
            refine r_aload_n C (dx dX7_head 9 rfl) rfl ?_
            refine g_X7_7 C (dx dX7_head 10 rfl) ?_
            refine r_iload C (dx dX7_head 11 rfl) rfl ?_
            refine r_iald (j := p) (x := nI 0) C rfl rfl (by decide) rfl (by omega) (dx dX7_head 12 rfl) a11 ?_
            refine r_iconst (v := nI 2) C (dx dX7_head 13 rfl) rfl ?_
            refine rn_ne (a := 0) (b := 2) (tgt := 51) C (by omega) (by omega) (dx dX7_head 14 rfl) (by decide) (fun c8 => ?_) (fun c8 => ?_)
            · first
              | (omega; done)
              | (
                  have c8 : ¬ 0 = 2 := c8
                  refine rn_iinc (a := p) (k := 1) (ls' := [(0, vr 7 k), (1, vi ((hdR v g p).1)), (2, vl ((hdR v g p).2)), (4, vi (nI (p + 1)))]) C (dx dX7_head 30 rfl) rfl rfl (by decide) [1, 2, 3, 0] rfl ?_
                  refine r_goto (tgt := 7) C (dx dX7_head 31 rfl) (by decide) ?_
                  have e91 : ((hdR v g p).1) = ((hdR v g (p + 1)).1) := by (simp only [hdR]; rw [if_neg (fun z => by have z1 := z.1; rw [e11] at z1; exact absurd z1 (by decide))])
                  rw [e91]
                  have e92 : ((hdR v g p).2) = ((hdR v g (p + 1)).2) := by (simp only [hdR]; rw [if_neg (fun z => by have z1 := z.1; rw [e11] at z1; exact absurd z1 (by decide))])
                  rw [e92]
                  exact ih _ (by rw [hd]; exact M9) lo9 x9 (by rw [hd]; exact k9))
            · first
              | (omega; done)
              | (
                  have c8 : 0 = 2 := c8
                  refine r_aload_n C (dx dX7_head 15 rfl) rfl ?_
                  refine r_iload C (dx dX7_head 16 rfl) rfl ?_
                  refine r_cv (as := [vi (nI p)]) (st := []) C X I_X7_wouldBy l_X7_299 (w_wouldBy M9 x9 hp ⟨a11, a21⟩ a31 a71 a81) (by decide) (Nat.le_of_ble_eq_true rfl) (by rw [M9.al]; exact AL_pre id (fun _ => rfl)) (by rw [hT]; exact List.prefix_rfl) rfl rfl (Nat.le_of_ble_eq_true rfl) rfl (dx dX7_head 17 rfl) ?_
                  rintro _ hF ⟨rfl, MF, loF9, xF⟩ kF
                  have loF := lo9.tr loF9
                  refine r_lstore (ls' := [(0, vr 7 k), (1, vi ((hdR v g p).1)), (2, vl ((hdR v g p).2)), (4, vi (nI p)), (5, vl (dyR (hAR v κ1 b1)))]) C (dx dX7_head 18 rfl) (by decide) [1, 2, 3, 4, 0] rfl ?_
                  refine r_iload_n C (dx dX7_head 19 rfl) rfl ?_
                  refine r_iconst (v := -1) C (dx dX7_head 20 rfl) rfl ?_
                  refine r_icmp_eq (tgt := 45) C (dx dX7_head 21 rfl) (by decide) (fun c9 => ?_) (fun c9 => ?_)
                  ·
                    have c9 : (hdR v g p).1 = -1 := c9
                    refine r_iload C (dx dX7_head 26 rfl) rfl ?_
                    refine r_istore_n (ls' := [(0, vr 7 k), (1, vi (nI p)), (2, vl ((hdR v g p).2)), (4, vi (nI p)), (5, vl (dyR (hAR v κ1 b1)))]) C (dx dX7_head 27 rfl) (by decide) [1, 0, 2, 3, 4] rfl ?_
                    refine r_lload C (dx dX7_head 28 rfl) rfl ?_
                    refine r_lstore_n (ls' := [(0, vr 7 k), (1, vi (nI p)), (2, vl (dyR (hAR v κ1 b1))), (4, vi (nI p)), (5, vl (dyR (hAR v κ1 b1)))]) C (dx dX7_head 29 rfl) (by decide) [1, 2, 0, 3, 4] rfl ?_
                    refine rn_iinc (a := p) (k := 1) (ls' := [(0, vr 7 k), (1, vi (nI p)), (2, vl (dyR (hAR v κ1 b1))), (4, vi (nI (p + 1))), (5, vl (dyR (hAR v κ1 b1)))]) C (dx dX7_head 30 rfl) rfl rfl (by decide) [1, 2, 3, 0, 4] rfl ?_
                    refine r_goto (tgt := 7) C (dx dX7_head 31 rfl) (by decide) ?_
                    have e91 : (nI p) = ((hdR v g (p + 1)).1) := by (simp only [hdR]; rw [if_neg (fun z => by have z1 := z.1; rw [e11] at z1; exact absurd z1 (by decide))])
                    rw [e91]
                    have e92 : (dyR (hAR v κ1 b1)) = ((hdR v g (p + 1)).2) := by (simp only [hdR]; rw [if_neg (fun z => by have z1 := z.1; rw [e11] at z1; exact absurd z1 (by decide))])
                    rw [e92]
                    refine r_weak C [0, 1, 2, 3] rfl ?_
                    exact ih _ (by rw [hd]; exact MF) loF xF (by rw [hd]; exact kF)
                  ·
                    have c9 : ¬ (hdR v g p).1 = -1 := c9
                    refine r_lload C (dx dX7_head 22 rfl) rfl ?_
                    refine r_lload_n C (dx dX7_head 23 rfl) rfl ?_
                    refine r_lcmp C (dx dX7_head 24 rfl) ?_
                    refine r_if_le (tgt := 51) C (dx dX7_head 25 rfl) (by decide) (fun c10 => ?_) (fun c10 => ?_)
                    ·
                      have c10 : dyR (hAR v κ1 b1) ≤ (hdR v g p).2 := (lg_cmp_le _ _).mp c10
                      refine rn_iinc (a := p) (k := 1) (ls' := [(0, vr 7 k), (1, vi ((hdR v g p).1)), (2, vl ((hdR v g p).2)), (4, vi (nI (p + 1))), (5, vl (dyR (hAR v κ1 b1)))]) C (dx dX7_head 30 rfl) rfl rfl (by decide) [1, 2, 3, 0, 4] rfl ?_
                      refine r_goto (tgt := 7) C (dx dX7_head 31 rfl) (by decide) ?_
                      have e91 : ((hdR v g p).1) = ((hdR v g (p + 1)).1) := by (simp only [hdR]; rw [if_neg (fun z => by have z1 := z.1; rw [e11] at z1; exact absurd z1 (by decide))])
                      rw [e91]
                      have e92 : ((hdR v g p).2) = ((hdR v g (p + 1)).2) := by (simp only [hdR]; rw [if_neg (fun z => by have z1 := z.1; rw [e11] at z1; exact absurd z1 (by decide))])
                      rw [e92]
                      refine r_weak C [0, 1, 2, 3] rfl ?_
                      exact ih _ (by rw [hd]; exact MF) loF xF (by rw [hd]; exact kF)
                    ·
                      have c10 : ¬ (dyR (hAR v κ1 b1) ≤ (hdR v g p).2) := fun q => c10 ((lg_cmp_le _ _).mpr q)
                      refine r_iload C (dx dX7_head 26 rfl) rfl ?_
                      refine r_istore_n (ls' := [(0, vr 7 k), (1, vi (nI p)), (2, vl ((hdR v g p).2)), (4, vi (nI p)), (5, vl (dyR (hAR v κ1 b1)))]) C (dx dX7_head 27 rfl) (by decide) [1, 0, 2, 3, 4] rfl ?_
                      refine r_lload C (dx dX7_head 28 rfl) rfl ?_
                      refine r_lstore_n (ls' := [(0, vr 7 k), (1, vi (nI p)), (2, vl (dyR (hAR v κ1 b1))), (4, vi (nI p)), (5, vl (dyR (hAR v κ1 b1)))]) C (dx dX7_head 29 rfl) (by decide) [1, 2, 0, 3, 4] rfl ?_
                      refine rn_iinc (a := p) (k := 1) (ls' := [(0, vr 7 k), (1, vi (nI p)), (2, vl (dyR (hAR v κ1 b1))), (4, vi (nI (p + 1))), (5, vl (dyR (hAR v κ1 b1)))]) C (dx dX7_head 30 rfl) rfl rfl (by decide) [1, 2, 3, 0, 4] rfl ?_
                      refine r_goto (tgt := 7) C (dx dX7_head 31 rfl) (by decide) ?_
                      have e91 : (nI p) = ((hdR v g (p + 1)).1) := by (simp only [hdR]; rw [if_neg (fun z => by have z1 := z.1; rw [e11] at z1; exact absurd z1 (by decide))])
                      rw [e91]
                      have e92 : (dyR (hAR v κ1 b1)) = ((hdR v g (p + 1)).2) := by (simp only [hdR]; rw [if_neg (fun z => by have z1 := z.1; rw [e11] at z1; exact absurd z1 (by decide))])
                      rw [e92]
                      refine r_weak C [0, 1, 2, 3] rfl ?_
                      exact ih _ (by rw [hd]; exact MF) loF xF (by rw [hd]; exact kF))
          ·
            obtain ⟨e01, e11, e21, e31, e41, e51, e61⟩ := sh_row hp a11 a61 a71
            have hd : (τ || hdB g (p + 1)) = (τ || hdB g p) := by simp [hdB, e11]
            refine r_aload_n C (dx dX7_head 9 rfl) rfl ?_
            refine g_X7_7 C (dx dX7_head 10 rfl) ?_
            refine r_iload C (dx dX7_head 11 rfl) rfl ?_
            refine r_iald (j := p) (x := nI 1) C rfl rfl (by decide) rfl (by omega) (dx dX7_head 12 rfl) a31 ?_
            refine r_iconst (v := nI 2) C (dx dX7_head 13 rfl) rfl ?_
            refine rn_ne (a := 1) (b := 2) (tgt := 51) C (by omega) (by omega) (dx dX7_head 14 rfl) (by decide) (fun c11 => ?_) (fun c11 => ?_)
            · first
              | (omega; done)
              | (
                  have c11 : ¬ 1 = 2 := c11
                  refine rn_iinc (a := p) (k := 1) (ls' := [(0, vr 7 k), (1, vi ((hdR v g p).1)), (2, vl ((hdR v g p).2)), (4, vi (nI (p + 1)))]) C (dx dX7_head 30 rfl) rfl rfl (by decide) [1, 2, 3, 0] rfl ?_
                  refine r_goto (tgt := 7) C (dx dX7_head 31 rfl) (by decide) ?_
                  have e91 : ((hdR v g p).1) = ((hdR v g (p + 1)).1) := by (simp only [hdR]; rw [if_neg (fun z => by have z1 := z.1; rw [e11] at z1; exact absurd z1 (by decide))])
                  rw [e91]
                  have e92 : ((hdR v g p).2) = ((hdR v g (p + 1)).2) := by (simp only [hdR]; rw [if_neg (fun z => by have z1 := z.1; rw [e11] at z1; exact absurd z1 (by decide))])
                  rw [e92]
                  exact ih _ (by rw [hd]; exact M9) lo9 x9 (by rw [hd]; exact k9))
            · first
              | (omega; done)
              | (
                  have c11 : 1 = 2 := c11
                  refine r_aload_n C (dx dX7_head 15 rfl) rfl ?_
                  refine r_iload C (dx dX7_head 16 rfl) rfl ?_
                  refine r_cv (as := [vi (nI p)]) (st := []) C X I_X7_wouldBy l_X7_299 (w_wouldBy M9 x9 hp ⟨a11, a21⟩ a31 a71 a81) (by decide) (Nat.le_of_ble_eq_true rfl) (by rw [M9.al]; exact AL_pre id (fun _ => rfl)) (by rw [hT]; exact List.prefix_rfl) rfl rfl (Nat.le_of_ble_eq_true rfl) rfl (dx dX7_head 17 rfl) ?_
                  rintro _ hF ⟨rfl, MF, loF9, xF⟩ kF
                  have loF := lo9.tr loF9
                  refine r_lstore (ls' := [(0, vr 7 k), (1, vi ((hdR v g p).1)), (2, vl ((hdR v g p).2)), (4, vi (nI p)), (5, vl (dyR (hAR v κ1 b1)))]) C (dx dX7_head 18 rfl) (by decide) [1, 2, 3, 4, 0] rfl ?_
                  refine r_iload_n C (dx dX7_head 19 rfl) rfl ?_
                  refine r_iconst (v := -1) C (dx dX7_head 20 rfl) rfl ?_
                  refine r_icmp_eq (tgt := 45) C (dx dX7_head 21 rfl) (by decide) (fun c12 => ?_) (fun c12 => ?_)
                  ·
                    have c12 : (hdR v g p).1 = -1 := c12
                    refine r_iload C (dx dX7_head 26 rfl) rfl ?_
                    refine r_istore_n (ls' := [(0, vr 7 k), (1, vi (nI p)), (2, vl ((hdR v g p).2)), (4, vi (nI p)), (5, vl (dyR (hAR v κ1 b1)))]) C (dx dX7_head 27 rfl) (by decide) [1, 0, 2, 3, 4] rfl ?_
                    refine r_lload C (dx dX7_head 28 rfl) rfl ?_
                    refine r_lstore_n (ls' := [(0, vr 7 k), (1, vi (nI p)), (2, vl (dyR (hAR v κ1 b1))), (4, vi (nI p)), (5, vl (dyR (hAR v κ1 b1)))]) C (dx dX7_head 29 rfl) (by decide) [1, 2, 0, 3, 4] rfl ?_
                    refine rn_iinc (a := p) (k := 1) (ls' := [(0, vr 7 k), (1, vi (nI p)), (2, vl (dyR (hAR v κ1 b1))), (4, vi (nI (p + 1))), (5, vl (dyR (hAR v κ1 b1)))]) C (dx dX7_head 30 rfl) rfl rfl (by decide) [1, 2, 3, 0, 4] rfl ?_
                    refine r_goto (tgt := 7) C (dx dX7_head 31 rfl) (by decide) ?_
                    have e91 : (nI p) = ((hdR v g (p + 1)).1) := by (simp only [hdR]; rw [if_neg (fun z => by have z1 := z.1; rw [e11] at z1; exact absurd z1 (by decide))])
                    rw [e91]
                    have e92 : (dyR (hAR v κ1 b1)) = ((hdR v g (p + 1)).2) := by (simp only [hdR]; rw [if_neg (fun z => by have z1 := z.1; rw [e11] at z1; exact absurd z1 (by decide))])
                    rw [e92]
                    refine r_weak C [0, 1, 2, 3] rfl ?_
                    exact ih _ (by rw [hd]; exact MF) loF xF (by rw [hd]; exact kF)
                  ·
                    have c12 : ¬ (hdR v g p).1 = -1 := c12
                    refine r_lload C (dx dX7_head 22 rfl) rfl ?_
                    refine r_lload_n C (dx dX7_head 23 rfl) rfl ?_
                    refine r_lcmp C (dx dX7_head 24 rfl) ?_
                    refine r_if_le (tgt := 51) C (dx dX7_head 25 rfl) (by decide) (fun c13 => ?_) (fun c13 => ?_)
                    ·
                      have c13 : dyR (hAR v κ1 b1) ≤ (hdR v g p).2 := (lg_cmp_le _ _).mp c13
                      refine rn_iinc (a := p) (k := 1) (ls' := [(0, vr 7 k), (1, vi ((hdR v g p).1)), (2, vl ((hdR v g p).2)), (4, vi (nI (p + 1))), (5, vl (dyR (hAR v κ1 b1)))]) C (dx dX7_head 30 rfl) rfl rfl (by decide) [1, 2, 3, 0, 4] rfl ?_
                      refine r_goto (tgt := 7) C (dx dX7_head 31 rfl) (by decide) ?_
                      have e91 : ((hdR v g p).1) = ((hdR v g (p + 1)).1) := by (simp only [hdR]; rw [if_neg (fun z => by have z1 := z.1; rw [e11] at z1; exact absurd z1 (by decide))])
                      rw [e91]
                      have e92 : ((hdR v g p).2) = ((hdR v g (p + 1)).2) := by (simp only [hdR]; rw [if_neg (fun z => by have z1 := z.1; rw [e11] at z1; exact absurd z1 (by decide))])
                      rw [e92]
                      refine r_weak C [0, 1, 2, 3] rfl ?_
                      exact ih _ (by rw [hd]; exact MF) loF xF (by rw [hd]; exact kF)
                    ·
                      have c13 : ¬ (dyR (hAR v κ1 b1) ≤ (hdR v g p).2) := fun q => c13 ((lg_cmp_le _ _).mpr q)
                      refine r_iload C (dx dX7_head 26 rfl) rfl ?_
                      refine r_istore_n (ls' := [(0, vr 7 k), (1, vi (nI p)), (2, vl ((hdR v g p).2)), (4, vi (nI p)), (5, vl (dyR (hAR v κ1 b1)))]) C (dx dX7_head 27 rfl) (by decide) [1, 0, 2, 3, 4] rfl ?_
                      refine r_lload C (dx dX7_head 28 rfl) rfl ?_
                      refine r_lstore_n (ls' := [(0, vr 7 k), (1, vi (nI p)), (2, vl (dyR (hAR v κ1 b1))), (4, vi (nI p)), (5, vl (dyR (hAR v κ1 b1)))]) C (dx dX7_head 29 rfl) (by decide) [1, 2, 0, 3, 4] rfl ?_
                      refine rn_iinc (a := p) (k := 1) (ls' := [(0, vr 7 k), (1, vi (nI p)), (2, vl (dyR (hAR v κ1 b1))), (4, vi (nI (p + 1))), (5, vl (dyR (hAR v κ1 b1)))]) C (dx dX7_head 30 rfl) rfl rfl (by decide) [1, 2, 3, 0, 4] rfl ?_
                      refine r_goto (tgt := 7) C (dx dX7_head 31 rfl) (by decide) ?_
                      have e91 : (nI p) = ((hdR v g (p + 1)).1) := by (simp only [hdR]; rw [if_neg (fun z => by have z1 := z.1; rw [e11] at z1; exact absurd z1 (by decide))])
                      rw [e91]
                      have e92 : (dyR (hAR v κ1 b1)) = ((hdR v g (p + 1)).2) := by (simp only [hdR]; rw [if_neg (fun z => by have z1 := z.1; rw [e11] at z1; exact absurd z1 (by decide))])
                      rw [e92]
                      refine r_weak C [0, 1, 2, 3] rfl ?_
                      exact ih _ (by rw [hd]; exact MF) loF xF (by rw [hd]; exact kF))
          ·
            obtain ⟨e01, e11, e21, e31, e41, e51, e61, e71⟩ := sh_hold hp a21 a71 a81
            have hd : (τ || hdB g (p + 1)) = true := by simp [hdB, e11]
            have hT : (τ || hdB g 8) = true := by rw [hd_all e11 8 hp, Bool.or_true]
            have ew9 : hdW v g (nI p) = hAR v κ1 b1 := hdW_e hp a21 a31 a71 a81
            refine r_aload_n C (dx dX7_head 9 rfl) rfl ?_
            refine g_X7_7 C (dx dX7_head 10 rfl) ?_
            refine r_iload C (dx dX7_head 11 rfl) rfl ?_
            refine r_iald (j := p) (x := nI 2) C rfl rfl (by decide) rfl (by omega) (dx dX7_head 12 rfl) a41 ?_
            refine r_iconst (v := nI 2) C (dx dX7_head 13 rfl) rfl ?_
            refine rn_ne (a := 2) (b := 2) (tgt := 51) C (by omega) (by omega) (dx dX7_head 14 rfl) (by decide) (fun c14 => ?_) (fun c14 => ?_)
            · first
              | (omega; done)
              | (
                  have c14 : ¬ 2 = 2 := c14
                  refine rn_iinc (a := p) (k := 1) (ls' := [(0, vr 7 k), (1, vi ((hdR v g p).1)), (2, vl ((hdR v g p).2)), (4, vi (nI (p + 1)))]) C (dx dX7_head 30 rfl) rfl rfl (by decide) [1, 2, 3, 0] rfl ?_
                  refine r_goto (tgt := 7) C (dx dX7_head 31 rfl) (by decide) ?_
                  have e91 : ((hdR v g p).1) = ((hdR v g (p + 1)).1) := by (simp only [hdR]; rw [if_neg (fun z => z.2.elim None (fun y => y (by rw [ew9]; exact None)))])
                  rw [e91]
                  have e92 : ((hdR v g p).2) = ((hdR v g (p + 1)).2) := by (simp only [hdR]; rw [if_neg (fun z => z.2.elim None (fun y => y (by rw [ew9]; exact None)))])
                  rw [e92]
                  exact ih _ (by rw [hd]; exact M9) lo9 x9 (by rw [hd]; exact k9))
            · first
              | (omega; done)
              | (
                  have c14 : 2 = 2 := c14
                  refine r_aload_n C (dx dX7_head 15 rfl) rfl ?_
                  refine r_iload C (dx dX7_head 16 rfl) rfl ?_
                  refine r_cv (as := [vi (nI p)]) (st := []) C X I_X7_wouldBy l_X7_299 (w_wouldBy M9 x9 hp ⟨a11, a21⟩ a31 a71 a81) (by decide) (Nat.le_of_ble_eq_true rfl) (by rw [M9.al]; exact AL_pre id (fun _ => rfl)) (by rw [hT]; exact List.prefix_rfl) rfl rfl (Nat.le_of_ble_eq_true rfl) rfl (dx dX7_head 17 rfl) ?_
                  rintro _ hF ⟨rfl, MF, loF9, xF⟩ kF
                  have loF := lo9.tr loF9
                  refine r_lstore (ls' := [(0, vr 7 k), (1, vi ((hdR v g p).1)), (2, vl ((hdR v g p).2)), (4, vi (nI p)), (5, vl (dyR (hAR v κ1 b1)))]) C (dx dX7_head 18 rfl) (by decide) [1, 2, 3, 4, 0] rfl ?_
                  refine r_iload_n C (dx dX7_head 19 rfl) rfl ?_
                  refine r_iconst (v := -1) C (dx dX7_head 20 rfl) rfl ?_
                  refine r_icmp_eq (tgt := 45) C (dx dX7_head 21 rfl) (by decide) (fun c15 => ?_) (fun c15 => ?_)
                  ·
                    have c15 : (hdR v g p).1 = -1 := c15
                    refine r_iload C (dx dX7_head 26 rfl) rfl ?_
                    refine r_istore_n (ls' := [(0, vr 7 k), (1, vi (nI p)), (2, vl ((hdR v g p).2)), (4, vi (nI p)), (5, vl (dyR (hAR v κ1 b1)))]) C (dx dX7_head 27 rfl) (by decide) [1, 0, 2, 3, 4] rfl ?_
                    refine r_lload C (dx dX7_head 28 rfl) rfl ?_
                    refine r_lstore_n (ls' := [(0, vr 7 k), (1, vi (nI p)), (2, vl (dyR (hAR v κ1 b1))), (4, vi (nI p)), (5, vl (dyR (hAR v κ1 b1)))]) C (dx dX7_head 29 rfl) (by decide) [1, 2, 0, 3, 4] rfl ?_
                    refine rn_iinc (a := p) (k := 1) (ls' := [(0, vr 7 k), (1, vi (nI p)), (2, vl (dyR (hAR v κ1 b1))), (4, vi (nI (p + 1))), (5, vl (dyR (hAR v κ1 b1)))]) C (dx dX7_head 30 rfl) rfl rfl (by decide) [1, 2, 3, 0, 4] rfl ?_
                    refine r_goto (tgt := 7) C (dx dX7_head 31 rfl) (by decide) ?_
                    have e91 : (nI p) = ((hdR v g (p + 1)).1) := by (simp only [hdR]; rw [if_pos ⟨e11, Or.inl c15⟩]; first | done | rw [ew9])
                    rw [e91]
                    have e92 : (dyR (hAR v κ1 b1)) = ((hdR v g (p + 1)).2) := by (simp only [hdR]; rw [if_pos ⟨e11, Or.inl c15⟩]; first | done | rw [ew9])
                    rw [e92]
                    refine r_weak C [0, 1, 2, 3] rfl ?_
                    exact ih _ (by rw [hd]; exact MF) loF xF (by rw [hd]; exact kF)
                  ·
                    have c15 : ¬ (hdR v g p).1 = -1 := c15
                    refine r_lload C (dx dX7_head 22 rfl) rfl ?_
                    refine r_lload_n C (dx dX7_head 23 rfl) rfl ?_
                    refine r_lcmp C (dx dX7_head 24 rfl) ?_
                    refine r_if_le (tgt := 51) C (dx dX7_head 25 rfl) (by decide) (fun c16 => ?_) (fun c16 => ?_)
                    ·
                      have c16 : dyR (hAR v κ1 b1) ≤ (hdR v g p).2 := (lg_cmp_le _ _).mp c16
                      refine rn_iinc (a := p) (k := 1) (ls' := [(0, vr 7 k), (1, vi ((hdR v g p).1)), (2, vl ((hdR v g p).2)), (4, vi (nI (p + 1))), (5, vl (dyR (hAR v κ1 b1)))]) C (dx dX7_head 30 rfl) rfl rfl (by decide) [1, 2, 3, 0, 4] rfl ?_
                      refine r_goto (tgt := 7) C (dx dX7_head 31 rfl) (by decide) ?_
                      have e91 : ((hdR v g p).1) = ((hdR v g (p + 1)).1) := by (simp only [hdR]; rw [if_neg (fun z => z.2.elim c15 (fun y => y (by rw [ew9]; exact c16)))])
                      rw [e91]
                      have e92 : ((hdR v g p).2) = ((hdR v g (p + 1)).2) := by (simp only [hdR]; rw [if_neg (fun z => z.2.elim c15 (fun y => y (by rw [ew9]; exact c16)))])
                      rw [e92]
                      refine r_weak C [0, 1, 2, 3] rfl ?_
                      exact ih _ (by rw [hd]; exact MF) loF xF (by rw [hd]; exact kF)
                    ·
                      have c16 : ¬ (dyR (hAR v κ1 b1) ≤ (hdR v g p).2) := fun q => c16 ((lg_cmp_le _ _).mpr q)
                      refine r_iload C (dx dX7_head 26 rfl) rfl ?_
                      refine r_istore_n (ls' := [(0, vr 7 k), (1, vi (nI p)), (2, vl ((hdR v g p).2)), (4, vi (nI p)), (5, vl (dyR (hAR v κ1 b1)))]) C (dx dX7_head 27 rfl) (by decide) [1, 0, 2, 3, 4] rfl ?_
                      refine r_lload C (dx dX7_head 28 rfl) rfl ?_
                      refine r_lstore_n (ls' := [(0, vr 7 k), (1, vi (nI p)), (2, vl (dyR (hAR v κ1 b1))), (4, vi (nI p)), (5, vl (dyR (hAR v κ1 b1)))]) C (dx dX7_head 29 rfl) (by decide) [1, 2, 0, 3, 4] rfl ?_
                      refine rn_iinc (a := p) (k := 1) (ls' := [(0, vr 7 k), (1, vi (nI p)), (2, vl (dyR (hAR v κ1 b1))), (4, vi (nI (p + 1))), (5, vl (dyR (hAR v κ1 b1)))]) C (dx dX7_head 30 rfl) rfl rfl (by decide) [1, 2, 3, 0, 4] rfl ?_
                      refine r_goto (tgt := 7) C (dx dX7_head 31 rfl) (by decide) ?_
                      have e91 : (nI p) = ((hdR v g (p + 1)).1) := by (simp only [hdR]; rw [if_pos ⟨e11, Or.inr (by rw [ew9]; exact c16)⟩]; first | done | rw [ew9])
                      rw [e91]
                      have e92 : (dyR (hAR v κ1 b1)) = ((hdR v g (p + 1)).2) := by (simp only [hdR]; rw [if_pos ⟨e11, Or.inr (by rw [ew9]; exact c16)⟩]; first | done | rw [ew9])
                      rw [e92]
                      refine r_weak C [0, 1, 2, 3] rfl ?_
                      exact ih _ (by rw [hd]; exact MF) loF xF (by rw [hd]; exact kF)))

