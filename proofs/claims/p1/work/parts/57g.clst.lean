/-! PART 57g: the class: villages tried, holdings told -/
def hsC (v : Vg) : Nat → Int32 × Int64
  | 0 => (-1, 0)
  | n + 1 => if vF v 6 n = 0 ∧ ((hsC v n).1 = -1 ∨ ¬ (hsC v n).2 ≤ dayC (vset v 6 n (vp_nar .boolean (nI 1)))) then (nI n, dayC (vset v 6 n (vp_nar .boolean (nI 1)))) else hsC v n
def harA (v : Vg) : Int32 := if (hsC v (vN v)).1 = -1 then -5 else (hsC v (vN v)).1
def spJ (v : Vg) (x : Int32 × Int64) (p : Nat) : Nat → Int32 × Int64
  | 0 => x
  | n + 1 => if ¬ nI n = vF v 0 p ∧ hasRm v (nI n) = true ∧ ¬ dayC (vset v 1 p (nI n)) ≤ (spJ v x p n).2 then (nI (10 * p + n), dayC (vset v 1 p (nI n))) else spJ v x p n
def spP (v : Vg) : Nat → Int32 × Int64
  | 0 => (-1, dayC v)
  | n + 1 => if vF v 1 n = -1 then spJ v (spP v n) n (vN v) else spP v n
def spaA (v : Vg) : Int32 := (spP v (vP v)).1
def gifA (v : Vg) (p o : Int32) : Int64 := if (inR p (vP v) && inR o (vN v)) = true then (if ¬ vF v 0 p.toNatClampNeg = o ∧ hasRm v o = false then -1000000000005 else dayC (vset v 0 p.toNatClampNeg o) - dayC v) else -1000000000002
def truA (v : Vg) (a b : Int32) : Int64 := if inR a (vN v) = true ∧ inR b (vN v) = true ∧ ¬ a = b then dayC (handV v a b (vP v)) - dayC v else -1000000000002
def wouA (v : Vg) (g : Sg) (s : Int32) : Int64 := if nhA g s = 0 then dayC (hdW v g s) else (nhA g s).toInt64
def hdC (v : Vg) (g : Sg) : Nat → Int32 × Int64
  | 0 => (-1, -1)
  | n + 1 => if holdB g (nI n) = true ∧ ¬ dayC (hdW v g (nI n)) ≤ (hdC v g n).2 then (nI n, dayC (hdW v g (nI n))) else hdC v g n
def heaA (v : Vg) (g : Sg) : Int32 := if (hdC v g 8).1 = -1 then -5 else (hdC v g 8).1
theorem hdW_k {v : Vg} {g : Sg} {s : Int32} {κ1 b1 : Nat} (ek : kdV g s = nI κ1) (eb : byV g s = nI b1) (h5 : κ1 ≤ 5) (hb : b1 < 100) : hdW v g s = hAR v κ1 b1 := by
  unfold hdW
  rw [ek, eb, clN (by omega), clN (by omega)]
theorem nh_y {g : Sg} {s : Int32} (c1 : inR s 8 = true) (c2 : hfV g s = 0) : nhA g s = 0 := by
  unfold nhA; rw [if_pos c1]; exact c2
set_option maxHeartbeats 4000000 in
theorem x2_tryHolding {l : Launch} {h : Hp} {v u w : Vg} {g : Sg} {B : Nat → Int32} {z : Nat} {κ : Int32} (o : Ow h v u w g B z κ) (hg : GOk g) (ok : VOk v) {s : Int32} (hh : holdB g s = true) : Ms l yX6_tryHolding cX6_tryHolding 2 none 10 [vr 6 0, vi s] h (xK h) (fun r h' => r = none ∧ Ow h' v (hdW v g s) w g B z κ ∧ Fr 0 63 h h') := by
  refine Ms.of (by decide) (Nat.le_of_ble_eq_true rfl) (fun G C X F => ?_)
  have C : Cx G cX6_tryHolding 2 RX6 := C
  show Rr G 0 [(0, vr 6 0), (1, vi s)] [] h
  have bP := o.pv.bP
  have bM := o.pv.bM
  have bN := o.pv.bN
  have bz := o.pt.2.2
  obtain ⟨κ1, b1, h1, h2, h3, ek, eb⟩ := hg.hold hh
  refine r_aload_n C (dx dX6_tryHolding 0 rfl) rfl ?_
  refine g_X6_16 C (dx dX6_tryHolding 1 rfl) ?_
  refine r_aload_n C (dx dX6_tryHolding 2 rfl) rfl ?_
  refine g_X6_10 C (dx dX6_tryHolding 3 rfl) ?_
  refine r_cv (as := [vr 5 1]) (st := []) C X I_X5_takeOver l_X6_191 (c_X5_takeOver o.pu o.pv (by omega)) (by decide) (Nat.le_of_ble_eq_true rfl) List.prefix_rfl List.prefix_rfl rfl rfl (Nat.le_of_ble_eq_true rfl) rfl (dx dX6_tryHolding 4 rfl) ?_
  intro rh1 h1 hph1 kkh1
  obtain ⟨rfl, wh1, gh1⟩ := hph1
  have oh1 : Ow h1 v v w g B z κ := o.tri wh1 gh1
  have fh1 : Fr 0 63 h h1 := gh1.mono (by omega) (by omega)
  have kh1 : xK h1 = xK h := kkh1
  refine r_aload_n C (dx dX6_tryHolding 5 rfl) rfl ?_
  refine g_X6_36 C (dx dX6_tryHolding 6 rfl) ?_
  refine r_aload_n C (dx dX6_tryHolding 7 rfl) rfl ?_
  refine g_X6_16 C (dx dX6_tryHolding 8 rfl) ?_
  refine r_aload_n C (dx dX6_tryHolding 9 rfl) rfl ?_
  refine g_X6_57 C (dx dX6_tryHolding 10 rfl) ?_
  refine r_iload_n C (dx dX6_tryHolding 11 rfl) rfl ?_
  refine r_cvP (as := [vi s]) (st := [vr 5 10, vr 0 32]) (v := vi (nI κ1)) C X I_X2_kindOn l_X6_117 (c_kdN oh1.pg ek) (by decide) (Nat.le_of_ble_eq_true rfl) (pfx_eq kh1) rfl rfl (Nat.le_of_ble_eq_true rfl) rfl (dx dX6_tryHolding 12 rfl) ?_
  refine r_aload_n C (dx dX6_tryHolding 13 rfl) rfl ?_
  refine g_X6_57 C (dx dX6_tryHolding 14 rfl) ?_
  refine r_iload_n C (dx dX6_tryHolding 15 rfl) rfl ?_
  refine r_cvP (as := [vi s]) (st := [vi (nI κ1), vr 5 10, vr 0 32]) (v := vi (nI b1)) C X I_X2_byOn l_X6_124 (c_byN oh1.pg eb) (by decide) (Nat.le_of_ble_eq_true rfl) (pfx_eq kh1) rfl rfl (Nat.le_of_ble_eq_true rfl) rfl (dx dX6_tryHolding 16 rfl) ?_
  refine r_cv (as := [vr 5 10, vi (nI κ1), vi (nI b1)]) (st := []) C X I_X0_tellAnew l_X6_260 (c_X0_tellAnew (r := fun i => xI h1 (32 + 1) i) (κ := κ1) (b := b1) oh1.pu (fun i _ => rfl) (by omega) ⟨by omega, by omega⟩ (by omega)) (by decide) (Nat.le_of_ble_eq_true rfl) List.prefix_rfl (pfx_eq kh1) rfl rfl (Nat.le_of_ble_eq_true rfl) rfl (dx dX6_tryHolding 17 rfl) ?_
  intro rh2 h2 hph2 kkh2
  obtain ⟨rfl, wh2, gh2⟩ := hph2
  have yh2 : VilAt h2 10 (hAR v κ1 b1) := by rw [tell_eq (r := fun i => xI h1 (32 + 1) i) ok ⟨by omega, by omega⟩ (by omega)]; exact wh2
  have oh2 : Ow h2 v (hAR v κ1 b1) w g B z κ := oh1.rul yh2 gh2
  have fh2 : Fr 0 63 h h2 := fh1.tr (gh2.to (fun b q => RA.lo q))
  have kh2 : xK h2 = xK h := (kkh2).trans kh1
  exact F.2.2.1 _ _ _ rfl (dx dX6_tryHolding 18 rfl) kh2 ⟨rfl, by rw [hdW_k ek eb (by omega) (by omega)]; exact oh2, fh2⟩
set_option maxHeartbeats 4000000 in
theorem x2_says {l : Launch} {h : Hp} {v u w : Vg} {g : Sg} {B : Nat → Int32} {z : Nat} {κ : Int32} (o : Ow h v u w g B z κ) (hg : GOk g) (ok : VOk v) (s x : Int32) : Ms l yX6_says cX6_says 4 (some .int) 20 [vr 6 0, vi s, vi x] h (xK h) (fun r h' => r = some (vi (sayA v g s x)) ∧ OwX h h' v w g B z κ) := by
  refine Ms.of (by decide) (Nat.le_of_ble_eq_true rfl) (fun G C X F => ?_)
  have C : Cx G cX6_says 4 RX6 := C
  show Rr G 0 [(0, vr 6 0), (1, vi s), (2, vi x)] [] h
  have bP := o.pv.bP
  have bM := o.pv.bM
  have bN := o.pv.bN
  have bz := o.pt.2.2
  refine r_aload_n C (dx dX6_says 0 rfl) rfl ?_
  refine g_X6_57 C (dx dX6_says 1 rfl) ?_
  refine r_iload_n C (dx dX6_says 2 rfl) rfl ?_
  refine r_cvP (as := [vi s]) (st := []) (v := vi (b2i (inR s 8))) C X I_X2_isShelf l_X6_72 (c_X2_isShelf _) (by decide) (Nat.le_of_ble_eq_true rfl) List.prefix_rfl rfl rfl (Nat.le_of_ble_eq_true rfl) rfl (dx dX6_says 3 rfl) ?_
  refine rb_eq (b := inR s 8) (tgt := 20) C (dx dX6_says 4 rfl) (by decide) (fun c1 => ?_) (fun c1 => ?_)
  ·
    have c1 : (inR s 8) = false := c1
    refine r_aload_n C (dx dX6_says 10 rfl) rfl ?_
    refine r_bipush (v := -2) C (dx dX6_says 11 rfl) rfl ?_
    refine r_cv (as := [vi (-2)]) (st := []) C X I_X6_refuse l_X6_76 (c_X6_refuse (-2)) (by decide) (Nat.le_of_ble_eq_true rfl) List.prefix_rfl List.prefix_rfl rfl rfl (Nat.le_of_ble_eq_true rfl) rfl (dx dX6_says 12 rfl) ?_
    intro rh2 h2 hph2 kkh2
    obtain ⟨rfl, gh2⟩ := hph2
    have oh2 : Ow h2 v u w g B z κ := o.ref gh2
    have fh2 : Fr 0 63 h h2 := gh2.mono (by omega) (by omega)
    have kh2 : xK h2 = xK h := kkh2
    have eA : sayA v g s x = -2 := by (first | (simp [sayA, hcN, c1]; done) | (simp [sayA, hcN, c1] <;> rfl))
    exact F.1 _ _ _ _ _ rfl rfl (dx dX6_says 13 rfl) kh2 (show some (vi (-2)) = some (vi (sayA v g s x)) ∧ OwX h h2 v w g B z κ from by rw [eA]; exact ⟨rfl, ⟨_, oh2⟩, fh2⟩)
  ·
    have c1 : (inR s 8) = true := c1
    refine r_iload_n C (dx dX6_says 5 rfl) rfl ?_
    refine r_if_lt (tgt := 20) C (dx dX6_says 6 rfl) (by decide) (fun c3 => ?_) (fun c3 => ?_)
    ·
      have c3 : x < 0 := c3
      refine r_aload_n C (dx dX6_says 10 rfl) rfl ?_
      refine r_bipush (v := -2) C (dx dX6_says 11 rfl) rfl ?_
      refine r_cv (as := [vi (-2)]) (st := []) C X I_X6_refuse l_X6_76 (c_X6_refuse (-2)) (by decide) (Nat.le_of_ble_eq_true rfl) List.prefix_rfl List.prefix_rfl rfl rfl (Nat.le_of_ble_eq_true rfl) rfl (dx dX6_says 12 rfl) ?_
      intro rh4 h4 hph4 kkh4
      obtain ⟨rfl, gh4⟩ := hph4
      have oh4 : Ow h4 v u w g B z κ := o.ref gh4
      have fh4 : Fr 0 63 h h4 := gh4.mono (by omega) (by omega)
      have kh4 : xK h4 = xK h := kkh4
      have eA : sayA v g s x = -2 := by (first | (simp [sayA, hcN, c1, (fun n9 => inR_neg (n := n9) c3 : ∀ n9, inR x n9 = false), c3]; done) | (simp [sayA, hcN, c1, (fun n9 => inR_neg (n := n9) c3 : ∀ n9, inR x n9 = false), c3] <;> rfl))
      exact F.1 _ _ _ _ _ rfl rfl (dx dX6_says 13 rfl) kh4 (show some (vi (-2)) = some (vi (sayA v g s x)) ∧ OwX h h4 v w g B z κ from by rw [eA]; exact ⟨rfl, ⟨_, oh4⟩, fh4⟩)
    ·
      have c3 : ¬ x < 0 := c3
      refine r_iload_n C (dx dX6_says 7 rfl) rfl ?_
      refine r_iconst (v := nI 5) C (dx dX6_says 8 rfl) rfl ?_
      refine r_icmp_le (tgt := 27) C (dx dX6_says 9 rfl) (by decide) (fun c5 => ?_) (fun c5 => ?_)
      ·
        have c5 : x ≤ nI 5 := c5
        refine r_aload_n C (dx dX6_says 14 rfl) rfl ?_
        refine g_X6_57 C (dx dX6_says 15 rfl) ?_
        refine r_iload_n C (dx dX6_says 16 rfl) rfl ?_
        refine r_cvP (as := [vi s]) (st := []) (v := vi (hfV g s)) C X I_X2_holdingFault l_X6_114 (c_X2_holdingFault o.pg _) (by decide) (Nat.le_of_ble_eq_true rfl) List.prefix_rfl rfl rfl (Nat.le_of_ble_eq_true rfl) rfl (dx dX6_says 17 rfl) ?_
        refine r_istore_n (ls' := [(0, vr 6 0), (1, vi s), (2, vi x), (3, vi (hfV g s))]) C (dx dX6_says 18 rfl) (by decide) [1, 2, 3, 0] rfl ?_
        refine r_iload_n C (dx dX6_says 19 rfl) rfl ?_
        refine r_if_ne (tgt := 58) C (dx dX6_says 20 rfl) (by decide) (fun c6 => ?_) (fun c6 => ?_)
        ·
          have c6 : ¬ hfV g s = 0 := c6
          refine r_iload_n C (dx dX6_says 30 rfl) rfl ?_
          refine r_if_eq (tgt := 68) C (dx dX6_says 31 rfl) (by decide) (fun c7 => ?_) (fun c7 => ?_)
          ·
            have c7 : hfV g s = 0 := c7
            exact absurd c7 c6
          ·
            have c7 : ¬ hfV g s = 0 := c7
            refine r_aload_n C (dx dX6_says 32 rfl) rfl ?_
            refine r_iload_n C (dx dX6_says 33 rfl) rfl ?_
            refine r_cv (as := [vi (hfV g s)]) (st := []) C X I_X6_refuse l_X6_76 (c_X6_refuse (hfV g s)) (by decide) (Nat.le_of_ble_eq_true rfl) List.prefix_rfl List.prefix_rfl rfl rfl (Nat.le_of_ble_eq_true rfl) rfl (dx dX6_says 34 rfl) ?_
            intro rh8 h8 hph8 kkh8
            obtain ⟨rfl, gh8⟩ := hph8
            have oh8 : Ow h8 v u w g B z κ := o.ref gh8
            have fh8 : Fr 0 63 h h8 := gh8.mono (by omega) (by omega)
            have kh8 : xK h8 = xK h := kkh8
            have eA : sayA v g s x = hfV g s := by (first | (simp [sayA, hcN, c1, c3, c5, (Int32.not_lt.mpr c5), c6, c7, (inR_mid (n := 5) (by omega) c3 (Int32.not_lt.mpr c5) : inR x 6 = true)]; done) | (simp [sayA, hcN, c1, c3, c5, (Int32.not_lt.mpr c5), c6, c7, (inR_mid (n := 5) (by omega) c3 (Int32.not_lt.mpr c5) : inR x 6 = true)] <;> rfl))
            exact F.1 _ _ _ _ _ rfl rfl (dx dX6_says 35 rfl) kh8 (show some (vi (hfV g s)) = some (vi (sayA v g s x)) ∧ OwX h h8 v w g B z κ from by rw [eA]; exact ⟨rfl, ⟨_, oh8⟩, fh8⟩)
        ·
          have c6 : hfV g s = 0 := c6
          refine r_aload_n C (dx dX6_says 21 rfl) rfl ?_
          refine g_X6_57 C (dx dX6_says 22 rfl) ?_
          refine r_iload_n C (dx dX6_says 23 rfl) rfl ?_
          refine r_cvP (as := [vi s]) (st := []) (v := vi (kdV g s)) C X I_X2_kindOn l_X6_117 (c_X2_kindOn o.pg _) (by decide) (Nat.le_of_ble_eq_true rfl) List.prefix_rfl rfl rfl (Nat.le_of_ble_eq_true rfl) rfl (dx dX6_says 24 rfl) ?_
          refine r_iload_n C (dx dX6_says 25 rfl) rfl ?_
          refine r_csP (as := [vi (kdV g s), vi x]) (st := []) (v := vi (b2i (undV (kdV g s) x))) C X I_X6_isUnder l_X6_120 (c_X6_isUnder _ _) (by decide) (Nat.le_of_ble_eq_true rfl) List.prefix_rfl (Nat.le_of_ble_eq_true rfl) rfl (dx dX6_says 26 rfl) ?_
          refine rb_ne (b := undV (kdV g s) x) (tgt := 58) C (dx dX6_says 27 rfl) (by decide) (fun c9 => ?_) (fun c9 => ?_)
          ·
            have c9 : (undV (kdV g s) x) = true := c9
            refine r_iload_n C (dx dX6_says 30 rfl) rfl ?_
            refine r_if_eq (tgt := 68) C (dx dX6_says 31 rfl) (by decide) (fun c10 => ?_) (fun c10 => ?_)
            ·
              have c10 : hfV g s = 0 := c10
              refine r_iload_n C (dx dX6_says 36 rfl) rfl ?_
              refine r_if_ne (tgt := 81) C (dx dX6_says 37 rfl) (by decide) (fun c11 => ?_) (fun c11 => ?_)
              ·
                have c11 : ¬ x = 0 := c11
                refine r_aload_n C (dx dX6_says 43 rfl) rfl ?_
                refine r_iload_n C (dx dX6_says 44 rfl) rfl ?_
                refine r_cv (as := [vi s]) (st := []) C X I_X6_tryHolding l_X6_127 (x2_tryHolding o hg ok (hf_hold c6)) (by decide) (Nat.le_of_ble_eq_true rfl) List.prefix_rfl List.prefix_rfl rfl rfl (Nat.le_of_ble_eq_true rfl) rfl (dx dX6_says 45 rfl) ?_
                intro rh12 h12 hph12 kkh12
                obtain ⟨rfl, wh12, gh12⟩ := hph12
                have oh12 : Ow h12 v (hdW v g s) w g B z κ := wh12
                have fh12 : Fr 0 63 h h12 := gh12
                have kh12 : xK h12 = xK h := kkh12
                refine r_iload_n C (dx dX6_says 46 rfl) rfl ?_
                refine r_iconst (v := nI 3) C (dx dX6_says 47 rfl) rfl ?_
                refine r_icmp_ne (tgt := 101) C (dx dX6_says 48 rfl) (by decide) (fun c13 => ?_) (fun c13 => ?_)
                ·
                  have c13 : ¬ x = nI 3 := c13
                  refine r_aload_n C (dx dX6_says 53 rfl) rfl ?_
                  refine g_X6_16 C (dx dX6_says 54 rfl) ?_
                  refine r_cvP (as := []) (st := []) (v := vi (nI (cnt (fun p => decide (¬ vF (hdW v g s) 0 p = -1)) (vP (hdW v g s))))) C X I_X5_holderCount l_X6_135 (c_X5_holderCount oh12.pu) (by decide) (Nat.le_of_ble_eq_true rfl) (pfx_eq kh12) rfl rfl (Nat.le_of_ble_eq_true rfl) rfl (dx dX6_says 55 rfl) ?_
                  have eA : sayA v g s x = nI (cnt (fun p => decide (¬ vF (hdW v g s) 0 p = -1)) (vP (hdW v g s))) := by (unfold sayA hcN; rw [if_pos (show (inR s 8 && inR x 6) = true by rw [c1, (inR_mid (n := 5) (by omega) c3 (Int32.not_lt.mpr c5) : inR x 6 = true)]; rfl), if_pos c10, if_pos c9, if_neg c11, if_neg c13])
                  exact F.1 _ _ _ _ _ rfl rfl (dx dX6_says 56 rfl) kh12 (show some (vi (nI (cnt (fun p => decide (¬ vF (hdW v g s) 0 p = -1)) (vP (hdW v g s))))) = some (vi (sayA v g s x)) ∧ OwX h h12 v w g B z κ from by rw [eA]; exact ⟨rfl, ⟨_, oh12⟩, fh12⟩)
                ·
                  have c13 : x = nI 3 := c13
                  refine r_aload_n C (dx dX6_says 49 rfl) rfl ?_
                  refine g_X6_16 C (dx dX6_says 50 rfl) ?_
                  refine r_cvP (as := []) (st := []) (v := vi (nI (cnt (fun p => decide (¬ vF (hdW v g s) 1 p = -1)) (vP (hdW v g s))))) C X I_X5_secondCount l_X6_131 (c_X5_secondCount oh12.pu) (by decide) (Nat.le_of_ble_eq_true rfl) (pfx_eq kh12) rfl rfl (Nat.le_of_ble_eq_true rfl) rfl (dx dX6_says 51 rfl) ?_
                  refine r_goto (tgt := 108) C (dx dX6_says 52 rfl) (by decide) ?_
                  have eA : sayA v g s x = nI (cnt (fun p => decide (¬ vF (hdW v g s) 1 p = -1)) (vP (hdW v g s))) := by (unfold sayA hcN; rw [if_pos (show (inR s 8 && inR x 6) = true by rw [c1, (inR_mid (n := 5) (by omega) c3 (Int32.not_lt.mpr c5) : inR x 6 = true)]; rfl), if_pos c10, if_pos c9, if_neg c11, if_pos c13])
                  exact F.1 _ _ _ _ _ rfl rfl (dx dX6_says 56 rfl) kh12 (show some (vi (nI (cnt (fun p => decide (¬ vF (hdW v g s) 1 p = -1)) (vP (hdW v g s))))) = some (vi (sayA v g s x)) ∧ OwX h h12 v w g B z κ from by rw [eA]; exact ⟨rfl, ⟨_, oh12⟩, fh12⟩)
              ·
                have c11 : x = 0 := c11
                refine r_aload_n C (dx dX6_says 38 rfl) rfl ?_
                refine g_X6_57 C (dx dX6_says 39 rfl) ?_
                refine r_iload_n C (dx dX6_says 40 rfl) rfl ?_
                refine r_cvP (as := [vi s]) (st := []) (v := vi (byV g s)) C X I_X2_byOn l_X6_124 (c_X2_byOn o.pg _) (by decide) (Nat.le_of_ble_eq_true rfl) List.prefix_rfl rfl rfl (Nat.le_of_ble_eq_true rfl) rfl (dx dX6_says 41 rfl) ?_
                have eA : sayA v g s x = byV g s := by (unfold sayA hcN; rw [if_pos (show (inR s 8 && inR x 6) = true by rw [c1, (inR_mid (n := 5) (by omega) c3 (Int32.not_lt.mpr c5) : inR x 6 = true)]; rfl), if_pos c10, if_pos c9, if_pos c11])
                exact F.1 _ _ _ _ _ rfl rfl (dx dX6_says 42 rfl) rfl (show some (vi (byV g s)) = some (vi (sayA v g s x)) ∧ OwX h h v w g B z κ from by rw [eA]; exact ⟨rfl, ⟨_, o⟩, Fr.rf⟩)
            ·
              have c10 : ¬ hfV g s = 0 := c10
              exact absurd c6 c10
          ·
            have c9 : (undV (kdV g s) x) = false := c9
            refine r_bipush (v := -3) C (dx dX6_says 28 rfl) rfl ?_
            refine r_istore_n (ls' := [(0, vr 6 0), (1, vi s), (2, vi x), (3, vi (-3))]) C (dx dX6_says 29 rfl) (by decide) [1, 2, 3, 0] rfl ?_
            refine r_iload_n C (dx dX6_says 30 rfl) rfl ?_
            refine r_if_eq (tgt := 68) C (dx dX6_says 31 rfl) (by decide) (fun c14 => ?_) (fun c14 => ?_)
            ·
              have c14 : (-3 : Int32) = 0 := c14
              refine r_iload_n C (dx dX6_says 36 rfl) rfl ?_
              refine r_if_ne (tgt := 81) C (dx dX6_says 37 rfl) (by decide) (fun c15 => ?_) (fun c15 => ?_)
              ·
                have c15 : ¬ x = 0 := c15
                refine r_aload_n C (dx dX6_says 43 rfl) rfl ?_
                refine r_iload_n C (dx dX6_says 44 rfl) rfl ?_
                refine r_cv (as := [vi s]) (st := []) C X I_X6_tryHolding l_X6_127 (x2_tryHolding o hg ok (hf_hold c6)) (by decide) (Nat.le_of_ble_eq_true rfl) List.prefix_rfl List.prefix_rfl rfl rfl (Nat.le_of_ble_eq_true rfl) rfl (dx dX6_says 45 rfl) ?_
                intro rh16 h16 hph16 kkh16
                obtain ⟨rfl, wh16, gh16⟩ := hph16
                have oh16 : Ow h16 v (hdW v g s) w g B z κ := wh16
                have fh16 : Fr 0 63 h h16 := gh16
                have kh16 : xK h16 = xK h := kkh16
                refine r_iload_n C (dx dX6_says 46 rfl) rfl ?_
                refine r_iconst (v := nI 3) C (dx dX6_says 47 rfl) rfl ?_
                refine r_icmp_ne (tgt := 101) C (dx dX6_says 48 rfl) (by decide) (fun c17 => ?_) (fun c17 => ?_)
                ·
                  have c17 : ¬ x = nI 3 := c17
                  refine r_aload_n C (dx dX6_says 53 rfl) rfl ?_
                  refine g_X6_16 C (dx dX6_says 54 rfl) ?_
                  refine r_cvP (as := []) (st := []) (v := vi (nI (cnt (fun p => decide (¬ vF (hdW v g s) 0 p = -1)) (vP (hdW v g s))))) C X I_X5_holderCount l_X6_135 (c_X5_holderCount oh16.pu) (by decide) (Nat.le_of_ble_eq_true rfl) (pfx_eq kh16) rfl rfl (Nat.le_of_ble_eq_true rfl) rfl (dx dX6_says 55 rfl) ?_
                  have eA : sayA v g s x = nI (cnt (fun p => decide (¬ vF (hdW v g s) 0 p = -1)) (vP (hdW v g s))) := by (exact absurd c14 (by decide))
                  exact F.1 _ _ _ _ _ rfl rfl (dx dX6_says 56 rfl) kh16 (show some (vi (nI (cnt (fun p => decide (¬ vF (hdW v g s) 0 p = -1)) (vP (hdW v g s))))) = some (vi (sayA v g s x)) ∧ OwX h h16 v w g B z κ from by rw [eA]; exact ⟨rfl, ⟨_, oh16⟩, fh16⟩)
                ·
                  have c17 : x = nI 3 := c17
                  refine r_aload_n C (dx dX6_says 49 rfl) rfl ?_
                  refine g_X6_16 C (dx dX6_says 50 rfl) ?_
                  refine r_cvP (as := []) (st := []) (v := vi (nI (cnt (fun p => decide (¬ vF (hdW v g s) 1 p = -1)) (vP (hdW v g s))))) C X I_X5_secondCount l_X6_131 (c_X5_secondCount oh16.pu) (by decide) (Nat.le_of_ble_eq_true rfl) (pfx_eq kh16) rfl rfl (Nat.le_of_ble_eq_true rfl) rfl (dx dX6_says 51 rfl) ?_
                  refine r_goto (tgt := 108) C (dx dX6_says 52 rfl) (by decide) ?_
                  have eA : sayA v g s x = nI (cnt (fun p => decide (¬ vF (hdW v g s) 1 p = -1)) (vP (hdW v g s))) := by (exact absurd c14 (by decide))
                  exact F.1 _ _ _ _ _ rfl rfl (dx dX6_says 56 rfl) kh16 (show some (vi (nI (cnt (fun p => decide (¬ vF (hdW v g s) 1 p = -1)) (vP (hdW v g s))))) = some (vi (sayA v g s x)) ∧ OwX h h16 v w g B z κ from by rw [eA]; exact ⟨rfl, ⟨_, oh16⟩, fh16⟩)
              ·
                have c15 : x = 0 := c15
                refine r_aload_n C (dx dX6_says 38 rfl) rfl ?_
                refine g_X6_57 C (dx dX6_says 39 rfl) ?_
                refine r_iload_n C (dx dX6_says 40 rfl) rfl ?_
                refine r_cvP (as := [vi s]) (st := []) (v := vi (byV g s)) C X I_X2_byOn l_X6_124 (c_X2_byOn o.pg _) (by decide) (Nat.le_of_ble_eq_true rfl) List.prefix_rfl rfl rfl (Nat.le_of_ble_eq_true rfl) rfl (dx dX6_says 41 rfl) ?_
                have eA : sayA v g s x = byV g s := by (exact absurd c14 (by decide))
                exact F.1 _ _ _ _ _ rfl rfl (dx dX6_says 42 rfl) rfl (show some (vi (byV g s)) = some (vi (sayA v g s x)) ∧ OwX h h v w g B z κ from by rw [eA]; exact ⟨rfl, ⟨_, o⟩, Fr.rf⟩)
            ·
              have c14 : ¬ (-3 : Int32) = 0 := c14
              refine r_aload_n C (dx dX6_says 32 rfl) rfl ?_
              refine r_iload_n C (dx dX6_says 33 rfl) rfl ?_
              refine r_cv (as := [vi (-3)]) (st := []) C X I_X6_refuse l_X6_76 (c_X6_refuse (-3)) (by decide) (Nat.le_of_ble_eq_true rfl) List.prefix_rfl List.prefix_rfl rfl rfl (Nat.le_of_ble_eq_true rfl) rfl (dx dX6_says 34 rfl) ?_
              intro rh18 h18 hph18 kkh18
              obtain ⟨rfl, gh18⟩ := hph18
              have oh18 : Ow h18 v u w g B z κ := o.ref gh18
              have fh18 : Fr 0 63 h h18 := gh18.mono (by omega) (by omega)
              have kh18 : xK h18 = xK h := kkh18
              have eA : sayA v g s x = -3 := by (first | (simp [sayA, hcN, c1, c3, c5, (Int32.not_lt.mpr c5), c6, c9, c14, (inR_mid (n := 5) (by omega) c3 (Int32.not_lt.mpr c5) : inR x 6 = true)]; done) | (simp [sayA, hcN, c1, c3, c5, (Int32.not_lt.mpr c5), c6, c9, c14, (inR_mid (n := 5) (by omega) c3 (Int32.not_lt.mpr c5) : inR x 6 = true)] <;> rfl))
              exact F.1 _ _ _ _ _ rfl rfl (dx dX6_says 35 rfl) kh18 (show some (vi (-3)) = some (vi (sayA v g s x)) ∧ OwX h h18 v w g B z κ from by rw [eA]; exact ⟨rfl, ⟨_, oh18⟩, fh18⟩)
      ·
        have c5 : ¬ x ≤ nI 5 := c5
        refine r_aload_n C (dx dX6_says 10 rfl) rfl ?_
        refine r_bipush (v := -2) C (dx dX6_says 11 rfl) rfl ?_
        refine r_cv (as := [vi (-2)]) (st := []) C X I_X6_refuse l_X6_76 (c_X6_refuse (-2)) (by decide) (Nat.le_of_ble_eq_true rfl) List.prefix_rfl List.prefix_rfl rfl rfl (Nat.le_of_ble_eq_true rfl) rfl (dx dX6_says 12 rfl) ?_
        intro rh19 h19 hph19 kkh19
        obtain ⟨rfl, gh19⟩ := hph19
        have oh19 : Ow h19 v u w g B z κ := o.ref gh19
        have fh19 : Fr 0 63 h h19 := gh19.mono (by omega) (by omega)
        have kh19 : xK h19 = xK h := kkh19
        have eA : sayA v g s x = -2 := by (first | (simp [sayA, hcN, c1, c3, c5, (inR_gt (n := 5) (by omega) (Int32.not_le.mp c5) : inR x 6 = false), (Int32.not_le.mp c5)]; done) | (simp [sayA, hcN, c1, c3, c5, (inR_gt (n := 5) (by omega) (Int32.not_le.mp c5) : inR x 6 = false), (Int32.not_le.mp c5)] <;> rfl))
        exact F.1 _ _ _ _ _ rfl rfl (dx dX6_says 13 rfl) kh19 (show some (vi (-2)) = some (vi (sayA v g s x)) ∧ OwX h h19 v w g B z κ from by rw [eA]; exact ⟨rfl, ⟨_, oh19⟩, fh19⟩)
set_option maxHeartbeats 4000000 in
theorem x2_lay {l : Launch} {h : Hp} {v u w : Vg} {g : Sg} {B : Nat → Int32} {z : Nat} {κ : Int32} (o : Ow h v u w g B z κ) (hg : GOk g) (ok : VOk v) (s : Int32) : Ms l yX6_lay cX6_lay 3 (some .int) 20 [vr 6 0, vi s] h (xK h) (fun r h' => r = some (vi (layR v g s)) ∧ OwX h h' (layV v g s) w g B z κ) := by
  refine Ms.of (by decide) (Nat.le_of_ble_eq_true rfl) (fun G C X F => ?_)
  have C : Cx G cX6_lay 3 RX6 := C
  show Rr G 0 [(0, vr 6 0), (1, vi s)] [] h
  have bP := o.pv.bP
  have bM := o.pv.bM
  have bN := o.pv.bN
  have bz := o.pt.2.2
  refine r_aload_n C (dx dX6_lay 0 rfl) rfl ?_
  refine g_X6_57 C (dx dX6_lay 1 rfl) ?_
  refine r_iload_n C (dx dX6_lay 2 rfl) rfl ?_
  refine r_cvP (as := [vi s]) (st := []) (v := vi (b2i (inR s 8))) C X I_X2_isShelf l_X6_72 (c_X2_isShelf _) (by decide) (Nat.le_of_ble_eq_true rfl) List.prefix_rfl rfl rfl (Nat.le_of_ble_eq_true rfl) rfl (dx dX6_lay 3 rfl) ?_
  refine rb_ne (b := inR s 8) (tgt := 18) C (dx dX6_lay 4 rfl) (by decide) (fun c1 => ?_) (fun c1 => ?_)
  ·
    have c1 : (inR s 8) = true := c1
    refine r_aload_n C (dx dX6_lay 9 rfl) rfl ?_
    refine g_X6_57 C (dx dX6_lay 10 rfl) ?_
    refine r_iload_n C (dx dX6_lay 11 rfl) rfl ?_
    refine r_cvP (as := [vi s]) (st := []) (v := vi (hfV g s)) C X I_X2_holdingFault l_X6_114 (c_X2_holdingFault o.pg _) (by decide) (Nat.le_of_ble_eq_true rfl) List.prefix_rfl rfl rfl (Nat.le_of_ble_eq_true rfl) rfl (dx dX6_lay 12 rfl) ?_
    refine r_istore_n (ls' := [(0, vr 6 0), (1, vi s), (2, vi (hfV g s))]) C (dx dX6_lay 13 rfl) (by decide) [1, 2, 0] rfl ?_
    refine r_iload_n C (dx dX6_lay 14 rfl) rfl ?_
    refine r_if_eq (tgt := 37) C (dx dX6_lay 15 rfl) (by decide) (fun c2 => ?_) (fun c2 => ?_)
    ·
      have c2 : hfV g s = 0 := c2
      refine r_aload_n C (dx dX6_lay 20 rfl) rfl ?_
      refine g_X6_36 C (dx dX6_lay 21 rfl) ?_
      refine r_aload_n C (dx dX6_lay 22 rfl) rfl ?_
      refine g_X6_10 C (dx dX6_lay 23 rfl) ?_
      refine r_aload_n C (dx dX6_lay 24 rfl) rfl ?_
      refine g_X6_57 C (dx dX6_lay 25 rfl) ?_
      refine r_iload_n C (dx dX6_lay 26 rfl) rfl ?_
      obtain ⟨κ1, b1, hκ1, hκ2, hκ3, ek, eb⟩ := hg.hold (hf_hold c2)
      refine r_cvP (as := [vi s]) (st := [vr 5 1, vr 0 32]) (v := vi (nI κ1)) C X I_X2_kindOn l_X6_117 (c_kdN o.pg ek) (by decide) (Nat.le_of_ble_eq_true rfl) List.prefix_rfl rfl rfl (Nat.le_of_ble_eq_true rfl) rfl (dx dX6_lay 27 rfl) ?_
      refine r_aload_n C (dx dX6_lay 28 rfl) rfl ?_
      refine g_X6_57 C (dx dX6_lay 29 rfl) ?_
      refine r_iload_n C (dx dX6_lay 30 rfl) rfl ?_
      refine r_cvP (as := [vi s]) (st := [vi (nI κ1), vr 5 1, vr 0 32]) (v := vi (nI b1)) C X I_X2_byOn l_X6_124 (c_byN o.pg eb) (by decide) (Nat.le_of_ble_eq_true rfl) List.prefix_rfl rfl rfl (Nat.le_of_ble_eq_true rfl) rfl (dx dX6_lay 31 rfl) ?_
      refine r_cv (as := [vr 5 1, vi (nI κ1), vi (nI b1)]) (st := []) C X I_X0_tellAnew l_X6_260 (c_X0_tellAnew (r := fun i => xI h (32 + 1) i) (κ := κ1) (b := b1) o.pv (fun i _ => rfl) (by omega) ⟨by omega, by omega⟩ (by omega)) (by decide) (Nat.le_of_ble_eq_true rfl) List.prefix_rfl List.prefix_rfl rfl rfl (Nat.le_of_ble_eq_true rfl) rfl (dx dX6_lay 32 rfl) ?_
      intro rh3 h3 hph3 kkh3
      obtain ⟨rfl, wh3, gh3⟩ := hph3
      have yh3 : VilAt h3 1 (hAR v κ1 b1) := by rw [tell_eq (r := fun i => xI h (32 + 1) i) ok ⟨by omega, by omega⟩ (by omega)]; exact wh3
      have oh3 : Ow h3 (hAR v κ1 b1) u w g B z κ := o.rul1 yh3 gh3
      have fh3 : Fr 0 63 h h3 := gh3.to (fun b q => RA.lo1 q)
      have kh3 : xK h3 = xK h := kkh3
      refine r_aload_n C (dx dX6_lay 33 rfl) rfl ?_
      refine g_X6_10 C (dx dX6_lay 34 rfl) ?_
      refine r_cvP (as := []) (st := []) (v := vi (nI (cnt (fun p => decide (¬ vF (hAR v κ1 b1) 0 p = -1)) (vP (hAR v κ1 b1))))) C X I_X5_holderCount l_X6_135 (c_X5_holderCount oh3.pv) (by decide) (Nat.le_of_ble_eq_true rfl) (pfx_eq kh3) rfl rfl (Nat.le_of_ble_eq_true rfl) rfl (dx dX6_lay 35 rfl) ?_
      have eA : layR v g s = nI (cnt (fun p => decide (¬ vF (hAR v κ1 b1) 0 p = -1)) (vP (hAR v κ1 b1))) := by (unfold layR hcN; rw [if_pos (nh_y c1 c2), hdW_k ek eb (by omega) (by omega)])
      have eV : layV v g s = (hAR v κ1 b1) := by (unfold layV; rw [if_pos (nh_y c1 c2), ek, eb, clN (by omega), clN (by omega)])
      exact F.1 _ _ _ _ _ rfl rfl (dx dX6_lay 36 rfl) kh3 (show some (vi (nI (cnt (fun p => decide (¬ vF (hAR v κ1 b1) 0 p = -1)) (vP (hAR v κ1 b1))))) = some (vi (layR v g s)) ∧ OwX h h3 (layV v g s) w g B z κ from by rw [eA, eV]; exact ⟨rfl, ⟨_, oh3⟩, fh3⟩)
    ·
      have c2 : ¬ hfV g s = 0 := c2
      refine r_aload_n C (dx dX6_lay 16 rfl) rfl ?_
      refine r_iload_n C (dx dX6_lay 17 rfl) rfl ?_
      refine r_cv (as := [vi (hfV g s)]) (st := []) C X I_X6_refuse l_X6_76 (c_X6_refuse (hfV g s)) (by decide) (Nat.le_of_ble_eq_true rfl) List.prefix_rfl List.prefix_rfl rfl rfl (Nat.le_of_ble_eq_true rfl) rfl (dx dX6_lay 18 rfl) ?_
      intro rh4 h4 hph4 kkh4
      obtain ⟨rfl, gh4⟩ := hph4
      have oh4 : Ow h4 v u w g B z κ := o.ref gh4
      have fh4 : Fr 0 63 h h4 := gh4.mono (by omega) (by omega)
      have kh4 : xK h4 = xK h := kkh4
      have eA : layR v g s = hfV g s := by simp [layR, nhA, c1, c2]
      have eV : layV v g s = v := by (rw [lay_n (fun z9 => c2 z9.2)])
      exact F.1 _ _ _ _ _ rfl rfl (dx dX6_lay 19 rfl) kh4 (show some (vi (hfV g s)) = some (vi (layR v g s)) ∧ OwX h h4 (layV v g s) w g B z κ from by rw [eA, eV]; exact ⟨rfl, ⟨_, oh4⟩, fh4⟩)
  ·
    have c1 : (inR s 8) = false := c1
    refine r_aload_n C (dx dX6_lay 5 rfl) rfl ?_
    refine r_bipush (v := -2) C (dx dX6_lay 6 rfl) rfl ?_
    refine r_cv (as := [vi (-2)]) (st := []) C X I_X6_refuse l_X6_76 (c_X6_refuse (-2)) (by decide) (Nat.le_of_ble_eq_true rfl) List.prefix_rfl List.prefix_rfl rfl rfl (Nat.le_of_ble_eq_true rfl) rfl (dx dX6_lay 7 rfl) ?_
    intro rh5 h5 hph5 kkh5
    obtain ⟨rfl, gh5⟩ := hph5
    have oh5 : Ow h5 v u w g B z κ := o.ref gh5
    have fh5 : Fr 0 63 h h5 := gh5.mono (by omega) (by omega)
    have kh5 : xK h5 = xK h := kkh5
    have eA : layR v g s = -2 := by simp [layR, nhA, c1]
    have eV : layV v g s = v := by (rw [lay_n (fun z9 => by rw [c1] at z9; exact absurd z9.1 (by decide))])
    exact F.1 _ _ _ _ _ rfl rfl (dx dX6_lay 8 rfl) kh5 (show some (vi (-2)) = some (vi (layR v g s)) ∧ OwX h h5 (layV v g s) w g B z κ from by rw [eA, eV]; exact ⟨rfl, ⟨_, oh5⟩, fh5⟩)
set_option maxHeartbeats 4000000 in
theorem x2_would {l : Launch} {h : Hp} {v u w : Vg} {g : Sg} {B : Nat → Int32} {z : Nat} {κ : Int32} (o : Ow h v u w g B z κ) (hg : GOk g) (ok : VOk v) (s : Int32) : Ms l yX6_would cX6_would 3 (some .long) 20 [vr 6 0, vi s] h (xK h) (fun r h' => r = some (vl (wouA v g s)) ∧ OwX h h' v w g B z κ) := by
  refine Ms.of (by decide) (Nat.le_of_ble_eq_true rfl) (fun G C X F => ?_)
  have C : Cx G cX6_would 3 RX6 := C
  show Rr G 0 [(0, vr 6 0), (1, vi s)] [] h
  have bP := o.pv.bP
  have bM := o.pv.bM
  have bN := o.pv.bN
  have bz := o.pt.2.2
  refine r_aload_n C (dx dX6_would 0 rfl) rfl ?_
  refine g_X6_57 C (dx dX6_would 1 rfl) ?_
  refine r_iload_n C (dx dX6_would 2 rfl) rfl ?_
  refine r_cvP (as := [vi s]) (st := []) (v := vi (b2i (inR s 8))) C X I_X2_isShelf l_X6_72 (c_X2_isShelf _) (by decide) (Nat.le_of_ble_eq_true rfl) List.prefix_rfl rfl rfl (Nat.le_of_ble_eq_true rfl) rfl (dx dX6_would 3 rfl) ?_
  refine rb_ne (b := inR s 8) (tgt := 19) C (dx dX6_would 4 rfl) (by decide) (fun c1 => ?_) (fun c1 => ?_)
  ·
    have c1 : (inR s 8) = true := c1
    refine r_aload_n C (dx dX6_would 10 rfl) rfl ?_
    refine g_X6_57 C (dx dX6_would 11 rfl) ?_
    refine r_iload_n C (dx dX6_would 12 rfl) rfl ?_
    refine r_cvP (as := [vi s]) (st := []) (v := vi (hfV g s)) C X I_X2_holdingFault l_X6_114 (c_X2_holdingFault o.pg _) (by decide) (Nat.le_of_ble_eq_true rfl) List.prefix_rfl rfl rfl (Nat.le_of_ble_eq_true rfl) rfl (dx dX6_would 13 rfl) ?_
    refine r_istore_n (ls' := [(0, vr 6 0), (1, vi s), (2, vi (hfV g s))]) C (dx dX6_would 14 rfl) (by decide) [1, 2, 0] rfl ?_
    refine r_iload_n C (dx dX6_would 15 rfl) rfl ?_
    refine r_if_eq (tgt := 39) C (dx dX6_would 16 rfl) (by decide) (fun c2 => ?_) (fun c2 => ?_)
    ·
      have c2 : hfV g s = 0 := c2
      refine r_aload_n C (dx dX6_would 22 rfl) rfl ?_
      refine r_iload_n C (dx dX6_would 23 rfl) rfl ?_
      refine r_cv (as := [vi s]) (st := []) C X I_X6_tryHolding l_X6_127 (x2_tryHolding o hg ok (hf_hold c2)) (by decide) (Nat.le_of_ble_eq_true rfl) List.prefix_rfl List.prefix_rfl rfl rfl (Nat.le_of_ble_eq_true rfl) rfl (dx dX6_would 24 rfl) ?_
      intro rh3 h3 hph3 kkh3
      obtain ⟨rfl, wh3, gh3⟩ := hph3
      have oh3 : Ow h3 v (hdW v g s) w g B z κ := wh3
      have fh3 : Fr 0 63 h h3 := gh3
      have kh3 : xK h3 = xK h := kkh3
      refine r_aload_n C (dx dX6_would 25 rfl) rfl ?_
      refine g_X6_29 C (dx dX6_would 26 rfl) ?_
      refine r_aload_n C (dx dX6_would 27 rfl) rfl ?_
      refine g_X6_16 C (dx dX6_would 28 rfl) ?_
      refine r_cv (as := [vr 5 10]) (st := []) C X I_X4_worthOfDay l_X6_244 (c_X4_worthOfDay oh3.pu (by omega)) (by decide) (Nat.le_of_ble_eq_true rfl) List.prefix_rfl (pfx_eq kh3) rfl rfl (Nat.le_of_ble_eq_true rfl) rfl (dx dX6_would 29 rfl) ?_
      intro rh4 h4 hph4 kkh4
      obtain ⟨rfl, gh4⟩ := hph4
      have oh4 : Ow h4 v (hdW v g s) w g B z κ := oh3.tm (gh4.mono (by omega) (by omega))
      have fh4 : Fr 0 63 h h4 := fh3.tr (gh4.mono (by omega) (by omega))
      have kh4 : xK h4 = xK h := (kkh4).trans kh3
      have eA : wouA v g s = dayC (hdW v g s) := by (unfold wouA; rw [if_pos (nh_y c1 c2)])
      exact F.2.1 _ _ _ _ rfl (dx dX6_would 30 rfl) kh4 (show some (vl (dayC (hdW v g s))) = some (vl (wouA v g s)) ∧ OwX h h4 v w g B z κ from by rw [eA]; exact ⟨rfl, ⟨_, oh4⟩, fh4⟩)
    ·
      have c2 : ¬ hfV g s = 0 := c2
      refine r_aload_n C (dx dX6_would 17 rfl) rfl ?_
      refine r_iload_n C (dx dX6_would 18 rfl) rfl ?_
      refine r_cv (as := [vi (hfV g s)]) (st := []) C X I_X6_refuse l_X6_76 (c_X6_refuse (hfV g s)) (by decide) (Nat.le_of_ble_eq_true rfl) List.prefix_rfl List.prefix_rfl rfl rfl (Nat.le_of_ble_eq_true rfl) rfl (dx dX6_would 19 rfl) ?_
      intro rh5 h5 hph5 kkh5
      obtain ⟨rfl, gh5⟩ := hph5
      have oh5 : Ow h5 v u w g B z κ := o.ref gh5
      have fh5 : Fr 0 63 h h5 := gh5.mono (by omega) (by omega)
      have kh5 : xK h5 = xK h := kkh5
      refine r_i2l C (dx dX6_would 20 rfl) ?_
      have eA : wouA v g s = (hfV g s).toInt64 := by (first | (simp [wouA, nhA, c1, c2]; done) | (simp [wouA, nhA, c1, c2] <;> rfl))
      exact F.2.1 _ _ _ _ rfl (dx dX6_would 21 rfl) kh5 (show some (vl ((hfV g s).toInt64)) = some (vl (wouA v g s)) ∧ OwX h h5 v w g B z κ from by rw [eA]; exact ⟨rfl, ⟨_, oh5⟩, fh5⟩)
  ·
    have c1 : (inR s 8) = false := c1
    refine r_aload_n C (dx dX6_would 5 rfl) rfl ?_
    refine r_bipush (v := -2) C (dx dX6_would 6 rfl) rfl ?_
    refine r_cv (as := [vi (-2)]) (st := []) C X I_X6_refuse l_X6_76 (c_X6_refuse (-2)) (by decide) (Nat.le_of_ble_eq_true rfl) List.prefix_rfl List.prefix_rfl rfl rfl (Nat.le_of_ble_eq_true rfl) rfl (dx dX6_would 7 rfl) ?_
    intro rh6 h6 hph6 kkh6
    obtain ⟨rfl, gh6⟩ := hph6
    have oh6 : Ow h6 v u w g B z κ := o.ref gh6
    have fh6 : Fr 0 63 h h6 := gh6.mono (by omega) (by omega)
    have kh6 : xK h6 = xK h := kkh6
    refine r_i2l C (dx dX6_would 8 rfl) ?_
    have eA : wouA v g s = (-2).toInt64 := by (first | (simp [wouA, nhA, c1]; done) | (simp [wouA, nhA, c1] <;> rfl))
    exact F.2.1 _ _ _ _ rfl (dx dX6_would 9 rfl) kh6 (show some (vl ((-2).toInt64)) = some (vl (wouA v g s)) ∧ OwX h h6 v w g B z κ from by rw [eA]; exact ⟨rfl, ⟨_, oh6⟩, fh6⟩)
set_option maxHeartbeats 4000000 in
theorem x2_head {l : Launch} {h : Hp} {v u w : Vg} {g : Sg} {B : Nat → Int32} {z : Nat} {κ : Int32} (o : Ow h v u w g B z κ) (hg : GOk g) (ok : VOk v) : Ms l yX6_head cX6_head 7 (some .int) 20 [vr 6 0] h (xK h) (fun r h' => r = some (vi (heaA v g)) ∧ OwX h h' v w g B z κ) := by
  refine Ms.of (by decide) (Nat.le_of_ble_eq_true rfl) (fun G C X F => ?_)
  have C : Cx G cX6_head 7 RX6 := C
  show Rr G 0 [(0, vr 6 0)] [] h
  have bP := o.pv.bP
  have bM := o.pv.bM
  have bN := o.pv.bN
  have bz := o.pt.2.2
  refine r_iconst (v := -1) C (dx dX6_head 0 rfl) rfl ?_
  refine r_istore_n (ls' := [(0, vr 6 0), (1, vi (-1))]) C (dx dX6_head 1 rfl) (by decide) [1, 0] rfl ?_
  refine r_ldc2 C n_X6_255 (dx dX6_head 2 rfl) ?_
  refine r_lstore_n (ls' := [(0, vr 6 0), (1, vi (-1)), (2, vl (-1))]) C (dx dX6_head 3 rfl) (by decide) [1, 2, 0] rfl ?_
  refine r_iconst (v := nI 0) C (dx dX6_head 4 rfl) rfl ?_
  refine r_istore (ls' := [(0, vr 6 0), (1, vi (-1)), (2, vl (-1)), (4, vi (nI 0))]) C (dx dX6_head 5 rfl) (by decide) [1, 2, 3, 0] rfl ?_
  refine loopU (Φ := fun p => ∀ (h9 : Hp) (u9 : Vg), Ow h9 v u9 w g B z κ → Fr 0 63 h h9 → xK h9 = xK h → Rr G 9 [(0, vr 6 0), (1, vi ((hdC v g p).1)), (2, vl ((hdC v g p).2)), (4, vi (nI p))] [] h9) (N := 8) ?_ ?_ 0 (Nat.zero_le _) h u o Fr.rf rfl
  ·
    intro h9 u9 o9 f9 k9
    refine r_iload C (dx dX6_head 6 rfl) rfl ?_
    refine r_bipush (v := nI 8) C (dx dX6_head 7 rfl) rfl ?_
    refine rn_ge (a := 8) (b := 8) (tgt := 66) C (by omega) (by omega) (dx dX6_head 8 rfl) (by decide) (fun c1 => ?_) (fun c1 => ?_)
    · first
      | (omega; done)
      | (
          have c1 : 8 ≤ 8 := c1
          refine r_iload_n C (dx dX6_head 33 rfl) rfl ?_
          refine r_iconst (v := -1) C (dx dX6_head 34 rfl) rfl ?_
          refine r_icmp_ne (tgt := 80) C (dx dX6_head 35 rfl) (by decide) (fun c2 => ?_) (fun c2 => ?_)
          ·
            have c2 : ¬ (hdC v g 8).1 = -1 := c2
            refine r_iload_n C (dx dX6_head 40 rfl) rfl ?_
            have eA : heaA v g = (hdC v g 8).1 := by (unfold heaA; rw [if_neg c2])
            exact F.1 _ _ _ _ _ rfl rfl (dx dX6_head 41 rfl) k9 (show some (vi ((hdC v g 8).1)) = some (vi (heaA v g)) ∧ OwX h h9 v w g B z κ from by rw [eA]; exact ⟨rfl, ⟨_, o9⟩, f9⟩)
          ·
            have c2 : (hdC v g 8).1 = -1 := c2
            refine r_aload_n C (dx dX6_head 36 rfl) rfl ?_
            refine r_bipush (v := -5) C (dx dX6_head 37 rfl) rfl ?_
            refine r_cv (as := [vi (-5)]) (st := []) C X I_X6_refuse l_X6_76 (c_X6_refuse (-5)) (by decide) (Nat.le_of_ble_eq_true rfl) List.prefix_rfl (pfx_eq k9) rfl rfl (Nat.le_of_ble_eq_true rfl) rfl (dx dX6_head 38 rfl) ?_
            intro rh3 h3 hph3 kkh3
            obtain ⟨rfl, gh3⟩ := hph3
            have oh3 : Ow h3 v u9 w g B z κ := o9.ref gh3
            have fh3 : Fr 0 63 h h3 := f9.tr (gh3.mono (by omega) (by omega))
            have kh3 : xK h3 = xK h := (kkh3).trans k9
            refine r_goto (tgt := 81) C (dx dX6_head 39 rfl) (by decide) ?_
            have eA : heaA v g = -5 := by (unfold heaA; rw [if_pos c2])
            exact F.1 _ _ _ _ _ rfl rfl (dx dX6_head 41 rfl) kh3 (show some (vi (-5)) = some (vi (heaA v g)) ∧ OwX h h3 v w g B z κ from by rw [eA]; exact ⟨rfl, ⟨_, oh3⟩, fh3⟩))
    · first
      | (omega; done)
  ·
    intro p hp ihp h9 u9 o9 f9 k9
    refine r_iload C (dx dX6_head 6 rfl) rfl ?_
    refine r_bipush (v := nI 8) C (dx dX6_head 7 rfl) rfl ?_
    refine rn_ge (a := p) (b := 8) (tgt := 66) C (by omega) (by omega) (dx dX6_head 8 rfl) (by decide) (fun c5 => ?_) (fun c5 => ?_)
    · first
      | (omega; done)
      | (
          have c5 : 8 ≤ p := c5
          refine r_iload_n C (dx dX6_head 33 rfl) rfl ?_
          refine r_iconst (v := -1) C (dx dX6_head 34 rfl) rfl ?_
          refine r_icmp_ne (tgt := 80) C (dx dX6_head 35 rfl) (by decide) (fun c6 => ?_) (fun c6 => ?_)
          ·
            have c6 : ¬ (hdC v g p).1 = -1 := c6
            refine r_iload_n C (dx dX6_head 40 rfl) rfl ?_
            have eA : heaA v g = (hdC v g p).1 := by (unfold heaA; rw [if_neg None])
            exact F.1 _ _ _ _ _ rfl rfl (dx dX6_head 41 rfl) k9 (show some (vi ((hdC v g p).1)) = some (vi (heaA v g)) ∧ OwX h h9 v w g B z κ from by rw [eA]; exact ⟨rfl, ⟨_, o9⟩, f9⟩)
          ·
            have c6 : (hdC v g p).1 = -1 := c6
            refine r_aload_n C (dx dX6_head 36 rfl) rfl ?_
            refine r_bipush (v := -5) C (dx dX6_head 37 rfl) rfl ?_
            refine r_cv (as := [vi (-5)]) (st := []) C X I_X6_refuse l_X6_76 (c_X6_refuse (-5)) (by decide) (Nat.le_of_ble_eq_true rfl) List.prefix_rfl (pfx_eq k9) rfl rfl (Nat.le_of_ble_eq_true rfl) rfl (dx dX6_head 38 rfl) ?_
            intro rh7 h7 hph7 kkh7
            obtain ⟨rfl, gh7⟩ := hph7
            have oh7 : Ow h7 v u9 w g B z κ := o9.ref gh7
            have fh7 : Fr 0 63 h h7 := f9.tr (gh7.mono (by omega) (by omega))
            have kh7 : xK h7 = xK h := (kkh7).trans k9
            refine r_goto (tgt := 81) C (dx dX6_head 39 rfl) (by decide) ?_
            have eA : heaA v g = -5 := by (unfold heaA; rw [if_neg None])
            exact F.1 _ _ _ _ _ rfl rfl (dx dX6_head 41 rfl) kh7 (show some (vi (-5)) = some (vi (heaA v g)) ∧ OwX h h7 v w g B z κ from by rw [eA]; exact ⟨rfl, ⟨_, oh7⟩, fh7⟩))
    · first
      | (omega; done)
      | (
          have c5 : p < 8 := c5
          refine r_aload_n C (dx dX6_head 9 rfl) rfl ?_
          refine g_X6_57 C (dx dX6_head 10 rfl) ?_
          refine r_iload C (dx dX6_head 11 rfl) rfl ?_
          refine r_cvP (as := [vi (nI p)]) (st := []) (v := vi (b2i (holdB g (nI p)))) C X I_X2_isOfHolding l_X6_94 (c_X2_isOfHolding o9.pg _) (by decide) (Nat.le_of_ble_eq_true rfl) (pfx_eq k9) rfl rfl (Nat.le_of_ble_eq_true rfl) rfl (dx dX6_head 12 rfl) ?_
          refine rb_eq (b := holdB g (nI p)) (tgt := 60) C (dx dX6_head 13 rfl) (by decide) (fun c8 => ?_) (fun c8 => ?_)
          ·
            have c8 : (holdB g (nI p)) = false := c8
            refine rn_iinc (a := p) (k := 1) (ls' := [(0, vr 6 0), (1, vi ((hdC v g p).1)), (2, vl ((hdC v g p).2)), (4, vi (nI (p + 1)))]) C (dx dX6_head 31 rfl) rfl rfl (by decide) [1, 2, 3, 0] rfl ?_
            refine r_goto (tgt := 9) C (dx dX6_head 32 rfl) (by decide) ?_
            have e91 : ((hdC v g p).1) = ((hdC v g (p + 1)).1) := by (simp only [hdC]; rw [if_neg (fun z => by have z1 := z.1; rw [c8] at z1; exact absurd z1 (by decide))])
            have e92 : ((hdC v g p).2) = ((hdC v g (p + 1)).2) := by (simp only [hdC]; rw [if_neg (fun z => by have z1 := z.1; rw [c8] at z1; exact absurd z1 (by decide))])
            rw [e92, e91]
            exact ihp h9 u9 o9 f9 k9
          ·
            have c8 : (holdB g (nI p)) = true := c8
            refine r_aload_n C (dx dX6_head 14 rfl) rfl ?_
            refine r_iload C (dx dX6_head 15 rfl) rfl ?_
            refine r_cv (as := [vi (nI p)]) (st := []) C X I_X6_tryHolding l_X6_127 (x2_tryHolding o9 hg ok c8) (by decide) (Nat.le_of_ble_eq_true rfl) List.prefix_rfl (pfx_eq k9) rfl rfl (Nat.le_of_ble_eq_true rfl) rfl (dx dX6_head 16 rfl) ?_
            intro rh9 h9 hph9 kkh9
            obtain ⟨rfl, wh9, gh9⟩ := hph9
            have oh9 : Ow h9 v (hdW v g (nI p)) w g B z κ := wh9
            have fh9 : Fr 0 63 h h9 := f9.tr (gh9)
            have kh9 : xK h9 = xK h := (kkh9).trans k9
            refine r_aload_n C (dx dX6_head 17 rfl) rfl ?_
            refine g_X6_29 C (dx dX6_head 18 rfl) ?_
            refine r_aload_n C (dx dX6_head 19 rfl) rfl ?_
            refine g_X6_16 C (dx dX6_head 20 rfl) ?_
            refine r_cv (as := [vr 5 10]) (st := []) C X I_X4_worthOfDay l_X6_244 (c_X4_worthOfDay oh9.pu (by omega)) (by decide) (Nat.le_of_ble_eq_true rfl) List.prefix_rfl (pfx_eq kh9) rfl rfl (Nat.le_of_ble_eq_true rfl) rfl (dx dX6_head 21 rfl) ?_
            intro rh10 h10 hph10 kkh10
            obtain ⟨rfl, gh10⟩ := hph10
            have oh10 : Ow h10 v (hdW v g (nI p)) w g B z κ := oh9.tm (gh10.mono (by omega) (by omega))
            have fh10 : Fr 0 63 h h10 := fh9.tr (gh10.mono (by omega) (by omega))
            have kh10 : xK h10 = xK h := (kkh10).trans kh9
            refine r_lstore (ls' := [(0, vr 6 0), (1, vi ((hdC v g p).1)), (2, vl ((hdC v g p).2)), (4, vi (nI p)), (5, vl (dayC (hdW v g (nI p))))]) C (dx dX6_head 22 rfl) (by decide) [1, 2, 3, 4, 0] rfl ?_
            refine r_lload C (dx dX6_head 23 rfl) rfl ?_
            refine r_lload_n C (dx dX6_head 24 rfl) rfl ?_
            refine r_lcmp C (dx dX6_head 25 rfl) ?_
            refine r_if_le (tgt := 60) C (dx dX6_head 26 rfl) (by decide) (fun c11 => ?_) (fun c11 => ?_)
            ·
              have c11 : dayC (hdW v g (nI p)) ≤ (hdC v g p).2 := (lg_cmp_le _ _).mp c11
              refine rn_iinc (a := p) (k := 1) (ls' := [(0, vr 6 0), (1, vi ((hdC v g p).1)), (2, vl ((hdC v g p).2)), (4, vi (nI (p + 1))), (5, vl (dayC (hdW v g (nI p))))]) C (dx dX6_head 31 rfl) rfl rfl (by decide) [1, 2, 3, 0, 4] rfl ?_
              refine r_goto (tgt := 9) C (dx dX6_head 32 rfl) (by decide) ?_
              have e91 : ((hdC v g p).1) = ((hdC v g (p + 1)).1) := by (simp only [hdC]; rw [if_neg (fun z => z.2 c11)])
              have e92 : ((hdC v g p).2) = ((hdC v g (p + 1)).2) := by (simp only [hdC]; rw [if_neg (fun z => z.2 c11)])
              refine r_weak C [0, 1, 2, 3] rfl ?_
              rw [e92, e91]
              exact ihp h10 (hdW v g (nI p)) oh10 fh10 kh10
            ·
              have c11 : ¬ (dayC (hdW v g (nI p)) ≤ (hdC v g p).2) := fun q => c11 ((lg_cmp_le _ _).mpr q)
              refine r_lload C (dx dX6_head 27 rfl) rfl ?_
              refine r_lstore_n (ls' := [(0, vr 6 0), (1, vi ((hdC v g p).1)), (2, vl (dayC (hdW v g (nI p)))), (4, vi (nI p)), (5, vl (dayC (hdW v g (nI p))))]) C (dx dX6_head 28 rfl) (by decide) [1, 2, 0, 3, 4] rfl ?_
              refine r_iload C (dx dX6_head 29 rfl) rfl ?_
              refine r_istore_n (ls' := [(0, vr 6 0), (1, vi (nI p)), (2, vl (dayC (hdW v g (nI p)))), (4, vi (nI p)), (5, vl (dayC (hdW v g (nI p))))]) C (dx dX6_head 30 rfl) (by decide) [1, 0, 2, 3, 4] rfl ?_
              refine rn_iinc (a := p) (k := 1) (ls' := [(0, vr 6 0), (1, vi (nI p)), (2, vl (dayC (hdW v g (nI p)))), (4, vi (nI (p + 1))), (5, vl (dayC (hdW v g (nI p))))]) C (dx dX6_head 31 rfl) rfl rfl (by decide) [1, 2, 3, 0, 4] rfl ?_
              refine r_goto (tgt := 9) C (dx dX6_head 32 rfl) (by decide) ?_
              have e91 : (nI p) = ((hdC v g (p + 1)).1) := by (simp only [hdC]; rw [if_pos ⟨c8, c11⟩])
              have e92 : (dayC (hdW v g (nI p))) = ((hdC v g (p + 1)).2) := by (simp only [hdC]; rw [if_pos ⟨c8, c11⟩])
              refine r_weak C [0, 1, 2, 3] rfl ?_
              rw [e92, e91]
              exact ihp h10 (hdW v g (nI p)) oh10 fh10 kh10)
set_option maxHeartbeats 4000000 in
theorem x2_harms {l : Launch} {h : Hp} {v u w : Vg} {g : Sg} {B : Nat → Int32} {z : Nat} {κ : Int32} (o : Ow h v u w g B z κ) (hg : GOk g)  : Ms l yX6_harms cX6_harms 7 (some .int) 20 [vr 6 0] h (xK h) (fun r h' => r = some (vi (harA v)) ∧ OwX h h' v w g B z κ) := by
  refine Ms.of (by decide) (Nat.le_of_ble_eq_true rfl) (fun G C X F => ?_)
  have C : Cx G cX6_harms 7 RX6 := C
  show Rr G 0 [(0, vr 6 0)] [] h
  have bP := o.pv.bP
  have bM := o.pv.bM
  have bN := o.pv.bN
  have bz := o.pt.2.2
  refine r_iconst (v := -1) C (dx dX6_harms 0 rfl) rfl ?_
  refine r_istore_n (ls' := [(0, vr 6 0), (1, vi (-1))]) C (dx dX6_harms 1 rfl) (by decide) [1, 0] rfl ?_
  refine r_lconst (v := 0) C (dx dX6_harms 2 rfl) rfl ?_
  refine r_lstore_n (ls' := [(0, vr 6 0), (1, vi (-1)), (2, vl 0)]) C (dx dX6_harms 3 rfl) (by decide) [1, 2, 0] rfl ?_
  refine r_iconst (v := nI 0) C (dx dX6_harms 4 rfl) rfl ?_
  refine r_istore (ls' := [(0, vr 6 0), (1, vi (-1)), (2, vl 0), (4, vi (nI 0))]) C (dx dX6_harms 5 rfl) (by decide) [1, 2, 3, 0] rfl ?_
  refine loopU (Φ := fun p => ∀ (h9 : Hp) (u9 : Vg), Ow h9 v u9 w g B z κ → Fr 0 63 h h9 → xK h9 = xK h → Rr G 7 [(0, vr 6 0), (1, vi ((hsC v p).1)), (2, vl ((hsC v p).2)), (4, vi (nI p))] [] h9) (N := vN v) ?_ ?_ 0 (Nat.zero_le _) h u o Fr.rf rfl
  ·
    intro h9 u9 o9 f9 k9
    refine r_iload C (dx dX6_harms 6 rfl) rfl ?_
    refine r_aload_n C (dx dX6_harms 7 rfl) rfl ?_
    refine g_X6_10 C (dx dX6_harms 8 rfl) ?_
    refine g_X6_154 (x := nI (vN v)) C (dx dX6_harms 9 rfl) o9.pv.eN ?_
    refine rn_ge (a := (vN v)) (b := vN v) (tgt := 91) C (by omega) (by omega) (dx dX6_harms 10 rfl) (by decide) (fun c1 => ?_) (fun c1 => ?_)
    · first
      | (omega; done)
      | (
          have c1 : vN v ≤ (vN v) := c1
          refine r_iload_n C (dx dX6_harms 47 rfl) rfl ?_
          refine r_iconst (v := -1) C (dx dX6_harms 48 rfl) rfl ?_
          refine r_icmp_ne (tgt := 105) C (dx dX6_harms 49 rfl) (by decide) (fun c2 => ?_) (fun c2 => ?_)
          ·
            have c2 : ¬ (hsC v (vN v)).1 = -1 := c2
            refine r_iload_n C (dx dX6_harms 54 rfl) rfl ?_
            have eA : harA v = (hsC v (vN v)).1 := by (unfold harA; rw [if_neg c2])
            exact F.1 _ _ _ _ _ rfl rfl (dx dX6_harms 55 rfl) k9 (show some (vi ((hsC v (vN v)).1)) = some (vi (harA v)) ∧ OwX h h9 v w g B z κ from by rw [eA]; exact ⟨rfl, ⟨_, o9⟩, f9⟩)
          ·
            have c2 : (hsC v (vN v)).1 = -1 := c2
            refine r_aload_n C (dx dX6_harms 50 rfl) rfl ?_
            refine r_bipush (v := -5) C (dx dX6_harms 51 rfl) rfl ?_
            refine r_cv (as := [vi (-5)]) (st := []) C X I_X6_refuse l_X6_76 (c_X6_refuse (-5)) (by decide) (Nat.le_of_ble_eq_true rfl) List.prefix_rfl (pfx_eq k9) rfl rfl (Nat.le_of_ble_eq_true rfl) rfl (dx dX6_harms 52 rfl) ?_
            intro rh3 h3 hph3 kkh3
            obtain ⟨rfl, gh3⟩ := hph3
            have oh3 : Ow h3 v u9 w g B z κ := o9.ref gh3
            have fh3 : Fr 0 63 h h3 := f9.tr (gh3.mono (by omega) (by omega))
            have kh3 : xK h3 = xK h := (kkh3).trans k9
            refine r_goto (tgt := 106) C (dx dX6_harms 53 rfl) (by decide) ?_
            have eA : harA v = -5 := by (unfold harA; rw [if_pos c2])
            exact F.1 _ _ _ _ _ rfl rfl (dx dX6_harms 55 rfl) kh3 (show some (vi (-5)) = some (vi (harA v)) ∧ OwX h h3 v w g B z κ from by rw [eA]; exact ⟨rfl, ⟨_, oh3⟩, fh3⟩))
    · first
      | (omega; done)
  ·
    intro p hp ihp h9 u9 o9 f9 k9
    refine r_iload C (dx dX6_harms 6 rfl) rfl ?_
    refine r_aload_n C (dx dX6_harms 7 rfl) rfl ?_
    refine g_X6_10 C (dx dX6_harms 8 rfl) ?_
    refine g_X6_154 (x := nI (vN v)) C (dx dX6_harms 9 rfl) o9.pv.eN ?_
    refine rn_ge (a := p) (b := vN v) (tgt := 91) C (by omega) (by omega) (dx dX6_harms 10 rfl) (by decide) (fun c5 => ?_) (fun c5 => ?_)
    · first
      | (omega; done)
      | (
          have c5 : vN v ≤ p := c5
          refine r_iload_n C (dx dX6_harms 47 rfl) rfl ?_
          refine r_iconst (v := -1) C (dx dX6_harms 48 rfl) rfl ?_
          refine r_icmp_ne (tgt := 105) C (dx dX6_harms 49 rfl) (by decide) (fun c6 => ?_) (fun c6 => ?_)
          ·
            have c6 : ¬ (hsC v p).1 = -1 := c6
            refine r_iload_n C (dx dX6_harms 54 rfl) rfl ?_
            have eA : harA v = (hsC v p).1 := by (unfold harA; rw [if_neg None])
            exact F.1 _ _ _ _ _ rfl rfl (dx dX6_harms 55 rfl) k9 (show some (vi ((hsC v p).1)) = some (vi (harA v)) ∧ OwX h h9 v w g B z κ from by rw [eA]; exact ⟨rfl, ⟨_, o9⟩, f9⟩)
          ·
            have c6 : (hsC v p).1 = -1 := c6
            refine r_aload_n C (dx dX6_harms 50 rfl) rfl ?_
            refine r_bipush (v := -5) C (dx dX6_harms 51 rfl) rfl ?_
            refine r_cv (as := [vi (-5)]) (st := []) C X I_X6_refuse l_X6_76 (c_X6_refuse (-5)) (by decide) (Nat.le_of_ble_eq_true rfl) List.prefix_rfl (pfx_eq k9) rfl rfl (Nat.le_of_ble_eq_true rfl) rfl (dx dX6_harms 52 rfl) ?_
            intro rh7 h7 hph7 kkh7
            obtain ⟨rfl, gh7⟩ := hph7
            have oh7 : Ow h7 v u9 w g B z κ := o9.ref gh7
            have fh7 : Fr 0 63 h h7 := f9.tr (gh7.mono (by omega) (by omega))
            have kh7 : xK h7 = xK h := (kkh7).trans k9
            refine r_goto (tgt := 106) C (dx dX6_harms 53 rfl) (by decide) ?_
            have eA : harA v = -5 := by (unfold harA; rw [if_neg None])
            exact F.1 _ _ _ _ _ rfl rfl (dx dX6_harms 55 rfl) kh7 (show some (vi (-5)) = some (vi (harA v)) ∧ OwX h h7 v w g B z κ from by rw [eA]; exact ⟨rfl, ⟨_, oh7⟩, fh7⟩))
    · first
      | (omega; done)
      | (
          have c5 : p < vN v := c5
          refine r_aload_n C (dx dX6_harms 11 rfl) rfl ?_
          refine g_X6_10 C (dx dX6_harms 12 rfl) ?_
          refine g_X6_166 C (dx dX6_harms 13 rfl) ?_
          refine r_iload C (dx dX6_harms 14 rfl) rfl ?_
          refine r_zald (j := p) (x := vF v 6 p) C rfl rfl (by decide) rfl (by omega) (dx dX6_harms 15 rfl) (o9.pv.e6 (by omega)) ?_
          refine r_if_ne (tgt := 85) C (dx dX6_harms 16 rfl) (by decide) (fun c8 => ?_) (fun c8 => ?_)
          ·
            have c8 : ¬ vF v 6 p = 0 := c8
            refine rn_iinc (a := p) (k := 1) (ls' := [(0, vr 6 0), (1, vi ((hsC v p).1)), (2, vl ((hsC v p).2)), (4, vi (nI (p + 1)))]) C (dx dX6_harms 45 rfl) rfl rfl (by decide) [1, 2, 3, 0] rfl ?_
            refine r_goto (tgt := 7) C (dx dX6_harms 46 rfl) (by decide) ?_
            have e91 : ((hsC v p).1) = ((hsC v (p + 1)).1) := by (simp only [hsC]; rw [if_neg (fun z => c8 z.1)])
            have e92 : ((hsC v p).2) = ((hsC v (p + 1)).2) := by (simp only [hsC]; rw [if_neg (fun z => c8 z.1)])
            rw [e92, e91]
            exact ihp h9 u9 o9 f9 k9
          ·
            have c8 : vF v 6 p = 0 := c8
            refine r_aload_n C (dx dX6_harms 17 rfl) rfl ?_
            refine g_X6_16 C (dx dX6_harms 18 rfl) ?_
            refine r_aload_n C (dx dX6_harms 19 rfl) rfl ?_
            refine g_X6_10 C (dx dX6_harms 20 rfl) ?_
            refine r_cv (as := [vr 5 1]) (st := []) C X I_X5_takeOver l_X6_191 (c_X5_takeOver o9.pu o9.pv (by omega)) (by decide) (Nat.le_of_ble_eq_true rfl) List.prefix_rfl (pfx_eq k9) rfl rfl (Nat.le_of_ble_eq_true rfl) rfl (dx dX6_harms 21 rfl) ?_
            intro rh9 h9 hph9 kkh9
            obtain ⟨rfl, wh9, gh9⟩ := hph9
            have oh9 : Ow h9 v v w g B z κ := o9.tri wh9 gh9
            have fh9 : Fr 0 63 h h9 := f9.tr (gh9.mono (by omega) (by omega))
            have kh9 : xK h9 = xK h := (kkh9).trans k9
            refine r_aload_n C (dx dX6_harms 22 rfl) rfl ?_
            refine g_X6_16 C (dx dX6_harms 23 rfl) ?_
            refine g_X6_166 C (dx dX6_harms 24 rfl) ?_
            refine r_iload C (dx dX6_harms 25 rfl) rfl ?_
            refine r_iconst (v := nI 1) C (dx dX6_harms 26 rfl) rfl ?_
            refine r_zast (j := p) C rfl rfl (by decide) rfl (by omega) (dx dX6_harms 27 rfl) ?_
            have oh10 : Ow (sI h9 17 p (vp_nar .boolean (nI 1))) v (vset v 6 p (vp_nar .boolean (nI 1))) w g B z κ := oh9.tri (oh9.pu.s6 rfl) (Fr.sI (by omega) (by omega))
            have fh10 : Fr 0 63 h (sI h9 17 p (vp_nar .boolean (nI 1))) := fh9.tr (Fr.sI (by omega) (by omega))
            have kh10 : xK (sI h9 17 p (vp_nar .boolean (nI 1))) = xK h := kh9
            generalize sI h9 17 p (vp_nar .boolean (nI 1)) = h10 at oh10 fh10 kh10 ⊢
            refine r_aload_n C (dx dX6_harms 28 rfl) rfl ?_
            refine g_X6_29 C (dx dX6_harms 29 rfl) ?_
            refine r_aload_n C (dx dX6_harms 30 rfl) rfl ?_
            refine g_X6_16 C (dx dX6_harms 31 rfl) ?_
            refine r_cv (as := [vr 5 10]) (st := []) C X I_X4_worthOfDay l_X6_244 (c_X4_worthOfDay oh10.pu (by omega)) (by decide) (Nat.le_of_ble_eq_true rfl) List.prefix_rfl (pfx_eq kh10) rfl rfl (Nat.le_of_ble_eq_true rfl) rfl (dx dX6_harms 32 rfl) ?_
            intro rh11 h11 hph11 kkh11
            obtain ⟨rfl, gh11⟩ := hph11
            have oh11 : Ow h11 v (vset v 6 p (vp_nar .boolean (nI 1))) w g B z κ := oh10.tm (gh11.mono (by omega) (by omega))
            have fh11 : Fr 0 63 h h11 := fh10.tr (gh11.mono (by omega) (by omega))
            have kh11 : xK h11 = xK h := (kkh11).trans kh10
            refine r_lstore (ls' := [(0, vr 6 0), (1, vi ((hsC v p).1)), (2, vl ((hsC v p).2)), (4, vi (nI p)), (5, vl (dayC (vset v 6 p (vp_nar .boolean (nI 1)))))]) C (dx dX6_harms 33 rfl) (by decide) [1, 2, 3, 4, 0] rfl ?_
            refine r_iload_n C (dx dX6_harms 34 rfl) rfl ?_
            refine r_iconst (v := -1) C (dx dX6_harms 35 rfl) rfl ?_
            refine r_icmp_eq (tgt := 79) C (dx dX6_harms 36 rfl) (by decide) (fun c12 => ?_) (fun c12 => ?_)
            ·
              have c12 : (hsC v p).1 = -1 := c12
              refine r_lload C (dx dX6_harms 41 rfl) rfl ?_
              refine r_lstore_n (ls' := [(0, vr 6 0), (1, vi ((hsC v p).1)), (2, vl (dayC (vset v 6 p (vp_nar .boolean (nI 1))))), (4, vi (nI p)), (5, vl (dayC (vset v 6 p (vp_nar .boolean (nI 1)))))]) C (dx dX6_harms 42 rfl) (by decide) [1, 2, 0, 3, 4] rfl ?_
              refine r_iload C (dx dX6_harms 43 rfl) rfl ?_
              refine r_istore_n (ls' := [(0, vr 6 0), (1, vi (nI p)), (2, vl (dayC (vset v 6 p (vp_nar .boolean (nI 1))))), (4, vi (nI p)), (5, vl (dayC (vset v 6 p (vp_nar .boolean (nI 1)))))]) C (dx dX6_harms 44 rfl) (by decide) [1, 0, 2, 3, 4] rfl ?_
              refine rn_iinc (a := p) (k := 1) (ls' := [(0, vr 6 0), (1, vi (nI p)), (2, vl (dayC (vset v 6 p (vp_nar .boolean (nI 1))))), (4, vi (nI (p + 1))), (5, vl (dayC (vset v 6 p (vp_nar .boolean (nI 1)))))]) C (dx dX6_harms 45 rfl) rfl rfl (by decide) [1, 2, 3, 0, 4] rfl ?_
              refine r_goto (tgt := 7) C (dx dX6_harms 46 rfl) (by decide) ?_
              have e91 : (nI p) = ((hsC v (p + 1)).1) := by (simp only [hsC]; rw [if_pos ⟨c8, Or.inl c12⟩])
              have e92 : (dayC (vset v 6 p (vp_nar .boolean (nI 1)))) = ((hsC v (p + 1)).2) := by (simp only [hsC]; rw [if_pos ⟨c8, Or.inl c12⟩])
              refine r_weak C [0, 1, 2, 3] rfl ?_
              rw [e92, e91]
              exact ihp h11 (vset v 6 p (vp_nar .boolean (nI 1))) oh11 fh11 kh11
            ·
              have c12 : ¬ (hsC v p).1 = -1 := c12
              refine r_lload C (dx dX6_harms 37 rfl) rfl ?_
              refine r_lload_n C (dx dX6_harms 38 rfl) rfl ?_
              refine r_lcmp C (dx dX6_harms 39 rfl) ?_
              refine r_if_ge (tgt := 85) C (dx dX6_harms 40 rfl) (by decide) (fun c13 => ?_) (fun c13 => ?_)
              ·
                have c13 : (hsC v p).2 ≤ dayC (vset v 6 p (vp_nar .boolean (nI 1))) := (lg_cmp_ge _ _).mp c13
                refine rn_iinc (a := p) (k := 1) (ls' := [(0, vr 6 0), (1, vi ((hsC v p).1)), (2, vl ((hsC v p).2)), (4, vi (nI (p + 1))), (5, vl (dayC (vset v 6 p (vp_nar .boolean (nI 1)))))]) C (dx dX6_harms 45 rfl) rfl rfl (by decide) [1, 2, 3, 0, 4] rfl ?_
                refine r_goto (tgt := 7) C (dx dX6_harms 46 rfl) (by decide) ?_
                have e91 : ((hsC v p).1) = ((hsC v (p + 1)).1) := by (simp only [hsC]; rw [if_neg (fun z => z.2.elim c12 (fun y => y c13))])
                have e92 : ((hsC v p).2) = ((hsC v (p + 1)).2) := by (simp only [hsC]; rw [if_neg (fun z => z.2.elim c12 (fun y => y c13))])
                refine r_weak C [0, 1, 2, 3] rfl ?_
                rw [e92, e91]
                exact ihp h11 (vset v 6 p (vp_nar .boolean (nI 1))) oh11 fh11 kh11
              ·
                have c13 : ¬ ((hsC v p).2 ≤ dayC (vset v 6 p (vp_nar .boolean (nI 1)))) := fun q => c13 ((lg_cmp_ge _ _).mpr q)
                refine r_lload C (dx dX6_harms 41 rfl) rfl ?_
                refine r_lstore_n (ls' := [(0, vr 6 0), (1, vi ((hsC v p).1)), (2, vl (dayC (vset v 6 p (vp_nar .boolean (nI 1))))), (4, vi (nI p)), (5, vl (dayC (vset v 6 p (vp_nar .boolean (nI 1)))))]) C (dx dX6_harms 42 rfl) (by decide) [1, 2, 0, 3, 4] rfl ?_
                refine r_iload C (dx dX6_harms 43 rfl) rfl ?_
                refine r_istore_n (ls' := [(0, vr 6 0), (1, vi (nI p)), (2, vl (dayC (vset v 6 p (vp_nar .boolean (nI 1))))), (4, vi (nI p)), (5, vl (dayC (vset v 6 p (vp_nar .boolean (nI 1)))))]) C (dx dX6_harms 44 rfl) (by decide) [1, 0, 2, 3, 4] rfl ?_
                refine rn_iinc (a := p) (k := 1) (ls' := [(0, vr 6 0), (1, vi (nI p)), (2, vl (dayC (vset v 6 p (vp_nar .boolean (nI 1))))), (4, vi (nI (p + 1))), (5, vl (dayC (vset v 6 p (vp_nar .boolean (nI 1)))))]) C (dx dX6_harms 45 rfl) rfl rfl (by decide) [1, 2, 3, 0, 4] rfl ?_
                refine r_goto (tgt := 7) C (dx dX6_harms 46 rfl) (by decide) ?_
                have e91 : (nI p) = ((hsC v (p + 1)).1) := by (simp only [hsC]; rw [if_pos ⟨c8, Or.inr c13⟩])
                have e92 : (dayC (vset v 6 p (vp_nar .boolean (nI 1)))) = ((hsC v (p + 1)).2) := by (simp only [hsC]; rw [if_pos ⟨c8, Or.inr c13⟩])
                refine r_weak C [0, 1, 2, 3] rfl ?_
                rw [e92, e91]
                exact ihp h11 (vset v 6 p (vp_nar .boolean (nI 1))) oh11 fh11 kh11)
set_option maxHeartbeats 4000000 in
theorem x2_gift {l : Launch} {h : Hp} {v u w : Vg} {g : Sg} {B : Nat → Int32} {z : Nat} {κ : Int32} (o : Ow h v u w g B z κ) (hg : GOk g) (p o1 : Int32) : Ms l yX6_gift cX6_gift 3 (some .long) 20 [vr 6 0, vi p, vi o1] h (xK h) (fun r h' => r = some (vl (gifA v p o1)) ∧ OwX h h' v w g B z κ) := by
  refine Ms.of (by decide) (Nat.le_of_ble_eq_true rfl) (fun G C X F => ?_)
  have C : Cx G cX6_gift 3 RX6 := C
  show Rr G 0 [(0, vr 6 0), (1, vi p), (2, vi o1)] [] h
  have bP := o.pv.bP
  have bM := o.pv.bM
  have bN := o.pv.bN
  have bz := o.pt.2.2
  refine r_aload_n C (dx dX6_gift 0 rfl) rfl ?_
  refine g_X6_10 C (dx dX6_gift 1 rfl) ?_
  refine r_iload_n C (dx dX6_gift 2 rfl) rfl ?_
  refine r_cvP (as := [vi p]) (st := []) (v := vi (b2i (inR p (vP v)))) C X I_X5_isPart l_X6_170 (c_X5_isPart o.pv _) (by decide) (Nat.le_of_ble_eq_true rfl) List.prefix_rfl rfl rfl (Nat.le_of_ble_eq_true rfl) rfl (dx dX6_gift 3 rfl) ?_
  refine rb_eq (b := inR p (vP v)) (tgt := 22) C (dx dX6_gift 4 rfl) (by decide) (fun c1 => ?_) (fun c1 => ?_)
  ·
    have c1 : (inR p (vP v)) = false := c1
    refine r_aload_n C (dx dX6_gift 10 rfl) rfl ?_
    refine r_bipush (v := -2) C (dx dX6_gift 11 rfl) rfl ?_
    refine r_cv (as := [vi (-2)]) (st := []) C X I_X6_refuse l_X6_76 (c_X6_refuse (-2)) (by decide) (Nat.le_of_ble_eq_true rfl) List.prefix_rfl List.prefix_rfl rfl rfl (Nat.le_of_ble_eq_true rfl) rfl (dx dX6_gift 12 rfl) ?_
    intro rh2 h2 hph2 kkh2
    obtain ⟨rfl, gh2⟩ := hph2
    have oh2 : Ow h2 v u w g B z κ := o.ref gh2
    have fh2 : Fr 0 63 h h2 := gh2.mono (by omega) (by omega)
    have kh2 : xK h2 = xK h := kkh2
    refine r_popI C (dx dX6_gift 13 rfl) ?_
    refine r_ldc2 C n_X6_302 (dx dX6_gift 14 rfl) ?_
    have eA : gifA v p o1 = (-1000000000002) := by (first | (simp [gifA, c1]; done) | (simp [gifA, c1] <;> rfl))
    exact F.2.1 _ _ _ _ rfl (dx dX6_gift 15 rfl) kh2 (show some (vl (-1000000000002)) = some (vl (gifA v p o1)) ∧ OwX h h2 v w g B z κ from by rw [eA]; exact ⟨rfl, ⟨_, oh2⟩, fh2⟩)
  ·
    have c1 : (inR p (vP v)) = true := c1
    obtain ⟨π, hπ, rfl⟩ := inR_ex (n := (vP v)) (by omega) c1
    refine r_aload_n C (dx dX6_gift 5 rfl) rfl ?_
    refine g_X6_10 C (dx dX6_gift 6 rfl) ?_
    refine r_iload_n C (dx dX6_gift 7 rfl) rfl ?_
    refine r_cvP (as := [vi o1]) (st := []) (v := vi (b2i (inR o1 (vN v)))) C X I_X5_isOne l_X6_160 (c_X5_isOne o.pv _) (by decide) (Nat.le_of_ble_eq_true rfl) List.prefix_rfl rfl rfl (Nat.le_of_ble_eq_true rfl) rfl (dx dX6_gift 8 rfl) ?_
    refine rb_ne (b := inR o1 (vN v)) (tgt := 33) C (dx dX6_gift 9 rfl) (by decide) (fun c3 => ?_) (fun c3 => ?_)
    ·
      have c3 : (inR o1 (vN v)) = true := c3
      obtain ⟨o19, ho19, rfl⟩ := inR_ex (n := (vN v)) (by omega) c3
      refine r_aload_n C (dx dX6_gift 16 rfl) rfl ?_
      refine g_X6_10 C (dx dX6_gift 17 rfl) ?_
      refine g_X6_176 C (dx dX6_gift 18 rfl) ?_
      refine r_iload_n C (dx dX6_gift 19 rfl) rfl ?_
      refine r_iald (j := π) (x := vF v 0 π) C rfl rfl (by decide) rfl (by omega) (dx dX6_gift 20 rfl) (o.pv.e0 (by omega)) ?_
      refine r_iload_n C (dx dX6_gift 21 rfl) rfl ?_
      refine r_icmp_eq (tgt := 68) C (dx dX6_gift 22 rfl) (by decide) (fun c4 => ?_) (fun c4 => ?_)
      ·
        have c4 : vF v 0 π = nI o19 := c4
        refine r_aload_n C (dx dX6_gift 34 rfl) rfl ?_
        refine g_X6_16 C (dx dX6_gift 35 rfl) ?_
        refine r_aload_n C (dx dX6_gift 36 rfl) rfl ?_
        refine g_X6_10 C (dx dX6_gift 37 rfl) ?_
        refine r_cv (as := [vr 5 1]) (st := []) C X I_X5_takeOver l_X6_191 (c_X5_takeOver o.pu o.pv (by omega)) (by decide) (Nat.le_of_ble_eq_true rfl) List.prefix_rfl List.prefix_rfl rfl rfl (Nat.le_of_ble_eq_true rfl) rfl (dx dX6_gift 38 rfl) ?_
        intro rh5 h5 hph5 kkh5
        obtain ⟨rfl, wh5, gh5⟩ := hph5
        have oh5 : Ow h5 v v w g B z κ := o.tri wh5 gh5
        have fh5 : Fr 0 63 h h5 := gh5.mono (by omega) (by omega)
        have kh5 : xK h5 = xK h := kkh5
        refine r_aload_n C (dx dX6_gift 39 rfl) rfl ?_
        refine g_X6_16 C (dx dX6_gift 40 rfl) ?_
        refine g_X6_176 C (dx dX6_gift 41 rfl) ?_
        refine r_iload_n C (dx dX6_gift 42 rfl) rfl ?_
        refine r_iload_n C (dx dX6_gift 43 rfl) rfl ?_
        refine r_iast (j := π) C rfl rfl (by decide) rfl (by omega) (dx dX6_gift 44 rfl) ?_
        have oh6 : Ow (sI h5 11 π (nI o19)) v (vset v 0 π (nI o19)) w g B z κ := oh5.tri (oh5.pu.s0) (Fr.sI (by omega) (by omega))
        have fh6 : Fr 0 63 h (sI h5 11 π (nI o19)) := fh5.tr (Fr.sI (by omega) (by omega))
        have kh6 : xK (sI h5 11 π (nI o19)) = xK h := kh5
        generalize sI h5 11 π (nI o19) = h6 at oh6 fh6 kh6 ⊢
        refine r_aload_n C (dx dX6_gift 45 rfl) rfl ?_
        refine g_X6_29 C (dx dX6_gift 46 rfl) ?_
        refine r_aload_n C (dx dX6_gift 47 rfl) rfl ?_
        refine g_X6_16 C (dx dX6_gift 48 rfl) ?_
        refine r_cv (as := [vr 5 10]) (st := []) C X I_X4_worthOfDay l_X6_244 (c_X4_worthOfDay oh6.pu (by omega)) (by decide) (Nat.le_of_ble_eq_true rfl) List.prefix_rfl (pfx_eq kh6) rfl rfl (Nat.le_of_ble_eq_true rfl) rfl (dx dX6_gift 49 rfl) ?_
        intro rh7 h7 hph7 kkh7
        obtain ⟨rfl, gh7⟩ := hph7
        have oh7 : Ow h7 v (vset v 0 π (nI o19)) w g B z κ := oh6.tm (gh7.mono (by omega) (by omega))
        have fh7 : Fr 0 63 h h7 := fh6.tr (gh7.mono (by omega) (by omega))
        have kh7 : xK h7 = xK h := (kkh7).trans kh6
        refine r_aload_n C (dx dX6_gift 50 rfl) rfl ?_
        refine g_X6_29 C (dx dX6_gift 51 rfl) ?_
        refine r_aload_n C (dx dX6_gift 52 rfl) rfl ?_
        refine g_X6_10 C (dx dX6_gift 53 rfl) ?_
        refine r_cv (as := [vr 5 1]) (st := [vl (dayC (vset v 0 π (nI o19)))]) C X I_X4_worthOfDay l_X6_244 (c_X4_worthOfDay oh7.pv (by omega)) (by decide) (Nat.le_of_ble_eq_true rfl) List.prefix_rfl (pfx_eq kh7) rfl rfl (Nat.le_of_ble_eq_true rfl) rfl (dx dX6_gift 54 rfl) ?_
        intro rh8 h8 hph8 kkh8
        obtain ⟨rfl, gh8⟩ := hph8
        have oh8 : Ow h8 v (vset v 0 π (nI o19)) w g B z κ := oh7.tm (gh8.mono (by omega) (by omega))
        have fh8 : Fr 0 63 h h8 := fh7.tr (gh8.mono (by omega) (by omega))
        have kh8 : xK h8 = xK h := (kkh8).trans kh7
        refine r_lsub C (dx dX6_gift 55 rfl) ?_
        have eA : gifA v (nI π) (nI o19) = (dayC (vset v 0 π (nI o19))) - (dayC v) := by (first | (simp [gifA, clN (show π < 2 ^ 31 by omega), clN (show o19 < 2 ^ 31 by omega), c1, c3, c4]; done) | (simp [gifA, clN (show π < 2 ^ 31 by omega), clN (show o19 < 2 ^ 31 by omega), c1, c3, c4] <;> rfl))
        exact F.2.1 _ _ _ _ rfl (dx dX6_gift 56 rfl) kh8 (show some (vl ((dayC (vset v 0 π (nI o19))) - (dayC v))) = some (vl (gifA v (nI π) (nI o19))) ∧ OwX h h8 v w g B z κ from by rw [eA]; exact ⟨rfl, ⟨_, oh8⟩, fh8⟩)
      ·
        have c4 : ¬ vF v 0 π = nI o19 := c4
        refine r_aload_n C (dx dX6_gift 23 rfl) rfl ?_
        refine g_X6_10 C (dx dX6_gift 24 rfl) ?_
        refine r_iload_n C (dx dX6_gift 25 rfl) rfl ?_
        refine r_cvP (as := [vi (nI o19)]) (st := []) (v := vi (b2i (hasRm v (nI o19)))) C X I_X5_hasRoom l_X6_179 (c_X5_hasRoom o.pv _) (by decide) (Nat.le_of_ble_eq_true rfl) List.prefix_rfl rfl rfl (Nat.le_of_ble_eq_true rfl) rfl (dx dX6_gift 26 rfl) ?_
        refine rb_ne (b := hasRm v (nI o19)) (tgt := 68) C (dx dX6_gift 27 rfl) (by decide) (fun c9 => ?_) (fun c9 => ?_)
        ·
          have c9 : (hasRm v (nI o19)) = true := c9
          refine r_aload_n C (dx dX6_gift 34 rfl) rfl ?_
          refine g_X6_16 C (dx dX6_gift 35 rfl) ?_
          refine r_aload_n C (dx dX6_gift 36 rfl) rfl ?_
          refine g_X6_10 C (dx dX6_gift 37 rfl) ?_
          refine r_cv (as := [vr 5 1]) (st := []) C X I_X5_takeOver l_X6_191 (c_X5_takeOver o.pu o.pv (by omega)) (by decide) (Nat.le_of_ble_eq_true rfl) List.prefix_rfl List.prefix_rfl rfl rfl (Nat.le_of_ble_eq_true rfl) rfl (dx dX6_gift 38 rfl) ?_
          intro rh10 h10 hph10 kkh10
          obtain ⟨rfl, wh10, gh10⟩ := hph10
          have oh10 : Ow h10 v v w g B z κ := o.tri wh10 gh10
          have fh10 : Fr 0 63 h h10 := gh10.mono (by omega) (by omega)
          have kh10 : xK h10 = xK h := kkh10
          refine r_aload_n C (dx dX6_gift 39 rfl) rfl ?_
          refine g_X6_16 C (dx dX6_gift 40 rfl) ?_
          refine g_X6_176 C (dx dX6_gift 41 rfl) ?_
          refine r_iload_n C (dx dX6_gift 42 rfl) rfl ?_
          refine r_iload_n C (dx dX6_gift 43 rfl) rfl ?_
          refine r_iast (j := π) C rfl rfl (by decide) rfl (by omega) (dx dX6_gift 44 rfl) ?_
          have oh11 : Ow (sI h10 11 π (nI o19)) v (vset v 0 π (nI o19)) w g B z κ := oh10.tri (oh10.pu.s0) (Fr.sI (by omega) (by omega))
          have fh11 : Fr 0 63 h (sI h10 11 π (nI o19)) := fh10.tr (Fr.sI (by omega) (by omega))
          have kh11 : xK (sI h10 11 π (nI o19)) = xK h := kh10
          generalize sI h10 11 π (nI o19) = h11 at oh11 fh11 kh11 ⊢
          refine r_aload_n C (dx dX6_gift 45 rfl) rfl ?_
          refine g_X6_29 C (dx dX6_gift 46 rfl) ?_
          refine r_aload_n C (dx dX6_gift 47 rfl) rfl ?_
          refine g_X6_16 C (dx dX6_gift 48 rfl) ?_
          refine r_cv (as := [vr 5 10]) (st := []) C X I_X4_worthOfDay l_X6_244 (c_X4_worthOfDay oh11.pu (by omega)) (by decide) (Nat.le_of_ble_eq_true rfl) List.prefix_rfl (pfx_eq kh11) rfl rfl (Nat.le_of_ble_eq_true rfl) rfl (dx dX6_gift 49 rfl) ?_
          intro rh12 h12 hph12 kkh12
          obtain ⟨rfl, gh12⟩ := hph12
          have oh12 : Ow h12 v (vset v 0 π (nI o19)) w g B z κ := oh11.tm (gh12.mono (by omega) (by omega))
          have fh12 : Fr 0 63 h h12 := fh11.tr (gh12.mono (by omega) (by omega))
          have kh12 : xK h12 = xK h := (kkh12).trans kh11
          refine r_aload_n C (dx dX6_gift 50 rfl) rfl ?_
          refine g_X6_29 C (dx dX6_gift 51 rfl) ?_
          refine r_aload_n C (dx dX6_gift 52 rfl) rfl ?_
          refine g_X6_10 C (dx dX6_gift 53 rfl) ?_
          refine r_cv (as := [vr 5 1]) (st := [vl (dayC (vset v 0 π (nI o19)))]) C X I_X4_worthOfDay l_X6_244 (c_X4_worthOfDay oh12.pv (by omega)) (by decide) (Nat.le_of_ble_eq_true rfl) List.prefix_rfl (pfx_eq kh12) rfl rfl (Nat.le_of_ble_eq_true rfl) rfl (dx dX6_gift 54 rfl) ?_
          intro rh13 h13 hph13 kkh13
          obtain ⟨rfl, gh13⟩ := hph13
          have oh13 : Ow h13 v (vset v 0 π (nI o19)) w g B z κ := oh12.tm (gh13.mono (by omega) (by omega))
          have fh13 : Fr 0 63 h h13 := fh12.tr (gh13.mono (by omega) (by omega))
          have kh13 : xK h13 = xK h := (kkh13).trans kh12
          refine r_lsub C (dx dX6_gift 55 rfl) ?_
          have eA : gifA v (nI π) (nI o19) = (dayC (vset v 0 π (nI o19))) - (dayC v) := by (first | (simp [gifA, clN (show π < 2 ^ 31 by omega), clN (show o19 < 2 ^ 31 by omega), c1, c3, c4, c9]; done) | (simp [gifA, clN (show π < 2 ^ 31 by omega), clN (show o19 < 2 ^ 31 by omega), c1, c3, c4, c9] <;> rfl))
          exact F.2.1 _ _ _ _ rfl (dx dX6_gift 56 rfl) kh13 (show some (vl ((dayC (vset v 0 π (nI o19))) - (dayC v))) = some (vl (gifA v (nI π) (nI o19))) ∧ OwX h h13 v w g B z κ from by rw [eA]; exact ⟨rfl, ⟨_, oh13⟩, fh13⟩)
        ·
          have c9 : (hasRm v (nI o19)) = false := c9
          refine r_aload_n C (dx dX6_gift 28 rfl) rfl ?_
          refine r_bipush (v := -5) C (dx dX6_gift 29 rfl) rfl ?_
          refine r_cv (as := [vi (-5)]) (st := []) C X I_X6_refuse l_X6_76 (c_X6_refuse (-5)) (by decide) (Nat.le_of_ble_eq_true rfl) List.prefix_rfl List.prefix_rfl rfl rfl (Nat.le_of_ble_eq_true rfl) rfl (dx dX6_gift 30 rfl) ?_
          intro rh14 h14 hph14 kkh14
          obtain ⟨rfl, gh14⟩ := hph14
          have oh14 : Ow h14 v u w g B z κ := o.ref gh14
          have fh14 : Fr 0 63 h h14 := gh14.mono (by omega) (by omega)
          have kh14 : xK h14 = xK h := kkh14
          refine r_popI C (dx dX6_gift 31 rfl) ?_
          refine r_ldc2 C n_X6_304 (dx dX6_gift 32 rfl) ?_
          have eA : gifA v (nI π) (nI o19) = (-1000000000005) := by (first | (simp [gifA, clN (show π < 2 ^ 31 by omega), clN (show o19 < 2 ^ 31 by omega), c1, c3, c4, c9]; done) | (simp [gifA, clN (show π < 2 ^ 31 by omega), clN (show o19 < 2 ^ 31 by omega), c1, c3, c4, c9] <;> rfl))
          exact F.2.1 _ _ _ _ rfl (dx dX6_gift 33 rfl) kh14 (show some (vl (-1000000000005)) = some (vl (gifA v (nI π) (nI o19))) ∧ OwX h h14 v w g B z κ from by rw [eA]; exact ⟨rfl, ⟨_, oh14⟩, fh14⟩)
    ·
      have c3 : (inR o1 (vN v)) = false := c3
      refine r_aload_n C (dx dX6_gift 10 rfl) rfl ?_
      refine r_bipush (v := -2) C (dx dX6_gift 11 rfl) rfl ?_
      refine r_cv (as := [vi (-2)]) (st := []) C X I_X6_refuse l_X6_76 (c_X6_refuse (-2)) (by decide) (Nat.le_of_ble_eq_true rfl) List.prefix_rfl List.prefix_rfl rfl rfl (Nat.le_of_ble_eq_true rfl) rfl (dx dX6_gift 12 rfl) ?_
      intro rh15 h15 hph15 kkh15
      obtain ⟨rfl, gh15⟩ := hph15
      have oh15 : Ow h15 v u w g B z κ := o.ref gh15
      have fh15 : Fr 0 63 h h15 := gh15.mono (by omega) (by omega)
      have kh15 : xK h15 = xK h := kkh15
      refine r_popI C (dx dX6_gift 13 rfl) ?_
      refine r_ldc2 C n_X6_302 (dx dX6_gift 14 rfl) ?_
      have eA : gifA v (nI π) o1 = (-1000000000002) := by (first | (simp [gifA, clN (show π < 2 ^ 31 by omega), c1, c3]; done) | (simp [gifA, clN (show π < 2 ^ 31 by omega), c1, c3] <;> rfl))
      exact F.2.1 _ _ _ _ rfl (dx dX6_gift 15 rfl) kh15 (show some (vl (-1000000000002)) = some (vl (gifA v (nI π) o1)) ∧ OwX h h15 v w g B z κ from by rw [eA]; exact ⟨rfl, ⟨_, oh15⟩, fh15⟩)
set_option maxHeartbeats 4000000 in
theorem x2_trust {l : Launch} {h : Hp} {v u w : Vg} {g : Sg} {B : Nat → Int32} {z : Nat} {κ : Int32} (o : Ow h v u w g B z κ) (hg : GOk g) (x y : Int32) : Ms l yX6_trust cX6_trust 3 (some .long) 20 [vr 6 0, vi x, vi y] h (xK h) (fun r h' => r = some (vl (truA v x y)) ∧ OwX h h' v w g B z κ) := by
  refine Ms.of (by decide) (Nat.le_of_ble_eq_true rfl) (fun G C X F => ?_)
  have C : Cx G cX6_trust 3 RX6 := C
  show Rr G 0 [(0, vr 6 0), (1, vi x), (2, vi y)] [] h
  have bP := o.pv.bP
  have bM := o.pv.bM
  have bN := o.pv.bN
  have bz := o.pt.2.2
  refine r_aload_n C (dx dX6_trust 0 rfl) rfl ?_
  refine g_X6_10 C (dx dX6_trust 1 rfl) ?_
  refine r_iload_n C (dx dX6_trust 2 rfl) rfl ?_
  refine r_cvP (as := [vi x]) (st := []) (v := vi (b2i (inR x (vN v)))) C X I_X5_isOne l_X6_160 (c_X5_isOne o.pv _) (by decide) (Nat.le_of_ble_eq_true rfl) List.prefix_rfl rfl rfl (Nat.le_of_ble_eq_true rfl) rfl (dx dX6_trust 3 rfl) ?_
  refine rb_eq (b := inR x (vN v)) (tgt := 27) C (dx dX6_trust 4 rfl) (by decide) (fun c1 => ?_) (fun c1 => ?_)
  ·
    have c1 : (inR x (vN v)) = false := c1
    refine r_aload_n C (dx dX6_trust 13 rfl) rfl ?_
    refine r_bipush (v := -2) C (dx dX6_trust 14 rfl) rfl ?_
    refine r_cv (as := [vi (-2)]) (st := []) C X I_X6_refuse l_X6_76 (c_X6_refuse (-2)) (by decide) (Nat.le_of_ble_eq_true rfl) List.prefix_rfl List.prefix_rfl rfl rfl (Nat.le_of_ble_eq_true rfl) rfl (dx dX6_trust 15 rfl) ?_
    intro rh2 h2 hph2 kkh2
    obtain ⟨rfl, gh2⟩ := hph2
    have oh2 : Ow h2 v u w g B z κ := o.ref gh2
    have fh2 : Fr 0 63 h h2 := gh2.mono (by omega) (by omega)
    have kh2 : xK h2 = xK h := kkh2
    refine r_popI C (dx dX6_trust 16 rfl) ?_
    refine r_ldc2 C n_X6_302 (dx dX6_trust 17 rfl) ?_
    have eA : truA v x y = (-1000000000002) := by simp [truA, c1]
    exact F.2.1 _ _ _ _ rfl (dx dX6_trust 18 rfl) kh2 (show some (vl (-1000000000002)) = some (vl (truA v x y)) ∧ OwX h h2 v w g B z κ from by rw [eA]; exact ⟨rfl, ⟨_, oh2⟩, fh2⟩)
  ·
    have c1 : (inR x (vN v)) = true := c1
    refine r_aload_n C (dx dX6_trust 5 rfl) rfl ?_
    refine g_X6_10 C (dx dX6_trust 6 rfl) ?_
    refine r_iload_n C (dx dX6_trust 7 rfl) rfl ?_
    refine r_cvP (as := [vi y]) (st := []) (v := vi (b2i (inR y (vN v)))) C X I_X5_isOne l_X6_160 (c_X5_isOne o.pv _) (by decide) (Nat.le_of_ble_eq_true rfl) List.prefix_rfl rfl rfl (Nat.le_of_ble_eq_true rfl) rfl (dx dX6_trust 8 rfl) ?_
    refine rb_eq (b := inR y (vN v)) (tgt := 27) C (dx dX6_trust 9 rfl) (by decide) (fun c3 => ?_) (fun c3 => ?_)
    ·
      have c3 : (inR y (vN v)) = false := c3
      refine r_aload_n C (dx dX6_trust 13 rfl) rfl ?_
      refine r_bipush (v := -2) C (dx dX6_trust 14 rfl) rfl ?_
      refine r_cv (as := [vi (-2)]) (st := []) C X I_X6_refuse l_X6_76 (c_X6_refuse (-2)) (by decide) (Nat.le_of_ble_eq_true rfl) List.prefix_rfl List.prefix_rfl rfl rfl (Nat.le_of_ble_eq_true rfl) rfl (dx dX6_trust 15 rfl) ?_
      intro rh4 h4 hph4 kkh4
      obtain ⟨rfl, gh4⟩ := hph4
      have oh4 : Ow h4 v u w g B z κ := o.ref gh4
      have fh4 : Fr 0 63 h h4 := gh4.mono (by omega) (by omega)
      have kh4 : xK h4 = xK h := kkh4
      refine r_popI C (dx dX6_trust 16 rfl) ?_
      refine r_ldc2 C n_X6_302 (dx dX6_trust 17 rfl) ?_
      have eA : truA v x y = (-1000000000002) := by simp [truA, c1, c3]
      exact F.2.1 _ _ _ _ rfl (dx dX6_trust 18 rfl) kh4 (show some (vl (-1000000000002)) = some (vl (truA v x y)) ∧ OwX h h4 v w g B z κ from by rw [eA]; exact ⟨rfl, ⟨_, oh4⟩, fh4⟩)
    ·
      have c3 : (inR y (vN v)) = true := c3
      refine r_iload_n C (dx dX6_trust 10 rfl) rfl ?_
      refine r_iload_n C (dx dX6_trust 11 rfl) rfl ?_
      refine r_icmp_ne (tgt := 38) C (dx dX6_trust 12 rfl) (by decide) (fun c5 => ?_) (fun c5 => ?_)
      ·
        have c5 : ¬ x = y := c5
        refine r_aload_n C (dx dX6_trust 19 rfl) rfl ?_
        refine g_X6_16 C (dx dX6_trust 20 rfl) ?_
        refine r_aload_n C (dx dX6_trust 21 rfl) rfl ?_
        refine g_X6_10 C (dx dX6_trust 22 rfl) ?_
        refine r_cv (as := [vr 5 1]) (st := []) C X I_X5_takeOver l_X6_191 (c_X5_takeOver o.pu o.pv (by omega)) (by decide) (Nat.le_of_ble_eq_true rfl) List.prefix_rfl List.prefix_rfl rfl rfl (Nat.le_of_ble_eq_true rfl) rfl (dx dX6_trust 23 rfl) ?_
        intro rh6 h6 hph6 kkh6
        obtain ⟨rfl, wh6, gh6⟩ := hph6
        have oh6 : Ow h6 v v w g B z κ := o.tri wh6 gh6
        have fh6 : Fr 0 63 h h6 := gh6.mono (by omega) (by omega)
        have kh6 : xK h6 = xK h := kkh6
        refine r_aload_n C (dx dX6_trust 24 rfl) rfl ?_
        refine g_X6_16 C (dx dX6_trust 25 rfl) ?_
        refine r_iload_n C (dx dX6_trust 26 rfl) rfl ?_
        refine r_iload_n C (dx dX6_trust 27 rfl) rfl ?_
        refine r_cv (as := [vi x, vi y]) (st := []) C X I_X5_handOver l_X6_318 (c_X5_handOver oh6.pu _ _) (by decide) (Nat.le_of_ble_eq_true rfl) List.prefix_rfl (pfx_eq kh6) rfl rfl (Nat.le_of_ble_eq_true rfl) rfl (dx dX6_trust 28 rfl) ?_
        intro rh7 h7 hph7 kkh7
        obtain ⟨rfl, wh7, gh7⟩ := hph7
        have oh7 : Ow h7 v (handV v x y (vP v)) w g B z κ := oh6.tri wh7 gh7
        have fh7 : Fr 0 63 h h7 := fh6.tr (gh7.mono (by omega) (by omega))
        have kh7 : xK h7 = xK h := (kkh7).trans kh6
        refine r_aload_n C (dx dX6_trust 29 rfl) rfl ?_
        refine g_X6_29 C (dx dX6_trust 30 rfl) ?_
        refine r_aload_n C (dx dX6_trust 31 rfl) rfl ?_
        refine g_X6_16 C (dx dX6_trust 32 rfl) ?_
        refine r_cv (as := [vr 5 10]) (st := []) C X I_X4_worthOfDay l_X6_244 (c_X4_worthOfDay oh7.pu (by omega)) (by decide) (Nat.le_of_ble_eq_true rfl) List.prefix_rfl (pfx_eq kh7) rfl rfl (Nat.le_of_ble_eq_true rfl) rfl (dx dX6_trust 33 rfl) ?_
        intro rh8 h8 hph8 kkh8
        obtain ⟨rfl, gh8⟩ := hph8
        have oh8 : Ow h8 v (handV v x y (vP v)) w g B z κ := oh7.tm (gh8.mono (by omega) (by omega))
        have fh8 : Fr 0 63 h h8 := fh7.tr (gh8.mono (by omega) (by omega))
        have kh8 : xK h8 = xK h := (kkh8).trans kh7
        refine r_aload_n C (dx dX6_trust 34 rfl) rfl ?_
        refine g_X6_29 C (dx dX6_trust 35 rfl) ?_
        refine r_aload_n C (dx dX6_trust 36 rfl) rfl ?_
        refine g_X6_10 C (dx dX6_trust 37 rfl) ?_
        refine r_cv (as := [vr 5 1]) (st := [vl (dayC (handV v x y (vP v)))]) C X I_X4_worthOfDay l_X6_244 (c_X4_worthOfDay oh8.pv (by omega)) (by decide) (Nat.le_of_ble_eq_true rfl) List.prefix_rfl (pfx_eq kh8) rfl rfl (Nat.le_of_ble_eq_true rfl) rfl (dx dX6_trust 38 rfl) ?_
        intro rh9 h9 hph9 kkh9
        obtain ⟨rfl, gh9⟩ := hph9
        have oh9 : Ow h9 v (handV v x y (vP v)) w g B z κ := oh8.tm (gh9.mono (by omega) (by omega))
        have fh9 : Fr 0 63 h h9 := fh8.tr (gh9.mono (by omega) (by omega))
        have kh9 : xK h9 = xK h := (kkh9).trans kh8
        refine r_lsub C (dx dX6_trust 39 rfl) ?_
        have eA : truA v x y = (dayC (handV v x y (vP v))) - (dayC v) := by simp [truA, c1, c3, c5]
        exact F.2.1 _ _ _ _ rfl (dx dX6_trust 40 rfl) kh9 (show some (vl ((dayC (handV v x y (vP v))) - (dayC v))) = some (vl (truA v x y)) ∧ OwX h h9 v w g B z κ from by rw [eA]; exact ⟨rfl, ⟨_, oh9⟩, fh9⟩)
      ·
        have c5 : x = y := c5
        refine r_aload_n C (dx dX6_trust 13 rfl) rfl ?_
        refine r_bipush (v := -2) C (dx dX6_trust 14 rfl) rfl ?_
        refine r_cv (as := [vi (-2)]) (st := []) C X I_X6_refuse l_X6_76 (c_X6_refuse (-2)) (by decide) (Nat.le_of_ble_eq_true rfl) List.prefix_rfl List.prefix_rfl rfl rfl (Nat.le_of_ble_eq_true rfl) rfl (dx dX6_trust 15 rfl) ?_
        intro rh10 h10 hph10 kkh10
        obtain ⟨rfl, gh10⟩ := hph10
        have oh10 : Ow h10 v u w g B z κ := o.ref gh10
        have fh10 : Fr 0 63 h h10 := gh10.mono (by omega) (by omega)
        have kh10 : xK h10 = xK h := kkh10
        refine r_popI C (dx dX6_trust 16 rfl) ?_
        refine r_ldc2 C n_X6_302 (dx dX6_trust 17 rfl) ?_
        have eA : truA v x y = (-1000000000002) := by simp [truA, c1, c3, c5]
        exact F.2.1 _ _ _ _ rfl (dx dX6_trust 18 rfl) kh10 (show some (vl (-1000000000002)) = some (vl (truA v x y)) ∧ OwX h h10 v w g B z κ from by rw [eA]; exact ⟨rfl, ⟨_, oh10⟩, fh10⟩)
set_option maxHeartbeats 4000000 in
theorem x2_spare {l : Launch} {h : Hp} {v u w : Vg} {g : Sg} {B : Nat → Int32} {z : Nat} {κ : Int32} (o : Ow h v u w g B z κ) (hg : GOk g)  : Ms l yX6_spare cX6_spare 8 (some .int) 20 [vr 6 0] h (xK h) (fun r h' => r = some (vi (spaA v)) ∧ OwX h h' v w g B z κ) := by
  refine Ms.of (by decide) (Nat.le_of_ble_eq_true rfl) (fun G C X F => ?_)
  have C : Cx G cX6_spare 8 RX6 := C
  show Rr G 0 [(0, vr 6 0)] [] h
  have bP := o.pv.bP
  have bM := o.pv.bM
  have bN := o.pv.bN
  have bz := o.pt.2.2
  refine r_aload_n C (dx dX6_spare 0 rfl) rfl ?_
  refine g_X6_16 C (dx dX6_spare 1 rfl) ?_
  refine r_aload_n C (dx dX6_spare 2 rfl) rfl ?_
  refine g_X6_10 C (dx dX6_spare 3 rfl) ?_
  refine r_cv (as := [vr 5 1]) (st := []) C X I_X5_takeOver l_X6_191 (c_X5_takeOver o.pu o.pv (by omega)) (by decide) (Nat.le_of_ble_eq_true rfl) List.prefix_rfl List.prefix_rfl rfl rfl (Nat.le_of_ble_eq_true rfl) rfl (dx dX6_spare 4 rfl) ?_
  intro rh1 h1 hph1 kkh1
  obtain ⟨rfl, wh1, gh1⟩ := hph1
  have oh1 : Ow h1 v v w g B z κ := o.tri wh1 gh1
  have fh1 : Fr 0 63 h h1 := gh1.mono (by omega) (by omega)
  have kh1 : xK h1 = xK h := kkh1
  refine r_iconst (v := -1) C (dx dX6_spare 5 rfl) rfl ?_
  refine r_istore_n (ls' := [(0, vr 6 0), (1, vi (-1))]) C (dx dX6_spare 6 rfl) (by decide) [1, 0] rfl ?_
  refine r_aload_n C (dx dX6_spare 7 rfl) rfl ?_
  refine g_X6_29 C (dx dX6_spare 8 rfl) ?_
  refine r_aload_n C (dx dX6_spare 9 rfl) rfl ?_
  refine g_X6_16 C (dx dX6_spare 10 rfl) ?_
  refine r_cv (as := [vr 5 10]) (st := []) C X I_X4_worthOfDay l_X6_244 (c_worthOfDayW oh1.pu (by omega)) (by decide) (Nat.le_of_ble_eq_true rfl) List.prefix_rfl (pfx_eq kh1) rfl rfl (Nat.le_of_ble_eq_true rfl) rfl (dx dX6_spare 11 rfl) ?_
  intro rh2 h2 hph2 kkh2
  obtain ⟨rfl, qh2, gh2⟩ := hph2
  have oh2 : Ow h2 v v w g B z κ := oh1.tm (gh2.mono (by omega) (by omega))
  have fh2 : Fr 0 63 h h2 := fh1.tr (gh2.mono (by omega) (by omega))
  have kh2 : xK h2 = xK h := (kkh2).trans kh1
  have sh2 : SpI v v h2 := ⟨rfl, fun _ => rfl, fun _ => rfl, qh2⟩
  refine r_lstore_n (ls' := [(0, vr 6 0), (1, vi (-1)), (2, vl (dayC v))]) C (dx dX6_spare 12 rfl) (by decide) [1, 2, 0] rfl ?_
  refine r_iconst (v := nI 0) C (dx dX6_spare 13 rfl) rfl ?_
  refine r_istore (ls' := [(0, vr 6 0), (1, vi (-1)), (2, vl (dayC v)), (4, vi (nI 0))]) C (dx dX6_spare 14 rfl) (by decide) [1, 2, 3, 0] rfl ?_
  refine loopU (Φ := fun p => ∀ (h9p : Hp), Ow h9p v v w g B z κ → Fr 0 63 h h9p → xK h9p = xK h → SpI v v h9p → Rr G 28 [(0, vr 6 0), (1, vi ((spP v p).1)), (2, vl ((spP v p).2)), (4, vi (nI p))] [] h9p) (N := vP v) ?_ ?_ 0 (Nat.zero_le _) h2 oh2 fh2 kh2 sh2
  ·
    intro h9p oh9p fh9p kh9p sh9p
    refine r_iload C (dx dX6_spare 15 rfl) rfl ?_
    refine r_aload_n C (dx dX6_spare 16 rfl) rfl ?_
    refine g_X6_10 C (dx dX6_spare 17 rfl) ?_
    refine g_X6_138 (x := nI (vP v)) C (dx dX6_spare 18 rfl) oh9p.pv.eP ?_
    refine rn_ge (a := (vP v)) (b := vP v) (tgt := 163) C (by omega) (by omega) (dx dX6_spare 19 rfl) (by decide) (fun c3 => ?_) (fun c3 => ?_)
    · first
      | (omega; done)
      | (
          have c3 : vP v ≤ (vP v) := c3
          refine r_iload_n C (dx dX6_spare 80 rfl) rfl ?_
          exact F.1 _ _ _ _ _ rfl rfl (dx dX6_spare 81 rfl) kh9p ⟨rfl, ⟨_, oh9p⟩, fh9p⟩)
    · first
      | (omega; done)
  ·
    intro p hp ihp h9p oh9p fh9p kh9p sh9p
    refine r_iload C (dx dX6_spare 15 rfl) rfl ?_
    refine r_aload_n C (dx dX6_spare 16 rfl) rfl ?_
    refine g_X6_10 C (dx dX6_spare 17 rfl) ?_
    refine g_X6_138 (x := nI (vP v)) C (dx dX6_spare 18 rfl) oh9p.pv.eP ?_
    refine rn_ge (a := p) (b := vP v) (tgt := 163) C (by omega) (by omega) (dx dX6_spare 19 rfl) (by decide) (fun c5 => ?_) (fun c5 => ?_)
    · first
      | (omega; done)
      | (
          have c5 : vP v ≤ p := c5
          refine r_iload_n C (dx dX6_spare 80 rfl) rfl ?_
          exact F.1 _ _ _ _ _ rfl rfl (dx dX6_spare 81 rfl) kh9p ⟨rfl, ⟨_, oh9p⟩, fh9p⟩)
    · first
      | (omega; done)
      | (
          have c5 : p < vP v := c5
          refine r_aload_n C (dx dX6_spare 20 rfl) rfl ?_
          refine g_X6_10 C (dx dX6_spare 21 rfl) ?_
          refine g_X6_173 C (dx dX6_spare 22 rfl) ?_
          refine r_iload C (dx dX6_spare 23 rfl) rfl ?_
          refine r_iald (j := p) (x := vF v 1 p) C rfl rfl (by decide) rfl (by omega) (dx dX6_spare 24 rfl) (oh9p.pv.e1 (by omega)) ?_
          refine r_iconst (v := -1) C (dx dX6_spare 25 rfl) rfl ?_
          refine r_icmp_ne (tgt := 157) C (dx dX6_spare 26 rfl) (by decide) (fun c6 => ?_) (fun c6 => ?_)
          ·
            have c6 : ¬ vF v 1 p = -1 := c6
            refine rn_iinc (a := p) (k := 1) (ls' := [(0, vr 6 0), (1, vi ((spP v p).1)), (2, vl ((spP v p).2)), (4, vi (nI (p + 1)))]) C (dx dX6_spare 78 rfl) rfl rfl (by decide) [1, 2, 3, 0] rfl ?_
            refine r_goto (tgt := 28) C (dx dX6_spare 79 rfl) (by decide) ?_
            have e9p1 : ((spP v p).1) = ((spP v (p + 1)).1) := by (simp only [spP]; rw [if_neg c6])
            have e9p2 : ((spP v p).2) = ((spP v (p + 1)).2) := by (simp only [spP]; rw [if_neg c6])
            rw [e9p2, e9p1]
            exact ihp h9p oh9p fh9p kh9p sh9p
          ·
            have c6 : vF v 1 p = -1 := c6
            refine r_iconst (v := nI 0) C (dx dX6_spare 27 rfl) rfl ?_
            refine r_istore (ls' := [(0, vr 6 0), (1, vi ((spP v p).1)), (2, vl ((spP v p).2)), (4, vi (nI p)), (5, vi (nI 0))]) C (dx dX6_spare 28 rfl) (by decide) [1, 2, 3, 4, 0] rfl ?_
            refine loopU (Φ := fun q => ∀ (h9q : Hp) (y9q : Int32), Ow h9q v (vset v 1 p y9q) w g B z κ → Fr 0 63 h h9q → xK h9q = xK h → SpI v (vset v 1 p y9q) h9q → Rr G 57 [(0, vr 6 0), (1, vi ((spJ v (spP v p) p q).1)), (2, vl ((spJ v (spP v p) p q).2)), (4, vi (nI p)), (5, vi (nI q))] [] h9q) (N := vN v) ?_ ?_ 0 (Nat.zero_le _) h9p (vF v 1 p) (by rw [vset_same]; exact oh9p) fh9p kh9p (by rw [vset_same]; exact sh9p)
            ·
              intro h9q y9q oh9q fh9q kh9q sh9q
              refine r_iload C (dx dX6_spare 29 rfl) rfl ?_
              refine r_aload_n C (dx dX6_spare 30 rfl) rfl ?_
              refine g_X6_10 C (dx dX6_spare 31 rfl) ?_
              refine g_X6_154 (x := nI (vN v)) C (dx dX6_spare 32 rfl) oh9q.pv.eN ?_
              refine rn_ge (a := (vN v)) (b := vN v) (tgt := 146) C (by omega) (by omega) (dx dX6_spare 33 rfl) (by decide) (fun c7 => ?_) (fun c7 => ?_)
              · first
                | (omega; done)
                | (
                    have c7 : vN v ≤ (vN v) := c7
                    refine r_aload_n C (dx dX6_spare 72 rfl) rfl ?_
                    refine g_X6_16 C (dx dX6_spare 73 rfl) ?_
                    refine g_X6_173 C (dx dX6_spare 74 rfl) ?_
                    refine r_iload C (dx dX6_spare 75 rfl) rfl ?_
                    refine r_iconst (v := -1) C (dx dX6_spare 76 rfl) rfl ?_
                    refine r_iast (j := p) C rfl rfl (by decide) rfl (by omega) (dx dX6_spare 77 rfl) ?_
                    have sh8 : SpI v (vset (vset v 1 p y9q) 1 p (-1)) (sI h9q 12 p (-1)) := sh9q.st (by omega)
                    have oh8 : Ow (sI h9q 12 p (-1)) v (vset (vset v 1 p y9q) 1 p (-1)) w g B z κ := oh9q.tri (oh9q.pu.s1) (Fr.sI (by omega) (by omega))
                    have fh8 : Fr 0 63 h (sI h9q 12 p (-1)) := fh9q.tr (Fr.sI (by omega) (by omega))
                    have kh8 : xK (sI h9q 12 p (-1)) = xK h := kh9q
                    generalize sI h9q 12 p (-1) = h8 at oh8 fh8 kh8 sh8 ⊢
                    refine rn_iinc (a := p) (k := 1) (ls' := [(0, vr 6 0), (1, vi ((spJ v (spP v p) p (vN v)).1)), (2, vl ((spJ v (spP v p) p (vN v)).2)), (4, vi (nI (p + 1))), (5, vi (nI (vN v)))]) C (dx dX6_spare 78 rfl) rfl rfl (by decide) [1, 2, 3, 0, 4] rfl ?_
                    refine r_goto (tgt := 28) C (dx dX6_spare 79 rfl) (by decide) ?_
                    have e9p1 : ((spJ v (spP v p) p (vN v)).1) = ((spP v (p + 1)).1) := by (simp only [spP]; rw [if_pos c6])
                    have e9p2 : ((spJ v (spP v p) p (vN v)).2) = ((spP v (p + 1)).2) := by (simp only [spP]; rw [if_pos c6])
                    refine r_weak C [0, 1, 2, 3] rfl ?_
                    rw [e9p2, e9p1]
                    have uh8 : (vset (vset v 1 p y9q) 1 p (-1)) = v := by rw [vset_two, show (-1 : Int32) = vF v 1 p from c6.symm, vset_same]
                    rw [uh8] at oh8 sh8
                    exact ihp h8 oh8 fh8 kh8 sh8)
              · first
                | (omega; done)
            ·
              intro q hq ihq h9q y9q oh9q fh9q kh9q sh9q
              refine r_iload C (dx dX6_spare 29 rfl) rfl ?_
              refine r_aload_n C (dx dX6_spare 30 rfl) rfl ?_
              refine g_X6_10 C (dx dX6_spare 31 rfl) ?_
              refine g_X6_154 (x := nI (vN v)) C (dx dX6_spare 32 rfl) oh9q.pv.eN ?_
              refine rn_ge (a := q) (b := vN v) (tgt := 146) C (by omega) (by omega) (dx dX6_spare 33 rfl) (by decide) (fun c10 => ?_) (fun c10 => ?_)
              · first
                | (omega; done)
              · first
                | (omega; done)
                | (
                    have c10 : q < vN v := c10
                    refine r_iload C (dx dX6_spare 34 rfl) rfl ?_
                    refine r_aload_n C (dx dX6_spare 35 rfl) rfl ?_
                    refine g_X6_10 C (dx dX6_spare 36 rfl) ?_
                    refine g_X6_176 C (dx dX6_spare 37 rfl) ?_
                    refine r_iload C (dx dX6_spare 38 rfl) rfl ?_
                    refine r_iald (j := p) (x := vF v 0 p) C rfl rfl (by decide) rfl (by omega) (dx dX6_spare 39 rfl) (oh9q.pv.e0 (by omega)) ?_
                    refine r_icmp_eq (tgt := 140) C (dx dX6_spare 40 rfl) (by decide) (fun c12 => ?_) (fun c12 => ?_)
                    ·
                      have c12 : nI q = vF v 0 p := c12
                      refine rn_iinc (a := q) (k := 1) (ls' := [(0, vr 6 0), (1, vi ((spJ v (spP v p) p q).1)), (2, vl ((spJ v (spP v p) p q).2)), (4, vi (nI p)), (5, vi (nI (q + 1)))]) C (dx dX6_spare 70 rfl) rfl rfl (by decide) [1, 2, 3, 4, 0] rfl ?_
                      refine r_goto (tgt := 57) C (dx dX6_spare 71 rfl) (by decide) ?_
                      have e9q1 : ((spJ v (spP v p) p q).1) = ((spJ v (spP v p) p (q + 1)).1) := by (simp only [spJ]; rw [if_neg (fun z => z.1 c12)])
                      have e9q2 : ((spJ v (spP v p) p q).2) = ((spJ v (spP v p) p (q + 1)).2) := by (simp only [spJ]; rw [if_neg (fun z => z.1 c12)])
                      rw [e9q2, e9q1]
                      exact ihq h9q y9q oh9q fh9q kh9q sh9q
                    ·
                      have c12 : ¬ nI q = vF v 0 p := c12
                      refine r_aload_n C (dx dX6_spare 41 rfl) rfl ?_
                      refine g_X6_10 C (dx dX6_spare 42 rfl) ?_
                      refine r_iload C (dx dX6_spare 43 rfl) rfl ?_
                      refine r_cvP (as := [vi (nI q)]) (st := []) (v := vi (b2i (hasRm v (nI q)))) C X I_X5_hasRoom l_X6_179 (c_X5_hasRoom oh9q.pv _) (by decide) (Nat.le_of_ble_eq_true rfl) (pfx_eq kh9q) rfl rfl (Nat.le_of_ble_eq_true rfl) rfl (dx dX6_spare 44 rfl) ?_
                      refine rb_eq (b := hasRm v (nI q)) (tgt := 140) C (dx dX6_spare 45 rfl) (by decide) (fun c13 => ?_) (fun c13 => ?_)
                      ·
                        have c13 : (hasRm v (nI q)) = false := c13
                        refine rn_iinc (a := q) (k := 1) (ls' := [(0, vr 6 0), (1, vi ((spJ v (spP v p) p q).1)), (2, vl ((spJ v (spP v p) p q).2)), (4, vi (nI p)), (5, vi (nI (q + 1)))]) C (dx dX6_spare 70 rfl) rfl rfl (by decide) [1, 2, 3, 4, 0] rfl ?_
                        refine r_goto (tgt := 57) C (dx dX6_spare 71 rfl) (by decide) ?_
                        have e9q1 : ((spJ v (spP v p) p q).1) = ((spJ v (spP v p) p (q + 1)).1) := by (simp only [spJ]; rw [if_neg (fun z => by have z1 := z.2.1; rw [c13] at z1; exact absurd z1 (by decide))])
                        have e9q2 : ((spJ v (spP v p) p q).2) = ((spJ v (spP v p) p (q + 1)).2) := by (simp only [spJ]; rw [if_neg (fun z => by have z1 := z.2.1; rw [c13] at z1; exact absurd z1 (by decide))])
                        rw [e9q2, e9q1]
                        exact ihq h9q y9q oh9q fh9q kh9q sh9q
                      ·
                        have c13 : (hasRm v (nI q)) = true := c13
                        refine r_aload_n C (dx dX6_spare 46 rfl) rfl ?_
                        refine g_X6_16 C (dx dX6_spare 47 rfl) ?_
                        refine g_X6_173 C (dx dX6_spare 48 rfl) ?_
                        refine r_iload C (dx dX6_spare 49 rfl) rfl ?_
                        refine r_iload C (dx dX6_spare 50 rfl) rfl ?_
                        refine r_iast (j := p) C rfl rfl (by decide) rfl (by omega) (dx dX6_spare 51 rfl) ?_
                        have sh14 : SpI v (vset (vset v 1 p y9q) 1 p (nI q)) (sI h9q 12 p (nI q)) := sh9q.st (by omega)
                        have oh14 : Ow (sI h9q 12 p (nI q)) v (vset (vset v 1 p y9q) 1 p (nI q)) w g B z κ := oh9q.tri (oh9q.pu.s1) (Fr.sI (by omega) (by omega))
                        have fh14 : Fr 0 63 h (sI h9q 12 p (nI q)) := fh9q.tr (Fr.sI (by omega) (by omega))
                        have kh14 : xK (sI h9q 12 p (nI q)) = xK h := kh9q
                        generalize sI h9q 12 p (nI q) = h14 at oh14 fh14 kh14 sh14 ⊢
                        refine r_aload_n C (dx dX6_spare 52 rfl) rfl ?_
                        refine g_X6_29 C (dx dX6_spare 53 rfl) ?_
                        refine r_aload_n C (dx dX6_spare 54 rfl) rfl ?_
                        refine g_X6_16 C (dx dX6_spare 55 rfl) ?_
                        refine r_cv (as := [vr 5 10]) (st := []) C X I_X4_worthAsWeighed l_X6_299 (c_X4_worthAsWeighed oh14.pu (by omega) sh14.w) (by decide) (Nat.le_of_ble_eq_true rfl) List.prefix_rfl (pfx_eq kh14) rfl rfl (Nat.le_of_ble_eq_true rfl) rfl (dx dX6_spare 56 rfl) ?_
                        intro rh15 h15 hph15 kkh15
                        obtain ⟨rfl, gh15⟩ := hph15
                        have oh15 : Ow h15 v (vset (vset v 1 p y9q) 1 p (nI q)) w g B z κ := oh14.tm (gh15.mono (by omega) (by omega))
                        have fh15 : Fr 0 63 h h15 := fh14.tr (gh15.mono (by omega) (by omega))
                        have kh15 : xK h15 = xK h := (kkh15).trans kh14
                        have sh15 : SpI v (vset (vset v 1 p y9q) 1 p (nI q)) h15 := sh14.fr gh15
                        refine r_lstore (ls' := [(0, vr 6 0), (1, vi ((spJ v (spP v p) p q).1)), (2, vl ((spJ v (spP v p) p q).2)), (4, vi (nI p)), (5, vi (nI q)), (6, vl (dayC (vset (vset v 1 p y9q) 1 p (nI q))))]) C (dx dX6_spare 57 rfl) (by decide) [1, 2, 3, 4, 5, 0] rfl ?_
                        refine r_lload C (dx dX6_spare 58 rfl) rfl ?_
                        refine r_lload_n C (dx dX6_spare 59 rfl) rfl ?_
                        refine r_lcmp C (dx dX6_spare 60 rfl) ?_
                        refine r_if_le (tgt := 140) C (dx dX6_spare 61 rfl) (by decide) (fun c16 => ?_) (fun c16 => ?_)
                        ·
                          have c16 : dayC (vset (vset v 1 p y9q) 1 p (nI q)) ≤ (spJ v (spP v p) p q).2 := (lg_cmp_le _ _).mp c16
                          refine rn_iinc (a := q) (k := 1) (ls' := [(0, vr 6 0), (1, vi ((spJ v (spP v p) p q).1)), (2, vl ((spJ v (spP v p) p q).2)), (4, vi (nI p)), (5, vi (nI (q + 1))), (6, vl (dayC (vset (vset v 1 p y9q) 1 p (nI q))))]) C (dx dX6_spare 70 rfl) rfl rfl (by decide) [1, 2, 3, 4, 0, 5] rfl ?_
                          refine r_goto (tgt := 57) C (dx dX6_spare 71 rfl) (by decide) ?_
                          have e9q1 : ((spJ v (spP v p) p q).1) = ((spJ v (spP v p) p (q + 1)).1) := by (simp only [spJ]; rw [if_neg (fun z => z.2.2 (by first | exact c16 | (rw [← vset_two v 1 p y9q]; exact c16)))])
                          have e9q2 : ((spJ v (spP v p) p q).2) = ((spJ v (spP v p) p (q + 1)).2) := by (simp only [spJ]; rw [if_neg (fun z => z.2.2 (by first | exact c16 | (rw [← vset_two v 1 p y9q]; exact c16)))])
                          refine r_weak C [0, 1, 2, 3, 4] rfl ?_
                          rw [e9q2, e9q1]
                          have uh15 : (vset (vset v 1 p y9q) 1 p (nI q)) = vset v 1 p (nI q) := vset_two _ _ _ _ _
                          rw [uh15] at oh15 sh15
                          exact ihq h15 (nI q) oh15 fh15 kh15 sh15
                        ·
                          have c16 : ¬ (dayC (vset (vset v 1 p y9q) 1 p (nI q)) ≤ (spJ v (spP v p) p q).2) := fun q => c16 ((lg_cmp_le _ _).mpr q)
                          refine r_lload C (dx dX6_spare 62 rfl) rfl ?_
                          refine r_lstore_n (ls' := [(0, vr 6 0), (1, vi ((spJ v (spP v p) p q).1)), (2, vl (dayC (vset (vset v 1 p y9q) 1 p (nI q)))), (4, vi (nI p)), (5, vi (nI q)), (6, vl (dayC (vset (vset v 1 p y9q) 1 p (nI q))))]) C (dx dX6_spare 63 rfl) (by decide) [1, 2, 0, 3, 4, 5] rfl ?_
                          refine r_bipush (v := nI 10) C (dx dX6_spare 64 rfl) rfl ?_
                          refine r_iload C (dx dX6_spare 65 rfl) rfl ?_
                          refine rn_imul (a := 10) (b := p) C (dx dX6_spare 66 rfl) ?_
                          refine r_iload C (dx dX6_spare 67 rfl) rfl ?_
                          refine rn_iadd (a := 10 * p) (b := q) C (dx dX6_spare 68 rfl) ?_
                          refine r_istore_n (ls' := [(0, vr 6 0), (1, vi (nI (10 * p + q))), (2, vl (dayC (vset (vset v 1 p y9q) 1 p (nI q)))), (4, vi (nI p)), (5, vi (nI q)), (6, vl (dayC (vset (vset v 1 p y9q) 1 p (nI q))))]) C (dx dX6_spare 69 rfl) (by decide) [1, 0, 2, 3, 4, 5] rfl ?_
                          refine rn_iinc (a := q) (k := 1) (ls' := [(0, vr 6 0), (1, vi (nI (10 * p + q))), (2, vl (dayC (vset (vset v 1 p y9q) 1 p (nI q)))), (4, vi (nI p)), (5, vi (nI (q + 1))), (6, vl (dayC (vset (vset v 1 p y9q) 1 p (nI q))))]) C (dx dX6_spare 70 rfl) rfl rfl (by decide) [1, 2, 3, 4, 0, 5] rfl ?_
                          refine r_goto (tgt := 57) C (dx dX6_spare 71 rfl) (by decide) ?_
                          have e9q1 : (nI (10 * p + q)) = ((spJ v (spP v p) p (q + 1)).1) := by (simp only [spJ]; rw [if_pos ⟨c12, c13, by first | exact c16 | (rw [← vset_two v 1 p y9q]; exact c16)⟩]; first | done | rfl | (rw [vset_two]; done) | (simp [vset_two]; done) | (rw [← pk_mul, ← nI_add]))
                          have e9q2 : (dayC (vset (vset v 1 p y9q) 1 p (nI q))) = ((spJ v (spP v p) p (q + 1)).2) := by (simp only [spJ]; rw [if_pos ⟨c12, c13, by first | exact c16 | (rw [← vset_two v 1 p y9q]; exact c16)⟩]; first | done | rfl | (rw [vset_two]; done) | (simp [vset_two]; done) | (rw [← pk_mul, ← nI_add]))
                          refine r_weak C [0, 1, 2, 3, 4] rfl ?_
                          rw [e9q2, e9q1]
                          have uh15 : (vset (vset v 1 p y9q) 1 p (nI q)) = vset v 1 p (nI q) := vset_two _ _ _ _ _
                          rw [uh15] at oh15 sh15
                          exact ihq h15 (nI q) oh15 fh15 kh15 sh15))

