/-! PART 57o: the reference's search, exactly -/
def AcA (h : Hp) (k : Nat) (v : Vg) (a : Int64 × (Nat → Int32)) : Prop := xL h k 31 = a.1 ∧ ∀ i, i < vP v → xI h (k + 31) i = a.2 i
theorem AcA.to {h h1 : Hp} {k : Nat} {v : Vg} {a : Int64 × (Nat → Int32)} (A : AcA h k v a) (e1 : xL h1 k = xL h k) (e2 : xI h1 (k + 31) = xI h (k + 31)) : AcA h1 k v a :=
  ⟨by rw [e1]; exact A.1, fun i hi => by rw [e2]; exact A.2 i hi⟩
set_option maxHeartbeats 4000000 in
theorem w_try0 {l : Launch} {h : Hp} {P : List Nat} {k z b j : Nat} {v : Vg} {g : Sg} {κ : Bool} {ω : Vg} {Bt : Nat → Int32} {f : Nat → Int32} {a : Int64 × (Nat → Int32)} (M : Md h P k v g z κ true) (x0 : XT h k κ ω Bt) (B : MilAt h b (hldV v f)) (hb : b = k + 32 ∨ b = k + 64) (hl : b + 32 ≤ (xK h).length) (eb : xN h k 22 = b + 1) (A0 : AcA h k v a) (fn : ∀ i, j ≤ i → i < vP v → f i = -1) (h4 : vN v ≤ 4) (h6 : vP v ≤ 6) (e : vP v = j) : Ms l yX7_tryFrom cX7_tryFrom 6 none (8 + 0) [vr 7 k, vr 7 b, vi (nI j)] h (xK h) (fun r h' => r = none ∧ Md h' P k v g z κ true ∧ MilAt h' b (hldV v f) ∧ AcA h' k v (trS v 0 j f a) ∧ xN h' k 22 = b + 1 ∧ Lo k h h' ∧ XT h' k κ ω Bt) := by
  refine Ms.of (by decide) (Nat.le_of_ble_eq_true rfl) (fun G C X F => ?_)
  have C : Cx G cX7_tryFrom 6 RX7 := C
  show Rr G 0 [(0, vr 7 k), (1, vr 7 b), (2, vi (nI j))] [] h
  have hm := M.1
  have hk7 := M.hk
  have bP := hm.bP
  have bM := hm.bM
  have bN := hm.bN
  refine r_iload_n C (dx dX7_tryFrom 0 rfl) rfl ?_
  refine r_aload_n C (dx dX7_tryFrom 1 rfl) rfl ?_
  refine g_X7_64 (x := nI (vP v)) C (dx dX7_tryFrom 2 rfl) hm.eP ?_
  refine rn_ne (a := j) (b := vP v) (tgt := 60) C (by omega) (by omega) (dx dX7_tryFrom 3 rfl) (by decide) (fun c1 => ?_) (fun c1 => ?_)
  · first
    | (omega; done)
  · first
    | (omega; done)
    | (
        have c1 : j = vP v := c1
        refine r_aload_n C (dx dX7_tryFrom 4 rfl) rfl ?_
        refine r_cvP (as := []) (st := []) (v := vl (dyR (hldV v f))) C X I_X7_day l_X7_295 (e_day B) (by omega) (Nat.le_of_ble_eq_true rfl) (pfx_eq rfl) rfl rfl (Nat.le_of_ble_eq_true rfl) rfl (dx dX7_tryFrom 5 rfl) ?_
        refine r_lstore_n (ls' := [(0, vr 7 k), (1, vr 7 b), (2, vi (nI j)), (3, vl (dyR (hldV v f)))]) C (dx dX7_tryFrom 6 rfl) (by decide) [1, 2, 3, 0] rfl ?_
        refine r_lload_n C (dx dX7_tryFrom 7 rfl) rfl ?_
        refine r_aload_n C (dx dX7_tryFrom 8 rfl) rfl ?_
        refine g_X7_302 C (dx dX7_tryFrom 9 rfl) A0.1 ?_
        refine r_lcmp C (dx dX7_tryFrom 10 rfl) ?_
        refine r_if_le (tgt := 59) C (dx dX7_tryFrom 11 rfl) (by decide) (fun c2 => ?_) (fun c2 => ?_)
        ·
          have c2 : dyR (hldV v f) ≤ a.1 := (lg_cmp_le _ _).mp c2
          exact F.2.2.1 _ _ _ rfl (dx dX7_tryFrom 31 rfl) rfl ⟨rfl, M, B, (by simp only [trS]; rw [if_pos c2]; exact A0), eb, Lo.rf, x0⟩
        ·
          have c2 : ¬ (dyR (hldV v f) ≤ a.1) := fun q => c2 ((lg_cmp_le _ _).mpr q)
          refine r_aload_n C (dx dX7_tryFrom 12 rfl) rfl ?_
          refine r_lload_n C (dx dX7_tryFrom 13 rfl) rfl ?_
          refine p_X7_302 C (dx dX7_tryFrom 14 rfl) ?_
          have qh3 : Kp k h (sL h k 31 (dyR (hldV v f))) := Kp.fL
          have Mh3 : Md (sL h k 31 (dyR (hldV v f))) P k v g z κ true := M.kp (hm.fL) qh3 rfl
          have xh3 : XT (sL h k 31 (dyR (hldV v f))) k κ ω Bt := x0.kp M qh3
          have Bh3 := B.fr (Fr.vc qh3) (by omega)
          have loh3 : Lo k h (sL h k 31 (dyR (hldV v f))) := (Lo.rf (a := k) (h := h)).tr (Lo.fr (Fr.vc qh3) (Nat.le_refl _))
          have ebh3 : xN (sL h k 31 (dyR (hldV v f))) k 22 = b + 1 := by rw [qh3.2.1]; exact eb
          have hlh3 : b + 32 ≤ (xK (sL h k 31 (dyR (hldV v f)))).length := hl
          have kh3 : xK (sL h k 31 (dyR (hldV v f))) = xK h := rfl
          have dh3 : xL (sL h k 31 (dyR (hldV v f))) k 31 = dyR (hldV v f) := by rw [sL_at, if_pos rfl]
          generalize sL h k 31 (dyR (hldV v f)) = h3 at Bh3 qh3 Mh3 loh3 ebh3 hlh3 kh3 xh3 dh3 ⊢
          refine r_iconst (v := nI 0) C (dx dX7_tryFrom 15 rfl) rfl ?_
          refine r_istore (ls' := [(0, vr 7 k), (1, vr 7 b), (2, vi (nI j)), (3, vl (dyR (hldV v f))), (5, vi (nI 0))]) C (dx dX7_tryFrom 16 rfl) (by decide) [1, 2, 3, 4, 0] rfl ?_
          refine loopU (Φ := fun p => ∀ h9, Md h9 P k v g z κ true → MilAt h9 b (hldV v f) → xL h9 k 31 = dyR (hldV v f) → (∀ i, i < p → xI h9 (k + 31) i = f i) → xN h9 k 22 = b + 1 → Lo k h h9 → XT h9 k κ ω Bt → xK h9 = xK h → Rr G 30 [(0, vr 7 k), (1, vr 7 b), (2, vi (nI j)), (3, vl (dyR (hldV v f))), (5, vi (nI p))] [] h9) (N := vP v) ?_ ?_ 0 (Nat.zero_le _) _ Mh3 Bh3 dh3 (fun i hi => absurd hi (by omega)) ebh3 loh3 xh3 kh3
          ·
            intro h9 M9 B9 d9 c9 eb9 lo9 x9 k9
            have hl9 : b + 32 ≤ (xK h9).length := by rw [k9]; exact hl
            refine r_iload C (dx dX7_tryFrom 17 rfl) rfl ?_
            refine r_aload_n C (dx dX7_tryFrom 18 rfl) rfl ?_
            refine g_X7_64 (x := nI (vP v)) C (dx dX7_tryFrom 19 rfl) M9.1.eP ?_
            refine rn_ge (a := (vP v)) (b := vP v) (tgt := 59) C (by omega) (by omega) (dx dX7_tryFrom 20 rfl) (by decide) (fun c4 => ?_) (fun c4 => ?_)
            · first
              | (omega; done)
              | (
                  have c4 : vP v ≤ (vP v) := c4
                  exact F.2.2.1 _ _ _ rfl (dx dX7_tryFrom 31 rfl) k9 ⟨rfl, M9, B9, (by simp only [trS]; rw [if_neg c2]; exact ⟨d9, c9⟩), eb9, lo9, x9⟩)
            · first
              | (omega; done)
          ·
            intro p hp ih h9 M9 B9 d9 c9 eb9 lo9 x9 k9
            have hl9 : b + 32 ≤ (xK h9).length := by rw [k9]; exact hl
            refine r_iload C (dx dX7_tryFrom 17 rfl) rfl ?_
            refine r_aload_n C (dx dX7_tryFrom 18 rfl) rfl ?_
            refine g_X7_64 (x := nI (vP v)) C (dx dX7_tryFrom 19 rfl) M9.1.eP ?_
            refine rn_ge (a := p) (b := vP v) (tgt := 59) C (by omega) (by omega) (dx dX7_tryFrom 20 rfl) (by decide) (fun c6 => ?_) (fun c6 => ?_)
            · first
              | (omega; done)
              | (
                  have c6 : vP v ≤ p := c6
                  exact F.2.2.1 _ _ _ rfl (dx dX7_tryFrom 31 rfl) k9 ⟨rfl, M9, B9, None, eb9, lo9, x9⟩)
            · first
              | (omega; done)
              | (
                  have c6 : p < vP v := c6
                  refine r_aload_n C (dx dX7_tryFrom 21 rfl) rfl ?_
                  refine g_X7_61 C (dx dX7_tryFrom 22 rfl) ?_
                  refine r_iload C (dx dX7_tryFrom 23 rfl) rfl ?_
                  refine r_aload_n C (dx dX7_tryFrom 24 rfl) rfl ?_
                  refine g_X7_40 C (dx dX7_tryFrom 25 rfl) ?_
                  refine r_iload C (dx dX7_tryFrom 26 rfl) rfl ?_
                  refine r_iald (j := p) (x := f p) C rfl rfl (by decide) rfl (by omega) (dx dX7_tryFrom 27 rfl) (B9.e0 (by omega)) ?_
                  refine r_iast (j := p) C rfl rfl (by decide) rfl (by omega) (dx dX7_tryFrom 28 rfl) ?_
                  have qh7 : Kp k h9 (sI h9 (k + 31) p (f p)) := Kp.c (by omega) (by omega)
                  have Mh7 : Md (sI h9 (k + 31) p (f p)) P k v g z κ true := M9.kp (M9.1.fr (Fr.sI (lo := k + 31) (hi := k + 32) (by omega) (by omega)) (by omega)) qh7 rfl
                  have xh7 : XT (sI h9 (k + 31) p (f p)) k κ ω Bt := x9.kp M9 qh7
                  have Bh7 := B9.fr (Fr.vc qh7) (by omega)
                  have loh7 : Lo k h (sI h9 (k + 31) p (f p)) := lo9.tr (Lo.fr (Fr.vc qh7) (Nat.le_refl _))
                  have ebh7 : xN (sI h9 (k + 31) p (f p)) k 22 = b + 1 := by rw [qh7.2.1]; exact eb9
                  have hlh7 : b + 32 ≤ (xK (sI h9 (k + 31) p (f p))).length := hl9
                  have kh7 : xK (sI h9 (k + 31) p (f p)) = xK h := k9
                  have dh7 : xL (sI h9 (k + 31) p (f p)) k 31 = dyR (hldV v f) := d9
                  have ch7 : ∀ i, i < p + 1 → xI (sI h9 (k + 31) p (f p)) (k + 31) i = f i := fun i hi => by rw [sI_at]; by_cases e : i = p; (rw [if_pos e, e]); (rw [if_neg e]; exact c9 i (by omega))
                  generalize sI h9 (k + 31) p (f p) = h7 at Bh7 qh7 Mh7 loh7 ebh7 hlh7 kh7 xh7 dh7 ch7 ⊢
                  refine rn_iinc (a := p) (k := 1) (ls' := [(0, vr 7 k), (1, vr 7 b), (2, vi (nI j)), (3, vl (dyR (hldV v f))), (5, vi (nI (p + 1)))]) C (dx dX7_tryFrom 29 rfl) rfl rfl (by decide) [1, 2, 3, 4, 0] rfl ?_
                  refine r_goto (tgt := 30) C (dx dX7_tryFrom 30 rfl) (by decide) ?_
                  exact ih _ Mh7 Bh7 dh7 ch7 ebh7 loh7 xh7 kh7))
set_option maxHeartbeats 4000000 in
theorem w_tryS {l : Launch} {h : Hp} {P : List Nat} {k z b j : Nat} {v : Vg} {g : Sg} {κ : Bool} {ω : Vg} {Bt : Nat → Int32} {f : Nat → Int32} {a : Int64 × (Nat → Int32)} (M : Md h P k v g z κ true) (x0 : XT h k κ ω Bt) (B : MilAt h b (hldV v f)) (hb : b = k + 32 ∨ b = k + 64) (hl : b + 32 ≤ (xK h).length) (eb : xN h k 22 = b + 1) (A0 : AcA h k v a) (fn : ∀ i, j ≤ i → i < vP v → f i = -1) (h4 : vN v ≤ 4) (h6 : vP v ≤ 6) {n : Nat} (ih : ∀ {h : Hp} {v : Vg} {f : Nat → Int32} {a : Int64 × (Nat → Int32)} (M : Md h P k v g z κ true) (x0 : XT h k κ ω Bt) (B : MilAt h b (hldV v f)) (hb : b = k + 32 ∨ b = k + 64) (hl : b + 32 ≤ (xK h).length) (eb : xN h k 22 = b + 1) (A0 : AcA h k v a) {j : Nat} (fn : ∀ i, j ≤ i → i < vP v → f i = -1) (h4 : vN v ≤ 4) (h6 : vP v ≤ 6) (e : vP v = j + n), Ms l yX7_tryFrom cX7_tryFrom 6 none (8 + n) [vr 7 k, vr 7 b, vi (nI j)] h (xK h) (fun r h' => r = none ∧ Md h' P k v g z κ true ∧ MilAt h' b (hldV v f) ∧ AcA h' k v (trS v n j f a) ∧ xN h' k 22 = b + 1 ∧ Lo k h h' ∧ XT h' k κ ω Bt)) (e : vP v = j + (n + 1)) : Ms l yX7_tryFrom cX7_tryFrom 6 none (8 + (n + 1)) [vr 7 k, vr 7 b, vi (nI j)] h (xK h) (fun r h' => r = none ∧ Md h' P k v g z κ true ∧ MilAt h' b (hldV v f) ∧ AcA h' k v (trS v (n + 1) j f a) ∧ xN h' k 22 = b + 1 ∧ Lo k h h' ∧ XT h' k κ ω Bt) := by
  refine Ms.of (by decide) (Nat.le_of_ble_eq_true rfl) (fun G C X F => ?_)
  have C : Cx G cX7_tryFrom 6 RX7 := C
  show Rr G 0 [(0, vr 7 k), (1, vr 7 b), (2, vi (nI j))] [] h
  have hm := M.1
  have hk7 := M.hk
  have bP := hm.bP
  have bM := hm.bM
  have bN := hm.bN
  refine r_iload_n C (dx dX7_tryFrom 0 rfl) rfl ?_
  refine r_aload_n C (dx dX7_tryFrom 1 rfl) rfl ?_
  refine g_X7_64 (x := nI (vP v)) C (dx dX7_tryFrom 2 rfl) hm.eP ?_
  refine rn_ne (a := j) (b := vP v) (tgt := 60) C (by omega) (by omega) (dx dX7_tryFrom 3 rfl) (by decide) (fun c1 => ?_) (fun c1 => ?_)
  · first
    | (omega; done)
    | (
        have c1 : ¬ j = vP v := c1
        refine r_iconst (v := -1) C (dx dX7_tryFrom 32 rfl) rfl ?_
        refine r_istore_n (ls' := [(0, vr 7 k), (1, vr 7 b), (2, vi (nI j)), (3, vi (-1))]) C (dx dX7_tryFrom 33 rfl) (by decide) [1, 2, 3, 0] rfl ?_
        refine r_iload_n C (dx dX7_tryFrom 34 rfl) rfl ?_
        refine r_aload_n C (dx dX7_tryFrom 35 rfl) rfl ?_
        refine g_X7_74 (x := nI (vN v)) C (dx dX7_tryFrom 36 rfl) hm.eN ?_
        refine r_icmp_ge (tgt := 111) C (dx dX7_tryFrom 37 rfl) (by decide) (fun c2 => ?_) (fun c2 => ?_)
        ·
          have c2 : nI (vN v) ≤ -1 := c2
          exact absurd c2 (ge_nm1 (by omega))
        ·
          have c2 : ¬ nI (vN v) ≤ -1 := c2
          refine r_aload_n C (dx dX7_tryFrom 38 rfl) rfl ?_
          refine g_X7_40 C (dx dX7_tryFrom 39 rfl) ?_
          refine r_iload_n C (dx dX7_tryFrom 40 rfl) rfl ?_
          refine r_iconst (v := -1) C (dx dX7_tryFrom 41 rfl) rfl ?_
          refine r_iast (j := j) C rfl rfl (by decide) rfl (by omega) (dx dX7_tryFrom 42 rfl) ?_
          have Bh3 : MilAt (sI h (b + 18) j (-1)) b (hldV v (sf f j (-1))) := by rw [← hld_st]; exact B.s0
          have qh3 : Kp b h (sI h (b + 18) j (-1)) := Kp.c (by omega) (by omega)
          have Ah3 : AcA (sI h (b + 18) j (-1)) k v a := A0.to rfl (funext fun i => sI_ne (by omega))
          have xh3 : XT (sI h (b + 18) j (-1)) k κ ω Bt := x0.tk M hb eb qh3
          have Mh3 := M.tk (b := b) hb hl Bh3 qh3 (show xK (sI h (b + 18) j (-1)) = xK h from rfl)
          have loh3 : Lo k h (sI h (b + 18) j (-1)) := (Lo.rf (a := k) (h := h)).tr (Lo.fr (Fr.vc qh3) (by omega))
          have ebh3 : xN (sI h (b + 18) j (-1)) k 22 = b + 1 := by rw [((Fr.vc qh3) k (by omega)).2.2]; exact eb
          have hlh3 : b + 32 ≤ (xK (sI h (b + 18) j (-1))).length := hl
          have kh3 : xK (sI h (b + 18) j (-1)) = xK h := rfl
          generalize sI h (b + 18) j (-1) = h3 at Bh3 qh3 Ah3 xh3 Mh3 loh3 ebh3 hlh3 kh3 ⊢
          refine r_iload_n C (dx dX7_tryFrom 43 rfl) rfl ?_
          refine r_iconst (v := -1) C (dx dX7_tryFrom 44 rfl) rfl ?_
          refine r_icmp_eq (tgt := 90) C (dx dX7_tryFrom 45 rfl) (by decide) (fun c4 => ?_) (fun c4 => ?_)
          ·
            have c4 : (-1 : Int32) = -1 := c4
            refine r_aload_n C (dx dX7_tryFrom 50 rfl) rfl ?_
            refine g_X7_40 C (dx dX7_tryFrom 51 rfl) ?_
            refine r_iload_n C (dx dX7_tryFrom 52 rfl) rfl ?_
            refine r_iload_n C (dx dX7_tryFrom 53 rfl) rfl ?_
            refine r_iast (j := j) C rfl rfl (by decide) rfl (by omega) (dx dX7_tryFrom 54 rfl) ?_
            have Bh5 : MilAt (sI h3 (b + 18) j (-1)) b (hldV v (sf (sf f j (-1)) j (-1))) := by rw [← hld_st]; exact Bh3.s0
            rw [sf_two] at Bh5
            have qh5 : Kp b h3 (sI h3 (b + 18) j (-1)) := Kp.c (by omega) (by omega)
            have Ah5 : AcA (sI h3 (b + 18) j (-1)) k v a := Ah3.to rfl (funext fun i => sI_ne (by omega))
            have xh5 : XT (sI h3 (b + 18) j (-1)) k κ ω Bt := xh3.tk Mh3 hb ebh3 qh5
            have Mh5 := Mh3.tk (b := b) hb hlh3 Bh5 qh5 (show xK (sI h3 (b + 18) j (-1)) = xK h3 from rfl)
            have loh5 : Lo k h (sI h3 (b + 18) j (-1)) := loh3.tr (Lo.fr (Fr.vc qh5) (by omega))
            have ebh5 : xN (sI h3 (b + 18) j (-1)) k 22 = b + 1 := by rw [((Fr.vc qh5) k (by omega)).2.2]; exact ebh3
            have hlh5 : b + 32 ≤ (xK (sI h3 (b + 18) j (-1))).length := hlh3
            have kh5 : xK (sI h3 (b + 18) j (-1)) = xK h := kh3
            generalize sI h3 (b + 18) j (-1) = h5 at Bh5 qh5 Ah5 xh5 Mh5 loh5 ebh5 hlh5 kh5 ⊢
            refine r_aload_n C (dx dX7_tryFrom 55 rfl) rfl ?_
            refine r_aload_n C (dx dX7_tryFrom 56 rfl) rfl ?_
            refine r_iload_n C (dx dX7_tryFrom 57 rfl) rfl ?_
            refine r_iconst (v := nI 1) C (dx dX7_tryFrom 58 rfl) rfl ?_
            refine rn_iadd (a := j) (b := 1) C (dx dX7_tryFrom 59 rfl) ?_
            refine r_cv (as := [vr 7 b, vi (nI (j + 1))]) (st := []) C X I_X7_tryFrom l_X7_305 (ih Mh5 xh5 Bh5 hb hlh5 ebh5 Ah5 (fun i h1 h2 => by rw [sf_n (by omega)]; exact fn i (by omega) h2) (by omega) (by omega) (by omega)) (by omega) (Nat.le_of_ble_eq_true rfl) List.prefix_rfl (pfx_eq kh5) rfl rfl (Nat.le_of_ble_eq_true rfl) rfl (dx dX7_tryFrom 60 rfl) ?_
            rintro _ h6 ⟨rfl, Mh6, Bh6, Ah6, ebh6, loh69, xh6⟩ kkh6
            have loh6 : Lo k h h6 := Lo.tr loh5 loh69
            have kh6 : xK h6 = xK h := kkh6.trans kh5
            have hlh6 : b + 32 ≤ (xK h6).length := by rw [kh6]; exact hl
            refine r_iinc (ls' := [(0, vr 7 k), (1, vr 7 b), (2, vi (nI j)), (3, vi (-1 + (1)))]) C (dx dX7_tryFrom 61 rfl) rfl rfl (by decide) [1, 2, 3, 0] rfl ?_
            refine r_goto (tgt := 62) C (dx dX7_tryFrom 62 rfl) (by decide) ?_
            rw [show (-1 : Int32) + 1 = nI 0 by decide]
            refine loopU (Φ := fun p => ∀ h9 (y9 : Int32), Md h9 P k v g z κ true → MilAt h9 b (hldV v (sf f j y9)) → AcA h9 k v (trL v (fun f' a' => trS v n (j + 1) f' a') j f a p) → xN h9 k 22 = b + 1 → Lo k h h9 → XT h9 k κ ω Bt → xK h9 = xK h → Rr G 62 [(0, vr 7 k), (1, vr 7 b), (2, vi (nI j)), (3, vi (nI p))] [] h9) (N := vN v) ?_ ?_ 0 (Nat.zero_le _) _ _ Mh6 Bh6 Ah6 ebh6 loh6 xh6 kh6
            ·
              intro h9 y9 M9 B9 A9 eb9 lo9 x9 k9
              have hl9 : b + 32 ≤ (xK h9).length := by rw [k9]; exact hl
              refine r_iload_n C (dx dX7_tryFrom 34 rfl) rfl ?_
              refine r_aload_n C (dx dX7_tryFrom 35 rfl) rfl ?_
              refine g_X7_74 (x := nI (vN v)) C (dx dX7_tryFrom 36 rfl) M9.1.eN ?_
              refine rn_ge (a := (vN v)) (b := vN v) (tgt := 111) C (by omega) (by omega) (dx dX7_tryFrom 37 rfl) (by decide) (fun c7 => ?_) (fun c7 => ?_)
              · first
                | (omega; done)
                | (
                    have c7 : vN v ≤ (vN v) := c7
                    refine r_aload_n C (dx dX7_tryFrom 63 rfl) rfl ?_
                    refine g_X7_40 C (dx dX7_tryFrom 64 rfl) ?_
                    refine r_iload_n C (dx dX7_tryFrom 65 rfl) rfl ?_
                    refine r_iconst (v := -1) C (dx dX7_tryFrom 66 rfl) rfl ?_
                    refine r_iast (j := j) C rfl rfl (by decide) rfl (by omega) (dx dX7_tryFrom 67 rfl) ?_
                    have Bh8 : MilAt (sI h9 (b + 18) j (-1)) b (hldV v (sf (sf f j y9) j (-1))) := by rw [← hld_st]; exact B9.s0
                    rw [sf_two] at Bh8
                    have qh8 : Kp b h9 (sI h9 (b + 18) j (-1)) := Kp.c (by omega) (by omega)
                    have Ah8 : AcA (sI h9 (b + 18) j (-1)) k v (trL v (fun f' a' => trS v n (j + 1) f' a') j f a (vN v)) := A9.to rfl (funext fun i => sI_ne (by omega))
                    have xh8 : XT (sI h9 (b + 18) j (-1)) k κ ω Bt := x9.tk M9 hb eb9 qh8
                    have Mh8 := M9.tk (b := b) hb hl9 Bh8 qh8 (show xK (sI h9 (b + 18) j (-1)) = xK h9 from rfl)
                    have loh8 : Lo k h (sI h9 (b + 18) j (-1)) := lo9.tr (Lo.fr (Fr.vc qh8) (by omega))
                    have ebh8 : xN (sI h9 (b + 18) j (-1)) k 22 = b + 1 := by rw [((Fr.vc qh8) k (by omega)).2.2]; exact eb9
                    have hlh8 : b + 32 ≤ (xK (sI h9 (b + 18) j (-1))).length := hl9
                    have kh8 : xK (sI h9 (b + 18) j (-1)) = xK h := k9
                    generalize sI h9 (b + 18) j (-1) = h8 at Bh8 qh8 Ah8 xh8 Mh8 loh8 ebh8 hlh8 kh8 ⊢
                    rw [sf_i9 (fn j (Nat.le_refl _) (by omega))] at Bh8
                    exact F.2.2.1 _ _ _ rfl (dx dX7_tryFrom 68 rfl) kh8 ⟨rfl, Mh8, Bh8, Ah8, ebh8, loh8, xh8⟩)
              · first
                | (omega; done)
            ·
              intro p hp ihp h9 y9 M9 B9 A9 eb9 lo9 x9 k9
              have hl9 : b + 32 ≤ (xK h9).length := by rw [k9]; exact hl
              refine r_iload_n C (dx dX7_tryFrom 34 rfl) rfl ?_
              refine r_aload_n C (dx dX7_tryFrom 35 rfl) rfl ?_
              refine g_X7_74 (x := nI (vN v)) C (dx dX7_tryFrom 36 rfl) M9.1.eN ?_
              refine rn_ge (a := p) (b := vN v) (tgt := 111) C (by omega) (by omega) (dx dX7_tryFrom 37 rfl) (by decide) (fun c13 => ?_) (fun c13 => ?_)
              · first
                | (omega; done)
                | (
                    have c13 : vN v ≤ p := c13
                    refine r_aload_n C (dx dX7_tryFrom 63 rfl) rfl ?_
                    refine g_X7_40 C (dx dX7_tryFrom 64 rfl) ?_
                    refine r_iload_n C (dx dX7_tryFrom 65 rfl) rfl ?_
                    refine r_iconst (v := -1) C (dx dX7_tryFrom 66 rfl) rfl ?_
                    refine r_iast (j := j) C rfl rfl (by decide) rfl (by omega) (dx dX7_tryFrom 67 rfl) ?_
                    have Bh14 : MilAt (sI h9 (b + 18) j (-1)) b (hldV v (sf (sf f j y9) j (-1))) := by rw [← hld_st]; exact B9.s0
                    rw [sf_two] at Bh14
                    have qh14 : Kp b h9 (sI h9 (b + 18) j (-1)) := Kp.c (by omega) (by omega)
                    have Ah14 : AcA (sI h9 (b + 18) j (-1)) k v (trL v (fun f' a' => trS v n (j + 1) f' a') j f a p) := A9.to rfl (funext fun i => sI_ne (by omega))
                    have xh14 : XT (sI h9 (b + 18) j (-1)) k κ ω Bt := x9.tk M9 hb eb9 qh14
                    have Mh14 := M9.tk (b := b) hb hl9 Bh14 qh14 (show xK (sI h9 (b + 18) j (-1)) = xK h9 from rfl)
                    have loh14 : Lo k h (sI h9 (b + 18) j (-1)) := lo9.tr (Lo.fr (Fr.vc qh14) (by omega))
                    have ebh14 : xN (sI h9 (b + 18) j (-1)) k 22 = b + 1 := by rw [((Fr.vc qh14) k (by omega)).2.2]; exact eb9
                    have hlh14 : b + 32 ≤ (xK (sI h9 (b + 18) j (-1))).length := hl9
                    have kh14 : xK (sI h9 (b + 18) j (-1)) = xK h := k9
                    generalize sI h9 (b + 18) j (-1) = h14 at Bh14 qh14 Ah14 xh14 Mh14 loh14 ebh14 hlh14 kh14 ⊢
                    rw [sf_i9 (fn j (Nat.le_refl _) (by omega))] at Bh14
                    exact F.2.2.1 _ _ _ rfl (dx dX7_tryFrom 68 rfl) kh14 ⟨rfl, Mh14, Bh14, Ah14, ebh14, loh14, xh14⟩)
              · first
                | (omega; done)
                | (
                    have c13 : p < vN v := c13
                    refine r_aload_n C (dx dX7_tryFrom 38 rfl) rfl ?_
                    refine g_X7_40 C (dx dX7_tryFrom 39 rfl) ?_
                    refine r_iload_n C (dx dX7_tryFrom 40 rfl) rfl ?_
                    refine r_iconst (v := -1) C (dx dX7_tryFrom 41 rfl) rfl ?_
                    refine r_iast (j := j) C rfl rfl (by decide) rfl (by omega) (dx dX7_tryFrom 42 rfl) ?_
                    have Bh15 : MilAt (sI h9 (b + 18) j (-1)) b (hldV v (sf (sf f j y9) j (-1))) := by rw [← hld_st]; exact B9.s0
                    rw [sf_two] at Bh15
                    have qh15 : Kp b h9 (sI h9 (b + 18) j (-1)) := Kp.c (by omega) (by omega)
                    have Ah15 : AcA (sI h9 (b + 18) j (-1)) k v (trL v (fun f' a' => trS v n (j + 1) f' a') j f a p) := A9.to rfl (funext fun i => sI_ne (by omega))
                    have xh15 : XT (sI h9 (b + 18) j (-1)) k κ ω Bt := x9.tk M9 hb eb9 qh15
                    have Mh15 := M9.tk (b := b) hb hl9 Bh15 qh15 (show xK (sI h9 (b + 18) j (-1)) = xK h9 from rfl)
                    have loh15 : Lo k h (sI h9 (b + 18) j (-1)) := lo9.tr (Lo.fr (Fr.vc qh15) (by omega))
                    have ebh15 : xN (sI h9 (b + 18) j (-1)) k 22 = b + 1 := by rw [((Fr.vc qh15) k (by omega)).2.2]; exact eb9
                    have hlh15 : b + 32 ≤ (xK (sI h9 (b + 18) j (-1))).length := hl9
                    have kh15 : xK (sI h9 (b + 18) j (-1)) = xK h := k9
                    generalize sI h9 (b + 18) j (-1) = h15 at Bh15 qh15 Ah15 xh15 Mh15 loh15 ebh15 hlh15 kh15 ⊢
                    refine r_iload_n C (dx dX7_tryFrom 43 rfl) rfl ?_
                    refine r_iconst (v := -1) C (dx dX7_tryFrom 44 rfl) rfl ?_
                    refine r_icmp_eq (tgt := 90) C (dx dX7_tryFrom 45 rfl) (by decide) (fun c16 => ?_) (fun c16 => ?_)
                    ·
                      have c16 : nI p = -1 := c16
                      exact absurd c16 (nI_nm1 (by omega))
                    ·
                      have c16 : ¬ nI p = -1 := c16
                      refine r_aload_n C (dx dX7_tryFrom 46 rfl) rfl ?_
                      refine r_iload_n C (dx dX7_tryFrom 47 rfl) rfl ?_
                      refine r_cvP (as := [vi (nI p)]) (st := []) (v := vi (b2i (hasRm (hldV v (sf f j (-1))) (nI p)))) C X I_X7_hasRoom l_X7_135 (e_hasRoom Bh15 (j := p) (show p < vN v by omega)) (by omega) (Nat.le_of_ble_eq_true rfl) (pfx_eq kh15) rfl rfl (Nat.le_of_ble_eq_true rfl) rfl (dx dX7_tryFrom 48 rfl) ?_
                      refine rb_eq (b := hasRm (hldV v (sf f j (-1))) (nI p)) (tgt := 105) C (dx dX7_tryFrom 49 rfl) (by decide) (fun c17 => ?_) (fun c17 => ?_)
                      ·
                        have c17 : (hasRm (hldV v (sf f j (-1))) (nI p)) = false := c17
                        refine rn_iinc (a := p) (k := 1) (ls' := [(0, vr 7 k), (1, vr 7 b), (2, vi (nI j)), (3, vi (nI (p + 1)))]) C (dx dX7_tryFrom 61 rfl) rfl rfl (by decide) [1, 2, 3, 0] rfl ?_
                        refine r_goto (tgt := 62) C (dx dX7_tryFrom 62 rfl) (by decide) ?_
                        have e9 : trL v (fun f' a' => trS v n (j + 1) f' a') j f a (p + 1) = (trL v (fun f' a' => trS v n (j + 1) f' a') j f a p) := by (simp only [trL]; rw [if_neg (by rw [c17]; decide)])
                        exact ihp _ (-1) Mh15 Bh15 (by rw [e9]; exact Ah15) ebh15 loh15 xh15 kh15
                      ·
                        have c17 : (hasRm (hldV v (sf f j (-1))) (nI p)) = true := c17
                        refine r_aload_n C (dx dX7_tryFrom 50 rfl) rfl ?_
                        refine g_X7_40 C (dx dX7_tryFrom 51 rfl) ?_
                        refine r_iload_n C (dx dX7_tryFrom 52 rfl) rfl ?_
                        refine r_iload_n C (dx dX7_tryFrom 53 rfl) rfl ?_
                        refine r_iast (j := j) C rfl rfl (by decide) rfl (by omega) (dx dX7_tryFrom 54 rfl) ?_
                        have Bh18 : MilAt (sI h15 (b + 18) j (nI p)) b (hldV v (sf (sf f j (-1)) j (nI p))) := by rw [← hld_st]; exact Bh15.s0
                        rw [sf_two] at Bh18
                        have qh18 : Kp b h15 (sI h15 (b + 18) j (nI p)) := Kp.c (by omega) (by omega)
                        have Ah18 : AcA (sI h15 (b + 18) j (nI p)) k v (trL v (fun f' a' => trS v n (j + 1) f' a') j f a p) := Ah15.to rfl (funext fun i => sI_ne (by omega))
                        have xh18 : XT (sI h15 (b + 18) j (nI p)) k κ ω Bt := xh15.tk Mh15 hb ebh15 qh18
                        have Mh18 := Mh15.tk (b := b) hb hlh15 Bh18 qh18 (show xK (sI h15 (b + 18) j (nI p)) = xK h15 from rfl)
                        have loh18 : Lo k h (sI h15 (b + 18) j (nI p)) := loh15.tr (Lo.fr (Fr.vc qh18) (by omega))
                        have ebh18 : xN (sI h15 (b + 18) j (nI p)) k 22 = b + 1 := by rw [((Fr.vc qh18) k (by omega)).2.2]; exact ebh15
                        have hlh18 : b + 32 ≤ (xK (sI h15 (b + 18) j (nI p))).length := hlh15
                        have kh18 : xK (sI h15 (b + 18) j (nI p)) = xK h := kh15
                        generalize sI h15 (b + 18) j (nI p) = h18 at Bh18 qh18 Ah18 xh18 Mh18 loh18 ebh18 hlh18 kh18 ⊢
                        refine r_aload_n C (dx dX7_tryFrom 55 rfl) rfl ?_
                        refine r_aload_n C (dx dX7_tryFrom 56 rfl) rfl ?_
                        refine r_iload_n C (dx dX7_tryFrom 57 rfl) rfl ?_
                        refine r_iconst (v := nI 1) C (dx dX7_tryFrom 58 rfl) rfl ?_
                        refine rn_iadd (a := j) (b := 1) C (dx dX7_tryFrom 59 rfl) ?_
                        refine r_cv (as := [vr 7 b, vi (nI (j + 1))]) (st := []) C X I_X7_tryFrom l_X7_305 (ih Mh18 xh18 Bh18 hb hlh18 ebh18 Ah18 (fun i h1 h2 => by rw [sf_n (by omega)]; exact fn i (by omega) h2) (by omega) (by omega) (by omega)) (by omega) (Nat.le_of_ble_eq_true rfl) List.prefix_rfl (pfx_eq kh18) rfl rfl (Nat.le_of_ble_eq_true rfl) rfl (dx dX7_tryFrom 60 rfl) ?_
                        rintro _ h19 ⟨rfl, Mh19, Bh19, Ah19, ebh19, loh199, xh19⟩ kkh19
                        have loh19 : Lo k h h19 := Lo.tr loh18 loh199
                        have kh19 : xK h19 = xK h := kkh19.trans kh18
                        have hlh19 : b + 32 ≤ (xK h19).length := by rw [kh19]; exact hl
                        refine rn_iinc (a := p) (k := 1) (ls' := [(0, vr 7 k), (1, vr 7 b), (2, vi (nI j)), (3, vi (nI (p + 1)))]) C (dx dX7_tryFrom 61 rfl) rfl rfl (by decide) [1, 2, 3, 0] rfl ?_
                        refine r_goto (tgt := 62) C (dx dX7_tryFrom 62 rfl) (by decide) ?_
                        have e9 : trL v (fun f' a' => trS v n (j + 1) f' a') j f a (p + 1) = (trS v n (j + 1) (sf f j (nI p)) (trL v (fun f' a' => trS v n (j + 1) f' a') j f a p)) := by (simp only [trL]; rw [if_pos c17])
                        exact ihp _ (nI p) Mh19 Bh19 (by rw [e9]; exact Ah19) ebh19 loh19 xh19 kh19)
          ·
            have c4 : ¬ (-1 : Int32) = -1 := c4
            exact absurd rfl c4)
  · first
    | (omega; done)
theorem w_tryN {l : Launch} {P : List Nat} {k z b : Nat} {g : Sg} {κ : Bool} {ω : Vg} {Bt : Nat → Int32} : ∀ (n : Nat) {h : Hp} {v : Vg} {f : Nat → Int32} {a : Int64 × (Nat → Int32)} (M : Md h P k v g z κ true) (x0 : XT h k κ ω Bt) (B : MilAt h b (hldV v f)) (hb : b = k + 32 ∨ b = k + 64) (hl : b + 32 ≤ (xK h).length) (eb : xN h k 22 = b + 1) (A0 : AcA h k v a) {j : Nat} (fn : ∀ i, j ≤ i → i < vP v → f i = -1) (h4 : vN v ≤ 4) (h6 : vP v ≤ 6) (e : vP v = j + n), Ms l yX7_tryFrom cX7_tryFrom 6 none (8 + n) [vr 7 k, vr 7 b, vi (nI j)] h (xK h) (fun r h' => r = none ∧ Md h' P k v g z κ true ∧ MilAt h' b (hldV v f) ∧ AcA h' k v (trS v n j f a) ∧ xN h' k 22 = b + 1 ∧ Lo k h h' ∧ XT h' k κ ω Bt)
  | 0, _, _, _, _, M, x0, B, hb, hl, eb, A0, _, fn, h4, h6, e => w_try0 M x0 B hb hl eb A0 fn h4 h6 e
  | n + 1, _, _, _, _, M, x0, B, hb, hl, eb, A0, _, fn, h4, h6, e => w_tryS M x0 B hb hl eb A0 fn h4 h6 (fun M x0 B hb hl eb A0 _ fn h4 h6 => w_tryN n M x0 B hb hl eb A0 fn h4 h6) e
theorem clr_s9 {v : Vg} {p : Nat} : vset (vset (clr v p) 0 p (-1)) 1 p (-1) = clr v (p + 1) := by
  obtain ⟨x1, x2, x3, f, x5⟩ := v
  simp only [clr, vset, vF, vP, vM, vN, vS, Prod.mk.injEq, true_and, and_true]
  funext c i
  by_cases h1 : c = 1
  · subst h1
    by_cases h2 : i = p
    · subst h2; rw [if_pos rfl, if_pos rfl, if_pos ⟨by decide, by omega⟩]
    · rw [if_pos rfl, if_neg h2, if_neg (by decide)]
      by_cases q : i < p
      · rw [if_pos ⟨by decide, q⟩, if_pos ⟨by decide, by omega⟩]
      · rw [if_neg (fun z => q z.2), if_neg (fun z => by omega)]
  · rw [if_neg h1]
    by_cases h0 : c = 0
    · subst h0
      by_cases h2 : i = p
      · subst h2; rw [if_pos rfl, if_pos rfl, if_pos ⟨by decide, by omega⟩]
      · rw [if_pos rfl, if_neg h2]
        by_cases q : i < p
        · rw [if_pos ⟨by decide, q⟩, if_pos ⟨by decide, by omega⟩]
        · rw [if_neg (fun z => q z.2), if_neg (fun z => by omega)]
    · rw [if_neg h0, if_neg (fun z => by omega), if_neg (fun z => by omega)]
set_option maxHeartbeats 4000000 in
theorem w_findBest {l : Launch} {h : Hp} {P : List Nat} {k z : Nat} {v : Vg} {g : Sg} {κ τ : Bool} {ω : Vg} {Bt : Nat → Int32} (M : Md h P k v g z κ τ) (x0 : XT h k κ ω Bt) (h4 : vN v ≤ 4) (h6 : vP v ≤ 6) : Ms l yX7_findBest cX7_findBest 3 (some .boolean) 16 [vr 7 k] h (AL P κ true) (fun r h' => r = some (vi (b2i true)) ∧ (∃ g9, AcA h' k v (trS v (vP v) 0 (noF v) (-1, g9))) ∧ Md h' P k v g z κ true ∧ Lo k h h' ∧ XT h' k κ ω Bt) := by
  refine Ms.of (by decide) (Nat.le_of_ble_eq_true rfl) (fun G C X F => ?_)
  have C : Cx G cX7_findBest 3 RX7 := C
  show Rr G 0 [(0, vr 7 k)] [] h
  have hm := M.1
  have hs := M.2.1
  have al := M.al
  have hk7 := M.hk
  have bP := hm.bP
  have bM := hm.bM
  have bN := hm.bN
  refine r_aload_n C (dx dX7_findBest 0 rfl) rfl ?_
  refine g_X7_74 (x := nI (vN v)) C (dx dX7_findBest 1 rfl) hm.eN ?_
  refine r_iconst (v := nI 4) C (dx dX7_findBest 2 rfl) rfl ?_
  refine rn_gt (a := vN v) (b := 4) (tgt := 17) C (by omega) (by omega) (dx dX7_findBest 3 rfl) (by decide) (fun c1 => ?_) (fun c1 => ?_)
  · first
    | (omega; done)
    | (
        have c1 : 4 < vN v := c1
        refine r_iconst (v := nI 0) C (dx dX7_findBest 8 rfl) rfl ?_
        exact F.1 _ _ _ _ .boolean rfl rfl (dx dX7_findBest 9 rfl) None ⟨rfl, ⟨_, A0⟩, M, Lo.rf, x0⟩)
  · first
    | (omega; done)
    | (
        have c1 : vN v ≤ 4 := c1
        refine r_aload_n C (dx dX7_findBest 4 rfl) rfl ?_
        refine g_X7_64 (x := nI (vP v)) C (dx dX7_findBest 5 rfl) hm.eP ?_
        refine r_bipush (v := nI 6) C (dx dX7_findBest 6 rfl) rfl ?_
        refine rn_le (a := vP v) (b := 6) (tgt := 19) C (by omega) (by omega) (dx dX7_findBest 7 rfl) (by decide) (fun c2 => ?_) (fun c2 => ?_)
        · first
          | (omega; done)
          | (
              have c2 : vP v ≤ 6 := c2
              refine r_aload_n C (dx dX7_findBest 10 rfl) rfl ?_
              refine r_cv (as := []) (st := []) C X I_X7_fresh l_X7_102 (e_fresh M x0) (by decide) (Nat.le_of_ble_eq_true rfl) (by rw [M.al]; exact AL_pre id (fun _ => rfl)) (by first | exact List.prefix_rfl | (rw [al]; exact AL_pre id (fun _ => rfl))) rfl rfl (Nat.le_of_ble_eq_true rfl) rfl (dx dX7_findBest 11 rfl) ?_
              rintro _ hF ⟨b, rfl, ebF, BF, MF, hb, hlF, loF, xF⟩ kF
              refine r_astore_n (ls' := [(0, vr 7 k), (1, vr 7 b)]) C (dx dX7_findBest 12 rfl) (by decide) [1, 0] rfl ?_
              refine r_iconst (v := nI 0) C (dx dX7_findBest 13 rfl) rfl ?_
              refine r_istore_n (ls' := [(0, vr 7 k), (1, vr 7 b), (2, vi (nI 0))]) C (dx dX7_findBest 14 rfl) (by decide) [1, 2, 0] rfl ?_
              refine loopU (Φ := fun p => ∀ h9, Md h9 P k v g z κ true → MilAt h9 b (clr v p) → Lo k h h9 → XT h9 k κ ω Bt → xN h9 k 22 = b + 1 → xK h9 = AL P κ true → Rr G 26 [(0, vr 7 k), (1, vr 7 b), (2, vi (nI p))] [] h9) (N := vP v) ?_ ?_ 0 (Nat.zero_le _) _ MF (by rw [clr_0]; exact BF) loF xF ebF kF
              ·
                intro h9 M9 B9 lo9 x9 eb9 k9
                have hl9 : b + 32 ≤ (xK h9).length := by rw [k9, ← kF]; exact hlF
                refine r_iload_n C (dx dX7_findBest 15 rfl) rfl ?_
                refine r_aload_n C (dx dX7_findBest 16 rfl) rfl ?_
                refine g_X7_64 (x := nI (vP v)) C (dx dX7_findBest 17 rfl) M9.1.eP ?_
                refine rn_ge (a := (vP v)) (b := vP v) (tgt := 54) C (by omega) (by omega) (dx dX7_findBest 18 rfl) (by decide) (fun c3 => ?_) (fun c3 => ?_)
                · first
                  | (omega; done)
                  | (
                      have c3 : vP v ≤ (vP v) := c3
                      refine r_aload_n C (dx dX7_findBest 31 rfl) rfl ?_
                      refine r_ldc2 C n_X7_309 (dx dX7_findBest 32 rfl) ?_
                      refine p_X7_302 C (dx dX7_findBest 33 rfl) ?_
                      have qh4 : Kp k h9 (sL h9 k 31 (-1)) := Kp.fL
                      have Mh4 : Md (sL h9 k 31 (-1)) P k v g z κ true := M9.kp (M9.1.fL) qh4 rfl
                      have xh4 : XT (sL h9 k 31 (-1)) k κ ω Bt := x9.kp M9 qh4
                      have Bh4 := B9.fr (Fr.vc qh4) (by omega)
                      have loh4 : Lo k h (sL h9 k 31 (-1)) := lo9.tr (Lo.fr (Fr.vc qh4) (Nat.le_refl _))
                      have ebh4 : xN (sL h9 k 31 (-1)) k 22 = b + 1 := by rw [qh4.2.1]; exact eb9
                      have hlh4 : b + 32 ≤ (xK (sL h9 k 31 (-1))).length := hl9
                      have kh4 : xK (sL h9 k 31 (-1)) = AL P κ true := k9
                      have Ah4 : AcA (sL h9 k 31 (-1)) k v (-1, xI (sL h9 k 31 (-1)) (k + 31)) := ⟨by rw [sL_at, if_pos rfl], fun _ _ => rfl⟩
                      generalize sL h9 k 31 (-1) = h4 at Bh4 qh4 Mh4 loh4 ebh4 hlh4 kh4 xh4 Ah4 ⊢
                      refine r_aload_n C (dx dX7_findBest 34 rfl) rfl ?_
                      refine r_aload_n C (dx dX7_findBest 35 rfl) rfl ?_
                      refine r_iconst (v := nI 0) C (dx dX7_findBest 36 rfl) rfl ?_
                      have Bq : MilAt h4 b (hldV v (noF v)) := by rw [hld_no]; exact Bh4
                      have Bq : MilAt h4 b (hldV v (noF v)) := by rw [hld_no]; exact Bh4
                      refine r_cv (as := [vr 7 b, vi (nI 0)]) (st := []) C X I_X7_tryFrom l_X7_305 (w_tryN (vP v) Mh4 xh4 Bq hb hlh4 ebh4 Ah4 (j := 0) (fun i _ hi => noF_e hi) (by omega) (by omega) (by omega)) (by omega) (Nat.le_of_ble_eq_true rfl) List.prefix_rfl (pfx_eq kh4) rfl rfl (Nat.le_of_ble_eq_true rfl) rfl (dx dX7_findBest 37 rfl) ?_
                      rintro _ h5 ⟨rfl, Mh5, Bh5, Ah5, ebh5, loh59, xh5⟩ kkh5
                      have loh5 : Lo k h h5 := Lo.tr loh4 loh59
                      have kh5 : xK h5 = AL P κ true := kkh5.trans kh4
                      refine r_iconst (v := nI 1) C (dx dX7_findBest 38 rfl) rfl ?_
                      exact F.1 _ _ _ _ .boolean rfl rfl (dx dX7_findBest 39 rfl) kh5 ⟨rfl, ⟨_, Ah5⟩, Mh5, loh5, xh5⟩)
                · first
                  | (omega; done)
              ·
                intro p hp ih h9 M9 B9 lo9 x9 eb9 k9
                have hl9 : b + 32 ≤ (xK h9).length := by rw [k9, ← kF]; exact hlF
                refine r_iload_n C (dx dX7_findBest 15 rfl) rfl ?_
                refine r_aload_n C (dx dX7_findBest 16 rfl) rfl ?_
                refine g_X7_64 (x := nI (vP v)) C (dx dX7_findBest 17 rfl) M9.1.eP ?_
                refine rn_ge (a := p) (b := vP v) (tgt := 54) C (by omega) (by omega) (dx dX7_findBest 18 rfl) (by decide) (fun c8 => ?_) (fun c8 => ?_)
                · first
                  | (omega; done)
                  | (
                      have c8 : vP v ≤ p := c8
                      refine r_aload_n C (dx dX7_findBest 31 rfl) rfl ?_
                      refine r_ldc2 C n_X7_309 (dx dX7_findBest 32 rfl) ?_
                      refine p_X7_302 C (dx dX7_findBest 33 rfl) ?_
                      have qh9 : Kp k h9 (sL h9 k 31 (-1)) := Kp.fL
                      have Mh9 : Md (sL h9 k 31 (-1)) P k v g z κ true := M9.kp (M9.1.fL) qh9 rfl
                      have xh9 : XT (sL h9 k 31 (-1)) k κ ω Bt := x9.kp M9 qh9
                      have Bh9 := B9.fr (Fr.vc qh9) (by omega)
                      have loh9 : Lo k h (sL h9 k 31 (-1)) := lo9.tr (Lo.fr (Fr.vc qh9) (Nat.le_refl _))
                      have ebh9 : xN (sL h9 k 31 (-1)) k 22 = b + 1 := by rw [qh9.2.1]; exact eb9
                      have hlh9 : b + 32 ≤ (xK (sL h9 k 31 (-1))).length := hl9
                      have kh9 : xK (sL h9 k 31 (-1)) = AL P κ true := k9
                      have Ah9 : AcA (sL h9 k 31 (-1)) k v (-1, xI (sL h9 k 31 (-1)) (k + 31)) := ⟨by rw [sL_at, if_pos rfl], fun _ _ => rfl⟩
                      generalize sL h9 k 31 (-1) = h9 at Bh9 qh9 Mh9 loh9 ebh9 hlh9 kh9 xh9 Ah9 ⊢
                      refine r_aload_n C (dx dX7_findBest 34 rfl) rfl ?_
                      refine r_aload_n C (dx dX7_findBest 35 rfl) rfl ?_
                      refine r_iconst (v := nI 0) C (dx dX7_findBest 36 rfl) rfl ?_
                      have Bq : MilAt h9 b (hldV v (noF v)) := by rw [hld_no]; exact Bh9
                      have Bq : MilAt h9 b (hldV v (noF v)) := by rw [hld_no]; exact Bh9
                      refine r_cv (as := [vr 7 b, vi (nI 0)]) (st := []) C X I_X7_tryFrom l_X7_305 (w_tryN (vP v) Mh9 xh9 Bq hb hlh9 ebh9 Ah9 (j := 0) (fun i _ hi => noF_e hi) (by omega) (by omega) (by omega)) (by omega) (Nat.le_of_ble_eq_true rfl) List.prefix_rfl (pfx_eq kh9) rfl rfl (Nat.le_of_ble_eq_true rfl) rfl (dx dX7_findBest 37 rfl) ?_
                      rintro _ h10 ⟨rfl, Mh10, Bh10, Ah10, ebh10, loh109, xh10⟩ kkh10
                      have loh10 : Lo k h h10 := Lo.tr loh9 loh109
                      have kh10 : xK h10 = AL P κ true := kkh10.trans kh9
                      refine r_iconst (v := nI 1) C (dx dX7_findBest 38 rfl) rfl ?_
                      exact F.1 _ _ _ _ .boolean rfl rfl (dx dX7_findBest 39 rfl) kh10 ⟨rfl, ⟨_, Ah10⟩, Mh10, loh10, xh10⟩)
                · first
                  | (omega; done)
                  | (
                      have c8 : p < vP v := c8
                      refine r_aload_n C (dx dX7_findBest 19 rfl) rfl ?_
                      refine g_X7_40 C (dx dX7_findBest 20 rfl) ?_
                      refine r_iload_n C (dx dX7_findBest 21 rfl) rfl ?_
                      refine r_iconst (v := -1) C (dx dX7_findBest 22 rfl) rfl ?_
                      refine r_iast (j := p) C rfl rfl (by decide) rfl (by omega) (dx dX7_findBest 23 rfl) ?_
                      have Bh11 : MilAt (sI h9 (b + 18) p (-1)) b (vset (clr v p) 0 p (-1)) := B9.s0
                      have qh11 : Kp b h9 (sI h9 (b + 18) p (-1)) := Kp.c (by omega) (by omega)
                      have xh11 : XT (sI h9 (b + 18) p (-1)) k κ ω Bt := x9.tk M9 hb eb9 qh11
                      have Mh11 := M9.tk (b := b) hb hl9 Bh11 qh11 (show xK (sI h9 (b + 18) p (-1)) = xK h9 from rfl)
                      have loh11 : Lo k h (sI h9 (b + 18) p (-1)) := lo9.tr (Lo.fr (Fr.vc qh11) (by omega))
                      have ebh11 : xN (sI h9 (b + 18) p (-1)) k 22 = b + 1 := by rw [((Fr.vc qh11) k (by omega)).2.2]; exact eb9
                      have hlh11 : b + 32 ≤ (xK (sI h9 (b + 18) p (-1))).length := by rw [show xK (sI h9 (b + 18) p (-1)) = xK h9 from rfl]; exact hl9
                      have kh11 : xK (sI h9 (b + 18) p (-1)) = AL P κ true := (show xK (sI h9 (b + 18) p (-1)) = xK h9 from rfl).trans k9
                      generalize sI h9 (b + 18) p (-1) = h11 at Bh11 qh11 Mh11 loh11 ebh11 hlh11 kh11 xh11 ⊢
                      refine r_aload_n C (dx dX7_findBest 24 rfl) rfl ?_
                      refine g_X7_43 C (dx dX7_findBest 25 rfl) ?_
                      refine r_iload_n C (dx dX7_findBest 26 rfl) rfl ?_
                      refine r_iconst (v := -1) C (dx dX7_findBest 27 rfl) rfl ?_
                      refine r_iast (j := p) C rfl rfl (by decide) rfl (by omega) (dx dX7_findBest 28 rfl) ?_
                      have Bh12 : MilAt (sI h11 (b + 19) p (-1)) b (vset (vset (clr v p) 0 p (-1)) 1 p (-1)) := Bh11.s1
                      have qh12 : Kp b h11 (sI h11 (b + 19) p (-1)) := Kp.c (by omega) (by omega)
                      have xh12 : XT (sI h11 (b + 19) p (-1)) k κ ω Bt := xh11.tk Mh11 hb ebh11 qh12
                      have Mh12 := Mh11.tk (b := b) hb hlh11 Bh12 qh12 (show xK (sI h11 (b + 19) p (-1)) = xK h11 from rfl)
                      have loh12 : Lo k h (sI h11 (b + 19) p (-1)) := loh11.tr (Lo.fr (Fr.vc qh12) (by omega))
                      have ebh12 : xN (sI h11 (b + 19) p (-1)) k 22 = b + 1 := by rw [((Fr.vc qh12) k (by omega)).2.2]; exact ebh11
                      have hlh12 : b + 32 ≤ (xK (sI h11 (b + 19) p (-1))).length := by rw [show xK (sI h11 (b + 19) p (-1)) = xK h11 from rfl]; exact hlh11
                      have kh12 : xK (sI h11 (b + 19) p (-1)) = AL P κ true := (show xK (sI h11 (b + 19) p (-1)) = xK h11 from rfl).trans kh11
                      generalize sI h11 (b + 19) p (-1) = h12 at Bh12 qh12 Mh12 loh12 ebh12 hlh12 kh12 xh12 ⊢
                      refine rn_iinc (a := p) (k := 1) (ls' := [(0, vr 7 k), (1, vr 7 b), (2, vi (nI (p + 1)))]) C (dx dX7_findBest 29 rfl) rfl rfl (by decide) [1, 2, 0] rfl ?_
                      refine r_goto (tgt := 26) C (dx dX7_findBest 30 rfl) (by decide) ?_
                      exact ih _ Mh12 (by rw [← clr_s9]; exact Bh12) loh12 xh12 ebh12 kh12))
        · first
          | (omega; done)
          | (
              have c2 : 6 < vP v := c2
              refine r_iconst (v := nI 0) C (dx dX7_findBest 8 rfl) rfl ?_
              exact F.1 _ _ _ _ .boolean rfl rfl (dx dX7_findBest 9 rfl) None ⟨rfl, ⟨_, A0⟩, M, Lo.rf, x0⟩))
set_option maxHeartbeats 4000000 in
theorem w_best_y {l : Launch} {h : Hp} {P : List Nat} {k z : Nat} {v : Vg} {g : Sg} {κ τ : Bool} {ω : Vg} {Bt : Nat → Int32} (M : Md h P k v g z κ τ) (x0 : XT h k κ ω Bt) {j : Nat} (hj : j < vP v) (h4 : vN v ≤ 4) (h6 : vP v ≤ 6) : Ms l yX7_best cX7_best 2 (some .int) 17 [vr 7 k, vi (nI j)] h (AL P κ true) (fun r h' => (∃ g9, r = some (vi ((trS v (vP v) 0 (noF v) (-1, g9)).2 j))) ∧ Md h' P k v g z κ true ∧ Lo k h h' ∧ XT h' k κ ω Bt) := by
  refine Ms.of (by decide) (Nat.le_of_ble_eq_true rfl) (fun G C X F => ?_)
  have C : Cx G cX7_best 2 RX7 := C
  show Rr G 0 [(0, vr 7 k), (1, vi (nI j))] [] h
  have hm := M.1
  have hs := M.2.1
  have al := M.al
  have hk7 := M.hk
  have bP := hm.bP
  have bM := hm.bM
  have bN := hm.bN
  refine r_aload_n C (dx dX7_best 0 rfl) rfl ?_
  refine r_iload_n C (dx dX7_best 1 rfl) rfl ?_
  refine r_cvP (as := [vi (nI j)]) (st := []) (v := vi (b2i (inR (nI j) (vP v)))) C X I_X7_isPart l_X7_132 (c_X7_isPart hm _) (by decide) (Nat.le_of_ble_eq_true rfl) (by first | exact List.prefix_rfl | (rw [al]; exact AL_pre id (fun _ => rfl))) rfl rfl (Nat.le_of_ble_eq_true rfl) rfl (dx dX7_best 2 rfl) ?_
  refine rb_ne (b := inR (nI j) (vP v)) (tgt := 15) C (dx dX7_best 3 rfl) (by decide) (fun c1 => ?_) (fun c1 => ?_)
  ·
    have c1 : (inR (nI j) (vP v)) = true := c1
    refine r_aload_n C (dx dX7_best 8 rfl) rfl ?_
    refine r_cv (as := []) (st := []) C X I_X7_findBest l_X7_311 (w_findBest M x0 h4 h6) (by decide) (Nat.le_of_ble_eq_true rfl) (by rw [M.al]; exact AL_pre id (fun _ => rfl)) (by first | exact List.prefix_rfl | (rw [al]; exact AL_pre id (fun _ => rfl))) rfl rfl (Nat.le_of_ble_eq_true rfl) rfl (dx dX7_best 9 rfl) ?_
    rintro _ hF ⟨rfl, ⟨g9, AF⟩, MF, loF, xF⟩ kF
    refine rb_eq (b := true) (tgt := 31) C (dx dX7_best 10 rfl) (by decide) (fun c2 => ?_) (fun c2 => ?_)
    ·
      have c2 : true = false := c2
      exact absurd (rfl.symm.trans c2) (by decide)
    ·
      have c2 : true = true := c2
      refine r_aload_n C (dx dX7_best 11 rfl) rfl ?_
      refine g_X7_61 C (dx dX7_best 12 rfl) ?_
      refine r_iload_n C (dx dX7_best 13 rfl) rfl ?_
      refine r_iald (j := j) (x := (trS v (vP v) 0 (noF v) (-1, g9)).2 j) C rfl rfl (by decide) rfl (by omega) (dx dX7_best 14 rfl) (AF.2 _ (by omega)) ?_
      refine r_goto (tgt := 37) C (dx dX7_best 15 rfl) (by decide) ?_
      exact F.1 _ _ _ _ .int rfl rfl (dx dX7_best 19 rfl) kF ⟨⟨g9, rfl⟩, MF, loF, xF⟩
  ·
    have c1 : (inR (nI j) (vP v)) = false := c1
    exact absurd ((inN (by omega) hj).symm.trans c1) (by decide)
set_option maxHeartbeats 4000000 in
theorem w_bestDay_y {l : Launch} {h : Hp} {P : List Nat} {k z : Nat} {v : Vg} {g : Sg} {κ τ : Bool} {ω : Vg} {Bt : Nat → Int32} (M : Md h P k v g z κ τ) (x0 : XT h k κ ω Bt) (h4 : vN v ≤ 4) (h6 : vP v ≤ 6) : Ms l yX7_bestDay cX7_bestDay 1 (some .long) 17 [vr 7 k] h (AL P κ true) (fun r h' => (∃ g9, r = some (vl ((trS v (vP v) 0 (noF v) (-1, g9)).1))) ∧ Md h' P k v g z κ true ∧ Lo k h h' ∧ XT h' k κ ω Bt) := by
  refine Ms.of (by decide) (Nat.le_of_ble_eq_true rfl) (fun G C X F => ?_)
  have C : Cx G cX7_bestDay 1 RX7 := C
  show Rr G 0 [(0, vr 7 k)] [] h
  have hm := M.1
  have hs := M.2.1
  have al := M.al
  have hk7 := M.hk
  have bP := hm.bP
  have bM := hm.bM
  have bN := hm.bN
  refine r_aload_n C (dx dX7_bestDay 0 rfl) rfl ?_
  refine r_cv (as := []) (st := []) C X I_X7_findBest l_X7_311 (w_findBest M x0 h4 h6) (by decide) (Nat.le_of_ble_eq_true rfl) (by rw [M.al]; exact AL_pre id (fun _ => rfl)) (by first | exact List.prefix_rfl | (rw [al]; exact AL_pre id (fun _ => rfl))) rfl rfl (Nat.le_of_ble_eq_true rfl) rfl (dx dX7_bestDay 1 rfl) ?_
  rintro _ hF ⟨rfl, ⟨g9, AF⟩, MF, loF, xF⟩ kF
  refine rb_eq (b := true) (tgt := 14) C (dx dX7_bestDay 2 rfl) (by decide) (fun c1 => ?_) (fun c1 => ?_)
  ·
    have c1 : true = false := c1
    exact absurd (rfl.symm.trans c1) (by decide)
  ·
    have c1 : true = true := c1
    refine r_aload_n C (dx dX7_bestDay 3 rfl) rfl ?_
    refine g_X7_302 C (dx dX7_bestDay 4 rfl) AF.1 ?_
    refine r_goto (tgt := 21) C (dx dX7_bestDay 5 rfl) (by decide) ?_
    exact F.2.1 _ _ _ _ rfl (dx dX7_bestDay 10 rfl) kF ⟨⟨g9, rfl⟩, MF, loF, xF⟩
set_option maxHeartbeats 4000000 in
theorem w_best_n {l : Launch} {h : Hp} {k : Nat} {v : Vg} {g : Sg} (hm : MilAt h k v) (hs : MshAt h k g) (x : Int32) (hn : inR x (vP v) = true → 4 < vN v ∨ 6 < vP v) : Ms l yX7_best cX7_best 2 (some .int) 17 [vr 7 k, vi x] h (xK h) (fun r h' => r = some (vi (if inR x (vP v) = true then (-5 : Int32) else -2)) ∧ MilAt h' k v ∧ Kp k h h') := by
  refine Ms.of (by decide) (Nat.le_of_ble_eq_true rfl) (fun G C X F => ?_)
  have C : Cx G cX7_best 2 RX7 := C
  show Rr G 0 [(0, vr 7 k), (1, vi x)] [] h
  have bP := hm.bP
  have bM := hm.bM
  have bN := hm.bN
  refine r_aload_n C (dx dX7_best 0 rfl) rfl ?_
  refine r_iload_n C (dx dX7_best 1 rfl) rfl ?_
  refine r_cvP (as := [vi x]) (st := []) (v := vi (b2i (inR x (vP v)))) C X I_X7_isPart l_X7_132 (c_X7_isPart hm _) (by decide) (Nat.le_of_ble_eq_true rfl) List.prefix_rfl rfl rfl (Nat.le_of_ble_eq_true rfl) rfl (dx dX7_best 2 rfl) ?_
  refine rb_ne (b := inR x (vP v)) (tgt := 15) C (dx dX7_best 3 rfl) (by decide) (fun c1 => ?_) (fun c1 => ?_)
  ·
    have c1 : (inR x (vP v)) = true := c1
    have hn2 := hn c1
    refine r_aload_n C (dx dX7_best 8 rfl) rfl ?_
    refine r_cvP (as := []) (st := []) (v := vi (b2i false)) C X I_X7_findBest l_X7_311 (c_X7_findBest_n hm hn2) (by decide) (Nat.le_of_ble_eq_true rfl) List.prefix_rfl rfl rfl (Nat.le_of_ble_eq_true rfl) rfl (dx dX7_best 9 rfl) ?_
    refine rb_eq (b := false) (tgt := 31) C (dx dX7_best 10 rfl) (by decide) (fun c2 => ?_) (fun c2 => ?_)
    ·
      have c2 : false = false := c2
      refine r_aload_n C (dx dX7_best 16 rfl) rfl ?_
      refine r_bipush (v := -5) C (dx dX7_best 17 rfl) rfl ?_
      refine r_cv (as := [vi (-5)]) (st := []) C X I_X7_refuse l_X7_83 (e_refuse hm (x := -5) (j := 5) (by decide) (by decide)) (by decide) (Nat.le_of_ble_eq_true rfl) List.prefix_rfl List.prefix_rfl rfl rfl (Nat.le_of_ble_eq_true rfl) rfl (dx dX7_best 18 rfl) ?_
      rintro _ h3 ⟨rfl, m9h3, qh3⟩ kkh3
      have mh3 : MilAt h3 k v := m9h3
      have ph3 : Kp k h h3 := qh3
      have kh3 : xK h3 = xK h := kkh3
      have eA : (if inR x (vP v) = true then (-5 : Int32) else -2) = -5 := by rw [if_pos c1]
      exact F.1 _ _ _ _ .int rfl rfl (dx dX7_best 19 rfl) kh3 ⟨by (rw [eA]; first | done | rfl), by exact mh3, ph3⟩
    ·
      have c2 : false = true := c2
      exact absurd (rfl.symm.trans c2) (by decide)
  ·
    have c1 : (inR x (vP v)) = false := c1
    refine r_aload_n C (dx dX7_best 4 rfl) rfl ?_
    refine r_bipush (v := -2) C (dx dX7_best 5 rfl) rfl ?_
    refine r_cv (as := [vi (-2)]) (st := []) C X I_X7_refuse l_X7_83 (e_refuse hm (x := -2) (j := 2) (by decide) (by decide)) (by decide) (Nat.le_of_ble_eq_true rfl) List.prefix_rfl List.prefix_rfl rfl rfl (Nat.le_of_ble_eq_true rfl) rfl (dx dX7_best 6 rfl) ?_
    rintro _ h4 ⟨rfl, m9h4, qh4⟩ kkh4
    have mh4 : MilAt h4 k v := m9h4
    have ph4 : Kp k h h4 := qh4
    have kh4 : xK h4 = xK h := kkh4
    have eA : (if inR x (vP v) = true then (-5 : Int32) else -2) = -2 := by rw [if_neg (by rw [c1]; decide)]
    exact F.1 _ _ _ _ .int rfl rfl (dx dX7_best 7 rfl) kh4 ⟨by (rw [eA]; first | done | rfl), by exact mh4, ph4⟩
set_option maxHeartbeats 4000000 in
theorem w_bestDay_n {l : Launch} {h : Hp} {k : Nat} {v : Vg} {g : Sg} (hm : MilAt h k v) (hs : MshAt h k g) (hn2 : 4 < vN v ∨ 6 < vP v) : Ms l yX7_bestDay cX7_bestDay 1 (some .long) 17 [vr 7 k] h (xK h) (fun r h' => r = some (vl ((-5 : Int32).toInt64)) ∧ MilAt h' k v ∧ Kp k h h') := by
  refine Ms.of (by decide) (Nat.le_of_ble_eq_true rfl) (fun G C X F => ?_)
  have C : Cx G cX7_bestDay 1 RX7 := C
  show Rr G 0 [(0, vr 7 k)] [] h
  have bP := hm.bP
  have bM := hm.bM
  have bN := hm.bN
  refine r_aload_n C (dx dX7_bestDay 0 rfl) rfl ?_
  refine r_cvP (as := []) (st := []) (v := vi (b2i false)) C X I_X7_findBest l_X7_311 (c_X7_findBest_n hm hn2) (by decide) (Nat.le_of_ble_eq_true rfl) List.prefix_rfl rfl rfl (Nat.le_of_ble_eq_true rfl) rfl (dx dX7_bestDay 1 rfl) ?_
  refine rb_eq (b := false) (tgt := 14) C (dx dX7_bestDay 2 rfl) (by decide) (fun c1 => ?_) (fun c1 => ?_)
  ·
    have c1 : false = false := c1
    refine r_aload_n C (dx dX7_bestDay 6 rfl) rfl ?_
    refine r_bipush (v := -5) C (dx dX7_bestDay 7 rfl) rfl ?_
    refine r_cv (as := [vi (-5)]) (st := []) C X I_X7_refuse l_X7_83 (e_refuse hm (x := -5) (j := 5) (by decide) (by decide)) (by decide) (Nat.le_of_ble_eq_true rfl) List.prefix_rfl List.prefix_rfl rfl rfl (Nat.le_of_ble_eq_true rfl) rfl (dx dX7_bestDay 8 rfl) ?_
    rintro _ h2 ⟨rfl, m9h2, qh2⟩ kkh2
    have mh2 : MilAt h2 k v := m9h2
    have ph2 : Kp k h h2 := qh2
    have kh2 : xK h2 = xK h := kkh2
    refine r_i2l C (dx dX7_bestDay 9 rfl) ?_
    have eA : (-5 : Int32).toInt64 = (-5).toInt64 := by rfl
    exact F.2.1 _ _ _ _ rfl (dx dX7_bestDay 10 rfl) kh2 ⟨by (rw [eA]; first | done | rfl), by exact mh2, ph2⟩
  ·
    have c1 : false = true := c1
    exact absurd (rfl.symm.trans c1) (by decide)

