/-! PART 57: the reference, exactly: what tries a village on another model -/
def MxF (l : Launch) (y : MethodName) (cc : ByteArray) (nL : Nat) (ret : Option FieldType) (d : Nat) (as : List V) (h : Hp) (P : List Nat) (k : Nat) (v : Vg) (g : Sg) (z : Nat) (κ : Bool) (ω : Vg) (Bt : Nat → Int32) (Q : Option V → Prop) : Prop :=
  ∃ τ, xK h <+: AL P κ τ ∧ Ms l y cc nL ret d as h (AL P κ τ) (fun r h' => Q r ∧ Md h' P k v g z κ τ ∧ Lo k h h' ∧ XT h' k κ ω Bt)
section MXF
variable {l : Launch} {y : MethodName} {cc : ByteArray} {nL : Nat} {ret : Option FieldType} {d : Nat} {as : List V} {h : Hp} {P : List Nat} {k z z' : Nat} {v v' ω ω' : Vg} {g g' : Sg} {κ τ : Bool} {Bt Bt' : Nat → Int32} {Q : Option V → Prop}
theorem MxF.kp (M : Md h P k v g z κ τ) (x0 : XT h k κ ω Bt) (c : Ms l y cc nL ret d as h (xK h) (fun r h' => Q r ∧ MilAt h' k v' ∧ Kp k h h')) : MxF l y cc nL ret d as h P k v' g z κ ω Bt Q :=
  ⟨τ, by rw [M.al]; exact List.prefix_rfl, by rw [← M.al]; exact c.mono (fun r h' ⟨q, m', kp⟩ e => ⟨q, M.kp m' kp e, Lo.fr (Fr.vc kp) (Nat.le_refl _), x0.kp M kp⟩)⟩
theorem MxF.kt (M : Md h P k v g z κ τ) (x0 : XT h k κ ω Bt) (c : Ms l y cc nL ret d as h (xK h) (fun r h' => Q r ∧ MilAt h' k v' ∧ MshAt h' k g' ∧ Kt k h h')) : MxF l y cc nL ret d as h P k v' g' z κ ω Bt Q :=
  ⟨τ, by rw [M.al]; exact List.prefix_rfl, by rw [← M.al]; exact c.mono (fun r h' ⟨q, m', s, kp⟩ e => ⟨q, M.gen m' s (kp.1.1.trans M.e8) M.bz kp.1.2.1 kp.1.2.2 e, Lo.fr kp.1.2.2 (Nat.le_refl _), x0.kt M kp⟩)⟩
theorem MxF.md (M : Md h P k v g z κ τ) (c : Ms l y cc nL ret d as h (AL P κ true) (fun r h' => Q r ∧ Md h' P k v' g' z' κ true ∧ Lo k h h' ∧ XT h' k κ ω' Bt')) : MxF l y cc nL ret d as h P k v' g' z' κ ω' Bt' Q :=
  ⟨true, by rw [M.al]; exact AL_pre id (fun _ => rfl), c⟩
theorem MxF.sm (M : Md h P k v g z κ τ) (c : Ms l y cc nL ret d as h (xK h) (fun r h' => Q r ∧ Md h' P k v' g' z' κ τ ∧ Lo k h h' ∧ XT h' k κ ω' Bt')) : MxF l y cc nL ret d as h P k v' g' z' κ ω' Bt' Q :=
  ⟨τ, by rw [M.al]; exact List.prefix_rfl, by rw [← M.al]; exact c⟩
end MXF
set_option maxHeartbeats 4000000 in
theorem x_X7_wouldBy_y {l : Launch} {h : Hp} {P : List Nat} {k z : Nat} {v : Vg} {g : Sg} {κ τ : Bool} {ω : Vg} {Bt : Nat → Int32} (M : Md h P k v g z κ τ) (x0 : XT h k κ ω Bt) {σ η β : Nat} (hσ : σ < 8) (hη : 1 ≤ η ∧ η ≤ 5) (hβ : β < 100) (eT : gT g σ = nI (10 + η)) (eY : gY g σ = nI β) : Ms l yX7_wouldBy cX7_wouldBy 2 (some .long) 10 [vr 7 k, vi (nI σ)] h (AL P κ true) (fun r h' => PL r ∧ Md h' P k v g z κ true ∧ Lo k h h' ∧ XT h' k κ ω Bt) := by
  refine Ms.of (by decide) (Nat.le_of_ble_eq_true rfl) (fun G C X F => ?_)
  have C : Cx G cX7_wouldBy 2 RX7 := C
  show Rr G 0 [(0, vr 7 k), (1, vi (nI σ))] [] h
  have hm := M.1
  have hs := M.2.1
  have al := M.al
  have hk7 := M.hk
  have bP := hm.bP
  have bM := hm.bM
  have bN := hm.bN
  obtain ⟨o1, o2, o3⟩ := hs.hold hσ hη hβ eT eY
  refine r_aload_n C (dx dX7_wouldBy 0 rfl) rfl ?_
  refine r_cv (as := []) (st := []) C X I_X7_fresh l_X7_102 (e_fresh M x0) (by decide) (Nat.le_of_ble_eq_true rfl) (by rw [M.al]; exact AL_pre id (fun _ => rfl)) (by first | exact List.prefix_rfl | (rw [al]; exact AL_pre id (fun _ => rfl))) rfl rfl (Nat.le_of_ble_eq_true rfl) rfl (dx dX7_wouldBy 1 rfl) ?_
  rintro _ hF ⟨b, rfl, ebF, BF, MF, hb, hlF, loF, xF⟩ kF
  obtain ⟨r1, r2, r3⟩ := MF.2.1.hold hσ hη hβ eT eY
  refine r_aload_n C (dx dX7_wouldBy 2 rfl) rfl ?_
  refine g_X7_28 C (dx dX7_wouldBy 3 rfl) ?_
  refine r_iload_n C (dx dX7_wouldBy 4 rfl) rfl ?_
  refine r_iald (j := σ) (x := nI η) C rfl rfl (by decide) rfl (by omega) (dx dX7_wouldBy 5 rfl) r2 ?_
  refine r_aload_n C (dx dX7_wouldBy 6 rfl) rfl ?_
  refine g_X7_31 C (dx dX7_wouldBy 7 rfl) ?_
  refine r_iload_n C (dx dX7_wouldBy 8 rfl) rfl ?_
  refine r_iald (j := σ) (x := nI β) C rfl rfl (by decide) rfl (by omega) (dx dX7_wouldBy 9 rfl) r3 ?_
  refine r_cv (as := [vi (nI η), vi (nI β)]) (st := []) C X I_X7_holdAll l_X7_106 (c_X7_holdAll BF (κ := η) (b := β) (by omega) (by omega)) (by decide) (Nat.le_of_ble_eq_true rfl) List.prefix_rfl (pfx_eq kF) rfl rfl (Nat.le_of_ble_eq_true rfl) rfl (dx dX7_wouldBy 10 rfl) ?_
  rintro _ h1 ⟨rfl, ⟨wh1, Bh1, sh1⟩, qh1⟩ kkh1
  have xh1 : XT h1 k κ ω Bt := xF.tk MF hb ebF qh1
  have Mh1 := MF.tk (b := b) hb hlF Bh1 qh1 (show xK h1 = xK hF from kkh1)
  have loh1 : Lo k h h1 := loF.tr (Lo.fr (Fr.vc qh1) (by omega))
  have ebh1 : xN h1 k 22 = b + 1 := by rw [((Fr.vc qh1) k (by omega)).2.2]; exact ebF
  have hlh1 : b + 32 ≤ (xK h1).length := by rw [show xK h1 = xK hF from kkh1]; exact hlF
  have kh1 : xK h1 = AL P κ true := (show xK h1 = xK hF from kkh1).trans kF
  obtain ⟨sah1, sbh1, sch1⟩ := sh1
  refine r_aload_n C (dx dX7_wouldBy 11 rfl) rfl ?_
  refine r_getN (k := 7) (j := 22) (T := TX7) (N := 32) C rfl rfl rfl (by decide) f_X7_110 (dx dX7_wouldBy 12 rfl) ebh1 (Or.inr (by rw [Nat.add_sub_cancel]; exact Mh1.k7 (by omega) hlh1)) ?_
  refine r_some C ?_
  refine r_cvW (as := []) (st := []) C X I_X7_day l_X7_295 (c_X7_day Bh1) (by decide) (Nat.le_of_ble_eq_true rfl) (pfx_eq kh1) rfl rfl (Nat.le_of_ble_eq_true rfl) rfl (dx dX7_wouldBy 13 rfl) ?_
  rintro _ ⟨x2, rfl⟩
  exact F.2.1 _ _ _ _ rfl (dx dX7_wouldBy 14 rfl) kh1 ⟨⟨_, rfl⟩, Mh1, loh1, xh1⟩
set_option maxHeartbeats 4000000 in
theorem x_X7_says_y {l : Launch} {h : Hp} {P : List Nat} {k z : Nat} {v : Vg} {g : Sg} {κ τ : Bool} {ω : Vg} {Bt : Nat → Int32} (M : Md h P k v g z κ τ) (x0 : XT h k κ ω Bt) {σ η β : Nat} (hσ : σ < 8) (hη : 1 ≤ η ∧ η ≤ 5) (hβ : β < 100) (eT : gT g σ = nI (10 + η)) (eY : gY g σ = nI β) {x : Int32} (hq : inR x 6 = true) (hu : undV (nI η) x = true) (h0 : ¬ x = 0) : Ms l yX7_says cX7_says 3 (some .int) 10 [vr 7 k, vi (nI σ), vi x] h (AL P κ true) (fun r h' => PI r ∧ Md h' P k v g z κ true ∧ Lo k h h' ∧ XT h' k κ ω Bt) := by
  refine Ms.of (by decide) (Nat.le_of_ble_eq_true rfl) (fun G C X F => ?_)
  have C : Cx G cX7_says 3 RX7 := C
  show Rr G 0 [(0, vr 7 k), (1, vi (nI σ)), (2, vi x)] [] h
  have hm := M.1
  have hs := M.2.1
  have al := M.al
  have hk7 := M.hk
  have bP := hm.bP
  have bM := hm.bM
  have bN := hm.bN
  obtain ⟨o1, o2, o3⟩ := hs.hold hσ hη hβ eT eY
  refine r_iload_n C (dx dX7_says 0 rfl) rfl ?_
  refine r_i2l C (dx dX7_says 1 rfl) ?_
  refine r_lconst (v := 0) C (dx dX7_says 2 rfl) rfl ?_
  refine r_ldc2 C n_X7_77 (dx dX7_says 3 rfl) ?_
  refine r_csP (as := [vl ((nI σ).toInt64), vl 0, vl 7]) (st := []) (v := vi (b2i (inR (nI σ) 8))) C X I_X7_in l_X7_67 (c_inR (b := 7) (by decide) (by decide)) (by decide) (Nat.le_of_ble_eq_true rfl) (by first | exact List.prefix_rfl | (rw [al]; exact AL_pre id (fun _ => rfl))) (Nat.le_of_ble_eq_true rfl) rfl (dx dX7_says 4 rfl) ?_
  refine rb_eq (b := inR (nI σ) 8) (tgt := 24) C (dx dX7_says 5 rfl) (by decide) (fun c1 => ?_) (fun c1 => ?_)
  ·
    have c1 : (inR (nI σ) 8) = false := c1
    exact absurd ((inN (by omega) hσ).symm.trans c1) (by decide)
  ·
    have c1 : (inR (nI σ) 8) = true := c1
    refine r_iload_n C (dx dX7_says 6 rfl) rfl ?_
    refine r_i2l C (dx dX7_says 7 rfl) ?_
    refine r_lconst (v := 0) C (dx dX7_says 8 rfl) rfl ?_
    refine r_ldc2 C n_X7_94 (dx dX7_says 9 rfl) ?_
    refine r_csP (as := [vl x.toInt64, vl 0, vl 5]) (st := []) (v := vi (b2i (inR x 6))) C X I_X7_in l_X7_67 (c_inR (b := 5) (by decide) (by decide)) (by decide) (Nat.le_of_ble_eq_true rfl) (by first | exact List.prefix_rfl | (rw [al]; exact AL_pre id (fun _ => rfl))) (Nat.le_of_ble_eq_true rfl) rfl (dx dX7_says 10 rfl) ?_
    refine rb_ne (b := inR x 6) (tgt := 31) C (dx dX7_says 11 rfl) (by decide) (fun c2 => ?_) (fun c2 => ?_)
    ·
      have c2 : (inR x 6) = true := c2
      refine r_aload_n C (dx dX7_says 16 rfl) rfl ?_
      refine g_X7_7 C (dx dX7_says 17 rfl) ?_
      refine r_iload_n C (dx dX7_says 18 rfl) rfl ?_
      refine r_iald (j := σ) (x := nI 2) C rfl rfl (by decide) rfl (by omega) (dx dX7_says 19 rfl) o1 ?_
      refine r_iconst (v := nI 1) C (dx dX7_says 20 rfl) rfl ?_
      refine rn_eq (a := 2) (b := 1) (tgt := 64) C (by omega) (by omega) (dx dX7_says 21 rfl) (by decide) (fun c3 => ?_) (fun c3 => ?_)
      · first
        | (omega; done)
        | (
            have c3 : 2 = 1 := c3
            refine r_aload_n C (dx dX7_says 35 rfl) rfl ?_
            refine r_bipush (v := -3) C (dx dX7_says 36 rfl) rfl ?_
            refine r_cv (as := [vi (-3)]) (st := []) C X I_X7_refuse l_X7_83 (c_X7_refuse hm (x := -3) (j := 3) (by decide) (by decide)) (by decide) (Nat.le_of_ble_eq_true rfl) List.prefix_rfl (by first | exact List.prefix_rfl | (rw [al]; exact AL_pre id (fun _ => rfl))) rfl rfl (Nat.le_of_ble_eq_true rfl) rfl (dx dX7_says 37 rfl) ?_
            rintro _ h4 ⟨rfl, ⟨wh4, m9h4, s9h4⟩, qh4⟩ kkh4
            obtain ⟨vh4, mh4, zh4⟩ : ∃ v9, MilAt h4 k v9 ∧ Sz v v9 := ⟨_, m9h4, s9h4⟩
            have ph4 : Kp k h h4 := qh4
            have kh4 : xK h4 = xK h := kkh4
            obtain ⟨ah4, bh4, ch4⟩ := zh4
            exact F.1 _ _ _ _ .int rfl rfl (dx dX7_says 38 rfl) kh4 ⟨⟨_, rfl⟩, M, Lo.rf, x0⟩)
      · first
        | (omega; done)
        | (
            have c3 : ¬ 2 = 1 := c3
            refine r_aload_n C (dx dX7_says 22 rfl) rfl ?_
            refine g_X7_7 C (dx dX7_says 23 rfl) ?_
            refine r_iload_n C (dx dX7_says 24 rfl) rfl ?_
            refine r_iald (j := σ) (x := nI 2) C rfl rfl (by decide) rfl (by omega) (dx dX7_says 25 rfl) o1 ?_
            refine r_iconst (v := nI 2) C (dx dX7_says 26 rfl) rfl ?_
            refine rn_ne (a := 2) (b := 2) (tgt := 71) C (by omega) (by omega) (dx dX7_says 27 rfl) (by decide) (fun c5 => ?_) (fun c5 => ?_)
            · first
              | (omega; done)
              | (
                  have c5 : ¬ 2 = 2 := c5
                  refine r_aload_n C (dx dX7_says 39 rfl) rfl ?_
                  refine g_X7_7 C (dx dX7_says 40 rfl) ?_
                  refine r_iload_n C (dx dX7_says 41 rfl) rfl ?_
                  refine r_iald (j := σ) (x := nI 2) C rfl rfl (by decide) rfl (by omega) (dx dX7_says 42 rfl) o1 ?_
                  refine r_if_ne (tgt := 87) C (dx dX7_says 43 rfl) (by decide) (fun _ => ?_) (fun c6 => (show False from by revert c6; decide).elim)
                  refine r_iload_n C (dx dX7_says 48 rfl) rfl ?_
                  refine r_if_ne (tgt := 98) C (dx dX7_says 49 rfl) (by decide) (fun c7 => ?_) (fun c7 => ?_)
                  ·
                    have c7 : ¬ x = 0 := c7
                    refine r_aload_n C (dx dX7_says 55 rfl) rfl ?_
                    refine r_cv (as := []) (st := []) C X I_X7_fresh l_X7_102 (e_fresh M x0) (by decide) (Nat.le_of_ble_eq_true rfl) (by rw [M.al]; exact AL_pre id (fun _ => rfl)) (by first | exact List.prefix_rfl | (rw [al]; exact AL_pre id (fun _ => rfl))) rfl rfl (Nat.le_of_ble_eq_true rfl) rfl (dx dX7_says 56 rfl) ?_
                    rintro _ hF ⟨b, rfl, ebF, BF, MF, hb, hlF, loF, xF⟩ kF
                    obtain ⟨r1, r2, r3⟩ := MF.2.1.hold hσ hη hβ eT eY
                    refine r_aload_n C (dx dX7_says 57 rfl) rfl ?_
                    refine g_X7_28 C (dx dX7_says 58 rfl) ?_
                    refine r_iload_n C (dx dX7_says 59 rfl) rfl ?_
                    refine r_iald (j := σ) (x := nI η) C rfl rfl (by decide) rfl (by omega) (dx dX7_says 60 rfl) r2 ?_
                    refine r_aload_n C (dx dX7_says 61 rfl) rfl ?_
                    refine g_X7_31 C (dx dX7_says 62 rfl) ?_
                    refine r_iload_n C (dx dX7_says 63 rfl) rfl ?_
                    refine r_iald (j := σ) (x := nI β) C rfl rfl (by decide) rfl (by omega) (dx dX7_says 64 rfl) r3 ?_
                    refine r_cv (as := [vi (nI η), vi (nI β)]) (st := []) C X I_X7_holdAll l_X7_106 (c_X7_holdAll BF (κ := η) (b := β) (by omega) (by omega)) (by decide) (Nat.le_of_ble_eq_true rfl) List.prefix_rfl (pfx_eq kF) rfl rfl (Nat.le_of_ble_eq_true rfl) rfl (dx dX7_says 65 rfl) ?_
                    rintro _ h8 ⟨rfl, ⟨wh8, Bh8, sh8⟩, qh8⟩ kkh8
                    have xh8 : XT h8 k κ ω Bt := xF.tk MF hb ebF qh8
                    have Mh8 := MF.tk (b := b) hb hlF Bh8 qh8 (show xK h8 = xK hF from kkh8)
                    have loh8 : Lo k h h8 := loF.tr (Lo.fr (Fr.vc qh8) (by omega))
                    have ebh8 : xN h8 k 22 = b + 1 := by rw [((Fr.vc qh8) k (by omega)).2.2]; exact ebF
                    have hlh8 : b + 32 ≤ (xK h8).length := by rw [show xK h8 = xK hF from kkh8]; exact hlF
                    have kh8 : xK h8 = AL P κ true := (show xK h8 = xK hF from kkh8).trans kF
                    obtain ⟨sah8, sbh8, sch8⟩ := sh8
                    refine r_aload_n C (dx dX7_says 66 rfl) rfl ?_
                    refine r_getN (k := 7) (j := 22) (T := TX7) (N := 32) C rfl rfl rfl (by decide) f_X7_110 (dx dX7_says 67 rfl) ebh8 (Or.inr (by rw [Nat.add_sub_cancel]; exact Mh8.k7 (by omega) hlh8)) ?_
                    refine r_some C ?_
                    refine r_iload_n C (dx dX7_says 68 rfl) rfl ?_
                    refine r_iconst (v := nI 3) C (dx dX7_says 69 rfl) rfl ?_
                    refine r_icmp_ne (tgt := 130) C (dx dX7_says 70 rfl) (by decide) (fun c9 => ?_) (fun c9 => ?_)
                    ·
                      have c9 : ¬ x = nI 3 := c9
                      refine r_iconst (v := nI 0) C (dx dX7_says 73 rfl) rfl ?_
                      refine r_cvW (as := [vi (nI 0)]) (st := []) C X I_X7_held l_X7_114 (c_X7_held Bh8 false) (by decide) (Nat.le_of_ble_eq_true rfl) (pfx_eq kh8) rfl rfl (Nat.le_of_ble_eq_true rfl) rfl (dx dX7_says 74 rfl) ?_
                      rintro _ ⟨x10, rfl⟩
                      exact F.1 _ _ _ _ .int rfl rfl (dx dX7_says 75 rfl) kh8 ⟨⟨_, rfl⟩, Mh8, loh8, xh8⟩
                    ·
                      have c9 : x = nI 3 := c9
                      refine r_iconst (v := nI 1) C (dx dX7_says 71 rfl) rfl ?_
                      refine r_goto (tgt := 131) C (dx dX7_says 72 rfl) (by decide) ?_
                      refine r_cvW (as := [vi (nI 1)]) (st := []) C X I_X7_held l_X7_114 (c_X7_held Bh8 true) (by decide) (Nat.le_of_ble_eq_true rfl) (pfx_eq kh8) rfl rfl (Nat.le_of_ble_eq_true rfl) rfl (dx dX7_says 74 rfl) ?_
                      rintro _ ⟨x11, rfl⟩
                      exact F.1 _ _ _ _ .int rfl rfl (dx dX7_says 75 rfl) kh8 ⟨⟨_, rfl⟩, Mh8, loh8, xh8⟩
                  ·
                    have c7 : x = 0 := c7
                    exact absurd c7 h0)
            · first
              | (omega; done)
              | (
                  have c5 : 2 = 2 := c5
                  refine r_aload_n C (dx dX7_says 28 rfl) rfl ?_
                  refine g_X7_28 C (dx dX7_says 29 rfl) ?_
                  refine r_iload_n C (dx dX7_says 30 rfl) rfl ?_
                  refine r_iald (j := σ) (x := nI η) C rfl rfl (by decide) rfl (by omega) (dx dX7_says 31 rfl) o2 ?_
                  refine r_iload_n C (dx dX7_says 32 rfl) rfl ?_
                  refine r_csP (as := [vi (nI η), vi x]) (st := []) (v := vi (b2i (undV (nI η) x))) C X I_X7_isUnder l_X7_98 (c_X7_isUnder _ _) (by decide) (Nat.le_of_ble_eq_true rfl) (by first | exact List.prefix_rfl | (rw [al]; exact AL_pre id (fun _ => rfl))) (Nat.le_of_ble_eq_true rfl) rfl (dx dX7_says 33 rfl) ?_
                  refine rb_ne (b := undV (nI η) x) (tgt := 71) C (dx dX7_says 34 rfl) (by decide) (fun c12 => ?_) (fun c12 => ?_)
                  ·
                    have c12 : (undV (nI η) x) = true := c12
                    refine r_aload_n C (dx dX7_says 39 rfl) rfl ?_
                    refine g_X7_7 C (dx dX7_says 40 rfl) ?_
                    refine r_iload_n C (dx dX7_says 41 rfl) rfl ?_
                    refine r_iald (j := σ) (x := nI 2) C rfl rfl (by decide) rfl (by omega) (dx dX7_says 42 rfl) o1 ?_
                    refine r_if_ne (tgt := 87) C (dx dX7_says 43 rfl) (by decide) (fun _ => ?_) (fun c13 => (show False from by revert c13; decide).elim)
                    refine r_iload_n C (dx dX7_says 48 rfl) rfl ?_
                    refine r_if_ne (tgt := 98) C (dx dX7_says 49 rfl) (by decide) (fun c14 => ?_) (fun c14 => ?_)
                    ·
                      have c14 : ¬ x = 0 := c14
                      refine r_aload_n C (dx dX7_says 55 rfl) rfl ?_
                      refine r_cv (as := []) (st := []) C X I_X7_fresh l_X7_102 (e_fresh M x0) (by decide) (Nat.le_of_ble_eq_true rfl) (by rw [M.al]; exact AL_pre id (fun _ => rfl)) (by first | exact List.prefix_rfl | (rw [al]; exact AL_pre id (fun _ => rfl))) rfl rfl (Nat.le_of_ble_eq_true rfl) rfl (dx dX7_says 56 rfl) ?_
                      rintro _ hF ⟨b, rfl, ebF, BF, MF, hb, hlF, loF, xF⟩ kF
                      obtain ⟨r1, r2, r3⟩ := MF.2.1.hold hσ hη hβ eT eY
                      refine r_aload_n C (dx dX7_says 57 rfl) rfl ?_
                      refine g_X7_28 C (dx dX7_says 58 rfl) ?_
                      refine r_iload_n C (dx dX7_says 59 rfl) rfl ?_
                      refine r_iald (j := σ) (x := nI η) C rfl rfl (by decide) rfl (by omega) (dx dX7_says 60 rfl) r2 ?_
                      refine r_aload_n C (dx dX7_says 61 rfl) rfl ?_
                      refine g_X7_31 C (dx dX7_says 62 rfl) ?_
                      refine r_iload_n C (dx dX7_says 63 rfl) rfl ?_
                      refine r_iald (j := σ) (x := nI β) C rfl rfl (by decide) rfl (by omega) (dx dX7_says 64 rfl) r3 ?_
                      refine r_cv (as := [vi (nI η), vi (nI β)]) (st := []) C X I_X7_holdAll l_X7_106 (c_X7_holdAll BF (κ := η) (b := β) (by omega) (by omega)) (by decide) (Nat.le_of_ble_eq_true rfl) List.prefix_rfl (pfx_eq kF) rfl rfl (Nat.le_of_ble_eq_true rfl) rfl (dx dX7_says 65 rfl) ?_
                      rintro _ h15 ⟨rfl, ⟨wh15, Bh15, sh15⟩, qh15⟩ kkh15
                      have xh15 : XT h15 k κ ω Bt := xF.tk MF hb ebF qh15
                      have Mh15 := MF.tk (b := b) hb hlF Bh15 qh15 (show xK h15 = xK hF from kkh15)
                      have loh15 : Lo k h h15 := loF.tr (Lo.fr (Fr.vc qh15) (by omega))
                      have ebh15 : xN h15 k 22 = b + 1 := by rw [((Fr.vc qh15) k (by omega)).2.2]; exact ebF
                      have hlh15 : b + 32 ≤ (xK h15).length := by rw [show xK h15 = xK hF from kkh15]; exact hlF
                      have kh15 : xK h15 = AL P κ true := (show xK h15 = xK hF from kkh15).trans kF
                      obtain ⟨sah15, sbh15, sch15⟩ := sh15
                      refine r_aload_n C (dx dX7_says 66 rfl) rfl ?_
                      refine r_getN (k := 7) (j := 22) (T := TX7) (N := 32) C rfl rfl rfl (by decide) f_X7_110 (dx dX7_says 67 rfl) ebh15 (Or.inr (by rw [Nat.add_sub_cancel]; exact Mh15.k7 (by omega) hlh15)) ?_
                      refine r_some C ?_
                      refine r_iload_n C (dx dX7_says 68 rfl) rfl ?_
                      refine r_iconst (v := nI 3) C (dx dX7_says 69 rfl) rfl ?_
                      refine r_icmp_ne (tgt := 130) C (dx dX7_says 70 rfl) (by decide) (fun c16 => ?_) (fun c16 => ?_)
                      ·
                        have c16 : ¬ x = nI 3 := c16
                        refine r_iconst (v := nI 0) C (dx dX7_says 73 rfl) rfl ?_
                        refine r_cvW (as := [vi (nI 0)]) (st := []) C X I_X7_held l_X7_114 (c_X7_held Bh15 false) (by decide) (Nat.le_of_ble_eq_true rfl) (pfx_eq kh15) rfl rfl (Nat.le_of_ble_eq_true rfl) rfl (dx dX7_says 74 rfl) ?_
                        rintro _ ⟨x17, rfl⟩
                        exact F.1 _ _ _ _ .int rfl rfl (dx dX7_says 75 rfl) kh15 ⟨⟨_, rfl⟩, Mh15, loh15, xh15⟩
                      ·
                        have c16 : x = nI 3 := c16
                        refine r_iconst (v := nI 1) C (dx dX7_says 71 rfl) rfl ?_
                        refine r_goto (tgt := 131) C (dx dX7_says 72 rfl) (by decide) ?_
                        refine r_cvW (as := [vi (nI 1)]) (st := []) C X I_X7_held l_X7_114 (c_X7_held Bh15 true) (by decide) (Nat.le_of_ble_eq_true rfl) (pfx_eq kh15) rfl rfl (Nat.le_of_ble_eq_true rfl) rfl (dx dX7_says 74 rfl) ?_
                        rintro _ ⟨x18, rfl⟩
                        exact F.1 _ _ _ _ .int rfl rfl (dx dX7_says 75 rfl) kh15 ⟨⟨_, rfl⟩, Mh15, loh15, xh15⟩
                    ·
                      have c14 : x = 0 := c14
                      exact absurd c14 h0
                  ·
                    have c12 : (undV (nI η) x) = false := c12
                    exact absurd (hu.symm.trans c12) (by decide)))
    ·
      have c2 : (inR x 6) = false := c2
      exact absurd (hq.symm.trans c2) (by decide)
set_option maxHeartbeats 4000000 in
theorem x_X7_would_y {l : Launch} {h : Hp} {P : List Nat} {k z : Nat} {v : Vg} {g : Sg} {κ τ : Bool} {ω : Vg} {Bt : Nat → Int32} (M : Md h P k v g z κ τ) (x0 : XT h k κ ω Bt) {σ η β : Nat} (hσ : σ < 8) (hη : 1 ≤ η ∧ η ≤ 5) (hβ : β < 100) (eT : gT g σ = nI (10 + η)) (eY : gY g σ = nI β) : Ms l yX7_would cX7_would 3 (some .long) 11 [vr 7 k, vi (nI σ)] h (AL P κ true) (fun r h' => PL r ∧ Md h' P k v g z κ true ∧ Lo k h h' ∧ XT h' k κ ω Bt) := by
  refine Ms.of (by decide) (Nat.le_of_ble_eq_true rfl) (fun G C X F => ?_)
  have C : Cx G cX7_would 3 RX7 := C
  show Rr G 0 [(0, vr 7 k), (1, vi (nI σ))] [] h
  have hm := M.1
  have hs := M.2.1
  have al := M.al
  have hk7 := M.hk
  have bP := hm.bP
  have bM := hm.bM
  have bN := hm.bN
  have hq := nh_hold hσ (by omega) eT eY
  refine r_aload_n C (dx dX7_would 0 rfl) rfl ?_
  refine r_iload_n C (dx dX7_would 1 rfl) rfl ?_
  refine r_cv (as := [vi (nI σ)]) (st := []) C X I_X7_noHolding l_X7_292 (v_X7_noHolding M.1 M.2.1 (nI σ)) (by decide) (Nat.le_of_ble_eq_true rfl) List.prefix_rfl (by first | exact List.prefix_rfl | (rw [al]; exact AL_pre id (fun _ => rfl))) rfl rfl (Nat.le_of_ble_eq_true rfl) rfl (dx dX7_would 2 rfl) ?_
  rintro _ h1 ⟨rfl, mh1, qh1⟩ kkh1
  have Mh1 := M.kp mh1 qh1 kkh1
  have xh1 := x0.kp M qh1
  have loh1 : Lo k h h1 := Lo.tr (Lo.rf (a := k) (h := h)) (Lo.fr (Fr.vc qh1) (Nat.le_refl _))
  refine r_istore_n (ls' := [(0, vr 7 k), (1, vi (nI σ)), (2, vi (nhA g (nI σ)))]) C (dx dX7_would 3 rfl) (by decide) [1, 2, 0] rfl ?_
  refine r_iload_n C (dx dX7_would 4 rfl) rfl ?_
  refine r_if_eq (tgt := 15) C (dx dX7_would 5 rfl) (by decide) (fun c2 => ?_) (fun c2 => ?_)
  ·
    have c2 : nhA g (nI σ) = 0 := c2
    refine r_aload_n C (dx dX7_would 9 rfl) rfl ?_
    refine r_iload_n C (dx dX7_would 10 rfl) rfl ?_
    refine r_cv (as := [vi (nI σ)]) (st := []) C X I_X7_wouldBy l_X7_299 (x_X7_wouldBy_y Mh1 xh1 hσ hη hβ eT eY) (by decide) (Nat.le_of_ble_eq_true rfl) (by rw [Mh1.al]; exact AL_pre id (fun _ => rfl)) (by first | exact List.prefix_rfl | (rw [al]; exact AL_pre id (fun _ => rfl))) rfl rfl (Nat.le_of_ble_eq_true rfl) rfl (dx dX7_would 11 rfl) ?_
    rintro _ hF ⟨⟨yF, rfl⟩, MF, loF9, xF⟩ kF
    have loF := loh1.tr loF9
    exact F.2.1 _ _ _ _ rfl (dx dX7_would 12 rfl) kF ⟨⟨_, rfl⟩, MF, loF, xF⟩
  ·
    have c2 : ¬ nhA g (nI σ) = 0 := c2
    exact absurd hq c2
set_option maxHeartbeats 4000000 in
theorem x_X7_trust_y {l : Launch} {h : Hp} {P : List Nat} {k z : Nat} {v : Vg} {g : Sg} {κ τ : Bool} {ω : Vg} {Bt : Nat → Int32} (M : Md h P k v g z κ τ) (x0 : XT h k κ ω Bt) {o1 o2 : Int32} (q1 : inR o1 (vN v) = true) (q2 : inR o2 (vN v) = true) (q3 : ¬ o1 = o2) : Ms l yX7_trust cX7_trust 5 (some .long) 5 [vr 7 k, vi o1, vi o2] h (AL P κ true) (fun r h' => PL r ∧ Md h' P k v g z κ true ∧ Lo k h h' ∧ XT h' k κ ω Bt) := by
  refine Ms.of (by decide) (Nat.le_of_ble_eq_true rfl) (fun G C X F => ?_)
  have C : Cx G cX7_trust 5 RX7 := C
  show Rr G 0 [(0, vr 7 k), (1, vi o1), (2, vi o2)] [] h
  have hm := M.1
  have hs := M.2.1
  have al := M.al
  have hk7 := M.hk
  have bP := hm.bP
  have bM := hm.bM
  have bN := hm.bN
  refine r_aload_n C (dx dX7_trust 0 rfl) rfl ?_
  refine r_iload_n C (dx dX7_trust 1 rfl) rfl ?_
  refine r_cvP (as := [vi o1]) (st := []) (v := vi (b2i (inR o1 (vN v)))) C X I_X7_isOne l_X7_125 (c_X7_isOne hm _) (by decide) (Nat.le_of_ble_eq_true rfl) (by first | exact List.prefix_rfl | (rw [al]; exact AL_pre id (fun _ => rfl))) rfl rfl (Nat.le_of_ble_eq_true rfl) rfl (dx dX7_trust 2 rfl) ?_
  refine rb_eq (b := inR o1 (vN v)) (tgt := 21) C (dx dX7_trust 3 rfl) (by decide) (fun c1 => ?_) (fun c1 => ?_)
  ·
    have c1 : (inR o1 (vN v)) = false := c1
    exact absurd (q1.symm.trans c1) (by decide)
  ·
    have c1 : (inR o1 (vN v)) = true := c1
    refine r_aload_n C (dx dX7_trust 4 rfl) rfl ?_
    refine r_iload_n C (dx dX7_trust 5 rfl) rfl ?_
    refine r_cvP (as := [vi o2]) (st := []) (v := vi (b2i (inR o2 (vN v)))) C X I_X7_isOne l_X7_125 (c_X7_isOne hm _) (by decide) (Nat.le_of_ble_eq_true rfl) (by first | exact List.prefix_rfl | (rw [al]; exact AL_pre id (fun _ => rfl))) rfl rfl (Nat.le_of_ble_eq_true rfl) rfl (dx dX7_trust 6 rfl) ?_
    refine rb_eq (b := inR o2 (vN v)) (tgt := 21) C (dx dX7_trust 7 rfl) (by decide) (fun c2 => ?_) (fun c2 => ?_)
    ·
      have c2 : (inR o2 (vN v)) = false := c2
      exact absurd (q2.symm.trans c2) (by decide)
    ·
      have c2 : (inR o2 (vN v)) = true := c2
      refine r_iload_n C (dx dX7_trust 8 rfl) rfl ?_
      refine r_iload_n C (dx dX7_trust 9 rfl) rfl ?_
      refine r_icmp_ne (tgt := 33) C (dx dX7_trust 10 rfl) (by decide) (fun c3 => ?_) (fun c3 => ?_)
      ·
        have c3 : ¬ o1 = o2 := c3
        refine r_aload_n C (dx dX7_trust 18 rfl) rfl ?_
        refine r_cv (as := []) (st := []) C X I_X7_fresh l_X7_102 (e_fresh M x0) (by decide) (Nat.le_of_ble_eq_true rfl) (by rw [M.al]; exact AL_pre id (fun _ => rfl)) (by first | exact List.prefix_rfl | (rw [al]; exact AL_pre id (fun _ => rfl))) rfl rfl (Nat.le_of_ble_eq_true rfl) rfl (dx dX7_trust 19 rfl) ?_
        rintro _ hF ⟨b, rfl, ebF, BF, MF, hb, hlF, loF, xF⟩ kF
        refine r_astore_n (ls' := [(0, vr 7 k), (1, vi o1), (2, vi o2), (3, vr 7 b)]) C (dx dX7_trust 20 rfl) (by decide) [1, 2, 3, 0] rfl ?_
        refine r_iconst (v := nI 0) C (dx dX7_trust 21 rfl) rfl ?_
        refine r_istore (ls' := [(0, vr 7 k), (1, vi o1), (2, vi o2), (3, vr 7 b), (4, vi (nI 0))]) C (dx dX7_trust 22 rfl) (by decide) [1, 2, 3, 4, 0] rfl ?_
        refine loopU (Φ := fun p => ∀ h9 w9, Md h9 P k v g z κ true → MilAt h9 b w9 → Sz v w9 → Lo k h h9 → XT h9 k κ ω Bt → xN h9 k 22 = b + 1 → xK h9 = AL P κ true → Rr G 41 [(0, vr 7 k), (1, vi o1), (2, vi o2), (3, vr 7 b), (4, vi (nI p))] [] h9) (N := vP v) ?_ ?_ 0 (Nat.zero_le _) _ _ MF BF ⟨rfl, rfl, rfl⟩ loF xF ebF kF
        ·
          intro h9 w9 M9 B9 s9 lo9 x9 eb9 k9
          obtain ⟨sa9, sb9, sc9⟩ := s9
          have hl9 : b + 32 ≤ (xK h9).length := by rw [k9, ← kF]; exact hlF
          refine r_iload C (dx dX7_trust 23 rfl) rfl ?_
          refine r_aload_n C (dx dX7_trust 24 rfl) rfl ?_
          refine g_X7_64 (x := nI (vP v)) C (dx dX7_trust 25 rfl) M9.1.eP ?_
          refine rn_ge (a := vP v) (b := vP v) (tgt := 114) C (by omega) (by omega) (dx dX7_trust 26 rfl) (by decide) (fun c4 => ?_) (fun c4 => ?_)
          · first
            | (omega; done)
            | (
                have c4 : vP v ≤ vP v := c4
                refine r_aload_n C (dx dX7_trust 61 rfl) rfl ?_
                refine r_cvW (as := []) (st := []) C X I_X7_day l_X7_295 (c_X7_day B9) (by decide) (Nat.le_of_ble_eq_true rfl) (pfx_eq k9) rfl rfl (Nat.le_of_ble_eq_true rfl) rfl (dx dX7_trust 62 rfl) ?_
                rintro _ ⟨x5, rfl⟩
                refine r_aload_n C (dx dX7_trust 63 rfl) rfl ?_
                refine r_cvW (as := []) (st := [vl x5]) C X I_X7_day l_X7_295 (c_X7_day M9.1) (by decide) (Nat.le_of_ble_eq_true rfl) (pfx_eq k9) rfl rfl (Nat.le_of_ble_eq_true rfl) rfl (dx dX7_trust 64 rfl) ?_
                rintro _ ⟨x6, rfl⟩
                refine r_lsub C (dx dX7_trust 65 rfl) ?_
                exact F.2.1 _ _ _ _ rfl (dx dX7_trust 66 rfl) k9 ⟨⟨_, rfl⟩, M9, lo9, x9⟩)
          · first
            | (omega; done)
        ·
          intro p hp ih h9 w9 M9 B9 s9 lo9 x9 eb9 k9
          obtain ⟨sa9, sb9, sc9⟩ := s9
          have hl9 : b + 32 ≤ (xK h9).length := by rw [k9, ← kF]; exact hlF
          refine r_iload C (dx dX7_trust 23 rfl) rfl ?_
          refine r_aload_n C (dx dX7_trust 24 rfl) rfl ?_
          refine g_X7_64 (x := nI (vP v)) C (dx dX7_trust 25 rfl) M9.1.eP ?_
          refine rn_ge (a := p) (b := vP v) (tgt := 114) C (by omega) (by omega) (dx dX7_trust 26 rfl) (by decide) (fun c11 => ?_) (fun c11 => ?_)
          · first
            | (omega; done)
            | (
                have c11 : vP v ≤ p := c11
                refine r_aload_n C (dx dX7_trust 61 rfl) rfl ?_
                refine r_cvW (as := []) (st := []) C X I_X7_day l_X7_295 (c_X7_day B9) (by decide) (Nat.le_of_ble_eq_true rfl) (pfx_eq k9) rfl rfl (Nat.le_of_ble_eq_true rfl) rfl (dx dX7_trust 62 rfl) ?_
                rintro _ ⟨x12, rfl⟩
                refine r_aload_n C (dx dX7_trust 63 rfl) rfl ?_
                refine r_cvW (as := []) (st := [vl x12]) C X I_X7_day l_X7_295 (c_X7_day M9.1) (by decide) (Nat.le_of_ble_eq_true rfl) (pfx_eq k9) rfl rfl (Nat.le_of_ble_eq_true rfl) rfl (dx dX7_trust 64 rfl) ?_
                rintro _ ⟨x13, rfl⟩
                refine r_lsub C (dx dX7_trust 65 rfl) ?_
                exact F.2.1 _ _ _ _ rfl (dx dX7_trust 66 rfl) k9 ⟨⟨_, rfl⟩, M9, lo9, x9⟩)
          · first
            | (omega; done)
            | (
                have c11 : p < vP v := c11
                refine r_aload_n C (dx dX7_trust 27 rfl) rfl ?_
                refine g_X7_40 C (dx dX7_trust 28 rfl) ?_
                refine r_iload C (dx dX7_trust 29 rfl) rfl ?_
                refine r_aload_n C (dx dX7_trust 30 rfl) rfl ?_
                refine g_X7_40 C (dx dX7_trust 31 rfl) ?_
                refine r_iload C (dx dX7_trust 32 rfl) rfl ?_
                refine r_iald (j := p) (x := vF v 0 p) C rfl rfl (by decide) rfl (by omega) (dx dX7_trust 33 rfl) (M9.1.e0 (by omega)) ?_
                refine r_iload_n C (dx dX7_trust 34 rfl) rfl ?_
                refine r_icmp_ne (tgt := 71) C (dx dX7_trust 35 rfl) (by decide) (fun c14 => ?_) (fun c14 => ?_)
                ·
                  have c14 : ¬ vF v 0 p = o1 := c14
                  refine r_aload_n C (dx dX7_trust 38 rfl) rfl ?_
                  refine g_X7_40 C (dx dX7_trust 39 rfl) ?_
                  refine r_iload C (dx dX7_trust 40 rfl) rfl ?_
                  refine r_iald (j := p) (x := vF v 0 p) C rfl rfl (by decide) rfl (by omega) (dx dX7_trust 41 rfl) (M9.1.e0 (by omega)) ?_
                  refine r_iast (j := p) C rfl rfl (by decide) rfl (by omega) (dx dX7_trust 42 rfl) ?_
                  obtain ⟨wh15, Bh15, sh15⟩ : ∃ w99, MilAt (sI h9 (b + 18) p (vF v 0 p)) b w99 ∧ Sz w9 w99 := ⟨vset w9 0 p (vF v 0 p), B9.s0, ⟨rfl, rfl, rfl⟩⟩
                  have qh15 : Kp b h9 (sI h9 (b + 18) p (vF v 0 p)) := Kp.c (by omega) (by omega)
                  have xh15 : XT (sI h9 (b + 18) p (vF v 0 p)) k κ ω Bt := x9.tk M9 hb eb9 qh15
                  have Mh15 := M9.tk (b := b) hb hl9 Bh15 qh15 (show xK (sI h9 (b + 18) p (vF v 0 p)) = xK h9 from rfl)
                  have loh15 : Lo k h (sI h9 (b + 18) p (vF v 0 p)) := lo9.tr (Lo.fr (Fr.vc qh15) (by omega))
                  have ebh15 : xN (sI h9 (b + 18) p (vF v 0 p)) k 22 = b + 1 := by rw [((Fr.vc qh15) k (by omega)).2.2]; exact eb9
                  have hlh15 : b + 32 ≤ (xK (sI h9 (b + 18) p (vF v 0 p))).length := by rw [show xK (sI h9 (b + 18) p (vF v 0 p)) = xK h9 from rfl]; exact hl9
                  have kh15 : xK (sI h9 (b + 18) p (vF v 0 p)) = AL P κ true := (show xK (sI h9 (b + 18) p (vF v 0 p)) = xK h9 from rfl).trans k9
                  generalize sI h9 (b + 18) p (vF v 0 p) = h15 at Bh15 qh15 Mh15 loh15 ebh15 hlh15 kh15 xh15 ⊢
                  obtain ⟨sah15, sbh15, sch15⟩ := sh15
                  refine r_aload_n C (dx dX7_trust 43 rfl) rfl ?_
                  refine g_X7_43 C (dx dX7_trust 44 rfl) ?_
                  refine r_iload C (dx dX7_trust 45 rfl) rfl ?_
                  refine r_aload_n C (dx dX7_trust 46 rfl) rfl ?_
                  refine g_X7_43 C (dx dX7_trust 47 rfl) ?_
                  refine r_iload C (dx dX7_trust 48 rfl) rfl ?_
                  refine r_iald (j := p) (x := vF v 1 p) C rfl rfl (by decide) rfl (by omega) (dx dX7_trust 49 rfl) (Mh15.1.e1 (by omega)) ?_
                  refine r_iload_n C (dx dX7_trust 50 rfl) rfl ?_
                  refine r_icmp_ne (tgt := 100) C (dx dX7_trust 51 rfl) (by decide) (fun c16 => ?_) (fun c16 => ?_)
                  ·
                    have c16 : ¬ vF v 1 p = o1 := c16
                    refine r_aload_n C (dx dX7_trust 54 rfl) rfl ?_
                    refine g_X7_43 C (dx dX7_trust 55 rfl) ?_
                    refine r_iload C (dx dX7_trust 56 rfl) rfl ?_
                    refine r_iald (j := p) (x := vF v 1 p) C rfl rfl (by decide) rfl (by omega) (dx dX7_trust 57 rfl) (Mh15.1.e1 (by omega)) ?_
                    refine r_iast (j := p) C rfl rfl (by decide) rfl (by omega) (dx dX7_trust 58 rfl) ?_
                    obtain ⟨wh17, Bh17, sh17⟩ : ∃ w99, MilAt (sI h15 (b + 19) p (vF v 1 p)) b w99 ∧ Sz wh15 w99 := ⟨vset wh15 1 p (vF v 1 p), Bh15.s1, ⟨rfl, rfl, rfl⟩⟩
                    have qh17 : Kp b h15 (sI h15 (b + 19) p (vF v 1 p)) := Kp.c (by omega) (by omega)
                    have xh17 : XT (sI h15 (b + 19) p (vF v 1 p)) k κ ω Bt := xh15.tk Mh15 hb ebh15 qh17
                    have Mh17 := Mh15.tk (b := b) hb hlh15 Bh17 qh17 (show xK (sI h15 (b + 19) p (vF v 1 p)) = xK h15 from rfl)
                    have loh17 : Lo k h (sI h15 (b + 19) p (vF v 1 p)) := loh15.tr (Lo.fr (Fr.vc qh17) (by omega))
                    have ebh17 : xN (sI h15 (b + 19) p (vF v 1 p)) k 22 = b + 1 := by rw [((Fr.vc qh17) k (by omega)).2.2]; exact ebh15
                    have hlh17 : b + 32 ≤ (xK (sI h15 (b + 19) p (vF v 1 p))).length := by rw [show xK (sI h15 (b + 19) p (vF v 1 p)) = xK h15 from rfl]; exact hlh15
                    have kh17 : xK (sI h15 (b + 19) p (vF v 1 p)) = AL P κ true := (show xK (sI h15 (b + 19) p (vF v 1 p)) = xK h15 from rfl).trans kh15
                    generalize sI h15 (b + 19) p (vF v 1 p) = h17 at Bh17 qh17 Mh17 loh17 ebh17 hlh17 kh17 xh17 ⊢
                    obtain ⟨sah17, sbh17, sch17⟩ := sh17
                    refine rn_iinc (a := p) (k := 1) (ls' := [(0, vr 7 k), (1, vi o1), (2, vi o2), (3, vr 7 b), (4, vi (nI (p + 1)))]) C (dx dX7_trust 59 rfl) rfl rfl (by decide) [1, 2, 3, 4, 0] rfl ?_
                    refine r_goto (tgt := 41) C (dx dX7_trust 60 rfl) (by decide) ?_
                    exact ih _ _ Mh17 Bh17 ⟨by omega, by omega, by omega⟩ loh17 xh17 ebh17 kh17
                  ·
                    have c16 : vF v 1 p = o1 := c16
                    refine r_iload_n C (dx dX7_trust 52 rfl) rfl ?_
                    refine r_goto (tgt := 107) C (dx dX7_trust 53 rfl) (by decide) ?_
                    refine r_iast (j := p) C rfl rfl (by decide) rfl (by omega) (dx dX7_trust 58 rfl) ?_
                    obtain ⟨wh18, Bh18, sh18⟩ : ∃ w99, MilAt (sI h15 (b + 19) p o2) b w99 ∧ Sz wh15 w99 := ⟨vset wh15 1 p o2, Bh15.s1, ⟨rfl, rfl, rfl⟩⟩
                    have qh18 : Kp b h15 (sI h15 (b + 19) p o2) := Kp.c (by omega) (by omega)
                    have xh18 : XT (sI h15 (b + 19) p o2) k κ ω Bt := xh15.tk Mh15 hb ebh15 qh18
                    have Mh18 := Mh15.tk (b := b) hb hlh15 Bh18 qh18 (show xK (sI h15 (b + 19) p o2) = xK h15 from rfl)
                    have loh18 : Lo k h (sI h15 (b + 19) p o2) := loh15.tr (Lo.fr (Fr.vc qh18) (by omega))
                    have ebh18 : xN (sI h15 (b + 19) p o2) k 22 = b + 1 := by rw [((Fr.vc qh18) k (by omega)).2.2]; exact ebh15
                    have hlh18 : b + 32 ≤ (xK (sI h15 (b + 19) p o2)).length := by rw [show xK (sI h15 (b + 19) p o2) = xK h15 from rfl]; exact hlh15
                    have kh18 : xK (sI h15 (b + 19) p o2) = AL P κ true := (show xK (sI h15 (b + 19) p o2) = xK h15 from rfl).trans kh15
                    generalize sI h15 (b + 19) p o2 = h18 at Bh18 qh18 Mh18 loh18 ebh18 hlh18 kh18 xh18 ⊢
                    obtain ⟨sah18, sbh18, sch18⟩ := sh18
                    refine rn_iinc (a := p) (k := 1) (ls' := [(0, vr 7 k), (1, vi o1), (2, vi o2), (3, vr 7 b), (4, vi (nI (p + 1)))]) C (dx dX7_trust 59 rfl) rfl rfl (by decide) [1, 2, 3, 4, 0] rfl ?_
                    refine r_goto (tgt := 41) C (dx dX7_trust 60 rfl) (by decide) ?_
                    exact ih _ _ Mh18 Bh18 ⟨by omega, by omega, by omega⟩ loh18 xh18 ebh18 kh18
                ·
                  have c14 : vF v 0 p = o1 := c14
                  refine r_iload_n C (dx dX7_trust 36 rfl) rfl ?_
                  refine r_goto (tgt := 78) C (dx dX7_trust 37 rfl) (by decide) ?_
                  refine r_iast (j := p) C rfl rfl (by decide) rfl (by omega) (dx dX7_trust 42 rfl) ?_
                  obtain ⟨wh19, Bh19, sh19⟩ : ∃ w99, MilAt (sI h9 (b + 18) p o2) b w99 ∧ Sz w9 w99 := ⟨vset w9 0 p o2, B9.s0, ⟨rfl, rfl, rfl⟩⟩
                  have qh19 : Kp b h9 (sI h9 (b + 18) p o2) := Kp.c (by omega) (by omega)
                  have xh19 : XT (sI h9 (b + 18) p o2) k κ ω Bt := x9.tk M9 hb eb9 qh19
                  have Mh19 := M9.tk (b := b) hb hl9 Bh19 qh19 (show xK (sI h9 (b + 18) p o2) = xK h9 from rfl)
                  have loh19 : Lo k h (sI h9 (b + 18) p o2) := lo9.tr (Lo.fr (Fr.vc qh19) (by omega))
                  have ebh19 : xN (sI h9 (b + 18) p o2) k 22 = b + 1 := by rw [((Fr.vc qh19) k (by omega)).2.2]; exact eb9
                  have hlh19 : b + 32 ≤ (xK (sI h9 (b + 18) p o2)).length := by rw [show xK (sI h9 (b + 18) p o2) = xK h9 from rfl]; exact hl9
                  have kh19 : xK (sI h9 (b + 18) p o2) = AL P κ true := (show xK (sI h9 (b + 18) p o2) = xK h9 from rfl).trans k9
                  generalize sI h9 (b + 18) p o2 = h19 at Bh19 qh19 Mh19 loh19 ebh19 hlh19 kh19 xh19 ⊢
                  obtain ⟨sah19, sbh19, sch19⟩ := sh19
                  refine r_aload_n C (dx dX7_trust 43 rfl) rfl ?_
                  refine g_X7_43 C (dx dX7_trust 44 rfl) ?_
                  refine r_iload C (dx dX7_trust 45 rfl) rfl ?_
                  refine r_aload_n C (dx dX7_trust 46 rfl) rfl ?_
                  refine g_X7_43 C (dx dX7_trust 47 rfl) ?_
                  refine r_iload C (dx dX7_trust 48 rfl) rfl ?_
                  refine r_iald (j := p) (x := vF v 1 p) C rfl rfl (by decide) rfl (by omega) (dx dX7_trust 49 rfl) (Mh19.1.e1 (by omega)) ?_
                  refine r_iload_n C (dx dX7_trust 50 rfl) rfl ?_
                  refine r_icmp_ne (tgt := 100) C (dx dX7_trust 51 rfl) (by decide) (fun c20 => ?_) (fun c20 => ?_)
                  ·
                    have c20 : ¬ vF v 1 p = o1 := c20
                    refine r_aload_n C (dx dX7_trust 54 rfl) rfl ?_
                    refine g_X7_43 C (dx dX7_trust 55 rfl) ?_
                    refine r_iload C (dx dX7_trust 56 rfl) rfl ?_
                    refine r_iald (j := p) (x := vF v 1 p) C rfl rfl (by decide) rfl (by omega) (dx dX7_trust 57 rfl) (Mh19.1.e1 (by omega)) ?_
                    refine r_iast (j := p) C rfl rfl (by decide) rfl (by omega) (dx dX7_trust 58 rfl) ?_
                    obtain ⟨wh21, Bh21, sh21⟩ : ∃ w99, MilAt (sI h19 (b + 19) p (vF v 1 p)) b w99 ∧ Sz wh19 w99 := ⟨vset wh19 1 p (vF v 1 p), Bh19.s1, ⟨rfl, rfl, rfl⟩⟩
                    have qh21 : Kp b h19 (sI h19 (b + 19) p (vF v 1 p)) := Kp.c (by omega) (by omega)
                    have xh21 : XT (sI h19 (b + 19) p (vF v 1 p)) k κ ω Bt := xh19.tk Mh19 hb ebh19 qh21
                    have Mh21 := Mh19.tk (b := b) hb hlh19 Bh21 qh21 (show xK (sI h19 (b + 19) p (vF v 1 p)) = xK h19 from rfl)
                    have loh21 : Lo k h (sI h19 (b + 19) p (vF v 1 p)) := loh19.tr (Lo.fr (Fr.vc qh21) (by omega))
                    have ebh21 : xN (sI h19 (b + 19) p (vF v 1 p)) k 22 = b + 1 := by rw [((Fr.vc qh21) k (by omega)).2.2]; exact ebh19
                    have hlh21 : b + 32 ≤ (xK (sI h19 (b + 19) p (vF v 1 p))).length := by rw [show xK (sI h19 (b + 19) p (vF v 1 p)) = xK h19 from rfl]; exact hlh19
                    have kh21 : xK (sI h19 (b + 19) p (vF v 1 p)) = AL P κ true := (show xK (sI h19 (b + 19) p (vF v 1 p)) = xK h19 from rfl).trans kh19
                    generalize sI h19 (b + 19) p (vF v 1 p) = h21 at Bh21 qh21 Mh21 loh21 ebh21 hlh21 kh21 xh21 ⊢
                    obtain ⟨sah21, sbh21, sch21⟩ := sh21
                    refine rn_iinc (a := p) (k := 1) (ls' := [(0, vr 7 k), (1, vi o1), (2, vi o2), (3, vr 7 b), (4, vi (nI (p + 1)))]) C (dx dX7_trust 59 rfl) rfl rfl (by decide) [1, 2, 3, 4, 0] rfl ?_
                    refine r_goto (tgt := 41) C (dx dX7_trust 60 rfl) (by decide) ?_
                    exact ih _ _ Mh21 Bh21 ⟨by omega, by omega, by omega⟩ loh21 xh21 ebh21 kh21
                  ·
                    have c20 : vF v 1 p = o1 := c20
                    refine r_iload_n C (dx dX7_trust 52 rfl) rfl ?_
                    refine r_goto (tgt := 107) C (dx dX7_trust 53 rfl) (by decide) ?_
                    refine r_iast (j := p) C rfl rfl (by decide) rfl (by omega) (dx dX7_trust 58 rfl) ?_
                    obtain ⟨wh22, Bh22, sh22⟩ : ∃ w99, MilAt (sI h19 (b + 19) p o2) b w99 ∧ Sz wh19 w99 := ⟨vset wh19 1 p o2, Bh19.s1, ⟨rfl, rfl, rfl⟩⟩
                    have qh22 : Kp b h19 (sI h19 (b + 19) p o2) := Kp.c (by omega) (by omega)
                    have xh22 : XT (sI h19 (b + 19) p o2) k κ ω Bt := xh19.tk Mh19 hb ebh19 qh22
                    have Mh22 := Mh19.tk (b := b) hb hlh19 Bh22 qh22 (show xK (sI h19 (b + 19) p o2) = xK h19 from rfl)
                    have loh22 : Lo k h (sI h19 (b + 19) p o2) := loh19.tr (Lo.fr (Fr.vc qh22) (by omega))
                    have ebh22 : xN (sI h19 (b + 19) p o2) k 22 = b + 1 := by rw [((Fr.vc qh22) k (by omega)).2.2]; exact ebh19
                    have hlh22 : b + 32 ≤ (xK (sI h19 (b + 19) p o2)).length := by rw [show xK (sI h19 (b + 19) p o2) = xK h19 from rfl]; exact hlh19
                    have kh22 : xK (sI h19 (b + 19) p o2) = AL P κ true := (show xK (sI h19 (b + 19) p o2) = xK h19 from rfl).trans kh19
                    generalize sI h19 (b + 19) p o2 = h22 at Bh22 qh22 Mh22 loh22 ebh22 hlh22 kh22 xh22 ⊢
                    obtain ⟨sah22, sbh22, sch22⟩ := sh22
                    refine rn_iinc (a := p) (k := 1) (ls' := [(0, vr 7 k), (1, vi o1), (2, vi o2), (3, vr 7 b), (4, vi (nI (p + 1)))]) C (dx dX7_trust 59 rfl) rfl rfl (by decide) [1, 2, 3, 4, 0] rfl ?_
                    refine r_goto (tgt := 41) C (dx dX7_trust 60 rfl) (by decide) ?_
                    exact ih _ _ Mh22 Bh22 ⟨by omega, by omega, by omega⟩ loh22 xh22 ebh22 kh22)
      ·
        have c3 : o1 = o2 := c3
        exact absurd c3 q3
set_option maxHeartbeats 4000000 in
theorem x_try0 {l : Launch} {h : Hp} {P : List Nat} {k z b j : Nat} {v w : Vg} {g : Sg} {κ : Bool} {ω : Vg} {Bt : Nat → Int32} (M : Md h P k v g z κ true) (x0 : XT h k κ ω Bt) (B : MilAt h b w) (hb : b = k + 32 ∨ b = k + 64) (hl : b + 32 ≤ (xK h).length) (eb : xN h k 22 = b + 1) (s0 : Sz v w) (h4 : vN v ≤ 4) (h6 : vP v ≤ 6) (e : vP v = j) : Ms l yX7_tryFrom cX7_tryFrom 6 none (8 + 0) [vr 7 k, vr 7 b, vi (nI j)] h (xK h) (fun r h' => r = none ∧ (∃ w', Md h' P k v g z κ true ∧ MilAt h' b w' ∧ Sz v w') ∧ xN h' k 22 = b + 1 ∧ Lo k h h' ∧ XT h' k κ ω Bt) := by
  refine Ms.of (by decide) (Nat.le_of_ble_eq_true rfl) (fun G C X F => ?_)
  have C : Cx G cX7_tryFrom 6 RX7 := C
  show Rr G 0 [(0, vr 7 k), (1, vr 7 b), (2, vi (nI j))] [] h
  have hm := M.1
  have hk7 := M.hk
  have bP := hm.bP
  have bM := hm.bM
  have bN := hm.bN
  obtain ⟨sa0, sb0, sc0⟩ := s0
  refine r_iload_n C (dx dX7_tryFrom 0 rfl) rfl ?_
  refine r_aload_n C (dx dX7_tryFrom 1 rfl) rfl ?_
  refine g_X7_64 (x := nI (vP v)) C (dx dX7_tryFrom 2 rfl) hm.eP ?_
  refine rn_ne (a := j) (b := vP v) (tgt := 60) C (by omega) (by omega) (dx dX7_tryFrom 3 rfl) (by decide) (fun c1 => ?_) (fun c1 => ?_)
  · first
    | (omega; done)
  · first
    | (omega; done)
    | (
        have c1 : j = vP v := c1
        refine r_aload_n C (dx dX7_tryFrom 4 rfl) rfl ?_
        refine r_cvW (as := []) (st := []) C X I_X7_day l_X7_295 (c_X7_day B) (by omega) (Nat.le_of_ble_eq_true rfl) (pfx_eq rfl) rfl rfl (Nat.le_of_ble_eq_true rfl) rfl (dx dX7_tryFrom 5 rfl) ?_
        rintro _ ⟨x2, rfl⟩
        refine r_lstore_n (ls' := [(0, vr 7 k), (1, vr 7 b), (2, vi (nI j)), (3, vl x2)]) C (dx dX7_tryFrom 6 rfl) (by decide) [1, 2, 3, 0] rfl ?_
        refine r_lload_n C (dx dX7_tryFrom 7 rfl) rfl ?_
        refine r_aload_n C (dx dX7_tryFrom 8 rfl) rfl ?_
        refine g_X7_302 C (dx dX7_tryFrom 9 rfl) rfl ?_
        refine r_lcmp C (dx dX7_tryFrom 10 rfl) ?_
        refine r_if_le (tgt := 59) C (dx dX7_tryFrom 11 rfl) (by decide) (fun c3 => ?_) (fun c3 => ?_)
        ·
          have c3 : x2 ≤ xL h k 31 := (lg_cmp_le _ _).mp c3
          exact F.2.2.1 _ _ _ rfl (dx dX7_tryFrom 31 rfl) rfl ⟨rfl, ⟨_, M, B, ⟨by omega, by omega, by omega⟩⟩, eb, Lo.rf, x0⟩
        ·
          have c3 : ¬ (x2 ≤ xL h k 31) := fun q => c3 ((lg_cmp_le _ _).mpr q)
          refine r_aload_n C (dx dX7_tryFrom 12 rfl) rfl ?_
          refine r_lload_n C (dx dX7_tryFrom 13 rfl) rfl ?_
          refine p_X7_302 C (dx dX7_tryFrom 14 rfl) ?_
          have qh4 : Kp k h (sL h k 31 x2) := Kp.fL
          have Mh4 : Md (sL h k 31 x2) P k v g z κ true := M.kp (hm.fL) qh4 rfl
          have xh4 : XT (sL h k 31 x2) k κ ω Bt := x0.kp M qh4
          have Bh4 := B.fr (Fr.vc qh4) (by omega)
          have loh4 : Lo k h (sL h k 31 x2) := Lo.rf.tr (Lo.fr (Fr.vc qh4) (Nat.le_refl _))
          have ebh4 : xN (sL h k 31 x2) k 22 = b + 1 := by rw [qh4.2.1]; exact eb
          have hlh4 : b + 32 ≤ (xK (sL h k 31 x2)).length := hl
          have kh4 : xK (sL h k 31 x2) = xK h := rfl
          generalize sL h k 31 x2 = h4 at Bh4 qh4 Mh4 loh4 ebh4 hlh4 kh4 xh4 ⊢
          refine r_iconst (v := nI 0) C (dx dX7_tryFrom 15 rfl) rfl ?_
          refine r_istore (ls' := [(0, vr 7 k), (1, vr 7 b), (2, vi (nI j)), (3, vl x2), (5, vi (nI 0))]) C (dx dX7_tryFrom 16 rfl) (by decide) [1, 2, 3, 4, 0] rfl ?_
          refine loopU (Φ := fun p => ∀ h9, Md h9 P k v g z κ true → MilAt h9 b w → xN h9 k 22 = b + 1 → Lo k h h9 → XT h9 k κ ω Bt → xK h9 = xK h → Rr G 30 [(0, vr 7 k), (1, vr 7 b), (2, vi (nI j)), (3, vl x2), (5, vi (nI p))] [] h9) (N := vP v) ?_ ?_ 0 (Nat.zero_le _) _ Mh4 Bh4 ebh4 loh4 xh4 kh4
          ·
            intro h9 M9 B9 eb9 lo9 x9 k9
            have hl9 : b + 32 ≤ (xK h9).length := by rw [k9]; exact hl
            refine r_iload C (dx dX7_tryFrom 17 rfl) rfl ?_
            refine r_aload_n C (dx dX7_tryFrom 18 rfl) rfl ?_
            refine g_X7_64 (x := nI (vP v)) C (dx dX7_tryFrom 19 rfl) M9.1.eP ?_
            refine rn_ge (a := vP v) (b := vP v) (tgt := 59) C (by omega) (by omega) (dx dX7_tryFrom 20 rfl) (by decide) (fun c5 => ?_) (fun c5 => ?_)
            · first
              | (omega; done)
              | (
                  have c5 : vP v ≤ vP v := c5
                  exact F.2.2.1 _ _ _ rfl (dx dX7_tryFrom 31 rfl) k9 ⟨rfl, ⟨_, M9, B9, ⟨by omega, by omega, by omega⟩⟩, eb9, lo9, x9⟩)
            · first
              | (omega; done)
          ·
            intro p hp ih h9 M9 B9 eb9 lo9 x9 k9
            have hl9 : b + 32 ≤ (xK h9).length := by rw [k9]; exact hl
            refine r_iload C (dx dX7_tryFrom 17 rfl) rfl ?_
            refine r_aload_n C (dx dX7_tryFrom 18 rfl) rfl ?_
            refine g_X7_64 (x := nI (vP v)) C (dx dX7_tryFrom 19 rfl) M9.1.eP ?_
            refine rn_ge (a := p) (b := vP v) (tgt := 59) C (by omega) (by omega) (dx dX7_tryFrom 20 rfl) (by decide) (fun c7 => ?_) (fun c7 => ?_)
            · first
              | (omega; done)
              | (
                  have c7 : vP v ≤ p := c7
                  exact F.2.2.1 _ _ _ rfl (dx dX7_tryFrom 31 rfl) k9 ⟨rfl, ⟨_, M9, B9, ⟨by omega, by omega, by omega⟩⟩, eb9, lo9, x9⟩)
            · first
              | (omega; done)
              | (
                  have c7 : p < vP v := c7
                  refine r_aload_n C (dx dX7_tryFrom 21 rfl) rfl ?_
                  refine g_X7_61 C (dx dX7_tryFrom 22 rfl) ?_
                  refine r_iload C (dx dX7_tryFrom 23 rfl) rfl ?_
                  refine r_aload_n C (dx dX7_tryFrom 24 rfl) rfl ?_
                  refine g_X7_40 C (dx dX7_tryFrom 25 rfl) ?_
                  refine r_iload C (dx dX7_tryFrom 26 rfl) rfl ?_
                  refine r_iald (j := p) (x := vF w 0 p) C rfl rfl (by decide) rfl (by omega) (dx dX7_tryFrom 27 rfl) (B9.e0 (by omega)) ?_
                  refine r_iast (j := p) C rfl rfl (by decide) rfl (by omega) (dx dX7_tryFrom 28 rfl) ?_
                  have qh8 : Kp k h9 (sI h9 (k + 31) p (vF w 0 p)) := Kp.c (by omega) (by omega)
                  have Mh8 : Md (sI h9 (k + 31) p (vF w 0 p)) P k v g z κ true := M9.kp (M9.1.fr (Fr.sI (lo := k + 31) (hi := k + 32) (by omega) (by omega)) (by omega)) qh8 rfl
                  have xh8 : XT (sI h9 (k + 31) p (vF w 0 p)) k κ ω Bt := x9.kp M9 qh8
                  have Bh8 := B9.fr (Fr.vc qh8) (by omega)
                  have loh8 : Lo k h (sI h9 (k + 31) p (vF w 0 p)) := lo9.tr (Lo.fr (Fr.vc qh8) (Nat.le_refl _))
                  have ebh8 : xN (sI h9 (k + 31) p (vF w 0 p)) k 22 = b + 1 := by rw [qh8.2.1]; exact eb9
                  have hlh8 : b + 32 ≤ (xK (sI h9 (k + 31) p (vF w 0 p))).length := hl9
                  have kh8 : xK (sI h9 (k + 31) p (vF w 0 p)) = xK h := k9
                  generalize sI h9 (k + 31) p (vF w 0 p) = h8 at Bh8 qh8 Mh8 loh8 ebh8 hlh8 kh8 xh8 ⊢
                  refine rn_iinc (a := p) (k := 1) (ls' := [(0, vr 7 k), (1, vr 7 b), (2, vi (nI j)), (3, vl x2), (5, vi (nI (p + 1)))]) C (dx dX7_tryFrom 29 rfl) rfl rfl (by decide) [1, 2, 3, 4, 0] rfl ?_
                  refine r_goto (tgt := 30) C (dx dX7_tryFrom 30 rfl) (by decide) ?_
                  exact ih _ Mh8 Bh8 ebh8 loh8 xh8 kh8))
set_option maxHeartbeats 4000000 in
theorem x_tryS {l : Launch} {h : Hp} {P : List Nat} {k z b j : Nat} {v w : Vg} {g : Sg} {κ : Bool} {ω : Vg} {Bt : Nat → Int32} (M : Md h P k v g z κ true) (x0 : XT h k κ ω Bt) (B : MilAt h b w) (hb : b = k + 32 ∨ b = k + 64) (hl : b + 32 ≤ (xK h).length) (eb : xN h k 22 = b + 1) (s0 : Sz v w) (h4 : vN v ≤ 4) (h6 : vP v ≤ 6) {n : Nat} (ih : ∀ {h : Hp} {v w : Vg} (M : Md h P k v g z κ true) (x0 : XT h k κ ω Bt) (B : MilAt h b w) (hb : b = k + 32 ∨ b = k + 64) (hl : b + 32 ≤ (xK h).length) (eb : xN h k 22 = b + 1) (s0 : Sz v w) (h4 : vN v ≤ 4) (h6 : vP v ≤ 6) {j : Nat} (e : vP v = j + n), Ms l yX7_tryFrom cX7_tryFrom 6 none (8 + n) [vr 7 k, vr 7 b, vi (nI j)] h (xK h) (fun r h' => r = none ∧ (∃ w', Md h' P k v g z κ true ∧ MilAt h' b w' ∧ Sz v w') ∧ xN h' k 22 = b + 1 ∧ Lo k h h' ∧ XT h' k κ ω Bt)) (e : vP v = j + (n + 1)) : Ms l yX7_tryFrom cX7_tryFrom 6 none (8 + (n + 1)) [vr 7 k, vr 7 b, vi (nI j)] h (xK h) (fun r h' => r = none ∧ (∃ w', Md h' P k v g z κ true ∧ MilAt h' b w' ∧ Sz v w') ∧ xN h' k 22 = b + 1 ∧ Lo k h h' ∧ XT h' k κ ω Bt) := by
  refine Ms.of (by decide) (Nat.le_of_ble_eq_true rfl) (fun G C X F => ?_)
  have C : Cx G cX7_tryFrom 6 RX7 := C
  show Rr G 0 [(0, vr 7 k), (1, vr 7 b), (2, vi (nI j))] [] h
  have hm := M.1
  have hk7 := M.hk
  have bP := hm.bP
  have bM := hm.bM
  have bN := hm.bN
  obtain ⟨sa0, sb0, sc0⟩ := s0
  refine r_iload_n C (dx dX7_tryFrom 0 rfl) rfl ?_
  refine r_aload_n C (dx dX7_tryFrom 1 rfl) rfl ?_
  refine g_X7_64 (x := nI (vP v)) C (dx dX7_tryFrom 2 rfl) hm.eP ?_
  refine rn_ne (a := j) (b := vP v) (tgt := 60) C (by omega) (by omega) (dx dX7_tryFrom 3 rfl) (by decide) (fun c1 => ?_) (fun c1 => ?_)
  · first
    | (omega; done)
    | (
        have c1 : ¬ j = vP v := c1
        refine r_iconst (v := -1) C (dx dX7_tryFrom 32 rfl) rfl ?_
        refine r_istore_n (ls' := [(0, vr 7 k), (1, vr 7 b), (2, vi (nI j)), (3, vi (-1))]) C (dx dX7_tryFrom 33 rfl) (by decide) [1, 2, 3, 0] rfl ?_
        refine r_iload_n C (dx dX7_tryFrom 34 rfl) rfl ?_
        refine r_aload_n C (dx dX7_tryFrom 35 rfl) rfl ?_
        refine g_X7_74 (x := nI (vN v)) C (dx dX7_tryFrom 36 rfl) hm.eN ?_
        refine r_icmp_ge (tgt := 111) C (dx dX7_tryFrom 37 rfl) (by decide) (fun c2 => ?_) (fun c2 => ?_)
        ·
          have c2 : nI (vN v) ≤ -1 := c2
          exact absurd c2 (ge_nm1 (by omega))
        ·
          have c2 : ¬ nI (vN v) ≤ -1 := c2
          refine r_aload_n C (dx dX7_tryFrom 38 rfl) rfl ?_
          refine g_X7_40 C (dx dX7_tryFrom 39 rfl) ?_
          refine r_iload_n C (dx dX7_tryFrom 40 rfl) rfl ?_
          refine r_iconst (v := -1) C (dx dX7_tryFrom 41 rfl) rfl ?_
          refine r_iast (j := j) C rfl rfl (by decide) rfl (by omega) (dx dX7_tryFrom 42 rfl) ?_
          obtain ⟨wh3, Bh3, sh3⟩ : ∃ w99, MilAt (sI h (b + 18) j (-1)) b w99 ∧ Sz w w99 := ⟨vset w 0 j (-1), B.s0, ⟨rfl, rfl, rfl⟩⟩
          have qh3 : Kp b h (sI h (b + 18) j (-1)) := Kp.c (by omega) (by omega)
          have xh3 : XT (sI h (b + 18) j (-1)) k κ ω Bt := x0.tk M hb eb qh3
          have Mh3 := M.tk (b := b) hb hl Bh3 qh3 (show xK (sI h (b + 18) j (-1)) = xK h from rfl)
          have loh3 : Lo k h (sI h (b + 18) j (-1)) := Lo.rf.tr (Lo.fr (Fr.vc qh3) (by omega))
          have ebh3 : xN (sI h (b + 18) j (-1)) k 22 = b + 1 := by rw [((Fr.vc qh3) k (by omega)).2.2]; exact eb
          have hlh3 : b + 32 ≤ (xK (sI h (b + 18) j (-1))).length := by rw [show xK (sI h (b + 18) j (-1)) = xK h from rfl]; exact hl
          have kh3 : xK (sI h (b + 18) j (-1)) = xK h := (show xK (sI h (b + 18) j (-1)) = xK h from rfl).trans rfl
          generalize sI h (b + 18) j (-1) = h3 at Bh3 qh3 Mh3 loh3 ebh3 hlh3 kh3 xh3 ⊢
          obtain ⟨sah3, sbh3, sch3⟩ := sh3
          refine r_iload_n C (dx dX7_tryFrom 43 rfl) rfl ?_
          refine r_iconst (v := -1) C (dx dX7_tryFrom 44 rfl) rfl ?_
          refine r_icmp_eq (tgt := 90) C (dx dX7_tryFrom 45 rfl) (by decide) (fun c4 => ?_) (fun c4 => ?_)
          ·
            have c4 : (-1 : Int32) = -1 := c4
            refine r_aload_n C (dx dX7_tryFrom 50 rfl) rfl ?_
            refine g_X7_40 C (dx dX7_tryFrom 51 rfl) ?_
            refine r_iload_n C (dx dX7_tryFrom 52 rfl) rfl ?_
            refine r_iload_n C (dx dX7_tryFrom 53 rfl) rfl ?_
            refine r_iast (j := j) C rfl rfl (by decide) rfl (by omega) (dx dX7_tryFrom 54 rfl) ?_
            obtain ⟨wh5, Bh5, sh5⟩ : ∃ w99, MilAt (sI h3 (b + 18) j (-1)) b w99 ∧ Sz wh3 w99 := ⟨vset wh3 0 j (-1), Bh3.s0, ⟨rfl, rfl, rfl⟩⟩
            have qh5 : Kp b h3 (sI h3 (b + 18) j (-1)) := Kp.c (by omega) (by omega)
            have xh5 : XT (sI h3 (b + 18) j (-1)) k κ ω Bt := xh3.tk Mh3 hb ebh3 qh5
            have Mh5 := Mh3.tk (b := b) hb hlh3 Bh5 qh5 (show xK (sI h3 (b + 18) j (-1)) = xK h3 from rfl)
            have loh5 : Lo k h (sI h3 (b + 18) j (-1)) := loh3.tr (Lo.fr (Fr.vc qh5) (by omega))
            have ebh5 : xN (sI h3 (b + 18) j (-1)) k 22 = b + 1 := by rw [((Fr.vc qh5) k (by omega)).2.2]; exact ebh3
            have hlh5 : b + 32 ≤ (xK (sI h3 (b + 18) j (-1))).length := by rw [show xK (sI h3 (b + 18) j (-1)) = xK h3 from rfl]; exact hlh3
            have kh5 : xK (sI h3 (b + 18) j (-1)) = xK h := (show xK (sI h3 (b + 18) j (-1)) = xK h3 from rfl).trans kh3
            generalize sI h3 (b + 18) j (-1) = h5 at Bh5 qh5 Mh5 loh5 ebh5 hlh5 kh5 xh5 ⊢
            obtain ⟨sah5, sbh5, sch5⟩ := sh5
            refine r_aload_n C (dx dX7_tryFrom 55 rfl) rfl ?_
            refine r_aload_n C (dx dX7_tryFrom 56 rfl) rfl ?_
            refine r_iload_n C (dx dX7_tryFrom 57 rfl) rfl ?_
            refine r_iconst (v := nI 1) C (dx dX7_tryFrom 58 rfl) rfl ?_
            refine rn_iadd (a := j) (b := 1) C (dx dX7_tryFrom 59 rfl) ?_
            refine r_cv (as := [vr 7 b, vi (nI (j + 1))]) (st := []) C X I_X7_tryFrom l_X7_305 (ih Mh5 xh5 Bh5 hb hlh5 ebh5 ⟨by omega, by omega, by omega⟩ (by omega) (by omega) (j := j + 1) (by omega)) (by omega) (Nat.le_of_ble_eq_true rfl) List.prefix_rfl (pfx_eq kh5) rfl rfl (Nat.le_of_ble_eq_true rfl) rfl (dx dX7_tryFrom 60 rfl) ?_
            rintro _ h6 ⟨rfl, ⟨wh6, Mh6, Bh6, uh6⟩, ebh6, loh69, xh6⟩ kkh6
            have loh6 : Lo k h h6 := Lo.tr loh5 loh69
            have kh6 : xK h6 = xK h := kkh6.trans kh5
            have hlh6 : b + 32 ≤ (xK h6).length := by rw [kh6]; exact hl
            obtain ⟨uah6, ubh6, uch6⟩ := uh6
            refine r_iinc (ls' := [(0, vr 7 k), (1, vr 7 b), (2, vi (nI j)), (3, vi (-1 + (1)))]) C (dx dX7_tryFrom 61 rfl) rfl rfl (by decide) [1, 2, 3, 0] rfl ?_
            refine r_goto (tgt := 62) C (dx dX7_tryFrom 62 rfl) (by decide) ?_
            rw [show (-1 : Int32) + 1 = nI 0 by decide]
            refine loopU (Φ := fun p => ∀ h9 w9, Md h9 P k v g z κ true → MilAt h9 b w9 → Sz v w9 → xN h9 k 22 = b + 1 → Lo k h h9 → XT h9 k κ ω Bt → xK h9 = xK h → Rr G 62 [(0, vr 7 k), (1, vr 7 b), (2, vi (nI j)), (3, vi (nI p))] [] h9) (N := vN v) ?_ ?_ 0 (Nat.zero_le _) _ _ Mh6 Bh6 ⟨by omega, by omega, by omega⟩ ebh6 loh6 xh6 kh6
            ·
              intro h9 w9 M9 B9 u9 eb9 lo9 x9 k9
              obtain ⟨ua9, ub9, uc9⟩ := u9
              have hl9 : b + 32 ≤ (xK h9).length := by rw [k9]; exact hl
              refine r_iload_n C (dx dX7_tryFrom 34 rfl) rfl ?_
              refine r_aload_n C (dx dX7_tryFrom 35 rfl) rfl ?_
              refine g_X7_74 (x := nI (vN v)) C (dx dX7_tryFrom 36 rfl) M9.1.eN ?_
              refine rn_ge (a := vN v) (b := vN v) (tgt := 111) C (by omega) (by omega) (dx dX7_tryFrom 37 rfl) (by decide) (fun c7 => ?_) (fun c7 => ?_)
              · first
                | (omega; done)
                | (
                    have c7 : vN v ≤ vN v := c7
                    refine r_aload_n C (dx dX7_tryFrom 63 rfl) rfl ?_
                    refine g_X7_40 C (dx dX7_tryFrom 64 rfl) ?_
                    refine r_iload_n C (dx dX7_tryFrom 65 rfl) rfl ?_
                    refine r_iconst (v := -1) C (dx dX7_tryFrom 66 rfl) rfl ?_
                    refine r_iast (j := j) C rfl rfl (by decide) rfl (by omega) (dx dX7_tryFrom 67 rfl) ?_
                    obtain ⟨wh8, Bh8, sh8⟩ : ∃ w99, MilAt (sI h9 (b + 18) j (-1)) b w99 ∧ Sz w9 w99 := ⟨vset w9 0 j (-1), B9.s0, ⟨rfl, rfl, rfl⟩⟩
                    have qh8 : Kp b h9 (sI h9 (b + 18) j (-1)) := Kp.c (by omega) (by omega)
                    have xh8 : XT (sI h9 (b + 18) j (-1)) k κ ω Bt := x9.tk M9 hb eb9 qh8
                    have Mh8 := M9.tk (b := b) hb hl9 Bh8 qh8 (show xK (sI h9 (b + 18) j (-1)) = xK h9 from rfl)
                    have loh8 : Lo k h (sI h9 (b + 18) j (-1)) := lo9.tr (Lo.fr (Fr.vc qh8) (by omega))
                    have ebh8 : xN (sI h9 (b + 18) j (-1)) k 22 = b + 1 := by rw [((Fr.vc qh8) k (by omega)).2.2]; exact eb9
                    have hlh8 : b + 32 ≤ (xK (sI h9 (b + 18) j (-1))).length := by rw [show xK (sI h9 (b + 18) j (-1)) = xK h9 from rfl]; exact hl9
                    have kh8 : xK (sI h9 (b + 18) j (-1)) = xK h := (show xK (sI h9 (b + 18) j (-1)) = xK h9 from rfl).trans k9
                    generalize sI h9 (b + 18) j (-1) = h8 at Bh8 qh8 Mh8 loh8 ebh8 hlh8 kh8 xh8 ⊢
                    obtain ⟨sah8, sbh8, sch8⟩ := sh8
                    exact F.2.2.1 _ _ _ rfl (dx dX7_tryFrom 68 rfl) kh8 ⟨rfl, ⟨_, Mh8, Bh8, ⟨by omega, by omega, by omega⟩⟩, ebh8, loh8, xh8⟩)
              · first
                | (omega; done)
            ·
              intro p hp ihp h9 w9 M9 B9 u9 eb9 lo9 x9 k9
              obtain ⟨ua9, ub9, uc9⟩ := u9
              have hl9 : b + 32 ≤ (xK h9).length := by rw [k9]; exact hl
              refine r_iload_n C (dx dX7_tryFrom 34 rfl) rfl ?_
              refine r_aload_n C (dx dX7_tryFrom 35 rfl) rfl ?_
              refine g_X7_74 (x := nI (vN v)) C (dx dX7_tryFrom 36 rfl) M9.1.eN ?_
              refine rn_ge (a := p) (b := vN v) (tgt := 111) C (by omega) (by omega) (dx dX7_tryFrom 37 rfl) (by decide) (fun c13 => ?_) (fun c13 => ?_)
              · first
                | (omega; done)
                | (
                    have c13 : vN v ≤ p := c13
                    refine r_aload_n C (dx dX7_tryFrom 63 rfl) rfl ?_
                    refine g_X7_40 C (dx dX7_tryFrom 64 rfl) ?_
                    refine r_iload_n C (dx dX7_tryFrom 65 rfl) rfl ?_
                    refine r_iconst (v := -1) C (dx dX7_tryFrom 66 rfl) rfl ?_
                    refine r_iast (j := j) C rfl rfl (by decide) rfl (by omega) (dx dX7_tryFrom 67 rfl) ?_
                    obtain ⟨wh14, Bh14, sh14⟩ : ∃ w99, MilAt (sI h9 (b + 18) j (-1)) b w99 ∧ Sz w9 w99 := ⟨vset w9 0 j (-1), B9.s0, ⟨rfl, rfl, rfl⟩⟩
                    have qh14 : Kp b h9 (sI h9 (b + 18) j (-1)) := Kp.c (by omega) (by omega)
                    have xh14 : XT (sI h9 (b + 18) j (-1)) k κ ω Bt := x9.tk M9 hb eb9 qh14
                    have Mh14 := M9.tk (b := b) hb hl9 Bh14 qh14 (show xK (sI h9 (b + 18) j (-1)) = xK h9 from rfl)
                    have loh14 : Lo k h (sI h9 (b + 18) j (-1)) := lo9.tr (Lo.fr (Fr.vc qh14) (by omega))
                    have ebh14 : xN (sI h9 (b + 18) j (-1)) k 22 = b + 1 := by rw [((Fr.vc qh14) k (by omega)).2.2]; exact eb9
                    have hlh14 : b + 32 ≤ (xK (sI h9 (b + 18) j (-1))).length := by rw [show xK (sI h9 (b + 18) j (-1)) = xK h9 from rfl]; exact hl9
                    have kh14 : xK (sI h9 (b + 18) j (-1)) = xK h := (show xK (sI h9 (b + 18) j (-1)) = xK h9 from rfl).trans k9
                    generalize sI h9 (b + 18) j (-1) = h14 at Bh14 qh14 Mh14 loh14 ebh14 hlh14 kh14 xh14 ⊢
                    obtain ⟨sah14, sbh14, sch14⟩ := sh14
                    exact F.2.2.1 _ _ _ rfl (dx dX7_tryFrom 68 rfl) kh14 ⟨rfl, ⟨_, Mh14, Bh14, ⟨by omega, by omega, by omega⟩⟩, ebh14, loh14, xh14⟩)
              · first
                | (omega; done)
                | (
                    have c13 : p < vN v := c13
                    refine r_aload_n C (dx dX7_tryFrom 38 rfl) rfl ?_
                    refine g_X7_40 C (dx dX7_tryFrom 39 rfl) ?_
                    refine r_iload_n C (dx dX7_tryFrom 40 rfl) rfl ?_
                    refine r_iconst (v := -1) C (dx dX7_tryFrom 41 rfl) rfl ?_
                    refine r_iast (j := j) C rfl rfl (by decide) rfl (by omega) (dx dX7_tryFrom 42 rfl) ?_
                    obtain ⟨wh15, Bh15, sh15⟩ : ∃ w99, MilAt (sI h9 (b + 18) j (-1)) b w99 ∧ Sz w9 w99 := ⟨vset w9 0 j (-1), B9.s0, ⟨rfl, rfl, rfl⟩⟩
                    have qh15 : Kp b h9 (sI h9 (b + 18) j (-1)) := Kp.c (by omega) (by omega)
                    have xh15 : XT (sI h9 (b + 18) j (-1)) k κ ω Bt := x9.tk M9 hb eb9 qh15
                    have Mh15 := M9.tk (b := b) hb hl9 Bh15 qh15 (show xK (sI h9 (b + 18) j (-1)) = xK h9 from rfl)
                    have loh15 : Lo k h (sI h9 (b + 18) j (-1)) := lo9.tr (Lo.fr (Fr.vc qh15) (by omega))
                    have ebh15 : xN (sI h9 (b + 18) j (-1)) k 22 = b + 1 := by rw [((Fr.vc qh15) k (by omega)).2.2]; exact eb9
                    have hlh15 : b + 32 ≤ (xK (sI h9 (b + 18) j (-1))).length := by rw [show xK (sI h9 (b + 18) j (-1)) = xK h9 from rfl]; exact hl9
                    have kh15 : xK (sI h9 (b + 18) j (-1)) = xK h := (show xK (sI h9 (b + 18) j (-1)) = xK h9 from rfl).trans k9
                    generalize sI h9 (b + 18) j (-1) = h15 at Bh15 qh15 Mh15 loh15 ebh15 hlh15 kh15 xh15 ⊢
                    obtain ⟨sah15, sbh15, sch15⟩ := sh15
                    refine r_iload_n C (dx dX7_tryFrom 43 rfl) rfl ?_
                    refine r_iconst (v := -1) C (dx dX7_tryFrom 44 rfl) rfl ?_
                    refine r_icmp_eq (tgt := 90) C (dx dX7_tryFrom 45 rfl) (by decide) (fun c16 => ?_) (fun c16 => ?_)
                    ·
                      have c16 : nI p = -1 := c16
                      exact absurd c16 (nI_nm1 (by omega))
                    ·
                      have c16 : ¬ nI p = -1 := c16
                      refine r_aload_n C (dx dX7_tryFrom 46 rfl) rfl ?_
                      refine r_iload_n C (dx dX7_tryFrom 47 rfl) rfl ?_
                      refine r_cvW (as := [vi (nI p)]) (st := []) C X I_X7_hasRoom l_X7_135 (c_X7_hasRoom Bh15 (j := p) (by omega)) (by omega) (Nat.le_of_ble_eq_true rfl) (pfx_eq kh15) rfl rfl (Nat.le_of_ble_eq_true rfl) rfl (dx dX7_tryFrom 48 rfl) ?_
                      rintro _ ⟨x17, rfl⟩
                      refine rb_eq (b := x17) (tgt := 105) C (dx dX7_tryFrom 49 rfl) (by decide) (fun c18 => ?_) (fun c18 => ?_)
                      ·
                        have c18 : x17 = false := c18
                        refine rn_iinc (a := p) (k := 1) (ls' := [(0, vr 7 k), (1, vr 7 b), (2, vi (nI j)), (3, vi (nI (p + 1)))]) C (dx dX7_tryFrom 61 rfl) rfl rfl (by decide) [1, 2, 3, 0] rfl ?_
                        refine r_goto (tgt := 62) C (dx dX7_tryFrom 62 rfl) (by decide) ?_
                        exact ihp _ _ Mh15 Bh15 ⟨by omega, by omega, by omega⟩ ebh15 loh15 xh15 kh15
                      ·
                        have c18 : x17 = true := c18
                        refine r_aload_n C (dx dX7_tryFrom 50 rfl) rfl ?_
                        refine g_X7_40 C (dx dX7_tryFrom 51 rfl) ?_
                        refine r_iload_n C (dx dX7_tryFrom 52 rfl) rfl ?_
                        refine r_iload_n C (dx dX7_tryFrom 53 rfl) rfl ?_
                        refine r_iast (j := j) C rfl rfl (by decide) rfl (by omega) (dx dX7_tryFrom 54 rfl) ?_
                        obtain ⟨wh19, Bh19, sh19⟩ : ∃ w99, MilAt (sI h15 (b + 18) j (nI p)) b w99 ∧ Sz wh15 w99 := ⟨vset wh15 0 j (nI p), Bh15.s0, ⟨rfl, rfl, rfl⟩⟩
                        have qh19 : Kp b h15 (sI h15 (b + 18) j (nI p)) := Kp.c (by omega) (by omega)
                        have xh19 : XT (sI h15 (b + 18) j (nI p)) k κ ω Bt := xh15.tk Mh15 hb ebh15 qh19
                        have Mh19 := Mh15.tk (b := b) hb hlh15 Bh19 qh19 (show xK (sI h15 (b + 18) j (nI p)) = xK h15 from rfl)
                        have loh19 : Lo k h (sI h15 (b + 18) j (nI p)) := loh15.tr (Lo.fr (Fr.vc qh19) (by omega))
                        have ebh19 : xN (sI h15 (b + 18) j (nI p)) k 22 = b + 1 := by rw [((Fr.vc qh19) k (by omega)).2.2]; exact ebh15
                        have hlh19 : b + 32 ≤ (xK (sI h15 (b + 18) j (nI p))).length := by rw [show xK (sI h15 (b + 18) j (nI p)) = xK h15 from rfl]; exact hlh15
                        have kh19 : xK (sI h15 (b + 18) j (nI p)) = xK h := (show xK (sI h15 (b + 18) j (nI p)) = xK h15 from rfl).trans kh15
                        generalize sI h15 (b + 18) j (nI p) = h19 at Bh19 qh19 Mh19 loh19 ebh19 hlh19 kh19 xh19 ⊢
                        obtain ⟨sah19, sbh19, sch19⟩ := sh19
                        refine r_aload_n C (dx dX7_tryFrom 55 rfl) rfl ?_
                        refine r_aload_n C (dx dX7_tryFrom 56 rfl) rfl ?_
                        refine r_iload_n C (dx dX7_tryFrom 57 rfl) rfl ?_
                        refine r_iconst (v := nI 1) C (dx dX7_tryFrom 58 rfl) rfl ?_
                        refine rn_iadd (a := j) (b := 1) C (dx dX7_tryFrom 59 rfl) ?_
                        refine r_cv (as := [vr 7 b, vi (nI (j + 1))]) (st := []) C X I_X7_tryFrom l_X7_305 (ih Mh19 xh19 Bh19 hb hlh19 ebh19 ⟨by omega, by omega, by omega⟩ (by omega) (by omega) (j := j + 1) (by omega)) (by omega) (Nat.le_of_ble_eq_true rfl) List.prefix_rfl (pfx_eq kh19) rfl rfl (Nat.le_of_ble_eq_true rfl) rfl (dx dX7_tryFrom 60 rfl) ?_
                        rintro _ h20 ⟨rfl, ⟨wh20, Mh20, Bh20, uh20⟩, ebh20, loh209, xh20⟩ kkh20
                        have loh20 : Lo k h h20 := Lo.tr loh19 loh209
                        have kh20 : xK h20 = xK h := kkh20.trans kh19
                        have hlh20 : b + 32 ≤ (xK h20).length := by rw [kh20]; exact hl
                        obtain ⟨uah20, ubh20, uch20⟩ := uh20
                        refine rn_iinc (a := p) (k := 1) (ls' := [(0, vr 7 k), (1, vr 7 b), (2, vi (nI j)), (3, vi (nI (p + 1)))]) C (dx dX7_tryFrom 61 rfl) rfl rfl (by decide) [1, 2, 3, 0] rfl ?_
                        refine r_goto (tgt := 62) C (dx dX7_tryFrom 62 rfl) (by decide) ?_
                        exact ihp _ _ Mh20 Bh20 ⟨by omega, by omega, by omega⟩ ebh20 loh20 xh20 kh20)
          ·
            have c4 : ¬ (-1 : Int32) = -1 := c4
            exact absurd rfl c4)
  · first
    | (omega; done)
theorem x_tryN {l : Launch} {P : List Nat} {k z b : Nat} {g : Sg} {κ : Bool} {ω : Vg} {Bt : Nat → Int32} : ∀ (n : Nat) {h : Hp} {v w : Vg} (M : Md h P k v g z κ true) (x0 : XT h k κ ω Bt) (B : MilAt h b w) (hb : b = k + 32 ∨ b = k + 64) (hl : b + 32 ≤ (xK h).length) (eb : xN h k 22 = b + 1) (s0 : Sz v w) (h4 : vN v ≤ 4) (h6 : vP v ≤ 6) {j : Nat} (e : vP v = j + n), Ms l yX7_tryFrom cX7_tryFrom 6 none (8 + n) [vr 7 k, vr 7 b, vi (nI j)] h (xK h) (fun r h' => r = none ∧ (∃ w', Md h' P k v g z κ true ∧ MilAt h' b w' ∧ Sz v w') ∧ xN h' k 22 = b + 1 ∧ Lo k h h' ∧ XT h' k κ ω Bt)
  | 0, _, _, _, M, x0, B, hb, hl, eb, s0, h4, h6, _, e => x_try0 M x0 B hb hl eb s0 h4 h6 e
  | n + 1, _, _, _, M, x0, B, hb, hl, eb, s0, h4, h6, _, e => x_tryS M x0 B hb hl eb s0 h4 h6 (fun M x0 B hb hl eb s0 h4 h6 => x_tryN n M x0 B hb hl eb s0 h4 h6) e
set_option maxHeartbeats 4000000 in
theorem x_X7_findBest_y {l : Launch} {h : Hp} {P : List Nat} {k z : Nat} {v : Vg} {g : Sg} {κ τ : Bool} {ω : Vg} {Bt : Nat → Int32} (M : Md h P k v g z κ τ) (x0 : XT h k κ ω Bt) (h4 : vN v ≤ 4) (h6 : vP v ≤ 6) : Ms l yX7_findBest cX7_findBest 3 (some .boolean) 16 [vr 7 k] h (AL P κ true) (fun r h' => r = some (vi (b2i true)) ∧ Md h' P k v g z κ true ∧ Lo k h h' ∧ XT h' k κ ω Bt) := by
  refine Ms.of (by decide) (Nat.le_of_ble_eq_true rfl) (fun G C X F => ?_)
  have C : Cx G cX7_findBest 3 RX7 := C
  show Rr G 0 [(0, vr 7 k)] [] h
  have hm := M.1
  have hs := M.2.1
  have al := M.al
  have hk7 := M.hk
  have bP := hm.bP
  have bM := hm.bM
  have bN := hm.bN
  refine r_aload_n C (dx dX7_findBest 0 rfl) rfl ?_
  refine g_X7_74 (x := nI (vN v)) C (dx dX7_findBest 1 rfl) hm.eN ?_
  refine r_iconst (v := nI 4) C (dx dX7_findBest 2 rfl) rfl ?_
  refine rn_gt (a := vN v) (b := 4) (tgt := 17) C (by omega) (by omega) (dx dX7_findBest 3 rfl) (by decide) (fun c1 => ?_) (fun c1 => ?_)
  · first
    | (omega; done)
    | (
        have c1 : 4 < vN v := c1
        refine r_iconst (v := nI 0) C (dx dX7_findBest 8 rfl) rfl ?_
        exact F.1 _ _ _ _ .boolean rfl rfl (dx dX7_findBest 9 rfl) None ⟨rfl, M, Lo.rf, x0⟩)
  · first
    | (omega; done)
    | (
        have c1 : vN v ≤ 4 := c1
        refine r_aload_n C (dx dX7_findBest 4 rfl) rfl ?_
        refine g_X7_64 (x := nI (vP v)) C (dx dX7_findBest 5 rfl) hm.eP ?_
        refine r_bipush (v := nI 6) C (dx dX7_findBest 6 rfl) rfl ?_
        refine rn_le (a := vP v) (b := 6) (tgt := 19) C (by omega) (by omega) (dx dX7_findBest 7 rfl) (by decide) (fun c2 => ?_) (fun c2 => ?_)
        · first
          | (omega; done)
          | (
              have c2 : vP v ≤ 6 := c2
              refine r_aload_n C (dx dX7_findBest 10 rfl) rfl ?_
              refine r_cv (as := []) (st := []) C X I_X7_fresh l_X7_102 (e_fresh M x0) (by decide) (Nat.le_of_ble_eq_true rfl) (by rw [M.al]; exact AL_pre id (fun _ => rfl)) (by first | exact List.prefix_rfl | (rw [al]; exact AL_pre id (fun _ => rfl))) rfl rfl (Nat.le_of_ble_eq_true rfl) rfl (dx dX7_findBest 11 rfl) ?_
              rintro _ hF ⟨b, rfl, ebF, BF, MF, hb, hlF, loF, xF⟩ kF
              refine r_astore_n (ls' := [(0, vr 7 k), (1, vr 7 b)]) C (dx dX7_findBest 12 rfl) (by decide) [1, 0] rfl ?_
              refine r_iconst (v := nI 0) C (dx dX7_findBest 13 rfl) rfl ?_
              refine r_istore_n (ls' := [(0, vr 7 k), (1, vr 7 b), (2, vi (nI 0))]) C (dx dX7_findBest 14 rfl) (by decide) [1, 2, 0] rfl ?_
              refine loopU (Φ := fun p => ∀ h9 w9, Md h9 P k v g z κ true → MilAt h9 b w9 → Sz v w9 → Lo k h h9 → XT h9 k κ ω Bt → xN h9 k 22 = b + 1 → xK h9 = AL P κ true → Rr G 26 [(0, vr 7 k), (1, vr 7 b), (2, vi (nI p))] [] h9) (N := vP v) ?_ ?_ 0 (Nat.zero_le _) _ _ MF BF ⟨rfl, rfl, rfl⟩ loF xF ebF kF
              ·
                intro h9 w9 M9 B9 s9 lo9 x9 eb9 k9
                obtain ⟨sa9, sb9, sc9⟩ := s9
                have hl9 : b + 32 ≤ (xK h9).length := by rw [k9, ← kF]; exact hlF
                refine r_iload_n C (dx dX7_findBest 15 rfl) rfl ?_
                refine r_aload_n C (dx dX7_findBest 16 rfl) rfl ?_
                refine g_X7_64 (x := nI (vP v)) C (dx dX7_findBest 17 rfl) M9.1.eP ?_
                refine rn_ge (a := vP v) (b := vP v) (tgt := 54) C (by omega) (by omega) (dx dX7_findBest 18 rfl) (by decide) (fun c3 => ?_) (fun c3 => ?_)
                · first
                  | (omega; done)
                  | (
                      have c3 : vP v ≤ vP v := c3
                      refine r_aload_n C (dx dX7_findBest 31 rfl) rfl ?_
                      refine r_ldc2 C n_X7_309 (dx dX7_findBest 32 rfl) ?_
                      refine p_X7_302 C (dx dX7_findBest 33 rfl) ?_
                      have qh4 : Kp k h9 (sL h9 k 31 (-1)) := Kp.fL
                      have Mh4 : Md (sL h9 k 31 (-1)) P k v g z κ true := M9.kp (M9.1.fL) qh4 rfl
                      have xh4 : XT (sL h9 k 31 (-1)) k κ ω Bt := x9.kp M9 qh4
                      have Bh4 := B9.fr (Fr.vc qh4) (by omega)
                      have loh4 : Lo k h (sL h9 k 31 (-1)) := lo9.tr (Lo.fr (Fr.vc qh4) (Nat.le_refl _))
                      have ebh4 : xN (sL h9 k 31 (-1)) k 22 = b + 1 := by rw [qh4.2.1]; exact eb9
                      have hlh4 : b + 32 ≤ (xK (sL h9 k 31 (-1))).length := hl9
                      have kh4 : xK (sL h9 k 31 (-1)) = AL P κ true := k9
                      generalize sL h9 k 31 (-1) = h4 at Bh4 qh4 Mh4 loh4 ebh4 hlh4 kh4 xh4 ⊢
                      refine r_aload_n C (dx dX7_findBest 34 rfl) rfl ?_
                      refine r_aload_n C (dx dX7_findBest 35 rfl) rfl ?_
                      refine r_iconst (v := nI 0) C (dx dX7_findBest 36 rfl) rfl ?_
                      refine r_cv (as := [vr 7 b, vi (nI 0)]) (st := []) C X I_X7_tryFrom l_X7_305 (x_tryN (vP v) Mh4 xh4 Bh4 hb hlh4 ebh4 ⟨by omega, by omega, by omega⟩ (by omega) (by omega) (j := 0) (by omega)) (by omega) (Nat.le_of_ble_eq_true rfl) List.prefix_rfl (pfx_eq kh4) rfl rfl (Nat.le_of_ble_eq_true rfl) rfl (dx dX7_findBest 37 rfl) ?_
                      rintro _ h5 ⟨rfl, ⟨wh5, Mh5, Bh5, uh5⟩, ebh5, loh59, xh5⟩ kkh5
                      have loh5 : Lo k h h5 := Lo.tr loh4 loh59
                      have kh5 : xK h5 = AL P κ true := kkh5.trans kh4
                      obtain ⟨uah5, ubh5, uch5⟩ := uh5
                      refine r_iconst (v := nI 1) C (dx dX7_findBest 38 rfl) rfl ?_
                      exact F.1 _ _ _ _ .boolean rfl rfl (dx dX7_findBest 39 rfl) kh5 ⟨rfl, Mh5, loh5, xh5⟩)
                · first
                  | (omega; done)
              ·
                intro p hp ih h9 w9 M9 B9 s9 lo9 x9 eb9 k9
                obtain ⟨sa9, sb9, sc9⟩ := s9
                have hl9 : b + 32 ≤ (xK h9).length := by rw [k9, ← kF]; exact hlF
                refine r_iload_n C (dx dX7_findBest 15 rfl) rfl ?_
                refine r_aload_n C (dx dX7_findBest 16 rfl) rfl ?_
                refine g_X7_64 (x := nI (vP v)) C (dx dX7_findBest 17 rfl) M9.1.eP ?_
                refine rn_ge (a := p) (b := vP v) (tgt := 54) C (by omega) (by omega) (dx dX7_findBest 18 rfl) (by decide) (fun c8 => ?_) (fun c8 => ?_)
                · first
                  | (omega; done)
                  | (
                      have c8 : vP v ≤ p := c8
                      refine r_aload_n C (dx dX7_findBest 31 rfl) rfl ?_
                      refine r_ldc2 C n_X7_309 (dx dX7_findBest 32 rfl) ?_
                      refine p_X7_302 C (dx dX7_findBest 33 rfl) ?_
                      have qh9 : Kp k h9 (sL h9 k 31 (-1)) := Kp.fL
                      have Mh9 : Md (sL h9 k 31 (-1)) P k v g z κ true := M9.kp (M9.1.fL) qh9 rfl
                      have xh9 : XT (sL h9 k 31 (-1)) k κ ω Bt := x9.kp M9 qh9
                      have Bh9 := B9.fr (Fr.vc qh9) (by omega)
                      have loh9 : Lo k h (sL h9 k 31 (-1)) := lo9.tr (Lo.fr (Fr.vc qh9) (Nat.le_refl _))
                      have ebh9 : xN (sL h9 k 31 (-1)) k 22 = b + 1 := by rw [qh9.2.1]; exact eb9
                      have hlh9 : b + 32 ≤ (xK (sL h9 k 31 (-1))).length := hl9
                      have kh9 : xK (sL h9 k 31 (-1)) = AL P κ true := k9
                      generalize sL h9 k 31 (-1) = h9 at Bh9 qh9 Mh9 loh9 ebh9 hlh9 kh9 xh9 ⊢
                      refine r_aload_n C (dx dX7_findBest 34 rfl) rfl ?_
                      refine r_aload_n C (dx dX7_findBest 35 rfl) rfl ?_
                      refine r_iconst (v := nI 0) C (dx dX7_findBest 36 rfl) rfl ?_
                      refine r_cv (as := [vr 7 b, vi (nI 0)]) (st := []) C X I_X7_tryFrom l_X7_305 (x_tryN (vP v) Mh9 xh9 Bh9 hb hlh9 ebh9 ⟨by omega, by omega, by omega⟩ (by omega) (by omega) (j := 0) (by omega)) (by omega) (Nat.le_of_ble_eq_true rfl) List.prefix_rfl (pfx_eq kh9) rfl rfl (Nat.le_of_ble_eq_true rfl) rfl (dx dX7_findBest 37 rfl) ?_
                      rintro _ h10 ⟨rfl, ⟨wh10, Mh10, Bh10, uh10⟩, ebh10, loh109, xh10⟩ kkh10
                      have loh10 : Lo k h h10 := Lo.tr loh9 loh109
                      have kh10 : xK h10 = AL P κ true := kkh10.trans kh9
                      obtain ⟨uah10, ubh10, uch10⟩ := uh10
                      refine r_iconst (v := nI 1) C (dx dX7_findBest 38 rfl) rfl ?_
                      exact F.1 _ _ _ _ .boolean rfl rfl (dx dX7_findBest 39 rfl) kh10 ⟨rfl, Mh10, loh10, xh10⟩)
                · first
                  | (omega; done)
                  | (
                      have c8 : p < vP v := c8
                      refine r_aload_n C (dx dX7_findBest 19 rfl) rfl ?_
                      refine g_X7_40 C (dx dX7_findBest 20 rfl) ?_
                      refine r_iload_n C (dx dX7_findBest 21 rfl) rfl ?_
                      refine r_iconst (v := -1) C (dx dX7_findBest 22 rfl) rfl ?_
                      refine r_iast (j := p) C rfl rfl (by decide) rfl (by omega) (dx dX7_findBest 23 rfl) ?_
                      obtain ⟨wh11, Bh11, sh11⟩ : ∃ w99, MilAt (sI h9 (b + 18) p (-1)) b w99 ∧ Sz w9 w99 := ⟨vset w9 0 p (-1), B9.s0, ⟨rfl, rfl, rfl⟩⟩
                      have qh11 : Kp b h9 (sI h9 (b + 18) p (-1)) := Kp.c (by omega) (by omega)
                      have xh11 : XT (sI h9 (b + 18) p (-1)) k κ ω Bt := x9.tk M9 hb eb9 qh11
                      have Mh11 := M9.tk (b := b) hb hl9 Bh11 qh11 (show xK (sI h9 (b + 18) p (-1)) = xK h9 from rfl)
                      have loh11 : Lo k h (sI h9 (b + 18) p (-1)) := lo9.tr (Lo.fr (Fr.vc qh11) (by omega))
                      have ebh11 : xN (sI h9 (b + 18) p (-1)) k 22 = b + 1 := by rw [((Fr.vc qh11) k (by omega)).2.2]; exact eb9
                      have hlh11 : b + 32 ≤ (xK (sI h9 (b + 18) p (-1))).length := by rw [show xK (sI h9 (b + 18) p (-1)) = xK h9 from rfl]; exact hl9
                      have kh11 : xK (sI h9 (b + 18) p (-1)) = AL P κ true := (show xK (sI h9 (b + 18) p (-1)) = xK h9 from rfl).trans k9
                      generalize sI h9 (b + 18) p (-1) = h11 at Bh11 qh11 Mh11 loh11 ebh11 hlh11 kh11 xh11 ⊢
                      obtain ⟨sah11, sbh11, sch11⟩ := sh11
                      refine r_aload_n C (dx dX7_findBest 24 rfl) rfl ?_
                      refine g_X7_43 C (dx dX7_findBest 25 rfl) ?_
                      refine r_iload_n C (dx dX7_findBest 26 rfl) rfl ?_
                      refine r_iconst (v := -1) C (dx dX7_findBest 27 rfl) rfl ?_
                      refine r_iast (j := p) C rfl rfl (by decide) rfl (by omega) (dx dX7_findBest 28 rfl) ?_
                      obtain ⟨wh12, Bh12, sh12⟩ : ∃ w99, MilAt (sI h11 (b + 19) p (-1)) b w99 ∧ Sz wh11 w99 := ⟨vset wh11 1 p (-1), Bh11.s1, ⟨rfl, rfl, rfl⟩⟩
                      have qh12 : Kp b h11 (sI h11 (b + 19) p (-1)) := Kp.c (by omega) (by omega)
                      have xh12 : XT (sI h11 (b + 19) p (-1)) k κ ω Bt := xh11.tk Mh11 hb ebh11 qh12
                      have Mh12 := Mh11.tk (b := b) hb hlh11 Bh12 qh12 (show xK (sI h11 (b + 19) p (-1)) = xK h11 from rfl)
                      have loh12 : Lo k h (sI h11 (b + 19) p (-1)) := loh11.tr (Lo.fr (Fr.vc qh12) (by omega))
                      have ebh12 : xN (sI h11 (b + 19) p (-1)) k 22 = b + 1 := by rw [((Fr.vc qh12) k (by omega)).2.2]; exact ebh11
                      have hlh12 : b + 32 ≤ (xK (sI h11 (b + 19) p (-1))).length := by rw [show xK (sI h11 (b + 19) p (-1)) = xK h11 from rfl]; exact hlh11
                      have kh12 : xK (sI h11 (b + 19) p (-1)) = AL P κ true := (show xK (sI h11 (b + 19) p (-1)) = xK h11 from rfl).trans kh11
                      generalize sI h11 (b + 19) p (-1) = h12 at Bh12 qh12 Mh12 loh12 ebh12 hlh12 kh12 xh12 ⊢
                      obtain ⟨sah12, sbh12, sch12⟩ := sh12
                      refine rn_iinc (a := p) (k := 1) (ls' := [(0, vr 7 k), (1, vr 7 b), (2, vi (nI (p + 1)))]) C (dx dX7_findBest 29 rfl) rfl rfl (by decide) [1, 2, 0] rfl ?_
                      refine r_goto (tgt := 26) C (dx dX7_findBest 30 rfl) (by decide) ?_
                      exact ih _ _ Mh12 Bh12 ⟨by omega, by omega, by omega⟩ loh12 xh12 ebh12 kh12))
        · first
          | (omega; done)
          | (
              have c2 : 6 < vP v := c2
              refine r_iconst (v := nI 0) C (dx dX7_findBest 8 rfl) rfl ?_
              exact F.1 _ _ _ _ .boolean rfl rfl (dx dX7_findBest 9 rfl) None ⟨rfl, M, Lo.rf, x0⟩))
set_option maxHeartbeats 4000000 in
theorem x_X7_best_y {l : Launch} {h : Hp} {P : List Nat} {k z : Nat} {v : Vg} {g : Sg} {κ τ : Bool} {ω : Vg} {Bt : Nat → Int32} (M : Md h P k v g z κ τ) (x0 : XT h k κ ω Bt) {j : Nat} (hj : j < vP v) (h4 : vN v ≤ 4) (h6 : vP v ≤ 6) : Ms l yX7_best cX7_best 2 (some .int) 17 [vr 7 k, vi (nI j)] h (AL P κ true) (fun r h' => PI r ∧ Md h' P k v g z κ true ∧ Lo k h h' ∧ XT h' k κ ω Bt) := by
  refine Ms.of (by decide) (Nat.le_of_ble_eq_true rfl) (fun G C X F => ?_)
  have C : Cx G cX7_best 2 RX7 := C
  show Rr G 0 [(0, vr 7 k), (1, vi (nI j))] [] h
  have hm := M.1
  have hs := M.2.1
  have al := M.al
  have hk7 := M.hk
  have bP := hm.bP
  have bM := hm.bM
  have bN := hm.bN
  refine r_aload_n C (dx dX7_best 0 rfl) rfl ?_
  refine r_iload_n C (dx dX7_best 1 rfl) rfl ?_
  refine r_cvP (as := [vi (nI j)]) (st := []) (v := vi (b2i (inR (nI j) (vP v)))) C X I_X7_isPart l_X7_132 (c_X7_isPart hm _) (by decide) (Nat.le_of_ble_eq_true rfl) (by first | exact List.prefix_rfl | (rw [al]; exact AL_pre id (fun _ => rfl))) rfl rfl (Nat.le_of_ble_eq_true rfl) rfl (dx dX7_best 2 rfl) ?_
  refine rb_ne (b := inR (nI j) (vP v)) (tgt := 15) C (dx dX7_best 3 rfl) (by decide) (fun c1 => ?_) (fun c1 => ?_)
  ·
    have c1 : (inR (nI j) (vP v)) = true := c1
    refine r_aload_n C (dx dX7_best 8 rfl) rfl ?_
    refine r_cv (as := []) (st := []) C X I_X7_findBest l_X7_311 (x_X7_findBest_y M x0 h4 h6) (by decide) (Nat.le_of_ble_eq_true rfl) (by rw [M.al]; exact AL_pre id (fun _ => rfl)) (by first | exact List.prefix_rfl | (rw [al]; exact AL_pre id (fun _ => rfl))) rfl rfl (Nat.le_of_ble_eq_true rfl) rfl (dx dX7_best 9 rfl) ?_
    rintro _ hF ⟨rfl, MF, loF, xF⟩ kF
    refine rb_eq (b := true) (tgt := 31) C (dx dX7_best 10 rfl) (by decide) (fun c2 => ?_) (fun c2 => ?_)
    ·
      have c2 : true = false := c2
      exact absurd (rfl.symm.trans c2) (by decide)
    ·
      have c2 : true = true := c2
      refine r_aload_n C (dx dX7_best 11 rfl) rfl ?_
      refine g_X7_61 C (dx dX7_best 12 rfl) ?_
      refine r_iload_n C (dx dX7_best 13 rfl) rfl ?_
      refine r_iald (j := j) (x := xI hF (k + 31) j) C rfl rfl (by decide) rfl (by omega) (dx dX7_best 14 rfl) rfl ?_
      refine r_goto (tgt := 37) C (dx dX7_best 15 rfl) (by decide) ?_
      exact F.1 _ _ _ _ .int rfl rfl (dx dX7_best 19 rfl) kF ⟨⟨_, rfl⟩, MF, loF, xF⟩
  ·
    have c1 : (inR (nI j) (vP v)) = false := c1
    exact absurd ((inN (by omega) hj).symm.trans c1) (by decide)
