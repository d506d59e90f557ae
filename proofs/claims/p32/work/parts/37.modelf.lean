/-! PART 37: the reference: what tries a village on another model -/
theorem Ms.mono {l : Launch} {y : MethodName} {cc : ByteArray} {nL : Nat} {ret : Option FieldType} {d : Nat} {as : List V} {h : Hp} {al1 : List Nat} {post post' : Option V → Hp → Prop} (c : Ms l y cc nL ret d as h al1 post) (q : ∀ r h', post r h' → xK h' = al1 → post' r h') : Ms l y cc nL ret d as h al1 post' := fun D dA f sz p e ha hc hk s m args below hf happ hP hK => by
  obtain ⟨n, o, h1, h2, h3, ⟨⟨r, h', f', g1, g2, g3, g4⟩, hz⟩, L⟩ := c D dA f sz p e ha hc hk s m args below hf happ hP hK
  exact ⟨n, o, h1, h2, h3, ⟨⟨r, h', f', g1, q r h' g2 g3, g3, g4⟩, hz⟩, L⟩
/-- a call of the reference: its answer, its shelves, its tape, whether one is kept; a tried model may have come behind it -/
def MdF (l : Launch) (y : MethodName) (cc : ByteArray) (nL : Nat) (ret : Option FieldType) (d : Nat) (as : List V) (h : Hp) (P : List Nat) (k : Nat) (g : Sg) (z : Nat) (κ : Bool) (Q : Option V → Prop) : Prop :=
  ∃ τ, xK h <+: AL P κ τ ∧ Ms l y cc nL ret d as h (AL P κ τ) (fun r h' => Q r ∧ (∃ v', Md h' P k v' g z κ τ) ∧ Lo k h h')
section MF
variable {l : Launch} {y : MethodName} {cc : ByteArray} {nL : Nat} {ret : Option FieldType} {d : Nat} {as : List V} {h : Hp} {P : List Nat} {k z z' : Nat} {v : Vg} {g g' : Sg} {κ τ : Bool} {Q : Option V → Prop}
theorem Md.al (M : Md h P k v g z κ τ) : xK h = AL P κ τ := M.2.2.2.2.2.2.2.1
theorem Md.hk (M : Md h P k v g z κ τ) : k ≤ 700 := M.2.2.2.2.2.2.1
theorem Md.e8 (M : Md h P k v g z κ τ) : xI h k 8 = nI z := M.2.2.1
theorem Md.bz (M : Md h P k v g z κ τ) : z ≤ 250 := M.2.2.2.1
theorem MdF.kp (M : Md h P k v g z κ τ) (c : Ms l y cc nL ret d as h (xK h) (fun r h' => Q r ∧ (∃ v', MilAt h' k v') ∧ Kp k h h')) : MdF l y cc nL ret d as h P k g z κ Q :=
  ⟨τ, by rw [M.al]; exact List.prefix_rfl, by rw [← M.al]; exact c.mono (fun r h' ⟨q, ⟨v', m'⟩, kp⟩ e => ⟨q, ⟨v', M.kp m' kp e⟩, Lo.fr (Fr.vc kp) (Nat.le_refl _)⟩)⟩
theorem MdF.ks (M : Md h P k v g z κ τ) (c : Ms l y cc nL ret d as h (xK h) (fun r h' => Q r ∧ (∃ v', MilAt h' k v') ∧ MshAt h' k g' ∧ Ks k h h')) : MdF l y cc nL ret d as h P k g' z κ Q :=
  ⟨τ, by rw [M.al]; exact List.prefix_rfl, by rw [← M.al]; exact c.mono (fun r h' ⟨q, ⟨v', m'⟩, s, kp⟩ e => ⟨q, ⟨v', M.gen m' s (kp.1.trans M.e8) M.bz kp.2.1 kp.2.2 e⟩, Lo.fr kp.2.2 (Nat.le_refl _)⟩)⟩
theorem MdF.md (M : Md h P k v g z κ τ) (c : Ms l y cc nL ret d as h (AL P κ true) (fun r h' => Q r ∧ (∃ v', Md h' P k v' g' z' κ true) ∧ Lo k h h')) : MdF l y cc nL ret d as h P k g' z' κ Q :=
  ⟨true, by rw [M.al]; exact AL_pre id (fun _ => rfl), c⟩
theorem MdF.sm (M : Md h P k v g z κ τ) (c : Ms l y cc nL ret d as h (xK h) (fun r h' => Q r ∧ (∃ v', Md h' P k v' g' z' κ τ) ∧ Lo k h h')) : MdF l y cc nL ret d as h P k g' z' κ Q :=
  ⟨τ, by rw [M.al]; exact List.prefix_rfl, by rw [← M.al]; exact c⟩
end MF
/-- a shelf that holds a rule, in whatever cells -/
theorem MshAt.hold {h : Hp} {k : Nat} {g : Sg} {σ η β : Nat} (a : MshAt h k g) (hσ : σ < 8) (h1 : 1 ≤ η ∧ η ≤ 5) (hb : β < 100) (e : gT g σ = nI (10 + η)) (e2 : gY g σ = nI β) : xI h (k + 1) σ = nI 2 ∧ xI h (k + 14) σ = nI η ∧ xI h (k + 15) σ = nI β := by
  rcases a σ hσ with ⟨a1, a2⟩ | ⟨t, n, a1, a2, a3, a4, a5, a6, a7, a8⟩ | ⟨κ, b, a1, a2, a3, a4, a5, a6, a7, a8⟩
  · exact absurd (a2.symm.trans e) (fun q => nI_nm1 (by omega) q.symm)
  · have := (nI_eq (by omega) (by omega)).mp (a6.symm.trans e); omega
  · have e3 := (nI_eq (by omega) (by omega)).mp (a7.symm.trans e)
    have e4 := (nI_eq (by omega) (by omega)).mp (a8.symm.trans e2)
    have : κ = η := by omega
    subst this; subst e4
    exact ⟨a4, a5, a6⟩
theorem nh_hold {g : Sg} {σ η β : Nat} (hσ : σ < 8) (hη : η ≤ 5) (e : gT g σ = nI (10 + η)) (e2 : gY g σ = nI β) : nhA g (nI σ) = 0 := by
  unfold nhA; rw [if_pos (inN (by omega) hσ), (sh_hold hσ hη e e2).2.2.2.2.2.2.1]; rfl
theorem Md.z0 {h : Hp} {P : List Nat} {k z : Nat} {v : Vg} {g : Sg} {κ τ : Bool} (M : Md h P k v g z κ τ) : Md (sI h k 8 (nI 0)) P k v g 0 κ τ :=
  M.gen (M.1.f (by decide) (by decide) (by decide) (by decide)) (M.2.1.fr (Fr.sI (lo := k) (hi := k + 1) (by omega) (by omega)) (by omega)) (by rw [sI_at, if_pos rfl]) (by omega) rfl (Fr.sI (by omega) (by omega)) rfl
/-- feeding the tape -/
def Fk (h h9 : Hp) (k : Nat) (v : Vg) (g : Sg) (zz : Nat) : Prop := MilAt h9 k v ∧ MshAt h9 k g ∧ xI h9 k 8 = nI zz ∧ xN h9 k = xN h k ∧ Fr k (k + 32) h h9 ∧ xK h9 = xK h
theorem Fk.t {h h9 : Hp} {k j zz : Nat} {v : Vg} {g : Sg} {x : Int32} (a : Fk h h9 k v g zz) : Fk h (sI h9 (k + 16) j x) k v g zz := by
  have f : Fr (k + 16) (k + 17) h9 (sI h9 (k + 16) j x) := Fr.sI (by omega) (by omega)
  exact ⟨a.1.fr f (by omega), a.2.1.fr f (by omega), by rw [(f k (by omega)).1]; exact a.2.2.1, by rw [(f k (by omega)).2.2]; exact a.2.2.2.1, a.2.2.2.2.1.tr (f.mono (by omega) (by omega)), a.2.2.2.2.2⟩
theorem Fk.z {h h9 : Hp} {k zz z' : Nat} {v : Vg} {g : Sg} (a : Fk h h9 k v g zz) : Fk h (sI h9 k 8 (nI z')) k v g z' :=
  ⟨a.1.f (by decide) (by decide) (by decide) (by decide), a.2.1.fr (Fr.sI (lo := k) (hi := k + 1) (by omega) (by omega)) (by omega), by rw [sI_at, if_pos rfl], a.2.2.2.1, a.2.2.2.2.1.tr (Fr.sI (by omega) (by omega)), a.2.2.2.2.2⟩
theorem Fk.md {h h9 : Hp} {P : List Nat} {k z zz : Nat} {v v0 : Vg} {g : Sg} {κ τ : Bool} (a : Fk h h9 k v g zz) (M : Md h P k v0 g z κ τ) (hz : zz ≤ 250) : Md h9 P k v g zz κ τ :=
  M.gen a.1 a.2.1 a.2.2.1 hz a.2.2.2.1 a.2.2.2.2.1 a.2.2.2.2.2
theorem feed_no {z : Nat} {n : Int32} (h : btwB n 1 4 = false) : feedA z n = -2 ∧ feedZ z n = z := by
  unfold btwB at h
  unfold feedA feedZ
  by_cases a : n < nI 1
  · rw [if_pos a, if_pos a]; exact ⟨rfl, rfl⟩
  · rw [if_neg a, if_neg a]
    by_cases b : nI 4 < n
    · rw [if_pos b, if_pos b]; exact ⟨rfl, rfl⟩
    · simp [a, b] at h
theorem feed_in {z ν : Nat} (h1 : 1 ≤ ν) (h4 : ν ≤ 4) : feedA z (nI ν) = (if z + ν ≤ 250 then nI (z + ν) else -6) ∧ feedZ z (nI ν) = (if z + ν ≤ 250 then z + ν else z) := by
  unfold feedA feedZ
  have a : ¬ nI ν < nI 1 := fun q => by have := (nI_ltI (by omega) (by omega)).mp q; omega
  have b : ¬ nI 4 < nI ν := fun q => by have := (nI_ltI (by omega) (by omega)).mp q; omega
  rw [if_neg a, if_neg b, if_neg a, if_neg b, clN (by omega)]
  exact ⟨rfl, rfl⟩
theorem sfx {P : List Nat} {k : Nat} {h : Hp} (hb : xK h = P) : P = xK h := hb.symm
theorem ge_nm1 {n : Nat} (h : n < 2 ^ 31) : ¬ nI n ≤ (-1 : Int32) := fun q => by
  rw [Int32.le_iff_toInt_le, nI_toInt h] at q
  have : (-1 : Int32).toInt = -1 := by decide
  omega
set_option maxHeartbeats 4000000 in
theorem c_X7_wouldBy_y {l : Launch} {h : Hp} {P : List Nat} {k z : Nat} {v : Vg} {g : Sg} {κ τ : Bool} (M : Md h P k v g z κ τ) {σ η β : Nat} (hσ : σ < 8) (hη : 1 ≤ η ∧ η ≤ 5) (hβ : β < 100) (eT : gT g σ = nI (10 + η)) (eY : gY g σ = nI β) : Ms l yX7_wouldBy cX7_wouldBy 2 (some .long) 10 [vr 7 k, vi (nI σ)] h (AL P κ true) (fun r h' => PL r ∧ Md h' P k v g z κ true ∧ Lo k h h') := by
  refine Ms.of (by decide) (Nat.le_of_ble_eq_true rfl) (fun G C X F => ?_)
  have C : Cx G cX7_wouldBy 2 RX7 := C
  show Rr G 0 [(0, vr 7 k), (1, vi (nI σ))] [] h
  have hm := M.1
  have hs := M.2.1
  have al := M.al
  have hk7 := M.hk
  have bP := hm.bP
  have bM := hm.bM
  have bN := hm.bN
  obtain ⟨o1, o2, o3⟩ := hs.hold hσ hη hβ eT eY
  refine r_aload_n C (dx dX7_wouldBy 0 rfl) rfl ?_
  refine r_cv (as := []) (st := []) C X I_X7_fresh l_X7_102 (c_X7_fresh M) (by decide) (Nat.le_of_ble_eq_true rfl) (by rw [M.al]; exact AL_pre id (fun _ => rfl)) (by first | exact List.prefix_rfl | (rw [al]; exact AL_pre id (fun _ => rfl))) rfl rfl (Nat.le_of_ble_eq_true rfl) rfl (dx dX7_wouldBy 1 rfl) ?_
  rintro _ hF ⟨b, rfl, ebF, BF, MF, hb, hlF, loF⟩ kF
  obtain ⟨r1, r2, r3⟩ := MF.2.1.hold hσ hη hβ eT eY
  refine r_aload_n C (dx dX7_wouldBy 2 rfl) rfl ?_
  refine g_X7_28 C (dx dX7_wouldBy 3 rfl) ?_
  refine r_iload_n C (dx dX7_wouldBy 4 rfl) rfl ?_
  refine r_iald (j := σ) (x := nI η) C rfl rfl (by decide) rfl (by omega) (dx dX7_wouldBy 5 rfl) r2 ?_
  refine r_aload_n C (dx dX7_wouldBy 6 rfl) rfl ?_
  refine g_X7_31 C (dx dX7_wouldBy 7 rfl) ?_
  refine r_iload_n C (dx dX7_wouldBy 8 rfl) rfl ?_
  refine r_iald (j := σ) (x := nI β) C rfl rfl (by decide) rfl (by omega) (dx dX7_wouldBy 9 rfl) r3 ?_
  refine r_cv (as := [vi (nI η), vi (nI β)]) (st := []) C X I_X7_holdAll l_X7_106 (c_X7_holdAll BF (κ := η) (b := β) (by omega) (by omega)) (by decide) (Nat.le_of_ble_eq_true rfl) List.prefix_rfl (pfx_eq kF) rfl rfl (Nat.le_of_ble_eq_true rfl) rfl (dx dX7_wouldBy 10 rfl) ?_
  rintro _ h1 ⟨rfl, ⟨wh1, Bh1, sh1⟩, qh1⟩ kkh1
  have Mh1 := MF.tk (b := b) hb hlF Bh1 qh1 (show xK h1 = xK hF from kkh1)
  have loh1 : Lo k h h1 := loF.tr (Lo.fr (Fr.vc qh1) (by omega))
  have ebh1 : xN h1 k 22 = b + 1 := by rw [((Fr.vc qh1) k (by omega)).2.2]; exact ebF
  have hlh1 : b + 32 ≤ (xK h1).length := by rw [show xK h1 = xK hF from kkh1]; exact hlF
  have kh1 : xK h1 = AL P κ true := (show xK h1 = xK hF from kkh1).trans kF
  obtain ⟨sah1, sbh1, sch1⟩ := sh1
  refine r_aload_n C (dx dX7_wouldBy 11 rfl) rfl ?_
  refine r_getN (k := 7) (j := 22) (T := TX7) (N := 32) C rfl rfl rfl (by decide) f_X7_110 (dx dX7_wouldBy 12 rfl) ebh1 (Or.inr (by rw [Nat.add_sub_cancel]; exact Mh1.k7 (by omega) hlh1)) ?_
  refine r_some C ?_
  refine r_cvW (as := []) (st := []) C X I_X7_day l_X7_295 (c_X7_day Bh1) (by decide) (Nat.le_of_ble_eq_true rfl) (pfx_eq kh1) rfl rfl (Nat.le_of_ble_eq_true rfl) rfl (dx dX7_wouldBy 13 rfl) ?_
  rintro _ ⟨x2, rfl⟩
  exact F.2.1 _ _ _ _ rfl (dx dX7_wouldBy 14 rfl) kh1 ⟨⟨_, rfl⟩, Mh1, loh1⟩
set_option maxHeartbeats 4000000 in
theorem c_X7_says_y {l : Launch} {h : Hp} {P : List Nat} {k z : Nat} {v : Vg} {g : Sg} {κ τ : Bool} (M : Md h P k v g z κ τ) {σ η β : Nat} (hσ : σ < 8) (hη : 1 ≤ η ∧ η ≤ 5) (hβ : β < 100) (eT : gT g σ = nI (10 + η)) (eY : gY g σ = nI β) {x : Int32} (hq : inR x 6 = true) (hu : undV (nI η) x = true) (h0 : ¬ x = 0) : Ms l yX7_says cX7_says 3 (some .int) 10 [vr 7 k, vi (nI σ), vi x] h (AL P κ true) (fun r h' => PI r ∧ (∃ v', Md h' P k v' g z κ true) ∧ Lo k h h') := by
  refine Ms.of (by decide) (Nat.le_of_ble_eq_true rfl) (fun G C X F => ?_)
  have C : Cx G cX7_says 3 RX7 := C
  show Rr G 0 [(0, vr 7 k), (1, vi (nI σ)), (2, vi x)] [] h
  have hm := M.1
  have hs := M.2.1
  have al := M.al
  have hk7 := M.hk
  have bP := hm.bP
  have bM := hm.bM
  have bN := hm.bN
  obtain ⟨o1, o2, o3⟩ := hs.hold hσ hη hβ eT eY
  refine r_iload_n C (dx dX7_says 0 rfl) rfl ?_
  refine r_i2l C (dx dX7_says 1 rfl) ?_
  refine r_lconst (v := 0) C (dx dX7_says 2 rfl) rfl ?_
  refine r_ldc2 C n_X7_77 (dx dX7_says 3 rfl) ?_
  refine r_csP (as := [vl ((nI σ).toInt64), vl 0, vl 7]) (st := []) (v := vi (b2i (inR (nI σ) 8))) C X I_X7_in l_X7_67 (c_inR (b := 7) (by decide) (by decide)) (by decide) (Nat.le_of_ble_eq_true rfl) (by first | exact List.prefix_rfl | (rw [al]; exact AL_pre id (fun _ => rfl))) (Nat.le_of_ble_eq_true rfl) rfl (dx dX7_says 4 rfl) ?_
  refine rb_eq (b := inR (nI σ) 8) (tgt := 24) C (dx dX7_says 5 rfl) (by decide) (fun c1 => ?_) (fun c1 => ?_)
  ·
    have c1 : (inR (nI σ) 8) = false := c1
    exact absurd ((inN (by omega) hσ).symm.trans c1) (by decide)
  ·
    have c1 : (inR (nI σ) 8) = true := c1
    refine r_iload_n C (dx dX7_says 6 rfl) rfl ?_
    refine r_i2l C (dx dX7_says 7 rfl) ?_
    refine r_lconst (v := 0) C (dx dX7_says 8 rfl) rfl ?_
    refine r_ldc2 C n_X7_94 (dx dX7_says 9 rfl) ?_
    refine r_csP (as := [vl x.toInt64, vl 0, vl 5]) (st := []) (v := vi (b2i (inR x 6))) C X I_X7_in l_X7_67 (c_inR (b := 5) (by decide) (by decide)) (by decide) (Nat.le_of_ble_eq_true rfl) (by first | exact List.prefix_rfl | (rw [al]; exact AL_pre id (fun _ => rfl))) (Nat.le_of_ble_eq_true rfl) rfl (dx dX7_says 10 rfl) ?_
    refine rb_ne (b := inR x 6) (tgt := 31) C (dx dX7_says 11 rfl) (by decide) (fun c2 => ?_) (fun c2 => ?_)
    ·
      have c2 : (inR x 6) = true := c2
      refine r_aload_n C (dx dX7_says 16 rfl) rfl ?_
      refine g_X7_7 C (dx dX7_says 17 rfl) ?_
      refine r_iload_n C (dx dX7_says 18 rfl) rfl ?_
      refine r_iald (j := σ) (x := nI 2) C rfl rfl (by decide) rfl (by omega) (dx dX7_says 19 rfl) o1 ?_
      refine r_iconst (v := nI 1) C (dx dX7_says 20 rfl) rfl ?_
      refine rn_eq (a := 2) (b := 1) (tgt := 64) C (by omega) (by omega) (dx dX7_says 21 rfl) (by decide) (fun c3 => ?_) (fun c3 => ?_)
      · first
        | (omega; done)
        | (
            have c3 : 2 = 1 := c3
            refine r_aload_n C (dx dX7_says 35 rfl) rfl ?_
            refine r_bipush (v := -3) C (dx dX7_says 36 rfl) rfl ?_
            refine r_cv (as := [vi (-3)]) (st := []) C X I_X7_refuse l_X7_83 (c_X7_refuse hm (x := -3) (j := 3) (by decide) (by decide)) (by decide) (Nat.le_of_ble_eq_true rfl) List.prefix_rfl (by first | exact List.prefix_rfl | (rw [al]; exact AL_pre id (fun _ => rfl))) rfl rfl (Nat.le_of_ble_eq_true rfl) rfl (dx dX7_says 37 rfl) ?_
            rintro _ h4 ⟨rfl, ⟨wh4, m9h4, s9h4⟩, qh4⟩ kkh4
            obtain ⟨vh4, mh4, zh4⟩ : ∃ v9, MilAt h4 k v9 ∧ Sz v v9 := ⟨_, m9h4, s9h4⟩
            have ph4 : Kp k h h4 := qh4
            have kh4 : xK h4 = xK h := kkh4
            obtain ⟨ah4, bh4, ch4⟩ := zh4
            exact F.1 _ _ _ _ .int rfl rfl (dx dX7_says 38 rfl) kh4 ⟨⟨_, rfl⟩, ⟨_, M⟩, Lo.rf⟩)
      · first
        | (omega; done)
        | (
            have c3 : ¬ 2 = 1 := c3
            refine r_aload_n C (dx dX7_says 22 rfl) rfl ?_
            refine g_X7_7 C (dx dX7_says 23 rfl) ?_
            refine r_iload_n C (dx dX7_says 24 rfl) rfl ?_
            refine r_iald (j := σ) (x := nI 2) C rfl rfl (by decide) rfl (by omega) (dx dX7_says 25 rfl) o1 ?_
            refine r_iconst (v := nI 2) C (dx dX7_says 26 rfl) rfl ?_
            refine rn_ne (a := 2) (b := 2) (tgt := 71) C (by omega) (by omega) (dx dX7_says 27 rfl) (by decide) (fun c5 => ?_) (fun c5 => ?_)
            · first
              | (omega; done)
              | (
                  have c5 : ¬ 2 = 2 := c5
                  refine r_aload_n C (dx dX7_says 39 rfl) rfl ?_
                  refine g_X7_7 C (dx dX7_says 40 rfl) ?_
                  refine r_iload_n C (dx dX7_says 41 rfl) rfl ?_
                  refine r_iald (j := σ) (x := nI 2) C rfl rfl (by decide) rfl (by omega) (dx dX7_says 42 rfl) o1 ?_
                  refine r_if_ne (tgt := 87) C (dx dX7_says 43 rfl) (by decide) (fun _ => ?_) (fun c6 => (show False from by revert c6; decide).elim)
                  refine r_iload_n C (dx dX7_says 48 rfl) rfl ?_
                  refine r_if_ne (tgt := 98) C (dx dX7_says 49 rfl) (by decide) (fun c7 => ?_) (fun c7 => ?_)
                  ·
                    have c7 : ¬ x = 0 := c7
                    refine r_aload_n C (dx dX7_says 55 rfl) rfl ?_
                    refine r_cv (as := []) (st := []) C X I_X7_fresh l_X7_102 (c_X7_fresh M) (by decide) (Nat.le_of_ble_eq_true rfl) (by rw [M.al]; exact AL_pre id (fun _ => rfl)) (by first | exact List.prefix_rfl | (rw [al]; exact AL_pre id (fun _ => rfl))) rfl rfl (Nat.le_of_ble_eq_true rfl) rfl (dx dX7_says 56 rfl) ?_
                    rintro _ hF ⟨b, rfl, ebF, BF, MF, hb, hlF, loF⟩ kF
                    obtain ⟨r1, r2, r3⟩ := MF.2.1.hold hσ hη hβ eT eY
                    refine r_aload_n C (dx dX7_says 57 rfl) rfl ?_
                    refine g_X7_28 C (dx dX7_says 58 rfl) ?_
                    refine r_iload_n C (dx dX7_says 59 rfl) rfl ?_
                    refine r_iald (j := σ) (x := nI η) C rfl rfl (by decide) rfl (by omega) (dx dX7_says 60 rfl) r2 ?_
                    refine r_aload_n C (dx dX7_says 61 rfl) rfl ?_
                    refine g_X7_31 C (dx dX7_says 62 rfl) ?_
                    refine r_iload_n C (dx dX7_says 63 rfl) rfl ?_
                    refine r_iald (j := σ) (x := nI β) C rfl rfl (by decide) rfl (by omega) (dx dX7_says 64 rfl) r3 ?_
                    refine r_cv (as := [vi (nI η), vi (nI β)]) (st := []) C X I_X7_holdAll l_X7_106 (c_X7_holdAll BF (κ := η) (b := β) (by omega) (by omega)) (by decide) (Nat.le_of_ble_eq_true rfl) List.prefix_rfl (pfx_eq kF) rfl rfl (Nat.le_of_ble_eq_true rfl) rfl (dx dX7_says 65 rfl) ?_
                    rintro _ h8 ⟨rfl, ⟨wh8, Bh8, sh8⟩, qh8⟩ kkh8
                    have Mh8 := MF.tk (b := b) hb hlF Bh8 qh8 (show xK h8 = xK hF from kkh8)
                    have loh8 : Lo k h h8 := loF.tr (Lo.fr (Fr.vc qh8) (by omega))
                    have ebh8 : xN h8 k 22 = b + 1 := by rw [((Fr.vc qh8) k (by omega)).2.2]; exact ebF
                    have hlh8 : b + 32 ≤ (xK h8).length := by rw [show xK h8 = xK hF from kkh8]; exact hlF
                    have kh8 : xK h8 = AL P κ true := (show xK h8 = xK hF from kkh8).trans kF
                    obtain ⟨sah8, sbh8, sch8⟩ := sh8
                    refine r_aload_n C (dx dX7_says 66 rfl) rfl ?_
                    refine r_getN (k := 7) (j := 22) (T := TX7) (N := 32) C rfl rfl rfl (by decide) f_X7_110 (dx dX7_says 67 rfl) ebh8 (Or.inr (by rw [Nat.add_sub_cancel]; exact Mh8.k7 (by omega) hlh8)) ?_
                    refine r_some C ?_
                    refine r_iload_n C (dx dX7_says 68 rfl) rfl ?_
                    refine r_iconst (v := nI 3) C (dx dX7_says 69 rfl) rfl ?_
                    refine r_icmp_ne (tgt := 130) C (dx dX7_says 70 rfl) (by decide) (fun c9 => ?_) (fun c9 => ?_)
                    ·
                      have c9 : ¬ x = nI 3 := c9
                      refine r_iconst (v := nI 0) C (dx dX7_says 73 rfl) rfl ?_
                      refine r_cvW (as := [vi (nI 0)]) (st := []) C X I_X7_held l_X7_114 (c_X7_held Bh8 false) (by decide) (Nat.le_of_ble_eq_true rfl) (pfx_eq kh8) rfl rfl (Nat.le_of_ble_eq_true rfl) rfl (dx dX7_says 74 rfl) ?_
                      rintro _ ⟨x10, rfl⟩
                      exact F.1 _ _ _ _ .int rfl rfl (dx dX7_says 75 rfl) kh8 ⟨⟨_, rfl⟩, ⟨_, Mh8⟩, loh8⟩
                    ·
                      have c9 : x = nI 3 := c9
                      refine r_iconst (v := nI 1) C (dx dX7_says 71 rfl) rfl ?_
                      refine r_goto (tgt := 131) C (dx dX7_says 72 rfl) (by decide) ?_
                      refine r_cvW (as := [vi (nI 1)]) (st := []) C X I_X7_held l_X7_114 (c_X7_held Bh8 true) (by decide) (Nat.le_of_ble_eq_true rfl) (pfx_eq kh8) rfl rfl (Nat.le_of_ble_eq_true rfl) rfl (dx dX7_says 74 rfl) ?_
                      rintro _ ⟨x11, rfl⟩
                      exact F.1 _ _ _ _ .int rfl rfl (dx dX7_says 75 rfl) kh8 ⟨⟨_, rfl⟩, ⟨_, Mh8⟩, loh8⟩
                  ·
                    have c7 : x = 0 := c7
                    exact absurd c7 h0)
            · first
              | (omega; done)
              | (
                  have c5 : 2 = 2 := c5
                  refine r_aload_n C (dx dX7_says 28 rfl) rfl ?_
                  refine g_X7_28 C (dx dX7_says 29 rfl) ?_
                  refine r_iload_n C (dx dX7_says 30 rfl) rfl ?_
                  refine r_iald (j := σ) (x := nI η) C rfl rfl (by decide) rfl (by omega) (dx dX7_says 31 rfl) o2 ?_
                  refine r_iload_n C (dx dX7_says 32 rfl) rfl ?_
                  refine r_csP (as := [vi (nI η), vi x]) (st := []) (v := vi (b2i (undV (nI η) x))) C X I_X7_isUnder l_X7_98 (c_X7_isUnder _ _) (by decide) (Nat.le_of_ble_eq_true rfl) (by first | exact List.prefix_rfl | (rw [al]; exact AL_pre id (fun _ => rfl))) (Nat.le_of_ble_eq_true rfl) rfl (dx dX7_says 33 rfl) ?_
                  refine rb_ne (b := undV (nI η) x) (tgt := 71) C (dx dX7_says 34 rfl) (by decide) (fun c12 => ?_) (fun c12 => ?_)
                  ·
                    have c12 : (undV (nI η) x) = true := c12
                    refine r_aload_n C (dx dX7_says 39 rfl) rfl ?_
                    refine g_X7_7 C (dx dX7_says 40 rfl) ?_
                    refine r_iload_n C (dx dX7_says 41 rfl) rfl ?_
                    refine r_iald (j := σ) (x := nI 2) C rfl rfl (by decide) rfl (by omega) (dx dX7_says 42 rfl) o1 ?_
                    refine r_if_ne (tgt := 87) C (dx dX7_says 43 rfl) (by decide) (fun _ => ?_) (fun c13 => (show False from by revert c13; decide).elim)
                    refine r_iload_n C (dx dX7_says 48 rfl) rfl ?_
                    refine r_if_ne (tgt := 98) C (dx dX7_says 49 rfl) (by decide) (fun c14 => ?_) (fun c14 => ?_)
                    ·
                      have c14 : ¬ x = 0 := c14
                      refine r_aload_n C (dx dX7_says 55 rfl) rfl ?_
                      refine r_cv (as := []) (st := []) C X I_X7_fresh l_X7_102 (c_X7_fresh M) (by decide) (Nat.le_of_ble_eq_true rfl) (by rw [M.al]; exact AL_pre id (fun _ => rfl)) (by first | exact List.prefix_rfl | (rw [al]; exact AL_pre id (fun _ => rfl))) rfl rfl (Nat.le_of_ble_eq_true rfl) rfl (dx dX7_says 56 rfl) ?_
                      rintro _ hF ⟨b, rfl, ebF, BF, MF, hb, hlF, loF⟩ kF
                      obtain ⟨r1, r2, r3⟩ := MF.2.1.hold hσ hη hβ eT eY
                      refine r_aload_n C (dx dX7_says 57 rfl) rfl ?_
                      refine g_X7_28 C (dx dX7_says 58 rfl) ?_
                      refine r_iload_n C (dx dX7_says 59 rfl) rfl ?_
                      refine r_iald (j := σ) (x := nI η) C rfl rfl (by decide) rfl (by omega) (dx dX7_says 60 rfl) r2 ?_
                      refine r_aload_n C (dx dX7_says 61 rfl) rfl ?_
                      refine g_X7_31 C (dx dX7_says 62 rfl) ?_
                      refine r_iload_n C (dx dX7_says 63 rfl) rfl ?_
                      refine r_iald (j := σ) (x := nI β) C rfl rfl (by decide) rfl (by omega) (dx dX7_says 64 rfl) r3 ?_
                      refine r_cv (as := [vi (nI η), vi (nI β)]) (st := []) C X I_X7_holdAll l_X7_106 (c_X7_holdAll BF (κ := η) (b := β) (by omega) (by omega)) (by decide) (Nat.le_of_ble_eq_true rfl) List.prefix_rfl (pfx_eq kF) rfl rfl (Nat.le_of_ble_eq_true rfl) rfl (dx dX7_says 65 rfl) ?_
                      rintro _ h15 ⟨rfl, ⟨wh15, Bh15, sh15⟩, qh15⟩ kkh15
                      have Mh15 := MF.tk (b := b) hb hlF Bh15 qh15 (show xK h15 = xK hF from kkh15)
                      have loh15 : Lo k h h15 := loF.tr (Lo.fr (Fr.vc qh15) (by omega))
                      have ebh15 : xN h15 k 22 = b + 1 := by rw [((Fr.vc qh15) k (by omega)).2.2]; exact ebF
                      have hlh15 : b + 32 ≤ (xK h15).length := by rw [show xK h15 = xK hF from kkh15]; exact hlF
                      have kh15 : xK h15 = AL P κ true := (show xK h15 = xK hF from kkh15).trans kF
                      obtain ⟨sah15, sbh15, sch15⟩ := sh15
                      refine r_aload_n C (dx dX7_says 66 rfl) rfl ?_
                      refine r_getN (k := 7) (j := 22) (T := TX7) (N := 32) C rfl rfl rfl (by decide) f_X7_110 (dx dX7_says 67 rfl) ebh15 (Or.inr (by rw [Nat.add_sub_cancel]; exact Mh15.k7 (by omega) hlh15)) ?_
                      refine r_some C ?_
                      refine r_iload_n C (dx dX7_says 68 rfl) rfl ?_
                      refine r_iconst (v := nI 3) C (dx dX7_says 69 rfl) rfl ?_
                      refine r_icmp_ne (tgt := 130) C (dx dX7_says 70 rfl) (by decide) (fun c16 => ?_) (fun c16 => ?_)
                      ·
                        have c16 : ¬ x = nI 3 := c16
                        refine r_iconst (v := nI 0) C (dx dX7_says 73 rfl) rfl ?_
                        refine r_cvW (as := [vi (nI 0)]) (st := []) C X I_X7_held l_X7_114 (c_X7_held Bh15 false) (by decide) (Nat.le_of_ble_eq_true rfl) (pfx_eq kh15) rfl rfl (Nat.le_of_ble_eq_true rfl) rfl (dx dX7_says 74 rfl) ?_
                        rintro _ ⟨x17, rfl⟩
                        exact F.1 _ _ _ _ .int rfl rfl (dx dX7_says 75 rfl) kh15 ⟨⟨_, rfl⟩, ⟨_, Mh15⟩, loh15⟩
                      ·
                        have c16 : x = nI 3 := c16
                        refine r_iconst (v := nI 1) C (dx dX7_says 71 rfl) rfl ?_
                        refine r_goto (tgt := 131) C (dx dX7_says 72 rfl) (by decide) ?_
                        refine r_cvW (as := [vi (nI 1)]) (st := []) C X I_X7_held l_X7_114 (c_X7_held Bh15 true) (by decide) (Nat.le_of_ble_eq_true rfl) (pfx_eq kh15) rfl rfl (Nat.le_of_ble_eq_true rfl) rfl (dx dX7_says 74 rfl) ?_
                        rintro _ ⟨x18, rfl⟩
                        exact F.1 _ _ _ _ .int rfl rfl (dx dX7_says 75 rfl) kh15 ⟨⟨_, rfl⟩, ⟨_, Mh15⟩, loh15⟩
                    ·
                      have c14 : x = 0 := c14
                      exact absurd c14 h0
                  ·
                    have c12 : (undV (nI η) x) = false := c12
                    exact absurd (hu.symm.trans c12) (by decide)))
    ·
      have c2 : (inR x 6) = false := c2
      exact absurd (hq.symm.trans c2) (by decide)
set_option maxHeartbeats 4000000 in
theorem c_X7_says_n {l : Launch} {h : Hp} {k : Nat} {v : Vg} {g : Sg} (hm : MilAt h k v) (hs : MshAt h k g) (s x : Int32) (hn : ¬ ∃ σ η β, σ < 8 ∧ s = nI σ ∧ (1 ≤ η ∧ η ≤ 5) ∧ β < 100 ∧ gT g σ = nI (10 + η) ∧ gY g σ = nI β ∧ inR x 6 = true ∧ undV (nI η) x = true ∧ ¬ x = 0) : Ms l yX7_says cX7_says 3 (some .int) 10 [vr 7 k, vi s, vi x] h (xK h) (fun r h' => PI r ∧ (∃ v', MilAt h' k v') ∧ Kp k h h') := by
  refine Ms.of (by decide) (Nat.le_of_ble_eq_true rfl) (fun G C X F => ?_)
  have C : Cx G cX7_says 3 RX7 := C
  show Rr G 0 [(0, vr 7 k), (1, vi s), (2, vi x)] [] h
  have bP := hm.bP
  have bM := hm.bM
  have bN := hm.bN
  refine r_iload_n C (dx dX7_says 0 rfl) rfl ?_
  refine r_i2l C (dx dX7_says 1 rfl) ?_
  refine r_lconst (v := 0) C (dx dX7_says 2 rfl) rfl ?_
  refine r_ldc2 C n_X7_77 (dx dX7_says 3 rfl) ?_
  refine r_csP (as := [vl s.toInt64, vl 0, vl 7]) (st := []) (v := vi (b2i (inR s 8))) C X I_X7_in l_X7_67 (c_inR (b := 7) (by decide) (by decide)) (by decide) (Nat.le_of_ble_eq_true rfl) List.prefix_rfl (Nat.le_of_ble_eq_true rfl) rfl (dx dX7_says 4 rfl) ?_
  refine rb_eq (b := inR s 8) (tgt := 24) C (dx dX7_says 5 rfl) (by decide) (fun c1 => ?_) (fun c1 => ?_)
  ·
    have c1 : (inR s 8) = false := c1
    refine r_aload_n C (dx dX7_says 12 rfl) rfl ?_
    refine r_bipush (v := -2) C (dx dX7_says 13 rfl) rfl ?_
    refine r_cv (as := [vi (-2)]) (st := []) C X I_X7_refuse l_X7_83 (c_X7_refuse hm (x := -2) (j := 2) (by decide) (by decide)) (by decide) (Nat.le_of_ble_eq_true rfl) List.prefix_rfl List.prefix_rfl rfl rfl (Nat.le_of_ble_eq_true rfl) rfl (dx dX7_says 14 rfl) ?_
    rintro _ h2 ⟨rfl, ⟨wh2, m9h2, s9h2⟩, qh2⟩ kkh2
    obtain ⟨vh2, mh2, zh2⟩ : ∃ v9, MilAt h2 k v9 ∧ Sz v v9 := ⟨_, m9h2, s9h2⟩
    have ph2 : Kp k h h2 := qh2
    have kh2 : xK h2 = xK h := kkh2
    obtain ⟨ah2, bh2, ch2⟩ := zh2
    exact F.1 _ _ _ _ .int rfl rfl (dx dX7_says 15 rfl) kh2 ⟨⟨_, rfl⟩, ⟨_, mh2⟩, ph2⟩
  ·
    have c1 : (inR s 8) = true := c1
    obtain ⟨σ, hσ, rfl⟩ := inR_ex (n := 8) (by omega) c1
    refine r_iload_n C (dx dX7_says 6 rfl) rfl ?_
    refine r_i2l C (dx dX7_says 7 rfl) ?_
    refine r_lconst (v := 0) C (dx dX7_says 8 rfl) rfl ?_
    refine r_ldc2 C n_X7_94 (dx dX7_says 9 rfl) ?_
    refine r_csP (as := [vl x.toInt64, vl 0, vl 5]) (st := []) (v := vi (b2i (inR x 6))) C X I_X7_in l_X7_67 (c_inR (b := 5) (by decide) (by decide)) (by decide) (Nat.le_of_ble_eq_true rfl) List.prefix_rfl (Nat.le_of_ble_eq_true rfl) rfl (dx dX7_says 10 rfl) ?_
    refine rb_ne (b := inR x 6) (tgt := 31) C (dx dX7_says 11 rfl) (by decide) (fun c3 => ?_) (fun c3 => ?_)
    ·
      have c3 : (inR x 6) = true := c3
      rcases hs σ hσ with ⟨a11, a21⟩ | ⟨τ1, ν1, a11, a21, a31, a41, a51, a61, a71, a81⟩ | ⟨κ1, b1, a11, a21, a31, a41, a51, a61, a71, a81⟩
      ·
        obtain ⟨e01, e11, e21, e31, e41, e51, e61⟩ := sh_bare hσ a21
        refine r_aload_n C (dx dX7_says 16 rfl) rfl ?_
        refine g_X7_7 C (dx dX7_says 17 rfl) ?_
        refine r_iload_n C (dx dX7_says 18 rfl) rfl ?_
        refine r_iald (j := σ) (x := nI 0) C rfl rfl (by decide) rfl (by omega) (dx dX7_says 19 rfl) a11 ?_
        refine r_iconst (v := nI 1) C (dx dX7_says 20 rfl) rfl ?_
        refine rn_eq (a := 0) (b := 1) (tgt := 64) C (by omega) (by omega) (dx dX7_says 21 rfl) (by decide) (fun c4 => ?_) (fun c4 => ?_)
        · first
          | (omega; done)
          | (
              have c4 : 0 = 1 := c4
              refine r_aload_n C (dx dX7_says 35 rfl) rfl ?_
              refine r_bipush (v := -3) C (dx dX7_says 36 rfl) rfl ?_
              refine r_cv (as := [vi (-3)]) (st := []) C X I_X7_refuse l_X7_83 (c_X7_refuse hm (x := -3) (j := 3) (by decide) (by decide)) (by decide) (Nat.le_of_ble_eq_true rfl) List.prefix_rfl List.prefix_rfl rfl rfl (Nat.le_of_ble_eq_true rfl) rfl (dx dX7_says 37 rfl) ?_
              rintro _ h5 ⟨rfl, ⟨wh5, m9h5, s9h5⟩, qh5⟩ kkh5
              obtain ⟨vh5, mh5, zh5⟩ : ∃ v9, MilAt h5 k v9 ∧ Sz v v9 := ⟨_, m9h5, s9h5⟩
              have ph5 : Kp k h h5 := qh5
              have kh5 : xK h5 = xK h := kkh5
              obtain ⟨ah5, bh5, ch5⟩ := zh5
              exact F.1 _ _ _ _ .int rfl rfl (dx dX7_says 38 rfl) kh5 ⟨⟨_, rfl⟩, ⟨_, mh5⟩, ph5⟩)
        · first
          | (omega; done)
          | (
              have c4 : ¬ 0 = 1 := c4
              refine r_aload_n C (dx dX7_says 22 rfl) rfl ?_
              refine g_X7_7 C (dx dX7_says 23 rfl) ?_
              refine r_iload_n C (dx dX7_says 24 rfl) rfl ?_
              refine r_iald (j := σ) (x := nI 0) C rfl rfl (by decide) rfl (by omega) (dx dX7_says 25 rfl) a11 ?_
              refine r_iconst (v := nI 2) C (dx dX7_says 26 rfl) rfl ?_
              refine rn_ne (a := 0) (b := 2) (tgt := 71) C (by omega) (by omega) (dx dX7_says 27 rfl) (by decide) (fun c6 => ?_) (fun c6 => ?_)
              · first
                | (omega; done)
                | (
                    have c6 : ¬ 0 = 2 := c6
                    refine r_aload_n C (dx dX7_says 39 rfl) rfl ?_
                    refine g_X7_7 C (dx dX7_says 40 rfl) ?_
                    refine r_iload_n C (dx dX7_says 41 rfl) rfl ?_
                    refine r_iald (j := σ) (x := nI 0) C rfl rfl (by decide) rfl (by omega) (dx dX7_says 42 rfl) a11 ?_
                    refine r_if_ne (tgt := 87) C (dx dX7_says 43 rfl) (by decide) (fun c7 => (show False from by revert c7; decide).elim) (fun _ => ?_)
                    refine r_aload_n C (dx dX7_says 44 rfl) rfl ?_
                    refine r_bipush (v := -4) C (dx dX7_says 45 rfl) rfl ?_
                    refine r_cv (as := [vi (-4)]) (st := []) C X I_X7_refuse l_X7_83 (c_X7_refuse hm (x := -4) (j := 4) (by decide) (by decide)) (by decide) (Nat.le_of_ble_eq_true rfl) List.prefix_rfl List.prefix_rfl rfl rfl (Nat.le_of_ble_eq_true rfl) rfl (dx dX7_says 46 rfl) ?_
                    rintro _ h8 ⟨rfl, ⟨wh8, m9h8, s9h8⟩, qh8⟩ kkh8
                    obtain ⟨vh8, mh8, zh8⟩ : ∃ v9, MilAt h8 k v9 ∧ Sz v v9 := ⟨_, m9h8, s9h8⟩
                    have ph8 : Kp k h h8 := qh8
                    have kh8 : xK h8 = xK h := kkh8
                    obtain ⟨ah8, bh8, ch8⟩ := zh8
                    exact F.1 _ _ _ _ .int rfl rfl (dx dX7_says 47 rfl) kh8 ⟨⟨_, rfl⟩, ⟨_, mh8⟩, ph8⟩)
              · first
                | (omega; done)
                | (
                    have c6 : 0 = 2 := c6
                    refine r_aload_n C (dx dX7_says 28 rfl) rfl ?_
                    refine g_X7_28 C (dx dX7_says 29 rfl) ?_
                    refine r_iload_n C (dx dX7_says 30 rfl) rfl ?_
                    refine r_iald (j := σ) (x := xI h (k + 14) σ) C rfl rfl (by decide) rfl (by omega) (dx dX7_says 31 rfl) rfl ?_
                    refine r_iload_n C (dx dX7_says 32 rfl) rfl ?_
                    refine r_csP (as := [vi (xI h (k + 14) σ), vi x]) (st := []) (v := vi (b2i (undV (xI h (k + 14) σ) x))) C X I_X7_isUnder l_X7_98 (c_X7_isUnder _ _) (by decide) (Nat.le_of_ble_eq_true rfl) List.prefix_rfl (Nat.le_of_ble_eq_true rfl) rfl (dx dX7_says 33 rfl) ?_
                    refine rb_ne (b := undV (xI h (k + 14) σ) x) (tgt := 71) C (dx dX7_says 34 rfl) (by decide) (fun c9 => ?_) (fun c9 => ?_)
                    ·
                      have c9 : (undV (xI h (k + 14) σ) x) = true := c9
                      refine r_aload_n C (dx dX7_says 39 rfl) rfl ?_
                      refine g_X7_7 C (dx dX7_says 40 rfl) ?_
                      refine r_iload_n C (dx dX7_says 41 rfl) rfl ?_
                      refine r_iald (j := σ) (x := nI 0) C rfl rfl (by decide) rfl (by omega) (dx dX7_says 42 rfl) a11 ?_
                      refine r_if_ne (tgt := 87) C (dx dX7_says 43 rfl) (by decide) (fun c10 => (show False from by revert c10; decide).elim) (fun _ => ?_)
                      refine r_aload_n C (dx dX7_says 44 rfl) rfl ?_
                      refine r_bipush (v := -4) C (dx dX7_says 45 rfl) rfl ?_
                      refine r_cv (as := [vi (-4)]) (st := []) C X I_X7_refuse l_X7_83 (c_X7_refuse hm (x := -4) (j := 4) (by decide) (by decide)) (by decide) (Nat.le_of_ble_eq_true rfl) List.prefix_rfl List.prefix_rfl rfl rfl (Nat.le_of_ble_eq_true rfl) rfl (dx dX7_says 46 rfl) ?_
                      rintro _ h11 ⟨rfl, ⟨wh11, m9h11, s9h11⟩, qh11⟩ kkh11
                      obtain ⟨vh11, mh11, zh11⟩ : ∃ v9, MilAt h11 k v9 ∧ Sz v v9 := ⟨_, m9h11, s9h11⟩
                      have ph11 : Kp k h h11 := qh11
                      have kh11 : xK h11 = xK h := kkh11
                      obtain ⟨ah11, bh11, ch11⟩ := zh11
                      exact F.1 _ _ _ _ .int rfl rfl (dx dX7_says 47 rfl) kh11 ⟨⟨_, rfl⟩, ⟨_, mh11⟩, ph11⟩
                    ·
                      have c9 : (undV (xI h (k + 14) σ) x) = false := c9
                      refine r_aload_n C (dx dX7_says 35 rfl) rfl ?_
                      refine r_bipush (v := -3) C (dx dX7_says 36 rfl) rfl ?_
                      refine r_cv (as := [vi (-3)]) (st := []) C X I_X7_refuse l_X7_83 (c_X7_refuse hm (x := -3) (j := 3) (by decide) (by decide)) (by decide) (Nat.le_of_ble_eq_true rfl) List.prefix_rfl List.prefix_rfl rfl rfl (Nat.le_of_ble_eq_true rfl) rfl (dx dX7_says 37 rfl) ?_
                      rintro _ h12 ⟨rfl, ⟨wh12, m9h12, s9h12⟩, qh12⟩ kkh12
                      obtain ⟨vh12, mh12, zh12⟩ : ∃ v9, MilAt h12 k v9 ∧ Sz v v9 := ⟨_, m9h12, s9h12⟩
                      have ph12 : Kp k h h12 := qh12
                      have kh12 : xK h12 = xK h := kkh12
                      obtain ⟨ah12, bh12, ch12⟩ := zh12
                      exact F.1 _ _ _ _ .int rfl rfl (dx dX7_says 38 rfl) kh12 ⟨⟨_, rfl⟩, ⟨_, mh12⟩, ph12⟩))
      ·
        obtain ⟨e01, e11, e21, e31, e41, e51, e61⟩ := sh_row hσ a11 a61 a71
        refine r_aload_n C (dx dX7_says 16 rfl) rfl ?_
        refine g_X7_7 C (dx dX7_says 17 rfl) ?_
        refine r_iload_n C (dx dX7_says 18 rfl) rfl ?_
        refine r_iald (j := σ) (x := nI 1) C rfl rfl (by decide) rfl (by omega) (dx dX7_says 19 rfl) a31 ?_
        refine r_iconst (v := nI 1) C (dx dX7_says 20 rfl) rfl ?_
        refine rn_eq (a := 1) (b := 1) (tgt := 64) C (by omega) (by omega) (dx dX7_says 21 rfl) (by decide) (fun c13 => ?_) (fun c13 => ?_)
        · first
          | (omega; done)
          | (
              have c13 : 1 = 1 := c13
              refine r_aload_n C (dx dX7_says 35 rfl) rfl ?_
              refine r_bipush (v := -3) C (dx dX7_says 36 rfl) rfl ?_
              refine r_cv (as := [vi (-3)]) (st := []) C X I_X7_refuse l_X7_83 (c_X7_refuse hm (x := -3) (j := 3) (by decide) (by decide)) (by decide) (Nat.le_of_ble_eq_true rfl) List.prefix_rfl List.prefix_rfl rfl rfl (Nat.le_of_ble_eq_true rfl) rfl (dx dX7_says 37 rfl) ?_
              rintro _ h14 ⟨rfl, ⟨wh14, m9h14, s9h14⟩, qh14⟩ kkh14
              obtain ⟨vh14, mh14, zh14⟩ : ∃ v9, MilAt h14 k v9 ∧ Sz v v9 := ⟨_, m9h14, s9h14⟩
              have ph14 : Kp k h h14 := qh14
              have kh14 : xK h14 = xK h := kkh14
              obtain ⟨ah14, bh14, ch14⟩ := zh14
              exact F.1 _ _ _ _ .int rfl rfl (dx dX7_says 38 rfl) kh14 ⟨⟨_, rfl⟩, ⟨_, mh14⟩, ph14⟩)
        · first
          | (omega; done)
          | (
              have c13 : ¬ 1 = 1 := c13
              refine r_aload_n C (dx dX7_says 22 rfl) rfl ?_
              refine g_X7_7 C (dx dX7_says 23 rfl) ?_
              refine r_iload_n C (dx dX7_says 24 rfl) rfl ?_
              refine r_iald (j := σ) (x := nI 1) C rfl rfl (by decide) rfl (by omega) (dx dX7_says 25 rfl) a31 ?_
              refine r_iconst (v := nI 2) C (dx dX7_says 26 rfl) rfl ?_
              refine rn_ne (a := 1) (b := 2) (tgt := 71) C (by omega) (by omega) (dx dX7_says 27 rfl) (by decide) (fun c15 => ?_) (fun c15 => ?_)
              · first
                | (omega; done)
                | (
                    have c15 : ¬ 1 = 2 := c15
                    refine r_aload_n C (dx dX7_says 39 rfl) rfl ?_
                    refine g_X7_7 C (dx dX7_says 40 rfl) ?_
                    refine r_iload_n C (dx dX7_says 41 rfl) rfl ?_
                    refine r_iald (j := σ) (x := nI 1) C rfl rfl (by decide) rfl (by omega) (dx dX7_says 42 rfl) a31 ?_
                    refine r_if_ne (tgt := 87) C (dx dX7_says 43 rfl) (by decide) (fun _ => ?_) (fun c16 => (show False from by revert c16; decide).elim)
                    refine r_iload_n C (dx dX7_says 48 rfl) rfl ?_
                    refine r_if_ne (tgt := 98) C (dx dX7_says 49 rfl) (by decide) (fun c17 => ?_) (fun c17 => ?_)
                    ·
                      have c17 : ¬ x = 0 := c17
                      exact absurd XX hn
                    ·
                      have c17 : x = 0 := c17
                      refine r_aload_n C (dx dX7_says 50 rfl) rfl ?_
                      refine g_X7_31 C (dx dX7_says 51 rfl) ?_
                      refine r_iload_n C (dx dX7_says 52 rfl) rfl ?_
                      refine r_iald (j := σ) (x := xI h (k + 15) σ) C rfl rfl (by decide) rfl (by omega) (dx dX7_says 53 rfl) rfl ?_
                      exact F.1 _ _ _ _ .int rfl rfl (dx dX7_says 54 rfl) rfl ⟨⟨_, rfl⟩, ⟨_, hm⟩, Kp.rf⟩)
              · first
                | (omega; done)
                | (
                    have c15 : 1 = 2 := c15
                    refine r_aload_n C (dx dX7_says 28 rfl) rfl ?_
                    refine g_X7_28 C (dx dX7_says 29 rfl) ?_
                    refine r_iload_n C (dx dX7_says 30 rfl) rfl ?_
                    refine r_iald (j := σ) (x := xI h (k + 14) σ) C rfl rfl (by decide) rfl (by omega) (dx dX7_says 31 rfl) rfl ?_
                    refine r_iload_n C (dx dX7_says 32 rfl) rfl ?_
                    refine r_csP (as := [vi (xI h (k + 14) σ), vi x]) (st := []) (v := vi (b2i (undV (xI h (k + 14) σ) x))) C X I_X7_isUnder l_X7_98 (c_X7_isUnder _ _) (by decide) (Nat.le_of_ble_eq_true rfl) List.prefix_rfl (Nat.le_of_ble_eq_true rfl) rfl (dx dX7_says 33 rfl) ?_
                    refine rb_ne (b := undV (xI h (k + 14) σ) x) (tgt := 71) C (dx dX7_says 34 rfl) (by decide) (fun c18 => ?_) (fun c18 => ?_)
                    ·
                      have c18 : (undV (xI h (k + 14) σ) x) = true := c18
                      refine r_aload_n C (dx dX7_says 39 rfl) rfl ?_
                      refine g_X7_7 C (dx dX7_says 40 rfl) ?_
                      refine r_iload_n C (dx dX7_says 41 rfl) rfl ?_
                      refine r_iald (j := σ) (x := nI 1) C rfl rfl (by decide) rfl (by omega) (dx dX7_says 42 rfl) a31 ?_
                      refine r_if_ne (tgt := 87) C (dx dX7_says 43 rfl) (by decide) (fun _ => ?_) (fun c19 => (show False from by revert c19; decide).elim)
                      refine r_iload_n C (dx dX7_says 48 rfl) rfl ?_
                      refine r_if_ne (tgt := 98) C (dx dX7_says 49 rfl) (by decide) (fun c20 => ?_) (fun c20 => ?_)
                      ·
                        have c20 : ¬ x = 0 := c20
                        exact absurd XX hn
                      ·
                        have c20 : x = 0 := c20
                        refine r_aload_n C (dx dX7_says 50 rfl) rfl ?_
                        refine g_X7_31 C (dx dX7_says 51 rfl) ?_
                        refine r_iload_n C (dx dX7_says 52 rfl) rfl ?_
                        refine r_iald (j := σ) (x := xI h (k + 15) σ) C rfl rfl (by decide) rfl (by omega) (dx dX7_says 53 rfl) rfl ?_
                        exact F.1 _ _ _ _ .int rfl rfl (dx dX7_says 54 rfl) rfl ⟨⟨_, rfl⟩, ⟨_, hm⟩, Kp.rf⟩
                    ·
                      have c18 : (undV (xI h (k + 14) σ) x) = false := c18
                      refine r_aload_n C (dx dX7_says 35 rfl) rfl ?_
                      refine r_bipush (v := -3) C (dx dX7_says 36 rfl) rfl ?_
                      refine r_cv (as := [vi (-3)]) (st := []) C X I_X7_refuse l_X7_83 (c_X7_refuse hm (x := -3) (j := 3) (by decide) (by decide)) (by decide) (Nat.le_of_ble_eq_true rfl) List.prefix_rfl List.prefix_rfl rfl rfl (Nat.le_of_ble_eq_true rfl) rfl (dx dX7_says 37 rfl) ?_
                      rintro _ h21 ⟨rfl, ⟨wh21, m9h21, s9h21⟩, qh21⟩ kkh21
                      obtain ⟨vh21, mh21, zh21⟩ : ∃ v9, MilAt h21 k v9 ∧ Sz v v9 := ⟨_, m9h21, s9h21⟩
                      have ph21 : Kp k h h21 := qh21
                      have kh21 : xK h21 = xK h := kkh21
                      obtain ⟨ah21, bh21, ch21⟩ := zh21
                      exact F.1 _ _ _ _ .int rfl rfl (dx dX7_says 38 rfl) kh21 ⟨⟨_, rfl⟩, ⟨_, mh21⟩, ph21⟩))
      ·
        obtain ⟨e01, e11, e21, e31, e41, e51, e61, e71⟩ := sh_hold hσ a21 a71 a81
        refine r_aload_n C (dx dX7_says 16 rfl) rfl ?_
        refine g_X7_7 C (dx dX7_says 17 rfl) ?_
        refine r_iload_n C (dx dX7_says 18 rfl) rfl ?_
        refine r_iald (j := σ) (x := nI 2) C rfl rfl (by decide) rfl (by omega) (dx dX7_says 19 rfl) a41 ?_
        refine r_iconst (v := nI 1) C (dx dX7_says 20 rfl) rfl ?_
        refine rn_eq (a := 2) (b := 1) (tgt := 64) C (by omega) (by omega) (dx dX7_says 21 rfl) (by decide) (fun c22 => ?_) (fun c22 => ?_)
        · first
          | (omega; done)
          | (
              have c22 : 2 = 1 := c22
              refine r_aload_n C (dx dX7_says 35 rfl) rfl ?_
              refine r_bipush (v := -3) C (dx dX7_says 36 rfl) rfl ?_
              refine r_cv (as := [vi (-3)]) (st := []) C X I_X7_refuse l_X7_83 (c_X7_refuse hm (x := -3) (j := 3) (by decide) (by decide)) (by decide) (Nat.le_of_ble_eq_true rfl) List.prefix_rfl List.prefix_rfl rfl rfl (Nat.le_of_ble_eq_true rfl) rfl (dx dX7_says 37 rfl) ?_
              rintro _ h23 ⟨rfl, ⟨wh23, m9h23, s9h23⟩, qh23⟩ kkh23
              obtain ⟨vh23, mh23, zh23⟩ : ∃ v9, MilAt h23 k v9 ∧ Sz v v9 := ⟨_, m9h23, s9h23⟩
              have ph23 : Kp k h h23 := qh23
              have kh23 : xK h23 = xK h := kkh23
              obtain ⟨ah23, bh23, ch23⟩ := zh23
              exact F.1 _ _ _ _ .int rfl rfl (dx dX7_says 38 rfl) kh23 ⟨⟨_, rfl⟩, ⟨_, mh23⟩, ph23⟩)
        · first
          | (omega; done)
          | (
              have c22 : ¬ 2 = 1 := c22
              refine r_aload_n C (dx dX7_says 22 rfl) rfl ?_
              refine g_X7_7 C (dx dX7_says 23 rfl) ?_
              refine r_iload_n C (dx dX7_says 24 rfl) rfl ?_
              refine r_iald (j := σ) (x := nI 2) C rfl rfl (by decide) rfl (by omega) (dx dX7_says 25 rfl) a41 ?_
              refine r_iconst (v := nI 2) C (dx dX7_says 26 rfl) rfl ?_
              refine rn_ne (a := 2) (b := 2) (tgt := 71) C (by omega) (by omega) (dx dX7_says 27 rfl) (by decide) (fun c24 => ?_) (fun c24 => ?_)
              · first
                | (omega; done)
                | (
                    have c24 : ¬ 2 = 2 := c24
                    refine r_aload_n C (dx dX7_says 39 rfl) rfl ?_
                    refine g_X7_7 C (dx dX7_says 40 rfl) ?_
                    refine r_iload_n C (dx dX7_says 41 rfl) rfl ?_
                    refine r_iald (j := σ) (x := nI 2) C rfl rfl (by decide) rfl (by omega) (dx dX7_says 42 rfl) a41 ?_
                    refine r_if_ne (tgt := 87) C (dx dX7_says 43 rfl) (by decide) (fun _ => ?_) (fun c25 => (show False from by revert c25; decide).elim)
                    refine r_iload_n C (dx dX7_says 48 rfl) rfl ?_
                    refine r_if_ne (tgt := 98) C (dx dX7_says 49 rfl) (by decide) (fun c26 => ?_) (fun c26 => ?_)
                    ·
                      have c26 : ¬ x = 0 := c26
                      exact absurd ⟨σ, κ1, b1, hσ, rfl, ⟨a11, a21⟩, a31, a71, a81, c3, XX, c26⟩ hn
                    ·
                      have c26 : x = 0 := c26
                      refine r_aload_n C (dx dX7_says 50 rfl) rfl ?_
                      refine g_X7_31 C (dx dX7_says 51 rfl) ?_
                      refine r_iload_n C (dx dX7_says 52 rfl) rfl ?_
                      refine r_iald (j := σ) (x := nI b1) C rfl rfl (by decide) rfl (by omega) (dx dX7_says 53 rfl) a61 ?_
                      exact F.1 _ _ _ _ .int rfl rfl (dx dX7_says 54 rfl) rfl ⟨⟨_, rfl⟩, ⟨_, hm⟩, Kp.rf⟩)
              · first
                | (omega; done)
                | (
                    have c24 : 2 = 2 := c24
                    refine r_aload_n C (dx dX7_says 28 rfl) rfl ?_
                    refine g_X7_28 C (dx dX7_says 29 rfl) ?_
                    refine r_iload_n C (dx dX7_says 30 rfl) rfl ?_
                    refine r_iald (j := σ) (x := nI κ1) C rfl rfl (by decide) rfl (by omega) (dx dX7_says 31 rfl) a51 ?_
                    refine r_iload_n C (dx dX7_says 32 rfl) rfl ?_
                    refine r_csP (as := [vi (nI κ1), vi x]) (st := []) (v := vi (b2i (undV (nI κ1) x))) C X I_X7_isUnder l_X7_98 (c_X7_isUnder _ _) (by decide) (Nat.le_of_ble_eq_true rfl) List.prefix_rfl (Nat.le_of_ble_eq_true rfl) rfl (dx dX7_says 33 rfl) ?_
                    refine rb_ne (b := undV (nI κ1) x) (tgt := 71) C (dx dX7_says 34 rfl) (by decide) (fun c27 => ?_) (fun c27 => ?_)
                    ·
                      have c27 : (undV (nI κ1) x) = true := c27
                      refine r_aload_n C (dx dX7_says 39 rfl) rfl ?_
                      refine g_X7_7 C (dx dX7_says 40 rfl) ?_
                      refine r_iload_n C (dx dX7_says 41 rfl) rfl ?_
                      refine r_iald (j := σ) (x := nI 2) C rfl rfl (by decide) rfl (by omega) (dx dX7_says 42 rfl) a41 ?_
                      refine r_if_ne (tgt := 87) C (dx dX7_says 43 rfl) (by decide) (fun _ => ?_) (fun c28 => (show False from by revert c28; decide).elim)
                      refine r_iload_n C (dx dX7_says 48 rfl) rfl ?_
                      refine r_if_ne (tgt := 98) C (dx dX7_says 49 rfl) (by decide) (fun c29 => ?_) (fun c29 => ?_)
                      ·
                        have c29 : ¬ x = 0 := c29
                        exact absurd ⟨σ, κ1, b1, hσ, rfl, ⟨a11, a21⟩, a31, a71, a81, c3, c27, c29⟩ hn
                      ·
                        have c29 : x = 0 := c29
                        refine r_aload_n C (dx dX7_says 50 rfl) rfl ?_
                        refine g_X7_31 C (dx dX7_says 51 rfl) ?_
                        refine r_iload_n C (dx dX7_says 52 rfl) rfl ?_
                        refine r_iald (j := σ) (x := nI b1) C rfl rfl (by decide) rfl (by omega) (dx dX7_says 53 rfl) a61 ?_
                        exact F.1 _ _ _ _ .int rfl rfl (dx dX7_says 54 rfl) rfl ⟨⟨_, rfl⟩, ⟨_, hm⟩, Kp.rf⟩
                    ·
                      have c27 : (undV (nI κ1) x) = false := c27
                      refine r_aload_n C (dx dX7_says 35 rfl) rfl ?_
                      refine r_bipush (v := -3) C (dx dX7_says 36 rfl) rfl ?_
                      refine r_cv (as := [vi (-3)]) (st := []) C X I_X7_refuse l_X7_83 (c_X7_refuse hm (x := -3) (j := 3) (by decide) (by decide)) (by decide) (Nat.le_of_ble_eq_true rfl) List.prefix_rfl List.prefix_rfl rfl rfl (Nat.le_of_ble_eq_true rfl) rfl (dx dX7_says 37 rfl) ?_
                      rintro _ h30 ⟨rfl, ⟨wh30, m9h30, s9h30⟩, qh30⟩ kkh30
                      obtain ⟨vh30, mh30, zh30⟩ : ∃ v9, MilAt h30 k v9 ∧ Sz v v9 := ⟨_, m9h30, s9h30⟩
                      have ph30 : Kp k h h30 := qh30
                      have kh30 : xK h30 = xK h := kkh30
                      obtain ⟨ah30, bh30, ch30⟩ := zh30
                      exact F.1 _ _ _ _ .int rfl rfl (dx dX7_says 38 rfl) kh30 ⟨⟨_, rfl⟩, ⟨_, mh30⟩, ph30⟩))
    ·
      have c3 : (inR x 6) = false := c3
      refine r_aload_n C (dx dX7_says 12 rfl) rfl ?_
      refine r_bipush (v := -2) C (dx dX7_says 13 rfl) rfl ?_
      refine r_cv (as := [vi (-2)]) (st := []) C X I_X7_refuse l_X7_83 (c_X7_refuse hm (x := -2) (j := 2) (by decide) (by decide)) (by decide) (Nat.le_of_ble_eq_true rfl) List.prefix_rfl List.prefix_rfl rfl rfl (Nat.le_of_ble_eq_true rfl) rfl (dx dX7_says 14 rfl) ?_
      rintro _ h31 ⟨rfl, ⟨wh31, m9h31, s9h31⟩, qh31⟩ kkh31
      obtain ⟨vh31, mh31, zh31⟩ : ∃ v9, MilAt h31 k v9 ∧ Sz v v9 := ⟨_, m9h31, s9h31⟩
      have ph31 : Kp k h h31 := qh31
      have kh31 : xK h31 = xK h := kkh31
      obtain ⟨ah31, bh31, ch31⟩ := zh31
      exact F.1 _ _ _ _ .int rfl rfl (dx dX7_says 15 rfl) kh31 ⟨⟨_, rfl⟩, ⟨_, mh31⟩, ph31⟩
set_option maxHeartbeats 4000000 in
theorem c_X7_would_y {l : Launch} {h : Hp} {P : List Nat} {k z : Nat} {v : Vg} {g : Sg} {κ τ : Bool} (M : Md h P k v g z κ τ) {σ η β : Nat} (hσ : σ < 8) (hη : 1 ≤ η ∧ η ≤ 5) (hβ : β < 100) (eT : gT g σ = nI (10 + η)) (eY : gY g σ = nI β) : Ms l yX7_would cX7_would 3 (some .long) 11 [vr 7 k, vi (nI σ)] h (AL P κ true) (fun r h' => PL r ∧ (∃ v', Md h' P k v' g z κ true) ∧ Lo k h h') := by
  refine Ms.of (by decide) (Nat.le_of_ble_eq_true rfl) (fun G C X F => ?_)
  have C : Cx G cX7_would 3 RX7 := C
  show Rr G 0 [(0, vr 7 k), (1, vi (nI σ))] [] h
  have hm := M.1
  have hs := M.2.1
  have al := M.al
  have hk7 := M.hk
  have bP := hm.bP
  have bM := hm.bM
  have bN := hm.bN
  have hq := nh_hold hσ (by omega) eT eY
  refine r_aload_n C (dx dX7_would 0 rfl) rfl ?_
  refine r_iload_n C (dx dX7_would 1 rfl) rfl ?_
  refine r_cv (as := [vi (nI σ)]) (st := []) C X I_X7_noHolding l_X7_292 (c_X7_noHolding M.1 M.2.1 (nI σ)) (by decide) (Nat.le_of_ble_eq_true rfl) List.prefix_rfl (by first | exact List.prefix_rfl | (rw [al]; exact AL_pre id (fun _ => rfl))) rfl rfl (Nat.le_of_ble_eq_true rfl) rfl (dx dX7_would 2 rfl) ?_
  rintro _ h1 ⟨rfl, ⟨wh1, mh1, zh1⟩, qh1⟩ kkh1
  have Mh1 := M.kp mh1 qh1 kkh1
  have loh1 : Lo k h h1 := Lo.tr (Lo.rf (a := k) (h := h)) (Lo.fr (Fr.vc qh1) (Nat.le_refl _))
  refine r_istore_n (ls' := [(0, vr 7 k), (1, vi (nI σ)), (2, vi (nhA g (nI σ)))]) C (dx dX7_would 3 rfl) (by decide) [1, 2, 0] rfl ?_
  refine r_iload_n C (dx dX7_would 4 rfl) rfl ?_
  refine r_if_eq (tgt := 15) C (dx dX7_would 5 rfl) (by decide) (fun c2 => ?_) (fun c2 => ?_)
  ·
    have c2 : nhA g (nI σ) = 0 := c2
    refine r_aload_n C (dx dX7_would 9 rfl) rfl ?_
    refine r_iload_n C (dx dX7_would 10 rfl) rfl ?_
    refine r_cv (as := [vi (nI σ)]) (st := []) C X I_X7_wouldBy l_X7_299 (c_X7_wouldBy_y Mh1 hσ hη hβ eT eY) (by decide) (Nat.le_of_ble_eq_true rfl) (by rw [Mh1.al]; exact AL_pre id (fun _ => rfl)) (by first | exact List.prefix_rfl | (rw [al]; exact AL_pre id (fun _ => rfl))) rfl rfl (Nat.le_of_ble_eq_true rfl) rfl (dx dX7_would 11 rfl) ?_
    rintro _ hF ⟨⟨xF, rfl⟩, MF, loF9⟩ kF
    have loF := loh1.tr loF9
    exact F.2.1 _ _ _ _ rfl (dx dX7_would 12 rfl) kF ⟨⟨_, rfl⟩, ⟨_, MF⟩, loF⟩
  ·
    have c2 : ¬ nhA g (nI σ) = 0 := c2
    exact absurd hq c2
set_option maxHeartbeats 4000000 in
theorem c_X7_would_n {l : Launch} {h : Hp} {k : Nat} {v : Vg} {g : Sg} (hm : MilAt h k v) (hs : MshAt h k g) (s : Int32) (hq : ¬ nhA g s = 0) : Ms l yX7_would cX7_would 3 (some .long) 11 [vr 7 k, vi s] h (xK h) (fun r h' => PL r ∧ (∃ v', MilAt h' k v') ∧ Kp k h h') := by
  refine Ms.of (by decide) (Nat.le_of_ble_eq_true rfl) (fun G C X F => ?_)
  have C : Cx G cX7_would 3 RX7 := C
  show Rr G 0 [(0, vr 7 k), (1, vi s)] [] h
  have bP := hm.bP
  have bM := hm.bM
  have bN := hm.bN
  refine r_aload_n C (dx dX7_would 0 rfl) rfl ?_
  refine r_iload_n C (dx dX7_would 1 rfl) rfl ?_
  refine r_cv (as := [vi s]) (st := []) C X I_X7_noHolding l_X7_292 (c_X7_noHolding hm hs s) (by decide) (Nat.le_of_ble_eq_true rfl) List.prefix_rfl List.prefix_rfl rfl rfl (Nat.le_of_ble_eq_true rfl) rfl (dx dX7_would 2 rfl) ?_
  rintro _ h1 ⟨rfl, ⟨wh1, m9h1, s9h1⟩, qh1⟩ kkh1
  obtain ⟨vh1, mh1, zh1⟩ : ∃ v9, MilAt h1 k v9 ∧ Sz v v9 := ⟨_, m9h1, s9h1⟩
  have ph1 : Kp k h h1 := qh1
  have kh1 : xK h1 = xK h := kkh1
  obtain ⟨ah1, bh1, ch1⟩ := zh1
  refine r_istore_n (ls' := [(0, vr 7 k), (1, vi s), (2, vi (nhA g s))]) C (dx dX7_would 3 rfl) (by decide) [1, 2, 0] rfl ?_
  refine r_iload_n C (dx dX7_would 4 rfl) rfl ?_
  refine r_if_eq (tgt := 15) C (dx dX7_would 5 rfl) (by decide) (fun c2 => ?_) (fun c2 => ?_)
  ·
    have c2 : nhA g s = 0 := c2
    exact absurd c2 hq
  ·
    have c2 : ¬ nhA g s = 0 := c2
    refine r_iload_n C (dx dX7_would 6 rfl) rfl ?_
    refine r_i2l C (dx dX7_would 7 rfl) ?_
    refine r_goto (tgt := 20) C (dx dX7_would 8 rfl) (by decide) ?_
    exact F.2.1 _ _ _ _ rfl (dx dX7_would 12 rfl) kh1 ⟨⟨_, rfl⟩, ⟨_, mh1⟩, ph1⟩
set_option maxHeartbeats 4000000 in
theorem c_X7_trust_y {l : Launch} {h : Hp} {P : List Nat} {k z : Nat} {v : Vg} {g : Sg} {κ τ : Bool} (M : Md h P k v g z κ τ) {o1 o2 : Int32} (q1 : inR o1 (vN v) = true) (q2 : inR o2 (vN v) = true) (q3 : ¬ o1 = o2) : Ms l yX7_trust cX7_trust 5 (some .long) 5 [vr 7 k, vi o1, vi o2] h (AL P κ true) (fun r h' => PL r ∧ (∃ v', Md h' P k v' g z κ true) ∧ Lo k h h') := by
  refine Ms.of (by decide) (Nat.le_of_ble_eq_true rfl) (fun G C X F => ?_)
  have C : Cx G cX7_trust 5 RX7 := C
  show Rr G 0 [(0, vr 7 k), (1, vi o1), (2, vi o2)] [] h
  have hm := M.1
  have hs := M.2.1
  have al := M.al
  have hk7 := M.hk
  have bP := hm.bP
  have bM := hm.bM
  have bN := hm.bN
  refine r_aload_n C (dx dX7_trust 0 rfl) rfl ?_
  refine r_iload_n C (dx dX7_trust 1 rfl) rfl ?_
  refine r_cvP (as := [vi o1]) (st := []) (v := vi (b2i (inR o1 (vN v)))) C X I_X7_isOne l_X7_125 (c_X7_isOne hm _) (by decide) (Nat.le_of_ble_eq_true rfl) (by first | exact List.prefix_rfl | (rw [al]; exact AL_pre id (fun _ => rfl))) rfl rfl (Nat.le_of_ble_eq_true rfl) rfl (dx dX7_trust 2 rfl) ?_
  refine rb_eq (b := inR o1 (vN v)) (tgt := 21) C (dx dX7_trust 3 rfl) (by decide) (fun c1 => ?_) (fun c1 => ?_)
  ·
    have c1 : (inR o1 (vN v)) = false := c1
    exact absurd (q1.symm.trans c1) (by decide)
  ·
    have c1 : (inR o1 (vN v)) = true := c1
    refine r_aload_n C (dx dX7_trust 4 rfl) rfl ?_
    refine r_iload_n C (dx dX7_trust 5 rfl) rfl ?_
    refine r_cvP (as := [vi o2]) (st := []) (v := vi (b2i (inR o2 (vN v)))) C X I_X7_isOne l_X7_125 (c_X7_isOne hm _) (by decide) (Nat.le_of_ble_eq_true rfl) (by first | exact List.prefix_rfl | (rw [al]; exact AL_pre id (fun _ => rfl))) rfl rfl (Nat.le_of_ble_eq_true rfl) rfl (dx dX7_trust 6 rfl) ?_
    refine rb_eq (b := inR o2 (vN v)) (tgt := 21) C (dx dX7_trust 7 rfl) (by decide) (fun c2 => ?_) (fun c2 => ?_)
    ·
      have c2 : (inR o2 (vN v)) = false := c2
      exact absurd (q2.symm.trans c2) (by decide)
    ·
      have c2 : (inR o2 (vN v)) = true := c2
      refine r_iload_n C (dx dX7_trust 8 rfl) rfl ?_
      refine r_iload_n C (dx dX7_trust 9 rfl) rfl ?_
      refine r_icmp_ne (tgt := 33) C (dx dX7_trust 10 rfl) (by decide) (fun c3 => ?_) (fun c3 => ?_)
      ·
        have c3 : ¬ o1 = o2 := c3
        refine r_aload_n C (dx dX7_trust 18 rfl) rfl ?_
        refine r_cv (as := []) (st := []) C X I_X7_fresh l_X7_102 (c_X7_fresh M) (by decide) (Nat.le_of_ble_eq_true rfl) (by rw [M.al]; exact AL_pre id (fun _ => rfl)) (by first | exact List.prefix_rfl | (rw [al]; exact AL_pre id (fun _ => rfl))) rfl rfl (Nat.le_of_ble_eq_true rfl) rfl (dx dX7_trust 19 rfl) ?_
        rintro _ hF ⟨b, rfl, ebF, BF, MF, hb, hlF, loF⟩ kF
        refine r_astore_n (ls' := [(0, vr 7 k), (1, vi o1), (2, vi o2), (3, vr 7 b)]) C (dx dX7_trust 20 rfl) (by decide) [1, 2, 3, 0] rfl ?_
        refine r_iconst (v := nI 0) C (dx dX7_trust 21 rfl) rfl ?_
        refine r_istore (ls' := [(0, vr 7 k), (1, vi o1), (2, vi o2), (3, vr 7 b), (4, vi (nI 0))]) C (dx dX7_trust 22 rfl) (by decide) [1, 2, 3, 4, 0] rfl ?_
        refine loopU (Φ := fun p => ∀ h9 w9, Md h9 P k v g z κ true → MilAt h9 b w9 → Sz v w9 → Lo k h h9 → xN h9 k 22 = b + 1 → xK h9 = AL P κ true → Rr G 41 [(0, vr 7 k), (1, vi o1), (2, vi o2), (3, vr 7 b), (4, vi (nI p))] [] h9) (N := vP v) ?_ ?_ 0 (Nat.zero_le _) _ _ MF BF ⟨rfl, rfl, rfl⟩ loF ebF kF
        ·
          intro h9 w9 M9 B9 s9 lo9 eb9 k9
          obtain ⟨sa9, sb9, sc9⟩ := s9
          have hl9 : b + 32 ≤ (xK h9).length := by rw [k9, ← kF]; exact hlF
          refine r_iload C (dx dX7_trust 23 rfl) rfl ?_
          refine r_aload_n C (dx dX7_trust 24 rfl) rfl ?_
          refine g_X7_64 (x := nI (vP v)) C (dx dX7_trust 25 rfl) M9.1.eP ?_
          refine rn_ge (a := vP v) (b := vP v) (tgt := 114) C (by omega) (by omega) (dx dX7_trust 26 rfl) (by decide) (fun c4 => ?_) (fun c4 => ?_)
          · first
            | (omega; done)
            | (
                have c4 : vP v ≤ vP v := c4
                refine r_aload_n C (dx dX7_trust 61 rfl) rfl ?_
                refine r_cvW (as := []) (st := []) C X I_X7_day l_X7_295 (c_X7_day B9) (by decide) (Nat.le_of_ble_eq_true rfl) (pfx_eq k9) rfl rfl (Nat.le_of_ble_eq_true rfl) rfl (dx dX7_trust 62 rfl) ?_
                rintro _ ⟨x5, rfl⟩
                refine r_aload_n C (dx dX7_trust 63 rfl) rfl ?_
                refine r_cvW (as := []) (st := [vl x5]) C X I_X7_day l_X7_295 (c_X7_day M9.1) (by decide) (Nat.le_of_ble_eq_true rfl) (pfx_eq k9) rfl rfl (Nat.le_of_ble_eq_true rfl) rfl (dx dX7_trust 64 rfl) ?_
                rintro _ ⟨x6, rfl⟩
                refine r_lsub C (dx dX7_trust 65 rfl) ?_
                exact F.2.1 _ _ _ _ rfl (dx dX7_trust 66 rfl) k9 ⟨⟨_, rfl⟩, ⟨_, M9⟩, lo9⟩)
          · first
            | (omega; done)
        ·
          intro p hp ih h9 w9 M9 B9 s9 lo9 eb9 k9
          obtain ⟨sa9, sb9, sc9⟩ := s9
          have hl9 : b + 32 ≤ (xK h9).length := by rw [k9, ← kF]; exact hlF
          refine r_iload C (dx dX7_trust 23 rfl) rfl ?_
          refine r_aload_n C (dx dX7_trust 24 rfl) rfl ?_
          refine g_X7_64 (x := nI (vP v)) C (dx dX7_trust 25 rfl) M9.1.eP ?_
          refine rn_ge (a := p) (b := vP v) (tgt := 114) C (by omega) (by omega) (dx dX7_trust 26 rfl) (by decide) (fun c11 => ?_) (fun c11 => ?_)
          · first
            | (omega; done)
            | (
                have c11 : vP v ≤ p := c11
                refine r_aload_n C (dx dX7_trust 61 rfl) rfl ?_
                refine r_cvW (as := []) (st := []) C X I_X7_day l_X7_295 (c_X7_day B9) (by decide) (Nat.le_of_ble_eq_true rfl) (pfx_eq k9) rfl rfl (Nat.le_of_ble_eq_true rfl) rfl (dx dX7_trust 62 rfl) ?_
                rintro _ ⟨x12, rfl⟩
                refine r_aload_n C (dx dX7_trust 63 rfl) rfl ?_
                refine r_cvW (as := []) (st := [vl x12]) C X I_X7_day l_X7_295 (c_X7_day M9.1) (by decide) (Nat.le_of_ble_eq_true rfl) (pfx_eq k9) rfl rfl (Nat.le_of_ble_eq_true rfl) rfl (dx dX7_trust 64 rfl) ?_
                rintro _ ⟨x13, rfl⟩
                refine r_lsub C (dx dX7_trust 65 rfl) ?_
                exact F.2.1 _ _ _ _ rfl (dx dX7_trust 66 rfl) k9 ⟨⟨_, rfl⟩, ⟨_, M9⟩, lo9⟩)
          · first
            | (omega; done)
            | (
                have c11 : p < vP v := c11
                refine r_aload_n C (dx dX7_trust 27 rfl) rfl ?_
                refine g_X7_40 C (dx dX7_trust 28 rfl) ?_
                refine r_iload C (dx dX7_trust 29 rfl) rfl ?_
                refine r_aload_n C (dx dX7_trust 30 rfl) rfl ?_
                refine g_X7_40 C (dx dX7_trust 31 rfl) ?_
                refine r_iload C (dx dX7_trust 32 rfl) rfl ?_
                refine r_iald (j := p) (x := vF v 0 p) C rfl rfl (by decide) rfl (by omega) (dx dX7_trust 33 rfl) (M9.1.e0 (by omega)) ?_
                refine r_iload_n C (dx dX7_trust 34 rfl) rfl ?_
                refine r_icmp_ne (tgt := 71) C (dx dX7_trust 35 rfl) (by decide) (fun c14 => ?_) (fun c14 => ?_)
                ·
                  have c14 : ¬ vF v 0 p = o1 := c14
                  refine r_aload_n C (dx dX7_trust 38 rfl) rfl ?_
                  refine g_X7_40 C (dx dX7_trust 39 rfl) ?_
                  refine r_iload C (dx dX7_trust 40 rfl) rfl ?_
                  refine r_iald (j := p) (x := vF v 0 p) C rfl rfl (by decide) rfl (by omega) (dx dX7_trust 41 rfl) (M9.1.e0 (by omega)) ?_
                  refine r_iast (j := p) C rfl rfl (by decide) rfl (by omega) (dx dX7_trust 42 rfl) ?_
                  obtain ⟨wh15, Bh15, sh15⟩ : ∃ w99, MilAt (sI h9 (b + 18) p (vF v 0 p)) b w99 ∧ Sz w9 w99 := ⟨vset w9 0 p (vF v 0 p), B9.s0, ⟨rfl, rfl, rfl⟩⟩
                  have qh15 : Kp b h9 (sI h9 (b + 18) p (vF v 0 p)) := Kp.c (by omega) (by omega)
                  have Mh15 := M9.tk (b := b) hb hl9 Bh15 qh15 (show xK (sI h9 (b + 18) p (vF v 0 p)) = xK h9 from rfl)
                  have loh15 : Lo k h (sI h9 (b + 18) p (vF v 0 p)) := lo9.tr (Lo.fr (Fr.vc qh15) (by omega))
                  have ebh15 : xN (sI h9 (b + 18) p (vF v 0 p)) k 22 = b + 1 := by rw [((Fr.vc qh15) k (by omega)).2.2]; exact eb9
                  have hlh15 : b + 32 ≤ (xK (sI h9 (b + 18) p (vF v 0 p))).length := by rw [show xK (sI h9 (b + 18) p (vF v 0 p)) = xK h9 from rfl]; exact hl9
                  have kh15 : xK (sI h9 (b + 18) p (vF v 0 p)) = AL P κ true := (show xK (sI h9 (b + 18) p (vF v 0 p)) = xK h9 from rfl).trans k9
                  generalize sI h9 (b + 18) p (vF v 0 p) = h15 at Bh15 qh15 Mh15 loh15 ebh15 hlh15 kh15 ⊢
                  obtain ⟨sah15, sbh15, sch15⟩ := sh15
                  refine r_aload_n C (dx dX7_trust 43 rfl) rfl ?_
                  refine g_X7_43 C (dx dX7_trust 44 rfl) ?_
                  refine r_iload C (dx dX7_trust 45 rfl) rfl ?_
                  refine r_aload_n C (dx dX7_trust 46 rfl) rfl ?_
                  refine g_X7_43 C (dx dX7_trust 47 rfl) ?_
                  refine r_iload C (dx dX7_trust 48 rfl) rfl ?_
                  refine r_iald (j := p) (x := vF v 1 p) C rfl rfl (by decide) rfl (by omega) (dx dX7_trust 49 rfl) (Mh15.1.e1 (by omega)) ?_
                  refine r_iload_n C (dx dX7_trust 50 rfl) rfl ?_
                  refine r_icmp_ne (tgt := 100) C (dx dX7_trust 51 rfl) (by decide) (fun c16 => ?_) (fun c16 => ?_)
                  ·
                    have c16 : ¬ vF v 1 p = o1 := c16
                    refine r_aload_n C (dx dX7_trust 54 rfl) rfl ?_
                    refine g_X7_43 C (dx dX7_trust 55 rfl) ?_
                    refine r_iload C (dx dX7_trust 56 rfl) rfl ?_
                    refine r_iald (j := p) (x := vF v 1 p) C rfl rfl (by decide) rfl (by omega) (dx dX7_trust 57 rfl) (Mh15.1.e1 (by omega)) ?_
                    refine r_iast (j := p) C rfl rfl (by decide) rfl (by omega) (dx dX7_trust 58 rfl) ?_
                    obtain ⟨wh17, Bh17, sh17⟩ : ∃ w99, MilAt (sI h15 (b + 19) p (vF v 1 p)) b w99 ∧ Sz wh15 w99 := ⟨vset wh15 1 p (vF v 1 p), Bh15.s1, ⟨rfl, rfl, rfl⟩⟩
                    have qh17 : Kp b h15 (sI h15 (b + 19) p (vF v 1 p)) := Kp.c (by omega) (by omega)
                    have Mh17 := Mh15.tk (b := b) hb hlh15 Bh17 qh17 (show xK (sI h15 (b + 19) p (vF v 1 p)) = xK h15 from rfl)
                    have loh17 : Lo k h (sI h15 (b + 19) p (vF v 1 p)) := loh15.tr (Lo.fr (Fr.vc qh17) (by omega))
                    have ebh17 : xN (sI h15 (b + 19) p (vF v 1 p)) k 22 = b + 1 := by rw [((Fr.vc qh17) k (by omega)).2.2]; exact ebh15
                    have hlh17 : b + 32 ≤ (xK (sI h15 (b + 19) p (vF v 1 p))).length := by rw [show xK (sI h15 (b + 19) p (vF v 1 p)) = xK h15 from rfl]; exact hlh15
                    have kh17 : xK (sI h15 (b + 19) p (vF v 1 p)) = AL P κ true := (show xK (sI h15 (b + 19) p (vF v 1 p)) = xK h15 from rfl).trans kh15
                    generalize sI h15 (b + 19) p (vF v 1 p) = h17 at Bh17 qh17 Mh17 loh17 ebh17 hlh17 kh17 ⊢
                    obtain ⟨sah17, sbh17, sch17⟩ := sh17
                    refine rn_iinc (a := p) (k := 1) (ls' := [(0, vr 7 k), (1, vi o1), (2, vi o2), (3, vr 7 b), (4, vi (nI (p + 1)))]) C (dx dX7_trust 59 rfl) rfl rfl (by decide) [1, 2, 3, 4, 0] rfl ?_
                    refine r_goto (tgt := 41) C (dx dX7_trust 60 rfl) (by decide) ?_
                    exact ih _ _ Mh17 Bh17 ⟨by omega, by omega, by omega⟩ loh17 ebh17 kh17
                  ·
                    have c16 : vF v 1 p = o1 := c16
                    refine r_iload_n C (dx dX7_trust 52 rfl) rfl ?_
                    refine r_goto (tgt := 107) C (dx dX7_trust 53 rfl) (by decide) ?_
                    refine r_iast (j := p) C rfl rfl (by decide) rfl (by omega) (dx dX7_trust 58 rfl) ?_
                    obtain ⟨wh18, Bh18, sh18⟩ : ∃ w99, MilAt (sI h15 (b + 19) p o2) b w99 ∧ Sz wh15 w99 := ⟨vset wh15 1 p o2, Bh15.s1, ⟨rfl, rfl, rfl⟩⟩
                    have qh18 : Kp b h15 (sI h15 (b + 19) p o2) := Kp.c (by omega) (by omega)
                    have Mh18 := Mh15.tk (b := b) hb hlh15 Bh18 qh18 (show xK (sI h15 (b + 19) p o2) = xK h15 from rfl)
                    have loh18 : Lo k h (sI h15 (b + 19) p o2) := loh15.tr (Lo.fr (Fr.vc qh18) (by omega))
                    have ebh18 : xN (sI h15 (b + 19) p o2) k 22 = b + 1 := by rw [((Fr.vc qh18) k (by omega)).2.2]; exact ebh15
                    have hlh18 : b + 32 ≤ (xK (sI h15 (b + 19) p o2)).length := by rw [show xK (sI h15 (b + 19) p o2) = xK h15 from rfl]; exact hlh15
                    have kh18 : xK (sI h15 (b + 19) p o2) = AL P κ true := (show xK (sI h15 (b + 19) p o2) = xK h15 from rfl).trans kh15
                    generalize sI h15 (b + 19) p o2 = h18 at Bh18 qh18 Mh18 loh18 ebh18 hlh18 kh18 ⊢
                    obtain ⟨sah18, sbh18, sch18⟩ := sh18
                    refine rn_iinc (a := p) (k := 1) (ls' := [(0, vr 7 k), (1, vi o1), (2, vi o2), (3, vr 7 b), (4, vi (nI (p + 1)))]) C (dx dX7_trust 59 rfl) rfl rfl (by decide) [1, 2, 3, 4, 0] rfl ?_
                    refine r_goto (tgt := 41) C (dx dX7_trust 60 rfl) (by decide) ?_
                    exact ih _ _ Mh18 Bh18 ⟨by omega, by omega, by omega⟩ loh18 ebh18 kh18
                ·
                  have c14 : vF v 0 p = o1 := c14
                  refine r_iload_n C (dx dX7_trust 36 rfl) rfl ?_
                  refine r_goto (tgt := 78) C (dx dX7_trust 37 rfl) (by decide) ?_
                  refine r_iast (j := p) C rfl rfl (by decide) rfl (by omega) (dx dX7_trust 42 rfl) ?_
                  obtain ⟨wh19, Bh19, sh19⟩ : ∃ w99, MilAt (sI h9 (b + 18) p o2) b w99 ∧ Sz w9 w99 := ⟨vset w9 0 p o2, B9.s0, ⟨rfl, rfl, rfl⟩⟩
                  have qh19 : Kp b h9 (sI h9 (b + 18) p o2) := Kp.c (by omega) (by omega)
                  have Mh19 := M9.tk (b := b) hb hl9 Bh19 qh19 (show xK (sI h9 (b + 18) p o2) = xK h9 from rfl)
                  have loh19 : Lo k h (sI h9 (b + 18) p o2) := lo9.tr (Lo.fr (Fr.vc qh19) (by omega))
                  have ebh19 : xN (sI h9 (b + 18) p o2) k 22 = b + 1 := by rw [((Fr.vc qh19) k (by omega)).2.2]; exact eb9
                  have hlh19 : b + 32 ≤ (xK (sI h9 (b + 18) p o2)).length := by rw [show xK (sI h9 (b + 18) p o2) = xK h9 from rfl]; exact hl9
                  have kh19 : xK (sI h9 (b + 18) p o2) = AL P κ true := (show xK (sI h9 (b + 18) p o2) = xK h9 from rfl).trans k9
                  generalize sI h9 (b + 18) p o2 = h19 at Bh19 qh19 Mh19 loh19 ebh19 hlh19 kh19 ⊢
                  obtain ⟨sah19, sbh19, sch19⟩ := sh19
                  refine r_aload_n C (dx dX7_trust 43 rfl) rfl ?_
                  refine g_X7_43 C (dx dX7_trust 44 rfl) ?_
                  refine r_iload C (dx dX7_trust 45 rfl) rfl ?_
                  refine r_aload_n C (dx dX7_trust 46 rfl) rfl ?_
                  refine g_X7_43 C (dx dX7_trust 47 rfl) ?_
                  refine r_iload C (dx dX7_trust 48 rfl) rfl ?_
                  refine r_iald (j := p) (x := vF v 1 p) C rfl rfl (by decide) rfl (by omega) (dx dX7_trust 49 rfl) (Mh19.1.e1 (by omega)) ?_
                  refine r_iload_n C (dx dX7_trust 50 rfl) rfl ?_
                  refine r_icmp_ne (tgt := 100) C (dx dX7_trust 51 rfl) (by decide) (fun c20 => ?_) (fun c20 => ?_)
                  ·
                    have c20 : ¬ vF v 1 p = o1 := c20
                    refine r_aload_n C (dx dX7_trust 54 rfl) rfl ?_
                    refine g_X7_43 C (dx dX7_trust 55 rfl) ?_
                    refine r_iload C (dx dX7_trust 56 rfl) rfl ?_
                    refine r_iald (j := p) (x := vF v 1 p) C rfl rfl (by decide) rfl (by omega) (dx dX7_trust 57 rfl) (Mh19.1.e1 (by omega)) ?_
                    refine r_iast (j := p) C rfl rfl (by decide) rfl (by omega) (dx dX7_trust 58 rfl) ?_
                    obtain ⟨wh21, Bh21, sh21⟩ : ∃ w99, MilAt (sI h19 (b + 19) p (vF v 1 p)) b w99 ∧ Sz wh19 w99 := ⟨vset wh19 1 p (vF v 1 p), Bh19.s1, ⟨rfl, rfl, rfl⟩⟩
                    have qh21 : Kp b h19 (sI h19 (b + 19) p (vF v 1 p)) := Kp.c (by omega) (by omega)
                    have Mh21 := Mh19.tk (b := b) hb hlh19 Bh21 qh21 (show xK (sI h19 (b + 19) p (vF v 1 p)) = xK h19 from rfl)
                    have loh21 : Lo k h (sI h19 (b + 19) p (vF v 1 p)) := loh19.tr (Lo.fr (Fr.vc qh21) (by omega))
                    have ebh21 : xN (sI h19 (b + 19) p (vF v 1 p)) k 22 = b + 1 := by rw [((Fr.vc qh21) k (by omega)).2.2]; exact ebh19
                    have hlh21 : b + 32 ≤ (xK (sI h19 (b + 19) p (vF v 1 p))).length := by rw [show xK (sI h19 (b + 19) p (vF v 1 p)) = xK h19 from rfl]; exact hlh19
                    have kh21 : xK (sI h19 (b + 19) p (vF v 1 p)) = AL P κ true := (show xK (sI h19 (b + 19) p (vF v 1 p)) = xK h19 from rfl).trans kh19
                    generalize sI h19 (b + 19) p (vF v 1 p) = h21 at Bh21 qh21 Mh21 loh21 ebh21 hlh21 kh21 ⊢
                    obtain ⟨sah21, sbh21, sch21⟩ := sh21
                    refine rn_iinc (a := p) (k := 1) (ls' := [(0, vr 7 k), (1, vi o1), (2, vi o2), (3, vr 7 b), (4, vi (nI (p + 1)))]) C (dx dX7_trust 59 rfl) rfl rfl (by decide) [1, 2, 3, 4, 0] rfl ?_
                    refine r_goto (tgt := 41) C (dx dX7_trust 60 rfl) (by decide) ?_
                    exact ih _ _ Mh21 Bh21 ⟨by omega, by omega, by omega⟩ loh21 ebh21 kh21
                  ·
                    have c20 : vF v 1 p = o1 := c20
                    refine r_iload_n C (dx dX7_trust 52 rfl) rfl ?_
                    refine r_goto (tgt := 107) C (dx dX7_trust 53 rfl) (by decide) ?_
                    refine r_iast (j := p) C rfl rfl (by decide) rfl (by omega) (dx dX7_trust 58 rfl) ?_
                    obtain ⟨wh22, Bh22, sh22⟩ : ∃ w99, MilAt (sI h19 (b + 19) p o2) b w99 ∧ Sz wh19 w99 := ⟨vset wh19 1 p o2, Bh19.s1, ⟨rfl, rfl, rfl⟩⟩
                    have qh22 : Kp b h19 (sI h19 (b + 19) p o2) := Kp.c (by omega) (by omega)
                    have Mh22 := Mh19.tk (b := b) hb hlh19 Bh22 qh22 (show xK (sI h19 (b + 19) p o2) = xK h19 from rfl)
                    have loh22 : Lo k h (sI h19 (b + 19) p o2) := loh19.tr (Lo.fr (Fr.vc qh22) (by omega))
                    have ebh22 : xN (sI h19 (b + 19) p o2) k 22 = b + 1 := by rw [((Fr.vc qh22) k (by omega)).2.2]; exact ebh19
                    have hlh22 : b + 32 ≤ (xK (sI h19 (b + 19) p o2)).length := by rw [show xK (sI h19 (b + 19) p o2) = xK h19 from rfl]; exact hlh19
                    have kh22 : xK (sI h19 (b + 19) p o2) = AL P κ true := (show xK (sI h19 (b + 19) p o2) = xK h19 from rfl).trans kh19
                    generalize sI h19 (b + 19) p o2 = h22 at Bh22 qh22 Mh22 loh22 ebh22 hlh22 kh22 ⊢
                    obtain ⟨sah22, sbh22, sch22⟩ := sh22
                    refine rn_iinc (a := p) (k := 1) (ls' := [(0, vr 7 k), (1, vi o1), (2, vi o2), (3, vr 7 b), (4, vi (nI (p + 1)))]) C (dx dX7_trust 59 rfl) rfl rfl (by decide) [1, 2, 3, 4, 0] rfl ?_
                    refine r_goto (tgt := 41) C (dx dX7_trust 60 rfl) (by decide) ?_
                    exact ih _ _ Mh22 Bh22 ⟨by omega, by omega, by omega⟩ loh22 ebh22 kh22)
      ·
        have c3 : o1 = o2 := c3
        exact absurd c3 q3
set_option maxHeartbeats 4000000 in
theorem c_X7_trust_n {l : Launch} {h : Hp} {k : Nat} {v : Vg} {g : Sg} (hm : MilAt h k v) (hs : MshAt h k g) (o1 o2 : Int32) (hn : ¬ (inR o1 (vN v) = true ∧ inR o2 (vN v) = true ∧ ¬ o1 = o2)) : Ms l yX7_trust cX7_trust 5 (some .long) 5 [vr 7 k, vi o1, vi o2] h (xK h) (fun r h' => PL r ∧ (∃ v', MilAt h' k v') ∧ Kp k h h') := by
  refine Ms.of (by decide) (Nat.le_of_ble_eq_true rfl) (fun G C X F => ?_)
  have C : Cx G cX7_trust 5 RX7 := C
  show Rr G 0 [(0, vr 7 k), (1, vi o1), (2, vi o2)] [] h
  have bP := hm.bP
  have bM := hm.bM
  have bN := hm.bN
  refine r_aload_n C (dx dX7_trust 0 rfl) rfl ?_
  refine r_iload_n C (dx dX7_trust 1 rfl) rfl ?_
  refine r_cvP (as := [vi o1]) (st := []) (v := vi (b2i (inR o1 (vN v)))) C X I_X7_isOne l_X7_125 (c_X7_isOne hm _) (by decide) (Nat.le_of_ble_eq_true rfl) List.prefix_rfl rfl rfl (Nat.le_of_ble_eq_true rfl) rfl (dx dX7_trust 2 rfl) ?_
  refine rb_eq (b := inR o1 (vN v)) (tgt := 21) C (dx dX7_trust 3 rfl) (by decide) (fun c1 => ?_) (fun c1 => ?_)
  ·
    have c1 : (inR o1 (vN v)) = false := c1
    refine r_aload_n C (dx dX7_trust 11 rfl) rfl ?_
    refine r_bipush (v := -2) C (dx dX7_trust 12 rfl) rfl ?_
    refine r_cv (as := [vi (-2)]) (st := []) C X I_X7_refuse l_X7_83 (c_X7_refuse hm (x := -2) (j := 2) (by decide) (by decide)) (by decide) (Nat.le_of_ble_eq_true rfl) List.prefix_rfl List.prefix_rfl rfl rfl (Nat.le_of_ble_eq_true rfl) rfl (dx dX7_trust 13 rfl) ?_
    rintro _ h2 ⟨rfl, ⟨wh2, m9h2, s9h2⟩, qh2⟩ kkh2
    obtain ⟨vh2, mh2, zh2⟩ : ∃ v9, MilAt h2 k v9 ∧ Sz v v9 := ⟨_, m9h2, s9h2⟩
    have ph2 : Kp k h h2 := qh2
    have kh2 : xK h2 = xK h := kkh2
    obtain ⟨ah2, bh2, ch2⟩ := zh2
    refine r_i2l C (dx dX7_trust 14 rfl) ?_
    refine r_ldc2 C n_X7_320 (dx dX7_trust 15 rfl) ?_
    refine r_lsub C (dx dX7_trust 16 rfl) ?_
    exact F.2.1 _ _ _ _ rfl (dx dX7_trust 17 rfl) kh2 ⟨⟨_, rfl⟩, ⟨_, mh2⟩, ph2⟩
  ·
    have c1 : (inR o1 (vN v)) = true := c1
    refine r_aload_n C (dx dX7_trust 4 rfl) rfl ?_
    refine r_iload_n C (dx dX7_trust 5 rfl) rfl ?_
    refine r_cvP (as := [vi o2]) (st := []) (v := vi (b2i (inR o2 (vN v)))) C X I_X7_isOne l_X7_125 (c_X7_isOne hm _) (by decide) (Nat.le_of_ble_eq_true rfl) List.prefix_rfl rfl rfl (Nat.le_of_ble_eq_true rfl) rfl (dx dX7_trust 6 rfl) ?_
    refine rb_eq (b := inR o2 (vN v)) (tgt := 21) C (dx dX7_trust 7 rfl) (by decide) (fun c3 => ?_) (fun c3 => ?_)
    ·
      have c3 : (inR o2 (vN v)) = false := c3
      refine r_aload_n C (dx dX7_trust 11 rfl) rfl ?_
      refine r_bipush (v := -2) C (dx dX7_trust 12 rfl) rfl ?_
      refine r_cv (as := [vi (-2)]) (st := []) C X I_X7_refuse l_X7_83 (c_X7_refuse hm (x := -2) (j := 2) (by decide) (by decide)) (by decide) (Nat.le_of_ble_eq_true rfl) List.prefix_rfl List.prefix_rfl rfl rfl (Nat.le_of_ble_eq_true rfl) rfl (dx dX7_trust 13 rfl) ?_
      rintro _ h4 ⟨rfl, ⟨wh4, m9h4, s9h4⟩, qh4⟩ kkh4
      obtain ⟨vh4, mh4, zh4⟩ : ∃ v9, MilAt h4 k v9 ∧ Sz v v9 := ⟨_, m9h4, s9h4⟩
      have ph4 : Kp k h h4 := qh4
      have kh4 : xK h4 = xK h := kkh4
      obtain ⟨ah4, bh4, ch4⟩ := zh4
      refine r_i2l C (dx dX7_trust 14 rfl) ?_
      refine r_ldc2 C n_X7_320 (dx dX7_trust 15 rfl) ?_
      refine r_lsub C (dx dX7_trust 16 rfl) ?_
      exact F.2.1 _ _ _ _ rfl (dx dX7_trust 17 rfl) kh4 ⟨⟨_, rfl⟩, ⟨_, mh4⟩, ph4⟩
    ·
      have c3 : (inR o2 (vN v)) = true := c3
      refine r_iload_n C (dx dX7_trust 8 rfl) rfl ?_
      refine r_iload_n C (dx dX7_trust 9 rfl) rfl ?_
      refine r_icmp_ne (tgt := 33) C (dx dX7_trust 10 rfl) (by decide) (fun c5 => ?_) (fun c5 => ?_)
      ·
        have c5 : ¬ o1 = o2 := c5
        exact absurd ⟨c1, c3, c5⟩ hn
      ·
        have c5 : o1 = o2 := c5
        refine r_aload_n C (dx dX7_trust 11 rfl) rfl ?_
        refine r_bipush (v := -2) C (dx dX7_trust 12 rfl) rfl ?_
        refine r_cv (as := [vi (-2)]) (st := []) C X I_X7_refuse l_X7_83 (c_X7_refuse hm (x := -2) (j := 2) (by decide) (by decide)) (by decide) (Nat.le_of_ble_eq_true rfl) List.prefix_rfl List.prefix_rfl rfl rfl (Nat.le_of_ble_eq_true rfl) rfl (dx dX7_trust 13 rfl) ?_
        rintro _ h6 ⟨rfl, ⟨wh6, m9h6, s9h6⟩, qh6⟩ kkh6
        obtain ⟨vh6, mh6, zh6⟩ : ∃ v9, MilAt h6 k v9 ∧ Sz v v9 := ⟨_, m9h6, s9h6⟩
        have ph6 : Kp k h h6 := qh6
        have kh6 : xK h6 = xK h := kkh6
        obtain ⟨ah6, bh6, ch6⟩ := zh6
        refine r_i2l C (dx dX7_trust 14 rfl) ?_
        refine r_ldc2 C n_X7_320 (dx dX7_trust 15 rfl) ?_
        refine r_lsub C (dx dX7_trust 16 rfl) ?_
        exact F.2.1 _ _ _ _ rfl (dx dX7_trust 17 rfl) kh6 ⟨⟨_, rfl⟩, ⟨_, mh6⟩, ph6⟩
set_option maxHeartbeats 4000000 in
theorem c_try0 {l : Launch} {h : Hp} {P : List Nat} {k z b j : Nat} {v w : Vg} {g : Sg} {κ : Bool} (M : Md h P k v g z κ true) (B : MilAt h b w) (hb : b = k + 32 ∨ b = k + 64) (hl : b + 32 ≤ (xK h).length) (eb : xN h k 22 = b + 1) (s0 : Sz v w) (h4 : vN v ≤ 4) (h6 : vP v ≤ 6) (e : vP v = j) : Ms l yX7_tryFrom cX7_tryFrom 6 none (8 + 0) [vr 7 k, vr 7 b, vi (nI j)] h (xK h) (fun r h' => r = none ∧ (∃ v' w', Md h' P k v' g z κ true ∧ Sz v v' ∧ MilAt h' b w' ∧ Sz v w') ∧ xN h' k 22 = b + 1 ∧ Lo k h h') := by
  refine Ms.of (by decide) (Nat.le_of_ble_eq_true rfl) (fun G C X F => ?_)
  have C : Cx G cX7_tryFrom 6 RX7 := C
  show Rr G 0 [(0, vr 7 k), (1, vr 7 b), (2, vi (nI j))] [] h
  have hm := M.1
  have hk7 := M.hk
  have bP := hm.bP
  have bM := hm.bM
  have bN := hm.bN
  obtain ⟨sa0, sb0, sc0⟩ := s0
  refine r_iload_n C (dx dX7_tryFrom 0 rfl) rfl ?_
  refine r_aload_n C (dx dX7_tryFrom 1 rfl) rfl ?_
  refine g_X7_64 (x := nI (vP v)) C (dx dX7_tryFrom 2 rfl) hm.eP ?_
  refine rn_ne (a := j) (b := vP v) (tgt := 60) C (by omega) (by omega) (dx dX7_tryFrom 3 rfl) (by decide) (fun c1 => ?_) (fun c1 => ?_)
  · first
    | (omega; done)
  · first
    | (omega; done)
    | (
        have c1 : j = vP v := c1
        refine r_aload_n C (dx dX7_tryFrom 4 rfl) rfl ?_
        refine r_cvW (as := []) (st := []) C X I_X7_day l_X7_295 (c_X7_day B) (by omega) (Nat.le_of_ble_eq_true rfl) (pfx_eq rfl) rfl rfl (Nat.le_of_ble_eq_true rfl) rfl (dx dX7_tryFrom 5 rfl) ?_
        rintro _ ⟨x2, rfl⟩
        refine r_lstore_n (ls' := [(0, vr 7 k), (1, vr 7 b), (2, vi (nI j)), (3, vl x2)]) C (dx dX7_tryFrom 6 rfl) (by decide) [1, 2, 3, 0] rfl ?_
        refine r_lload_n C (dx dX7_tryFrom 7 rfl) rfl ?_
        refine r_aload_n C (dx dX7_tryFrom 8 rfl) rfl ?_
        refine g_X7_302 C (dx dX7_tryFrom 9 rfl) rfl ?_
        refine r_lcmp C (dx dX7_tryFrom 10 rfl) ?_
        refine r_if_le (tgt := 59) C (dx dX7_tryFrom 11 rfl) (by decide) (fun c3 => ?_) (fun c3 => ?_)
        ·
          have c3 : x2 ≤ xL h k 31 := (lg_cmp_le _ _).mp c3
          exact F.2.2.1 _ _ _ rfl (dx dX7_tryFrom 31 rfl) rfl ⟨rfl, ⟨_, _, M, ⟨by omega, by omega, by omega⟩, B, ⟨by omega, by omega, by omega⟩⟩, eb, Lo.rf⟩
        ·
          have c3 : ¬ (x2 ≤ xL h k 31) := fun q => c3 ((lg_cmp_le _ _).mpr q)
          refine r_aload_n C (dx dX7_tryFrom 12 rfl) rfl ?_
          refine r_lload_n C (dx dX7_tryFrom 13 rfl) rfl ?_
          refine p_X7_302 C (dx dX7_tryFrom 14 rfl) ?_
          have qh4 : Kp k h (sL h k 31 x2) := Kp.fL
          obtain ⟨vh4, Mh4, sh4⟩ : ∃ v99, Md (sL h k 31 x2) P k v99 g z κ true ∧ Sz v v99 := ⟨_, M.kp (hm.fL) qh4 rfl, ⟨rfl, rfl, rfl⟩⟩
          have Bh4 := B.fr (Fr.vc qh4) (by omega)
          have loh4 : Lo k h (sL h k 31 x2) := Lo.rf.tr (Lo.fr (Fr.vc qh4) (Nat.le_refl _))
          have ebh4 : xN (sL h k 31 x2) k 22 = b + 1 := by rw [qh4.2.1]; exact eb
          have hlh4 : b + 32 ≤ (xK (sL h k 31 x2)).length := hl
          have kh4 : xK (sL h k 31 x2) = xK h := rfl
          generalize sL h k 31 x2 = h4 at Bh4 qh4 Mh4 loh4 ebh4 hlh4 kh4 ⊢
          obtain ⟨sah4, sbh4, sch4⟩ := sh4
          refine r_iconst (v := nI 0) C (dx dX7_tryFrom 15 rfl) rfl ?_
          refine r_istore (ls' := [(0, vr 7 k), (1, vr 7 b), (2, vi (nI j)), (3, vl x2), (5, vi (nI 0))]) C (dx dX7_tryFrom 16 rfl) (by decide) [1, 2, 3, 4, 0] rfl ?_
          refine loopU (Φ := fun p => ∀ h9 v9, Md h9 P k v9 g z κ true → Sz v v9 → MilAt h9 b w → xN h9 k 22 = b + 1 → Lo k h h9 → xK h9 = xK h → Rr G 30 [(0, vr 7 k), (1, vr 7 b), (2, vi (nI j)), (3, vl x2), (5, vi (nI p))] [] h9) (N := vP v) ?_ ?_ 0 (Nat.zero_le _) _ _ Mh4 ⟨by omega, by omega, by omega⟩ Bh4 ebh4 loh4 kh4
          ·
            intro h9 v9 M9 s9 B9 eb9 lo9 k9
            obtain ⟨sa9, sb9, sc9⟩ := s9
            have hl9 : b + 32 ≤ (xK h9).length := by rw [k9]; exact hl
            refine r_iload C (dx dX7_tryFrom 17 rfl) rfl ?_
            refine r_aload_n C (dx dX7_tryFrom 18 rfl) rfl ?_
            refine g_X7_64 (x := nI (vP v9)) C (dx dX7_tryFrom 19 rfl) M9.1.eP ?_
            refine rn_ge (a := vP v) (b := vP v9) (tgt := 59) C (by omega) (by omega) (dx dX7_tryFrom 20 rfl) (by decide) (fun c5 => ?_) (fun c5 => ?_)
            · first
              | (omega; done)
              | (
                  have c5 : vP v9 ≤ vP v := c5
                  exact F.2.2.1 _ _ _ rfl (dx dX7_tryFrom 31 rfl) k9 ⟨rfl, ⟨_, _, M9, ⟨by omega, by omega, by omega⟩, B9, ⟨by omega, by omega, by omega⟩⟩, eb9, lo9⟩)
            · first
              | (omega; done)
          ·
            intro p hp ih h9 v9 M9 s9 B9 eb9 lo9 k9
            obtain ⟨sa9, sb9, sc9⟩ := s9
            have hl9 : b + 32 ≤ (xK h9).length := by rw [k9]; exact hl
            refine r_iload C (dx dX7_tryFrom 17 rfl) rfl ?_
            refine r_aload_n C (dx dX7_tryFrom 18 rfl) rfl ?_
            refine g_X7_64 (x := nI (vP v9)) C (dx dX7_tryFrom 19 rfl) M9.1.eP ?_
            refine rn_ge (a := p) (b := vP v9) (tgt := 59) C (by omega) (by omega) (dx dX7_tryFrom 20 rfl) (by decide) (fun c7 => ?_) (fun c7 => ?_)
            · first
              | (omega; done)
              | (
                  have c7 : vP v9 ≤ p := c7
                  exact F.2.2.1 _ _ _ rfl (dx dX7_tryFrom 31 rfl) k9 ⟨rfl, ⟨_, _, M9, ⟨by omega, by omega, by omega⟩, B9, ⟨by omega, by omega, by omega⟩⟩, eb9, lo9⟩)
            · first
              | (omega; done)
              | (
                  have c7 : p < vP v9 := c7
                  refine r_aload_n C (dx dX7_tryFrom 21 rfl) rfl ?_
                  refine g_X7_61 C (dx dX7_tryFrom 22 rfl) ?_
                  refine r_iload C (dx dX7_tryFrom 23 rfl) rfl ?_
                  refine r_aload_n C (dx dX7_tryFrom 24 rfl) rfl ?_
                  refine g_X7_40 C (dx dX7_tryFrom 25 rfl) ?_
                  refine r_iload C (dx dX7_tryFrom 26 rfl) rfl ?_
                  refine r_iald (j := p) (x := vF w 0 p) C rfl rfl (by decide) rfl (by omega) (dx dX7_tryFrom 27 rfl) (B9.e0 (by omega)) ?_
                  refine r_iast (j := p) C rfl rfl (by decide) rfl (by omega) (dx dX7_tryFrom 28 rfl) ?_
                  have qh8 : Kp k h9 (sI h9 (k + 31) p (vF w 0 p)) := Kp.c (by omega) (by omega)
                  obtain ⟨vh8, Mh8, sh8⟩ : ∃ v99, Md (sI h9 (k + 31) p (vF w 0 p)) P k v99 g z κ true ∧ Sz v9 v99 := ⟨_, M9.kp (M9.1.fr (Fr.sI (lo := k + 31) (hi := k + 32) (by omega) (by omega)) (by omega)) qh8 rfl, ⟨rfl, rfl, rfl⟩⟩
                  have Bh8 := B9.fr (Fr.vc qh8) (by omega)
                  have loh8 : Lo k h (sI h9 (k + 31) p (vF w 0 p)) := lo9.tr (Lo.fr (Fr.vc qh8) (Nat.le_refl _))
                  have ebh8 : xN (sI h9 (k + 31) p (vF w 0 p)) k 22 = b + 1 := by rw [qh8.2.1]; exact eb9
                  have hlh8 : b + 32 ≤ (xK (sI h9 (k + 31) p (vF w 0 p))).length := hl9
                  have kh8 : xK (sI h9 (k + 31) p (vF w 0 p)) = xK h := k9
                  generalize sI h9 (k + 31) p (vF w 0 p) = h8 at Bh8 qh8 Mh8 loh8 ebh8 hlh8 kh8 ⊢
                  obtain ⟨sah8, sbh8, sch8⟩ := sh8
                  refine rn_iinc (a := p) (k := 1) (ls' := [(0, vr 7 k), (1, vr 7 b), (2, vi (nI j)), (3, vl x2), (5, vi (nI (p + 1)))]) C (dx dX7_tryFrom 29 rfl) rfl rfl (by decide) [1, 2, 3, 4, 0] rfl ?_
                  refine r_goto (tgt := 30) C (dx dX7_tryFrom 30 rfl) (by decide) ?_
                  exact ih _ _ Mh8 ⟨by omega, by omega, by omega⟩ Bh8 ebh8 loh8 kh8))
set_option maxHeartbeats 4000000 in
theorem c_tryS {l : Launch} {h : Hp} {P : List Nat} {k z b j : Nat} {v w : Vg} {g : Sg} {κ : Bool} (M : Md h P k v g z κ true) (B : MilAt h b w) (hb : b = k + 32 ∨ b = k + 64) (hl : b + 32 ≤ (xK h).length) (eb : xN h k 22 = b + 1) (s0 : Sz v w) (h4 : vN v ≤ 4) (h6 : vP v ≤ 6) {n : Nat} (ih : ∀ {h : Hp} {v w : Vg} (M : Md h P k v g z κ true) (B : MilAt h b w) (hb : b = k + 32 ∨ b = k + 64) (hl : b + 32 ≤ (xK h).length) (eb : xN h k 22 = b + 1) (s0 : Sz v w) (h4 : vN v ≤ 4) (h6 : vP v ≤ 6) {j : Nat} (e : vP v = j + n), Ms l yX7_tryFrom cX7_tryFrom 6 none (8 + n) [vr 7 k, vr 7 b, vi (nI j)] h (xK h) (fun r h' => r = none ∧ (∃ v' w', Md h' P k v' g z κ true ∧ Sz v v' ∧ MilAt h' b w' ∧ Sz v w') ∧ xN h' k 22 = b + 1 ∧ Lo k h h')) (e : vP v = j + (n + 1)) : Ms l yX7_tryFrom cX7_tryFrom 6 none (8 + (n + 1)) [vr 7 k, vr 7 b, vi (nI j)] h (xK h) (fun r h' => r = none ∧ (∃ v' w', Md h' P k v' g z κ true ∧ Sz v v' ∧ MilAt h' b w' ∧ Sz v w') ∧ xN h' k 22 = b + 1 ∧ Lo k h h') := by
  refine Ms.of (by decide) (Nat.le_of_ble_eq_true rfl) (fun G C X F => ?_)
  have C : Cx G cX7_tryFrom 6 RX7 := C
  show Rr G 0 [(0, vr 7 k), (1, vr 7 b), (2, vi (nI j))] [] h
  have hm := M.1
  have hk7 := M.hk
  have bP := hm.bP
  have bM := hm.bM
  have bN := hm.bN
  obtain ⟨sa0, sb0, sc0⟩ := s0
  refine r_iload_n C (dx dX7_tryFrom 0 rfl) rfl ?_
  refine r_aload_n C (dx dX7_tryFrom 1 rfl) rfl ?_
  refine g_X7_64 (x := nI (vP v)) C (dx dX7_tryFrom 2 rfl) hm.eP ?_
  refine rn_ne (a := j) (b := vP v) (tgt := 60) C (by omega) (by omega) (dx dX7_tryFrom 3 rfl) (by decide) (fun c1 => ?_) (fun c1 => ?_)
  · first
    | (omega; done)
    | (
        have c1 : ¬ j = vP v := c1
        refine r_iconst (v := -1) C (dx dX7_tryFrom 32 rfl) rfl ?_
        refine r_istore_n (ls' := [(0, vr 7 k), (1, vr 7 b), (2, vi (nI j)), (3, vi (-1))]) C (dx dX7_tryFrom 33 rfl) (by decide) [1, 2, 3, 0] rfl ?_
        refine r_iload_n C (dx dX7_tryFrom 34 rfl) rfl ?_
        refine r_aload_n C (dx dX7_tryFrom 35 rfl) rfl ?_
        refine g_X7_74 (x := nI (vN v)) C (dx dX7_tryFrom 36 rfl) hm.eN ?_
        refine r_icmp_ge (tgt := 111) C (dx dX7_tryFrom 37 rfl) (by decide) (fun c2 => ?_) (fun c2 => ?_)
        ·
          have c2 : nI (vN v) ≤ -1 := c2
          exact absurd c2 (ge_nm1 (by omega))
        ·
          have c2 : ¬ nI (vN v) ≤ -1 := c2
          refine r_aload_n C (dx dX7_tryFrom 38 rfl) rfl ?_
          refine g_X7_40 C (dx dX7_tryFrom 39 rfl) ?_
          refine r_iload_n C (dx dX7_tryFrom 40 rfl) rfl ?_
          refine r_iconst (v := -1) C (dx dX7_tryFrom 41 rfl) rfl ?_
          refine r_iast (j := j) C rfl rfl (by decide) rfl (by omega) (dx dX7_tryFrom 42 rfl) ?_
          obtain ⟨wh3, Bh3, sh3⟩ : ∃ w99, MilAt (sI h (b + 18) j (-1)) b w99 ∧ Sz w w99 := ⟨vset w 0 j (-1), B.s0, ⟨rfl, rfl, rfl⟩⟩
          have qh3 : Kp b h (sI h (b + 18) j (-1)) := Kp.c (by omega) (by omega)
          have Mh3 := M.tk (b := b) hb hl Bh3 qh3 (show xK (sI h (b + 18) j (-1)) = xK h from rfl)
          have loh3 : Lo k h (sI h (b + 18) j (-1)) := Lo.rf.tr (Lo.fr (Fr.vc qh3) (by omega))
          have ebh3 : xN (sI h (b + 18) j (-1)) k 22 = b + 1 := by rw [((Fr.vc qh3) k (by omega)).2.2]; exact eb
          have hlh3 : b + 32 ≤ (xK (sI h (b + 18) j (-1))).length := by rw [show xK (sI h (b + 18) j (-1)) = xK h from rfl]; exact hl
          have kh3 : xK (sI h (b + 18) j (-1)) = xK h := (show xK (sI h (b + 18) j (-1)) = xK h from rfl).trans rfl
          generalize sI h (b + 18) j (-1) = h3 at Bh3 qh3 Mh3 loh3 ebh3 hlh3 kh3 ⊢
          obtain ⟨sah3, sbh3, sch3⟩ := sh3
          refine r_iload_n C (dx dX7_tryFrom 43 rfl) rfl ?_
          refine r_iconst (v := -1) C (dx dX7_tryFrom 44 rfl) rfl ?_
          refine r_icmp_eq (tgt := 90) C (dx dX7_tryFrom 45 rfl) (by decide) (fun c4 => ?_) (fun c4 => ?_)
          ·
            have c4 : (-1 : Int32) = -1 := c4
            refine r_aload_n C (dx dX7_tryFrom 50 rfl) rfl ?_
            refine g_X7_40 C (dx dX7_tryFrom 51 rfl) ?_
            refine r_iload_n C (dx dX7_tryFrom 52 rfl) rfl ?_
            refine r_iload_n C (dx dX7_tryFrom 53 rfl) rfl ?_
            refine r_iast (j := j) C rfl rfl (by decide) rfl (by omega) (dx dX7_tryFrom 54 rfl) ?_
            obtain ⟨wh5, Bh5, sh5⟩ : ∃ w99, MilAt (sI h3 (b + 18) j (-1)) b w99 ∧ Sz wh3 w99 := ⟨vset wh3 0 j (-1), Bh3.s0, ⟨rfl, rfl, rfl⟩⟩
            have qh5 : Kp b h3 (sI h3 (b + 18) j (-1)) := Kp.c (by omega) (by omega)
            have Mh5 := Mh3.tk (b := b) hb hlh3 Bh5 qh5 (show xK (sI h3 (b + 18) j (-1)) = xK h3 from rfl)
            have loh5 : Lo k h (sI h3 (b + 18) j (-1)) := loh3.tr (Lo.fr (Fr.vc qh5) (by omega))
            have ebh5 : xN (sI h3 (b + 18) j (-1)) k 22 = b + 1 := by rw [((Fr.vc qh5) k (by omega)).2.2]; exact ebh3
            have hlh5 : b + 32 ≤ (xK (sI h3 (b + 18) j (-1))).length := by rw [show xK (sI h3 (b + 18) j (-1)) = xK h3 from rfl]; exact hlh3
            have kh5 : xK (sI h3 (b + 18) j (-1)) = xK h := (show xK (sI h3 (b + 18) j (-1)) = xK h3 from rfl).trans kh3
            generalize sI h3 (b + 18) j (-1) = h5 at Bh5 qh5 Mh5 loh5 ebh5 hlh5 kh5 ⊢
            obtain ⟨sah5, sbh5, sch5⟩ := sh5
            refine r_aload_n C (dx dX7_tryFrom 55 rfl) rfl ?_
            refine r_aload_n C (dx dX7_tryFrom 56 rfl) rfl ?_
            refine r_iload_n C (dx dX7_tryFrom 57 rfl) rfl ?_
            refine r_iconst (v := nI 1) C (dx dX7_tryFrom 58 rfl) rfl ?_
            refine rn_iadd (a := j) (b := 1) C (dx dX7_tryFrom 59 rfl) ?_
            refine r_cv (as := [vr 7 b, vi (nI (j + 1))]) (st := []) C X I_X7_tryFrom l_X7_305 (ih Mh5 Bh5 hb hlh5 ebh5 ⟨by omega, by omega, by omega⟩ (by omega) (by omega) (j := j + 1) (by omega)) (by omega) (Nat.le_of_ble_eq_true rfl) List.prefix_rfl (pfx_eq kh5) rfl rfl (Nat.le_of_ble_eq_true rfl) rfl (dx dX7_tryFrom 60 rfl) ?_
            rintro _ h6 ⟨rfl, ⟨vh6, wh6, Mh6, sh6, Bh6, uh6⟩, ebh6, loh69⟩ kkh6
            have loh6 : Lo k h h6 := Lo.tr loh5 loh69
            have kh6 : xK h6 = xK h := kkh6.trans kh5
            have hlh6 : b + 32 ≤ (xK h6).length := by rw [kh6]; exact hl
            obtain ⟨sah6, sbh6, sch6⟩ := sh6
            obtain ⟨uah6, ubh6, uch6⟩ := uh6
            refine r_iinc (ls' := [(0, vr 7 k), (1, vr 7 b), (2, vi (nI j)), (3, vi (-1 + (1)))]) C (dx dX7_tryFrom 61 rfl) rfl rfl (by decide) [1, 2, 3, 0] rfl ?_
            refine r_goto (tgt := 62) C (dx dX7_tryFrom 62 rfl) (by decide) ?_
            rw [show (-1 : Int32) + 1 = nI 0 by decide]
            refine loopU (Φ := fun p => ∀ h9 v9 w9, Md h9 P k v9 g z κ true → Sz v v9 → MilAt h9 b w9 → Sz v w9 → xN h9 k 22 = b + 1 → Lo k h h9 → xK h9 = xK h → Rr G 62 [(0, vr 7 k), (1, vr 7 b), (2, vi (nI j)), (3, vi (nI p))] [] h9) (N := vN v) ?_ ?_ 0 (Nat.zero_le _) _ _ _ Mh6 ⟨by omega, by omega, by omega⟩ Bh6 ⟨by omega, by omega, by omega⟩ ebh6 loh6 kh6
            ·
              intro h9 v9 w9 M9 s9 B9 u9 eb9 lo9 k9
              obtain ⟨sa9, sb9, sc9⟩ := s9
              obtain ⟨ua9, ub9, uc9⟩ := u9
              have hl9 : b + 32 ≤ (xK h9).length := by rw [k9]; exact hl
              refine r_iload_n C (dx dX7_tryFrom 34 rfl) rfl ?_
              refine r_aload_n C (dx dX7_tryFrom 35 rfl) rfl ?_
              refine g_X7_74 (x := nI (vN v9)) C (dx dX7_tryFrom 36 rfl) M9.1.eN ?_
              refine rn_ge (a := vN v) (b := vN v9) (tgt := 111) C (by omega) (by omega) (dx dX7_tryFrom 37 rfl) (by decide) (fun c7 => ?_) (fun c7 => ?_)
              · first
                | (omega; done)
                | (
                    have c7 : vN v9 ≤ vN v := c7
                    refine r_aload_n C (dx dX7_tryFrom 63 rfl) rfl ?_
                    refine g_X7_40 C (dx dX7_tryFrom 64 rfl) ?_
                    refine r_iload_n C (dx dX7_tryFrom 65 rfl) rfl ?_
                    refine r_iconst (v := -1) C (dx dX7_tryFrom 66 rfl) rfl ?_
                    refine r_iast (j := j) C rfl rfl (by decide) rfl (by omega) (dx dX7_tryFrom 67 rfl) ?_
                    obtain ⟨wh8, Bh8, sh8⟩ : ∃ w99, MilAt (sI h9 (b + 18) j (-1)) b w99 ∧ Sz w9 w99 := ⟨vset w9 0 j (-1), B9.s0, ⟨rfl, rfl, rfl⟩⟩
                    have qh8 : Kp b h9 (sI h9 (b + 18) j (-1)) := Kp.c (by omega) (by omega)
                    have Mh8 := M9.tk (b := b) hb hl9 Bh8 qh8 (show xK (sI h9 (b + 18) j (-1)) = xK h9 from rfl)
                    have loh8 : Lo k h (sI h9 (b + 18) j (-1)) := lo9.tr (Lo.fr (Fr.vc qh8) (by omega))
                    have ebh8 : xN (sI h9 (b + 18) j (-1)) k 22 = b + 1 := by rw [((Fr.vc qh8) k (by omega)).2.2]; exact eb9
                    have hlh8 : b + 32 ≤ (xK (sI h9 (b + 18) j (-1))).length := by rw [show xK (sI h9 (b + 18) j (-1)) = xK h9 from rfl]; exact hl9
                    have kh8 : xK (sI h9 (b + 18) j (-1)) = xK h := (show xK (sI h9 (b + 18) j (-1)) = xK h9 from rfl).trans k9
                    generalize sI h9 (b + 18) j (-1) = h8 at Bh8 qh8 Mh8 loh8 ebh8 hlh8 kh8 ⊢
                    obtain ⟨sah8, sbh8, sch8⟩ := sh8
                    exact F.2.2.1 _ _ _ rfl (dx dX7_tryFrom 68 rfl) kh8 ⟨rfl, ⟨_, _, Mh8, ⟨by omega, by omega, by omega⟩, Bh8, ⟨by omega, by omega, by omega⟩⟩, ebh8, loh8⟩)
              · first
                | (omega; done)
            ·
              intro p hp ihp h9 v9 w9 M9 s9 B9 u9 eb9 lo9 k9
              obtain ⟨sa9, sb9, sc9⟩ := s9
              obtain ⟨ua9, ub9, uc9⟩ := u9
              have hl9 : b + 32 ≤ (xK h9).length := by rw [k9]; exact hl
              refine r_iload_n C (dx dX7_tryFrom 34 rfl) rfl ?_
              refine r_aload_n C (dx dX7_tryFrom 35 rfl) rfl ?_
              refine g_X7_74 (x := nI (vN v9)) C (dx dX7_tryFrom 36 rfl) M9.1.eN ?_
              refine rn_ge (a := p) (b := vN v9) (tgt := 111) C (by omega) (by omega) (dx dX7_tryFrom 37 rfl) (by decide) (fun c13 => ?_) (fun c13 => ?_)
              · first
                | (omega; done)
                | (
                    have c13 : vN v9 ≤ p := c13
                    refine r_aload_n C (dx dX7_tryFrom 63 rfl) rfl ?_
                    refine g_X7_40 C (dx dX7_tryFrom 64 rfl) ?_
                    refine r_iload_n C (dx dX7_tryFrom 65 rfl) rfl ?_
                    refine r_iconst (v := -1) C (dx dX7_tryFrom 66 rfl) rfl ?_
                    refine r_iast (j := j) C rfl rfl (by decide) rfl (by omega) (dx dX7_tryFrom 67 rfl) ?_
                    obtain ⟨wh14, Bh14, sh14⟩ : ∃ w99, MilAt (sI h9 (b + 18) j (-1)) b w99 ∧ Sz w9 w99 := ⟨vset w9 0 j (-1), B9.s0, ⟨rfl, rfl, rfl⟩⟩
                    have qh14 : Kp b h9 (sI h9 (b + 18) j (-1)) := Kp.c (by omega) (by omega)
                    have Mh14 := M9.tk (b := b) hb hl9 Bh14 qh14 (show xK (sI h9 (b + 18) j (-1)) = xK h9 from rfl)
                    have loh14 : Lo k h (sI h9 (b + 18) j (-1)) := lo9.tr (Lo.fr (Fr.vc qh14) (by omega))
                    have ebh14 : xN (sI h9 (b + 18) j (-1)) k 22 = b + 1 := by rw [((Fr.vc qh14) k (by omega)).2.2]; exact eb9
                    have hlh14 : b + 32 ≤ (xK (sI h9 (b + 18) j (-1))).length := by rw [show xK (sI h9 (b + 18) j (-1)) = xK h9 from rfl]; exact hl9
                    have kh14 : xK (sI h9 (b + 18) j (-1)) = xK h := (show xK (sI h9 (b + 18) j (-1)) = xK h9 from rfl).trans k9
                    generalize sI h9 (b + 18) j (-1) = h14 at Bh14 qh14 Mh14 loh14 ebh14 hlh14 kh14 ⊢
                    obtain ⟨sah14, sbh14, sch14⟩ := sh14
                    exact F.2.2.1 _ _ _ rfl (dx dX7_tryFrom 68 rfl) kh14 ⟨rfl, ⟨_, _, Mh14, ⟨by omega, by omega, by omega⟩, Bh14, ⟨by omega, by omega, by omega⟩⟩, ebh14, loh14⟩)
              · first
                | (omega; done)
                | (
                    have c13 : p < vN v9 := c13
                    refine r_aload_n C (dx dX7_tryFrom 38 rfl) rfl ?_
                    refine g_X7_40 C (dx dX7_tryFrom 39 rfl) ?_
                    refine r_iload_n C (dx dX7_tryFrom 40 rfl) rfl ?_
                    refine r_iconst (v := -1) C (dx dX7_tryFrom 41 rfl) rfl ?_
                    refine r_iast (j := j) C rfl rfl (by decide) rfl (by omega) (dx dX7_tryFrom 42 rfl) ?_
                    obtain ⟨wh15, Bh15, sh15⟩ : ∃ w99, MilAt (sI h9 (b + 18) j (-1)) b w99 ∧ Sz w9 w99 := ⟨vset w9 0 j (-1), B9.s0, ⟨rfl, rfl, rfl⟩⟩
                    have qh15 : Kp b h9 (sI h9 (b + 18) j (-1)) := Kp.c (by omega) (by omega)
                    have Mh15 := M9.tk (b := b) hb hl9 Bh15 qh15 (show xK (sI h9 (b + 18) j (-1)) = xK h9 from rfl)
                    have loh15 : Lo k h (sI h9 (b + 18) j (-1)) := lo9.tr (Lo.fr (Fr.vc qh15) (by omega))
                    have ebh15 : xN (sI h9 (b + 18) j (-1)) k 22 = b + 1 := by rw [((Fr.vc qh15) k (by omega)).2.2]; exact eb9
                    have hlh15 : b + 32 ≤ (xK (sI h9 (b + 18) j (-1))).length := by rw [show xK (sI h9 (b + 18) j (-1)) = xK h9 from rfl]; exact hl9
                    have kh15 : xK (sI h9 (b + 18) j (-1)) = xK h := (show xK (sI h9 (b + 18) j (-1)) = xK h9 from rfl).trans k9
                    generalize sI h9 (b + 18) j (-1) = h15 at Bh15 qh15 Mh15 loh15 ebh15 hlh15 kh15 ⊢
                    obtain ⟨sah15, sbh15, sch15⟩ := sh15
                    refine r_iload_n C (dx dX7_tryFrom 43 rfl) rfl ?_
                    refine r_iconst (v := -1) C (dx dX7_tryFrom 44 rfl) rfl ?_
                    refine r_icmp_eq (tgt := 90) C (dx dX7_tryFrom 45 rfl) (by decide) (fun c16 => ?_) (fun c16 => ?_)
                    ·
                      have c16 : nI p = -1 := c16
                      exact absurd c16 (nI_nm1 (by omega))
                    ·
                      have c16 : ¬ nI p = -1 := c16
                      refine r_aload_n C (dx dX7_tryFrom 46 rfl) rfl ?_
                      refine r_iload_n C (dx dX7_tryFrom 47 rfl) rfl ?_
                      refine r_cvW (as := [vi (nI p)]) (st := []) C X I_X7_hasRoom l_X7_135 (c_X7_hasRoom Bh15 (j := p) (by omega)) (by omega) (Nat.le_of_ble_eq_true rfl) (pfx_eq kh15) rfl rfl (Nat.le_of_ble_eq_true rfl) rfl (dx dX7_tryFrom 48 rfl) ?_
                      rintro _ ⟨x17, rfl⟩
                      refine rb_eq (b := x17) (tgt := 105) C (dx dX7_tryFrom 49 rfl) (by decide) (fun c18 => ?_) (fun c18 => ?_)
                      ·
                        have c18 : x17 = false := c18
                        refine rn_iinc (a := p) (k := 1) (ls' := [(0, vr 7 k), (1, vr 7 b), (2, vi (nI j)), (3, vi (nI (p + 1)))]) C (dx dX7_tryFrom 61 rfl) rfl rfl (by decide) [1, 2, 3, 0] rfl ?_
                        refine r_goto (tgt := 62) C (dx dX7_tryFrom 62 rfl) (by decide) ?_
                        exact ihp _ _ _ Mh15 ⟨by omega, by omega, by omega⟩ Bh15 ⟨by omega, by omega, by omega⟩ ebh15 loh15 kh15
                      ·
                        have c18 : x17 = true := c18
                        refine r_aload_n C (dx dX7_tryFrom 50 rfl) rfl ?_
                        refine g_X7_40 C (dx dX7_tryFrom 51 rfl) ?_
                        refine r_iload_n C (dx dX7_tryFrom 52 rfl) rfl ?_
                        refine r_iload_n C (dx dX7_tryFrom 53 rfl) rfl ?_
                        refine r_iast (j := j) C rfl rfl (by decide) rfl (by omega) (dx dX7_tryFrom 54 rfl) ?_
                        obtain ⟨wh19, Bh19, sh19⟩ : ∃ w99, MilAt (sI h15 (b + 18) j (nI p)) b w99 ∧ Sz wh15 w99 := ⟨vset wh15 0 j (nI p), Bh15.s0, ⟨rfl, rfl, rfl⟩⟩
                        have qh19 : Kp b h15 (sI h15 (b + 18) j (nI p)) := Kp.c (by omega) (by omega)
                        have Mh19 := Mh15.tk (b := b) hb hlh15 Bh19 qh19 (show xK (sI h15 (b + 18) j (nI p)) = xK h15 from rfl)
                        have loh19 : Lo k h (sI h15 (b + 18) j (nI p)) := loh15.tr (Lo.fr (Fr.vc qh19) (by omega))
                        have ebh19 : xN (sI h15 (b + 18) j (nI p)) k 22 = b + 1 := by rw [((Fr.vc qh19) k (by omega)).2.2]; exact ebh15
                        have hlh19 : b + 32 ≤ (xK (sI h15 (b + 18) j (nI p))).length := by rw [show xK (sI h15 (b + 18) j (nI p)) = xK h15 from rfl]; exact hlh15
                        have kh19 : xK (sI h15 (b + 18) j (nI p)) = xK h := (show xK (sI h15 (b + 18) j (nI p)) = xK h15 from rfl).trans kh15
                        generalize sI h15 (b + 18) j (nI p) = h19 at Bh19 qh19 Mh19 loh19 ebh19 hlh19 kh19 ⊢
                        obtain ⟨sah19, sbh19, sch19⟩ := sh19
                        refine r_aload_n C (dx dX7_tryFrom 55 rfl) rfl ?_
                        refine r_aload_n C (dx dX7_tryFrom 56 rfl) rfl ?_
                        refine r_iload_n C (dx dX7_tryFrom 57 rfl) rfl ?_
                        refine r_iconst (v := nI 1) C (dx dX7_tryFrom 58 rfl) rfl ?_
                        refine rn_iadd (a := j) (b := 1) C (dx dX7_tryFrom 59 rfl) ?_
                        refine r_cv (as := [vr 7 b, vi (nI (j + 1))]) (st := []) C X I_X7_tryFrom l_X7_305 (ih Mh19 Bh19 hb hlh19 ebh19 ⟨by omega, by omega, by omega⟩ (by omega) (by omega) (j := j + 1) (by omega)) (by omega) (Nat.le_of_ble_eq_true rfl) List.prefix_rfl (pfx_eq kh19) rfl rfl (Nat.le_of_ble_eq_true rfl) rfl (dx dX7_tryFrom 60 rfl) ?_
                        rintro _ h20 ⟨rfl, ⟨vh20, wh20, Mh20, sh20, Bh20, uh20⟩, ebh20, loh209⟩ kkh20
                        have loh20 : Lo k h h20 := Lo.tr loh19 loh209
                        have kh20 : xK h20 = xK h := kkh20.trans kh19
                        have hlh20 : b + 32 ≤ (xK h20).length := by rw [kh20]; exact hl
                        obtain ⟨sah20, sbh20, sch20⟩ := sh20
                        obtain ⟨uah20, ubh20, uch20⟩ := uh20
                        refine rn_iinc (a := p) (k := 1) (ls' := [(0, vr 7 k), (1, vr 7 b), (2, vi (nI j)), (3, vi (nI (p + 1)))]) C (dx dX7_tryFrom 61 rfl) rfl rfl (by decide) [1, 2, 3, 0] rfl ?_
                        refine r_goto (tgt := 62) C (dx dX7_tryFrom 62 rfl) (by decide) ?_
                        exact ihp _ _ _ Mh20 ⟨by omega, by omega, by omega⟩ Bh20 ⟨by omega, by omega, by omega⟩ ebh20 loh20 kh20)
          ·
            have c4 : ¬ (-1 : Int32) = -1 := c4
            exact absurd rfl c4)
  · first
    | (omega; done)
theorem c_tryN {l : Launch} {P : List Nat} {k z b : Nat} {g : Sg} {κ : Bool} : ∀ (n : Nat) {h : Hp} {v w : Vg} (M : Md h P k v g z κ true) (B : MilAt h b w) (hb : b = k + 32 ∨ b = k + 64) (hl : b + 32 ≤ (xK h).length) (eb : xN h k 22 = b + 1) (s0 : Sz v w) (h4 : vN v ≤ 4) (h6 : vP v ≤ 6) {j : Nat} (e : vP v = j + n), Ms l yX7_tryFrom cX7_tryFrom 6 none (8 + n) [vr 7 k, vr 7 b, vi (nI j)] h (xK h) (fun r h' => r = none ∧ (∃ v' w', Md h' P k v' g z κ true ∧ Sz v v' ∧ MilAt h' b w' ∧ Sz v w') ∧ xN h' k 22 = b + 1 ∧ Lo k h h')
  | 0, _, _, _, M, B, hb, hl, eb, s0, h4, h6, _, e => c_try0 M B hb hl eb s0 h4 h6 e
  | n + 1, _, _, _, M, B, hb, hl, eb, s0, h4, h6, _, e => c_tryS M B hb hl eb s0 h4 h6 (fun M B hb hl eb s0 h4 h6 => c_tryN n M B hb hl eb s0 h4 h6) e
set_option maxHeartbeats 4000000 in
theorem c_X7_findBest_y {l : Launch} {h : Hp} {P : List Nat} {k z : Nat} {v : Vg} {g : Sg} {κ τ : Bool} (M : Md h P k v g z κ τ) (h4 : vN v ≤ 4) (h6 : vP v ≤ 6) : Ms l yX7_findBest cX7_findBest 3 (some .boolean) 16 [vr 7 k] h (AL P κ true) (fun r h' => r = some (vi (b2i true)) ∧ (∃ v', Md h' P k v' g z κ true ∧ Sz v v') ∧ Lo k h h') := by
  refine Ms.of (by decide) (Nat.le_of_ble_eq_true rfl) (fun G C X F => ?_)
  have C : Cx G cX7_findBest 3 RX7 := C
  show Rr G 0 [(0, vr 7 k)] [] h
  have hm := M.1
  have hs := M.2.1
  have al := M.al
  have hk7 := M.hk
  have bP := hm.bP
  have bM := hm.bM
  have bN := hm.bN
  refine r_aload_n C (dx dX7_findBest 0 rfl) rfl ?_
  refine g_X7_74 (x := nI (vN v)) C (dx dX7_findBest 1 rfl) hm.eN ?_
  refine r_iconst (v := nI 4) C (dx dX7_findBest 2 rfl) rfl ?_
  refine rn_gt (a := vN v) (b := 4) (tgt := 17) C (by omega) (by omega) (dx dX7_findBest 3 rfl) (by decide) (fun c1 => ?_) (fun c1 => ?_)
  · first
    | (omega; done)
    | (
        have c1 : 4 < vN v := c1
        refine r_iconst (v := nI 0) C (dx dX7_findBest 8 rfl) rfl ?_
        exact F.1 _ _ _ _ .boolean rfl rfl (dx dX7_findBest 9 rfl) None ⟨rfl, ⟨_, M, ⟨by omega, by omega, by omega⟩⟩, Lo.rf⟩)
  · first
    | (omega; done)
    | (
        have c1 : vN v ≤ 4 := c1
        refine r_aload_n C (dx dX7_findBest 4 rfl) rfl ?_
        refine g_X7_64 (x := nI (vP v)) C (dx dX7_findBest 5 rfl) hm.eP ?_
        refine r_bipush (v := nI 6) C (dx dX7_findBest 6 rfl) rfl ?_
        refine rn_le (a := vP v) (b := 6) (tgt := 19) C (by omega) (by omega) (dx dX7_findBest 7 rfl) (by decide) (fun c2 => ?_) (fun c2 => ?_)
        · first
          | (omega; done)
          | (
              have c2 : vP v ≤ 6 := c2
              refine r_aload_n C (dx dX7_findBest 10 rfl) rfl ?_
              refine r_cv (as := []) (st := []) C X I_X7_fresh l_X7_102 (c_X7_fresh M) (by decide) (Nat.le_of_ble_eq_true rfl) (by rw [M.al]; exact AL_pre id (fun _ => rfl)) (by first | exact List.prefix_rfl | (rw [al]; exact AL_pre id (fun _ => rfl))) rfl rfl (Nat.le_of_ble_eq_true rfl) rfl (dx dX7_findBest 11 rfl) ?_
              rintro _ hF ⟨b, rfl, ebF, BF, MF, hb, hlF, loF⟩ kF
              refine r_astore_n (ls' := [(0, vr 7 k), (1, vr 7 b)]) C (dx dX7_findBest 12 rfl) (by decide) [1, 0] rfl ?_
              refine r_iconst (v := nI 0) C (dx dX7_findBest 13 rfl) rfl ?_
              refine r_istore_n (ls' := [(0, vr 7 k), (1, vr 7 b), (2, vi (nI 0))]) C (dx dX7_findBest 14 rfl) (by decide) [1, 2, 0] rfl ?_
              refine loopU (Φ := fun p => ∀ h9 w9, Md h9 P k v g z κ true → MilAt h9 b w9 → Sz v w9 → Lo k h h9 → xN h9 k 22 = b + 1 → xK h9 = AL P κ true → Rr G 26 [(0, vr 7 k), (1, vr 7 b), (2, vi (nI p))] [] h9) (N := vP v) ?_ ?_ 0 (Nat.zero_le _) _ _ MF BF ⟨rfl, rfl, rfl⟩ loF ebF kF
              ·
                intro h9 w9 M9 B9 s9 lo9 eb9 k9
                obtain ⟨sa9, sb9, sc9⟩ := s9
                have hl9 : b + 32 ≤ (xK h9).length := by rw [k9, ← kF]; exact hlF
                refine r_iload_n C (dx dX7_findBest 15 rfl) rfl ?_
                refine r_aload_n C (dx dX7_findBest 16 rfl) rfl ?_
                refine g_X7_64 (x := nI (vP v)) C (dx dX7_findBest 17 rfl) M9.1.eP ?_
                refine rn_ge (a := vP v) (b := vP v) (tgt := 54) C (by omega) (by omega) (dx dX7_findBest 18 rfl) (by decide) (fun c3 => ?_) (fun c3 => ?_)
                · first
                  | (omega; done)
                  | (
                      have c3 : vP v ≤ vP v := c3
                      refine r_aload_n C (dx dX7_findBest 31 rfl) rfl ?_
                      refine r_ldc2 C n_X7_309 (dx dX7_findBest 32 rfl) ?_
                      refine p_X7_302 C (dx dX7_findBest 33 rfl) ?_
                      have qh4 : Kp k h9 (sL h9 k 31 (-1)) := Kp.fL
                      obtain ⟨vh4, Mh4, sh4⟩ : ∃ v99, Md (sL h9 k 31 (-1)) P k v99 g z κ true ∧ Sz v v99 := ⟨_, M9.kp (M9.1.fL) qh4 rfl, ⟨rfl, rfl, rfl⟩⟩
                      have Bh4 := B9.fr (Fr.vc qh4) (by omega)
                      have loh4 : Lo k h (sL h9 k 31 (-1)) := lo9.tr (Lo.fr (Fr.vc qh4) (Nat.le_refl _))
                      have ebh4 : xN (sL h9 k 31 (-1)) k 22 = b + 1 := by rw [qh4.2.1]; exact eb9
                      have hlh4 : b + 32 ≤ (xK (sL h9 k 31 (-1))).length := hl9
                      have kh4 : xK (sL h9 k 31 (-1)) = AL P κ true := k9
                      generalize sL h9 k 31 (-1) = h4 at Bh4 qh4 Mh4 loh4 ebh4 hlh4 kh4 ⊢
                      obtain ⟨sah4, sbh4, sch4⟩ := sh4
                      refine r_aload_n C (dx dX7_findBest 34 rfl) rfl ?_
                      refine r_aload_n C (dx dX7_findBest 35 rfl) rfl ?_
                      refine r_iconst (v := nI 0) C (dx dX7_findBest 36 rfl) rfl ?_
                      refine r_cv (as := [vr 7 b, vi (nI 0)]) (st := []) C X I_X7_tryFrom l_X7_305 (c_tryN (vP vh4) Mh4 Bh4 hb hlh4 ebh4 ⟨by omega, by omega, by omega⟩ (by omega) (by omega) (j := 0) (by omega)) (by omega) (Nat.le_of_ble_eq_true rfl) List.prefix_rfl (pfx_eq kh4) rfl rfl (Nat.le_of_ble_eq_true rfl) rfl (dx dX7_findBest 37 rfl) ?_
                      rintro _ h5 ⟨rfl, ⟨vh5, wh5, Mh5, sh5, Bh5, uh5⟩, ebh5, loh59⟩ kkh5
                      have loh5 : Lo k h h5 := Lo.tr loh4 loh59
                      have kh5 : xK h5 = AL P κ true := kkh5.trans kh4
                      obtain ⟨sah5, sbh5, sch5⟩ := sh5
                      refine r_iconst (v := nI 1) C (dx dX7_findBest 38 rfl) rfl ?_
                      exact F.1 _ _ _ _ .boolean rfl rfl (dx dX7_findBest 39 rfl) kh5 ⟨rfl, ⟨_, Mh5, ⟨by omega, by omega, by omega⟩⟩, loh5⟩)
                · first
                  | (omega; done)
              ·
                intro p hp ih h9 w9 M9 B9 s9 lo9 eb9 k9
                obtain ⟨sa9, sb9, sc9⟩ := s9
                have hl9 : b + 32 ≤ (xK h9).length := by rw [k9, ← kF]; exact hlF
                refine r_iload_n C (dx dX7_findBest 15 rfl) rfl ?_
                refine r_aload_n C (dx dX7_findBest 16 rfl) rfl ?_
                refine g_X7_64 (x := nI (vP v)) C (dx dX7_findBest 17 rfl) M9.1.eP ?_
                refine rn_ge (a := p) (b := vP v) (tgt := 54) C (by omega) (by omega) (dx dX7_findBest 18 rfl) (by decide) (fun c8 => ?_) (fun c8 => ?_)
                · first
                  | (omega; done)
                  | (
                      have c8 : vP v ≤ p := c8
                      refine r_aload_n C (dx dX7_findBest 31 rfl) rfl ?_
                      refine r_ldc2 C n_X7_309 (dx dX7_findBest 32 rfl) ?_
                      refine p_X7_302 C (dx dX7_findBest 33 rfl) ?_
                      have qh9 : Kp k h9 (sL h9 k 31 (-1)) := Kp.fL
                      obtain ⟨vh9, Mh9, sh9⟩ : ∃ v99, Md (sL h9 k 31 (-1)) P k v99 g z κ true ∧ Sz v v99 := ⟨_, M9.kp (M9.1.fL) qh9 rfl, ⟨rfl, rfl, rfl⟩⟩
                      have Bh9 := B9.fr (Fr.vc qh9) (by omega)
                      have loh9 : Lo k h (sL h9 k 31 (-1)) := lo9.tr (Lo.fr (Fr.vc qh9) (Nat.le_refl _))
                      have ebh9 : xN (sL h9 k 31 (-1)) k 22 = b + 1 := by rw [qh9.2.1]; exact eb9
                      have hlh9 : b + 32 ≤ (xK (sL h9 k 31 (-1))).length := hl9
                      have kh9 : xK (sL h9 k 31 (-1)) = AL P κ true := k9
                      generalize sL h9 k 31 (-1) = h9 at Bh9 qh9 Mh9 loh9 ebh9 hlh9 kh9 ⊢
                      obtain ⟨sah9, sbh9, sch9⟩ := sh9
                      refine r_aload_n C (dx dX7_findBest 34 rfl) rfl ?_
                      refine r_aload_n C (dx dX7_findBest 35 rfl) rfl ?_
                      refine r_iconst (v := nI 0) C (dx dX7_findBest 36 rfl) rfl ?_
                      refine r_cv (as := [vr 7 b, vi (nI 0)]) (st := []) C X I_X7_tryFrom l_X7_305 (c_tryN (vP vh9) Mh9 Bh9 hb hlh9 ebh9 ⟨by omega, by omega, by omega⟩ (by omega) (by omega) (j := 0) (by omega)) (by omega) (Nat.le_of_ble_eq_true rfl) List.prefix_rfl (pfx_eq kh9) rfl rfl (Nat.le_of_ble_eq_true rfl) rfl (dx dX7_findBest 37 rfl) ?_
                      rintro _ h10 ⟨rfl, ⟨vh10, wh10, Mh10, sh10, Bh10, uh10⟩, ebh10, loh109⟩ kkh10
                      have loh10 : Lo k h h10 := Lo.tr loh9 loh109
                      have kh10 : xK h10 = AL P κ true := kkh10.trans kh9
                      obtain ⟨sah10, sbh10, sch10⟩ := sh10
                      refine r_iconst (v := nI 1) C (dx dX7_findBest 38 rfl) rfl ?_
                      exact F.1 _ _ _ _ .boolean rfl rfl (dx dX7_findBest 39 rfl) kh10 ⟨rfl, ⟨_, Mh10, ⟨by omega, by omega, by omega⟩⟩, loh10⟩)
                · first
                  | (omega; done)
                  | (
                      have c8 : p < vP v := c8
                      refine r_aload_n C (dx dX7_findBest 19 rfl) rfl ?_
                      refine g_X7_40 C (dx dX7_findBest 20 rfl) ?_
                      refine r_iload_n C (dx dX7_findBest 21 rfl) rfl ?_
                      refine r_iconst (v := -1) C (dx dX7_findBest 22 rfl) rfl ?_
                      refine r_iast (j := p) C rfl rfl (by decide) rfl (by omega) (dx dX7_findBest 23 rfl) ?_
                      obtain ⟨wh11, Bh11, sh11⟩ : ∃ w99, MilAt (sI h9 (b + 18) p (-1)) b w99 ∧ Sz w9 w99 := ⟨vset w9 0 p (-1), B9.s0, ⟨rfl, rfl, rfl⟩⟩
                      have qh11 : Kp b h9 (sI h9 (b + 18) p (-1)) := Kp.c (by omega) (by omega)
                      have Mh11 := M9.tk (b := b) hb hl9 Bh11 qh11 (show xK (sI h9 (b + 18) p (-1)) = xK h9 from rfl)
                      have loh11 : Lo k h (sI h9 (b + 18) p (-1)) := lo9.tr (Lo.fr (Fr.vc qh11) (by omega))
                      have ebh11 : xN (sI h9 (b + 18) p (-1)) k 22 = b + 1 := by rw [((Fr.vc qh11) k (by omega)).2.2]; exact eb9
                      have hlh11 : b + 32 ≤ (xK (sI h9 (b + 18) p (-1))).length := by rw [show xK (sI h9 (b + 18) p (-1)) = xK h9 from rfl]; exact hl9
                      have kh11 : xK (sI h9 (b + 18) p (-1)) = AL P κ true := (show xK (sI h9 (b + 18) p (-1)) = xK h9 from rfl).trans k9
                      generalize sI h9 (b + 18) p (-1) = h11 at Bh11 qh11 Mh11 loh11 ebh11 hlh11 kh11 ⊢
                      obtain ⟨sah11, sbh11, sch11⟩ := sh11
                      refine r_aload_n C (dx dX7_findBest 24 rfl) rfl ?_
                      refine g_X7_43 C (dx dX7_findBest 25 rfl) ?_
                      refine r_iload_n C (dx dX7_findBest 26 rfl) rfl ?_
                      refine r_iconst (v := -1) C (dx dX7_findBest 27 rfl) rfl ?_
                      refine r_iast (j := p) C rfl rfl (by decide) rfl (by omega) (dx dX7_findBest 28 rfl) ?_
                      obtain ⟨wh12, Bh12, sh12⟩ : ∃ w99, MilAt (sI h11 (b + 19) p (-1)) b w99 ∧ Sz wh11 w99 := ⟨vset wh11 1 p (-1), Bh11.s1, ⟨rfl, rfl, rfl⟩⟩
                      have qh12 : Kp b h11 (sI h11 (b + 19) p (-1)) := Kp.c (by omega) (by omega)
                      have Mh12 := Mh11.tk (b := b) hb hlh11 Bh12 qh12 (show xK (sI h11 (b + 19) p (-1)) = xK h11 from rfl)
                      have loh12 : Lo k h (sI h11 (b + 19) p (-1)) := loh11.tr (Lo.fr (Fr.vc qh12) (by omega))
                      have ebh12 : xN (sI h11 (b + 19) p (-1)) k 22 = b + 1 := by rw [((Fr.vc qh12) k (by omega)).2.2]; exact ebh11
                      have hlh12 : b + 32 ≤ (xK (sI h11 (b + 19) p (-1))).length := by rw [show xK (sI h11 (b + 19) p (-1)) = xK h11 from rfl]; exact hlh11
                      have kh12 : xK (sI h11 (b + 19) p (-1)) = AL P κ true := (show xK (sI h11 (b + 19) p (-1)) = xK h11 from rfl).trans kh11
                      generalize sI h11 (b + 19) p (-1) = h12 at Bh12 qh12 Mh12 loh12 ebh12 hlh12 kh12 ⊢
                      obtain ⟨sah12, sbh12, sch12⟩ := sh12
                      refine rn_iinc (a := p) (k := 1) (ls' := [(0, vr 7 k), (1, vr 7 b), (2, vi (nI (p + 1)))]) C (dx dX7_findBest 29 rfl) rfl rfl (by decide) [1, 2, 0] rfl ?_
                      refine r_goto (tgt := 26) C (dx dX7_findBest 30 rfl) (by decide) ?_
                      exact ih _ _ Mh12 Bh12 ⟨by omega, by omega, by omega⟩ loh12 ebh12 kh12))
        · first
          | (omega; done)
          | (
              have c2 : 6 < vP v := c2
              refine r_iconst (v := nI 0) C (dx dX7_findBest 8 rfl) rfl ?_
              exact F.1 _ _ _ _ .boolean rfl rfl (dx dX7_findBest 9 rfl) None ⟨rfl, ⟨_, M, ⟨by omega, by omega, by omega⟩⟩, Lo.rf⟩))
set_option maxHeartbeats 4000000 in
theorem c_X7_findBest_n {l : Launch} {h : Hp} {k : Nat} {v : Vg} (hm : MilAt h k v) (hn : 4 < vN v ∨ 6 < vP v) : Mp l yX7_findBest cX7_findBest 3 (some .boolean) 16 [vr 7 k] h (vi (b2i false)) := by
  refine Ms.of (by decide) (Nat.le_of_ble_eq_true rfl) (fun G C X F => ?_)
  have C : Cx G cX7_findBest 3 RX7 := C
  show Rr G 0 [(0, vr 7 k)] [] h
  have bP := hm.bP
  have bM := hm.bM
  have bN := hm.bN
  refine r_aload_n C (dx dX7_findBest 0 rfl) rfl ?_
  refine g_X7_74 (x := nI (vN v)) C (dx dX7_findBest 1 rfl) hm.eN ?_
  refine r_iconst (v := nI 4) C (dx dX7_findBest 2 rfl) rfl ?_
  refine rn_gt (a := vN v) (b := 4) (tgt := 17) C (by omega) (by omega) (dx dX7_findBest 3 rfl) (by decide) (fun c1 => ?_) (fun c1 => ?_)
  · first
    | (omega; done)
    | (
        have c1 : 4 < vN v := c1
        refine r_iconst (v := nI 0) C (dx dX7_findBest 8 rfl) rfl ?_
        exact F.1 _ _ _ _ _ rfl rfl (dx dX7_findBest 9 rfl) rfl ⟨congrArg (fun x => some (vi x)) (show nI 0 = b2i _ by rw [show false = false by rfl]; rfl), rfl⟩)
  · first
    | (omega; done)
    | (
        have c1 : vN v ≤ 4 := c1
        refine r_aload_n C (dx dX7_findBest 4 rfl) rfl ?_
        refine g_X7_64 (x := nI (vP v)) C (dx dX7_findBest 5 rfl) hm.eP ?_
        refine r_bipush (v := nI 6) C (dx dX7_findBest 6 rfl) rfl ?_
        refine rn_le (a := vP v) (b := 6) (tgt := 19) C (by omega) (by omega) (dx dX7_findBest 7 rfl) (by decide) (fun c2 => ?_) (fun c2 => ?_)
        · first
          | (omega; done)
          | (
              have c2 : vP v ≤ 6 := c2
              exact absurd hn (by omega))
        · first
          | (omega; done)
          | (
              have c2 : 6 < vP v := c2
              refine r_iconst (v := nI 0) C (dx dX7_findBest 8 rfl) rfl ?_
              exact F.1 _ _ _ _ _ rfl rfl (dx dX7_findBest 9 rfl) rfl ⟨congrArg (fun x => some (vi x)) (show nI 0 = b2i _ by rw [show false = false by rfl]; rfl), rfl⟩))
set_option maxHeartbeats 4000000 in
theorem c_X7_best_y {l : Launch} {h : Hp} {P : List Nat} {k z : Nat} {v : Vg} {g : Sg} {κ τ : Bool} (M : Md h P k v g z κ τ) {j : Nat} (hj : j < vP v) (h4 : vN v ≤ 4) (h6 : vP v ≤ 6) : Ms l yX7_best cX7_best 2 (some .int) 17 [vr 7 k, vi (nI j)] h (AL P κ true) (fun r h' => PI r ∧ (∃ v', Md h' P k v' g z κ true) ∧ Lo k h h') := by
  refine Ms.of (by decide) (Nat.le_of_ble_eq_true rfl) (fun G C X F => ?_)
  have C : Cx G cX7_best 2 RX7 := C
  show Rr G 0 [(0, vr 7 k), (1, vi (nI j))] [] h
  have hm := M.1
  have hs := M.2.1
  have al := M.al
  have hk7 := M.hk
  have bP := hm.bP
  have bM := hm.bM
  have bN := hm.bN
  refine r_aload_n C (dx dX7_best 0 rfl) rfl ?_
  refine r_iload_n C (dx dX7_best 1 rfl) rfl ?_
  refine r_cvP (as := [vi (nI j)]) (st := []) (v := vi (b2i (inR (nI j) (vP v)))) C X I_X7_isPart l_X7_132 (c_X7_isPart hm _) (by decide) (Nat.le_of_ble_eq_true rfl) (by first | exact List.prefix_rfl | (rw [al]; exact AL_pre id (fun _ => rfl))) rfl rfl (Nat.le_of_ble_eq_true rfl) rfl (dx dX7_best 2 rfl) ?_
  refine rb_ne (b := inR (nI j) (vP v)) (tgt := 15) C (dx dX7_best 3 rfl) (by decide) (fun c1 => ?_) (fun c1 => ?_)
  ·
    have c1 : (inR (nI j) (vP v)) = true := c1
    refine r_aload_n C (dx dX7_best 8 rfl) rfl ?_
    refine r_cv (as := []) (st := []) C X I_X7_findBest l_X7_311 (c_X7_findBest_y M h4 h6) (by decide) (Nat.le_of_ble_eq_true rfl) (by rw [M.al]; exact AL_pre id (fun _ => rfl)) (by first | exact List.prefix_rfl | (rw [al]; exact AL_pre id (fun _ => rfl))) rfl rfl (Nat.le_of_ble_eq_true rfl) rfl (dx dX7_best 9 rfl) ?_
    rintro _ hF ⟨rfl, ⟨vF9, MF, sF⟩, loF⟩ kF
    obtain ⟨saF, sbF, scF⟩ := sF
    refine rb_eq (b := true) (tgt := 31) C (dx dX7_best 10 rfl) (by decide) (fun c2 => ?_) (fun c2 => ?_)
    ·
      have c2 : true = false := c2
      exact absurd (rfl.symm.trans c2) (by decide)
    ·
      have c2 : true = true := c2
      refine r_aload_n C (dx dX7_best 11 rfl) rfl ?_
      refine g_X7_61 C (dx dX7_best 12 rfl) ?_
      refine r_iload_n C (dx dX7_best 13 rfl) rfl ?_
      refine r_iald (j := j) (x := xI hF (k + 31) j) C rfl rfl (by decide) rfl (by omega) (dx dX7_best 14 rfl) rfl ?_
      refine r_goto (tgt := 37) C (dx dX7_best 15 rfl) (by decide) ?_
      exact F.1 _ _ _ _ .int rfl rfl (dx dX7_best 19 rfl) kF ⟨⟨_, rfl⟩, ⟨_, MF⟩, loF⟩
  ·
    have c1 : (inR (nI j) (vP v)) = false := c1
    exact absurd ((inN (by omega) hj).symm.trans c1) (by decide)
set_option maxHeartbeats 4000000 in
theorem c_X7_best_n {l : Launch} {h : Hp} {k : Nat} {v : Vg} {g : Sg} (hm : MilAt h k v) (hs : MshAt h k g) (x : Int32) (hn : inR x (vP v) = true → 4 < vN v ∨ 6 < vP v) : Ms l yX7_best cX7_best 2 (some .int) 17 [vr 7 k, vi x] h (xK h) (fun r h' => PI r ∧ (∃ v', MilAt h' k v') ∧ Kp k h h') := by
  refine Ms.of (by decide) (Nat.le_of_ble_eq_true rfl) (fun G C X F => ?_)
  have C : Cx G cX7_best 2 RX7 := C
  show Rr G 0 [(0, vr 7 k), (1, vi x)] [] h
  have bP := hm.bP
  have bM := hm.bM
  have bN := hm.bN
  refine r_aload_n C (dx dX7_best 0 rfl) rfl ?_
  refine r_iload_n C (dx dX7_best 1 rfl) rfl ?_
  refine r_cvP (as := [vi x]) (st := []) (v := vi (b2i (inR x (vP v)))) C X I_X7_isPart l_X7_132 (c_X7_isPart hm _) (by decide) (Nat.le_of_ble_eq_true rfl) List.prefix_rfl rfl rfl (Nat.le_of_ble_eq_true rfl) rfl (dx dX7_best 2 rfl) ?_
  refine rb_ne (b := inR x (vP v)) (tgt := 15) C (dx dX7_best 3 rfl) (by decide) (fun c1 => ?_) (fun c1 => ?_)
  ·
    have c1 : (inR x (vP v)) = true := c1
    have hn2 := hn c1
    refine r_aload_n C (dx dX7_best 8 rfl) rfl ?_
    refine r_cvP (as := []) (st := []) (v := vi (b2i false)) C X I_X7_findBest l_X7_311 (c_X7_findBest_n hm hn2) (by decide) (Nat.le_of_ble_eq_true rfl) List.prefix_rfl rfl rfl (Nat.le_of_ble_eq_true rfl) rfl (dx dX7_best 9 rfl) ?_
    refine rb_eq (b := false) (tgt := 31) C (dx dX7_best 10 rfl) (by decide) (fun c2 => ?_) (fun c2 => ?_)
    ·
      have c2 : false = false := c2
      refine r_aload_n C (dx dX7_best 16 rfl) rfl ?_
      refine r_bipush (v := -5) C (dx dX7_best 17 rfl) rfl ?_
      refine r_cv (as := [vi (-5)]) (st := []) C X I_X7_refuse l_X7_83 (c_X7_refuse hm (x := -5) (j := 5) (by decide) (by decide)) (by decide) (Nat.le_of_ble_eq_true rfl) List.prefix_rfl List.prefix_rfl rfl rfl (Nat.le_of_ble_eq_true rfl) rfl (dx dX7_best 18 rfl) ?_
      rintro _ h3 ⟨rfl, ⟨wh3, m9h3, s9h3⟩, qh3⟩ kkh3
      obtain ⟨vh3, mh3, zh3⟩ : ∃ v9, MilAt h3 k v9 ∧ Sz v v9 := ⟨_, m9h3, s9h3⟩
      have ph3 : Kp k h h3 := qh3
      have kh3 : xK h3 = xK h := kkh3
      obtain ⟨ah3, bh3, ch3⟩ := zh3
      exact F.1 _ _ _ _ .int rfl rfl (dx dX7_best 19 rfl) kh3 ⟨⟨_, rfl⟩, ⟨_, mh3⟩, ph3⟩
    ·
      have c2 : false = true := c2
      exact absurd (rfl.symm.trans c2) (by decide)
  ·
    have c1 : (inR x (vP v)) = false := c1
    refine r_aload_n C (dx dX7_best 4 rfl) rfl ?_
    refine r_bipush (v := -2) C (dx dX7_best 5 rfl) rfl ?_
    refine r_cv (as := [vi (-2)]) (st := []) C X I_X7_refuse l_X7_83 (c_X7_refuse hm (x := -2) (j := 2) (by decide) (by decide)) (by decide) (Nat.le_of_ble_eq_true rfl) List.prefix_rfl List.prefix_rfl rfl rfl (Nat.le_of_ble_eq_true rfl) rfl (dx dX7_best 6 rfl) ?_
    rintro _ h4 ⟨rfl, ⟨wh4, m9h4, s9h4⟩, qh4⟩ kkh4
    obtain ⟨vh4, mh4, zh4⟩ : ∃ v9, MilAt h4 k v9 ∧ Sz v v9 := ⟨_, m9h4, s9h4⟩
    have ph4 : Kp k h h4 := qh4
    have kh4 : xK h4 = xK h := kkh4
    obtain ⟨ah4, bh4, ch4⟩ := zh4
    exact F.1 _ _ _ _ .int rfl rfl (dx dX7_best 7 rfl) kh4 ⟨⟨_, rfl⟩, ⟨_, mh4⟩, ph4⟩
set_option maxHeartbeats 4000000 in
theorem c_X7_bestDay_y {l : Launch} {h : Hp} {P : List Nat} {k z : Nat} {v : Vg} {g : Sg} {κ τ : Bool} (M : Md h P k v g z κ τ) (h4 : vN v ≤ 4) (h6 : vP v ≤ 6) : Ms l yX7_bestDay cX7_bestDay 1 (some .long) 17 [vr 7 k] h (AL P κ true) (fun r h' => PL r ∧ (∃ v', Md h' P k v' g z κ true) ∧ Lo k h h') := by
  refine Ms.of (by decide) (Nat.le_of_ble_eq_true rfl) (fun G C X F => ?_)
  have C : Cx G cX7_bestDay 1 RX7 := C
  show Rr G 0 [(0, vr 7 k)] [] h
  have hm := M.1
  have hs := M.2.1
  have al := M.al
  have hk7 := M.hk
  have bP := hm.bP
  have bM := hm.bM
  have bN := hm.bN
  refine r_aload_n C (dx dX7_bestDay 0 rfl) rfl ?_
  refine r_cv (as := []) (st := []) C X I_X7_findBest l_X7_311 (c_X7_findBest_y M h4 h6) (by decide) (Nat.le_of_ble_eq_true rfl) (by rw [M.al]; exact AL_pre id (fun _ => rfl)) (by first | exact List.prefix_rfl | (rw [al]; exact AL_pre id (fun _ => rfl))) rfl rfl (Nat.le_of_ble_eq_true rfl) rfl (dx dX7_bestDay 1 rfl) ?_
  rintro _ hF ⟨rfl, ⟨vF9, MF, sF⟩, loF⟩ kF
  obtain ⟨saF, sbF, scF⟩ := sF
  refine rb_eq (b := true) (tgt := 14) C (dx dX7_bestDay 2 rfl) (by decide) (fun c1 => ?_) (fun c1 => ?_)
  ·
    have c1 : true = false := c1
    exact absurd (rfl.symm.trans c1) (by decide)
  ·
    have c1 : true = true := c1
    refine r_aload_n C (dx dX7_bestDay 3 rfl) rfl ?_
    refine g_X7_302 C (dx dX7_bestDay 4 rfl) rfl ?_
    refine r_goto (tgt := 21) C (dx dX7_bestDay 5 rfl) (by decide) ?_
    exact F.2.1 _ _ _ _ rfl (dx dX7_bestDay 10 rfl) kF ⟨⟨_, rfl⟩, ⟨_, MF⟩, loF⟩
set_option maxHeartbeats 4000000 in
theorem c_X7_bestDay_n {l : Launch} {h : Hp} {k : Nat} {v : Vg} {g : Sg} (hm : MilAt h k v) (hs : MshAt h k g) (hn2 : 4 < vN v ∨ 6 < vP v) : Ms l yX7_bestDay cX7_bestDay 1 (some .long) 17 [vr 7 k] h (xK h) (fun r h' => PL r ∧ (∃ v', MilAt h' k v') ∧ Kp k h h') := by
  refine Ms.of (by decide) (Nat.le_of_ble_eq_true rfl) (fun G C X F => ?_)
  have C : Cx G cX7_bestDay 1 RX7 := C
  show Rr G 0 [(0, vr 7 k)] [] h
  have bP := hm.bP
  have bM := hm.bM
  have bN := hm.bN
  refine r_aload_n C (dx dX7_bestDay 0 rfl) rfl ?_
  refine r_cvP (as := []) (st := []) (v := vi (b2i false)) C X I_X7_findBest l_X7_311 (c_X7_findBest_n hm hn2) (by decide) (Nat.le_of_ble_eq_true rfl) List.prefix_rfl rfl rfl (Nat.le_of_ble_eq_true rfl) rfl (dx dX7_bestDay 1 rfl) ?_
  refine rb_eq (b := false) (tgt := 14) C (dx dX7_bestDay 2 rfl) (by decide) (fun c1 => ?_) (fun c1 => ?_)
  ·
    have c1 : false = false := c1
    refine r_aload_n C (dx dX7_bestDay 6 rfl) rfl ?_
    refine r_bipush (v := -5) C (dx dX7_bestDay 7 rfl) rfl ?_
    refine r_cv (as := [vi (-5)]) (st := []) C X I_X7_refuse l_X7_83 (c_X7_refuse hm (x := -5) (j := 5) (by decide) (by decide)) (by decide) (Nat.le_of_ble_eq_true rfl) List.prefix_rfl List.prefix_rfl rfl rfl (Nat.le_of_ble_eq_true rfl) rfl (dx dX7_bestDay 8 rfl) ?_
    rintro _ h2 ⟨rfl, ⟨wh2, m9h2, s9h2⟩, qh2⟩ kkh2
    obtain ⟨vh2, mh2, zh2⟩ : ∃ v9, MilAt h2 k v9 ∧ Sz v v9 := ⟨_, m9h2, s9h2⟩
    have ph2 : Kp k h h2 := qh2
    have kh2 : xK h2 = xK h := kkh2
    obtain ⟨ah2, bh2, ch2⟩ := zh2
    refine r_i2l C (dx dX7_bestDay 9 rfl) ?_
    exact F.2.1 _ _ _ _ rfl (dx dX7_bestDay 10 rfl) kh2 ⟨⟨_, rfl⟩, ⟨_, mh2⟩, ph2⟩
  ·
    have c1 : false = true := c1
    exact absurd (rfl.symm.trans c1) (by decide)
