/-! PART 37: the reference: what tries a village on another model -/
theorem Ms.mono {l : Launch} {y : MethodName} {cc : ByteArray} {nL : Nat} {ret : Option FieldType} {d : Nat} {as : List V} {h : Hp} {al1 : List Nat} {post post' : Option V → Hp → Prop} (c : Ms l y cc nL ret d as h al1 post) (q : ∀ r h', post r h' → xK h' = al1 → post' r h') : Ms l y cc nL ret d as h al1 post' := fun D dA f sz p e ha hc hk s m args below hf happ hP hK => by
  obtain ⟨n, o, h1, h2, h3, ⟨⟨r, h', f', g1, g2, g3, g4⟩, hz⟩, L⟩ := c D dA f sz p e ha hc hk s m args below hf happ hP hK
  exact ⟨n, o, h1, h2, h3, ⟨⟨r, h', f', g1, q r h' g2 g3, g3, g4⟩, hz⟩, L⟩
/-- a call of the reference: its answer, its shelves, its tape, whether one is kept; a tried model may have come behind it -/
def MdF (l : Launch) (y : MethodName) (cc : ByteArray) (nL : Nat) (ret : Option FieldType) (d : Nat) (as : List V) (h : Hp) (P : List Nat) (k : Nat) (g : Sg) (z : Nat) (κ : Bool) (Q : Option V → Prop) : Prop :=
  ∃ τ, xK h <+: AL P κ τ ∧ Ms l y cc nL ret d as h (AL P κ τ) (fun r h' => Q r ∧ (∃ v', Md h' P k v' g z κ τ) ∧ Lo k h h')
section MF
variable {l : Launch} {y : MethodName} {cc : ByteArray} {nL : Nat} {ret : Option FieldType} {d : Nat} {as : List V} {h : Hp} {P : List Nat} {k z z' : Nat} {v : Vg} {g g' : Sg} {κ τ : Bool} {Q : Option V → Prop}
theorem Md.al (M : Md h P k v g z κ τ) : xK h = AL P κ τ := M.2.2.2.2.2.2.2.1
theorem Md.hk (M : Md h P k v g z κ τ) : k ≤ 700 := M.2.2.2.2.2.2.1
theorem Md.e8 (M : Md h P k v g z κ τ) : xI h k 8 = nI z := M.2.2.1
theorem Md.bz (M : Md h P k v g z κ τ) : z ≤ 250 := M.2.2.2.1
theorem MdF.kp (M : Md h P k v g z κ τ) (c : Ms l y cc nL ret d as h (xK h) (fun r h' => Q r ∧ (∃ v', MilAt h' k v') ∧ Kp k h h')) : MdF l y cc nL ret d as h P k g z κ Q :=
  ⟨τ, by rw [M.al]; exact List.prefix_rfl, by rw [← M.al]; exact c.mono (fun r h' ⟨q, ⟨v', m'⟩, kp⟩ e => ⟨q, ⟨v', M.kp m' kp e⟩, Lo.fr (Fr.vc kp) (Nat.le_refl _)⟩)⟩
theorem MdF.ks (M : Md h P k v g z κ τ) (c : Ms l y cc nL ret d as h (xK h) (fun r h' => Q r ∧ (∃ v', MilAt h' k v') ∧ MshAt h' k g' ∧ Ks k h h')) : MdF l y cc nL ret d as h P k g' z κ Q :=
  ⟨τ, by rw [M.al]; exact List.prefix_rfl, by rw [← M.al]; exact c.mono (fun r h' ⟨q, ⟨v', m'⟩, s, kp⟩ e => ⟨q, ⟨v', M.gen m' s (kp.1.trans M.e8) M.bz kp.2.1 kp.2.2 e⟩, Lo.fr kp.2.2 (Nat.le_refl _)⟩)⟩
theorem MdF.md (M : Md h P k v g z κ τ) (c : Ms l y cc nL ret d as h (AL P κ true) (fun r h' => Q r ∧ (∃ v', Md h' P k v' g' z' κ true) ∧ Lo k h h')) : MdF l y cc nL ret d as h P k g' z' κ Q :=
  ⟨true, by rw [M.al]; exact AL_pre id (fun _ => rfl), c⟩
theorem MdF.sm (M : Md h P k v g z κ τ) (c : Ms l y cc nL ret d as h (xK h) (fun r h' => Q r ∧ (∃ v', Md h' P k v' g' z' κ τ) ∧ Lo k h h')) : MdF l y cc nL ret d as h P k g' z' κ Q :=
  ⟨τ, by rw [M.al]; exact List.prefix_rfl, by rw [← M.al]; exact c⟩
end MF
/-- a shelf that holds a rule, in whatever cells -/
theorem MshAt.hold {h : Hp} {k : Nat} {g : Sg} {σ η β : Nat} (a : MshAt h k g) (hσ : σ < 8) (h1 : 1 ≤ η ∧ η ≤ 5) (hb : β < 100) (e : gT g σ = nI (10 + η)) (e2 : gY g σ = nI β) : xI h (k + 1) σ = nI 2 ∧ xI h (k + 14) σ = nI η ∧ xI h (k + 15) σ = nI β := by
  rcases a σ hσ with ⟨a1, a2⟩ | ⟨t, n, a1, a2, a3, a4, a5, a6, a7, a8⟩ | ⟨κ, b, a1, a2, a3, a4, a5, a6, a7, a8⟩
  · exact absurd (a2.symm.trans e) (fun q => nI_nm1 (by omega) q.symm)
  · have := (nI_eq (by omega) (by omega)).mp (a6.symm.trans e); omega
  · have e3 := (nI_eq (by omega) (by omega)).mp (a7.symm.trans e)
    have e4 := (nI_eq (by omega) (by omega)).mp (a8.symm.trans e2)
    have : κ = η := by omega
    subst this; subst e4
    exact ⟨a4, a5, a6⟩
theorem nh_hold {g : Sg} {σ η β : Nat} (hσ : σ < 8) (hη : η ≤ 5) (e : gT g σ = nI (10 + η)) (e2 : gY g σ = nI β) : nhA g (nI σ) = 0 := by
  unfold nhA; rw [if_pos (inN (by omega) hσ), (sh_hold hσ hη e e2).2.2.2.2.2.2.1]; rfl
theorem Md.z0 {h : Hp} {P : List Nat} {k z : Nat} {v : Vg} {g : Sg} {κ τ : Bool} (M : Md h P k v g z κ τ) : Md (sI h k 8 (nI 0)) P k v g 0 κ τ :=
  M.gen (M.1.f (by decide) (by decide) (by decide) (by decide)) (M.2.1.fr (Fr.sI (lo := k) (hi := k + 1) (by omega) (by omega)) (by omega)) (by rw [sI_at, if_pos rfl]) (by omega) rfl (Fr.sI (by omega) (by omega)) rfl
/-- feeding the tape -/
def Fk (h h9 : Hp) (k : Nat) (v : Vg) (g : Sg) (zz : Nat) : Prop := MilAt h9 k v ∧ MshAt h9 k g ∧ xI h9 k 8 = nI zz ∧ xN h9 k = xN h k ∧ Fr k (k + 32) h h9 ∧ xK h9 = xK h
theorem Fk.t {h h9 : Hp} {k j zz : Nat} {v : Vg} {g : Sg} {x : Int32} (a : Fk h h9 k v g zz) : Fk h (sI h9 (k + 16) j x) k v g zz := by
  have f : Fr (k + 16) (k + 17) h9 (sI h9 (k + 16) j x) := Fr.sI (by omega) (by omega)
  exact ⟨a.1.fr f (by omega), a.2.1.fr f (by omega), by rw [(f k (by omega)).1]; exact a.2.2.1, by rw [(f k (by omega)).2.2]; exact a.2.2.2.1, a.2.2.2.2.1.tr (f.mono (by omega) (by omega)), a.2.2.2.2.2⟩
theorem Fk.z {h h9 : Hp} {k zz z' : Nat} {v : Vg} {g : Sg} (a : Fk h h9 k v g zz) : Fk h (sI h9 k 8 (nI z')) k v g z' :=
  ⟨a.1.f (by decide) (by decide) (by decide) (by decide), a.2.1.fr (Fr.sI (lo := k) (hi := k + 1) (by omega) (by omega)) (by omega), by rw [sI_at, if_pos rfl], a.2.2.2.1, a.2.2.2.2.1.tr (Fr.sI (by omega) (by omega)), a.2.2.2.2.2⟩
theorem Fk.md {h h9 : Hp} {P : List Nat} {k z zz : Nat} {v v0 : Vg} {g : Sg} {κ τ : Bool} (a : Fk h h9 k v g zz) (M : Md h P k v0 g z κ τ) (hz : zz ≤ 250) : Md h9 P k v g zz κ τ :=
  M.gen a.1 a.2.1 a.2.2.1 hz a.2.2.2.1 a.2.2.2.2.1 a.2.2.2.2.2
theorem feed_no {z : Nat} {n : Int32} (h : btwB n 1 4 = false) : feedA z n = -2 ∧ feedZ z n = z := by
  unfold btwB at h
  unfold feedA feedZ
  by_cases a : n < nI 1
  · rw [if_pos a, if_pos a]; exact ⟨rfl, rfl⟩
  · rw [if_neg a, if_neg a]
    by_cases b : nI 4 < n
    · rw [if_pos b, if_pos b]; exact ⟨rfl, rfl⟩
    · simp [a, b] at h
theorem feed_in {z ν : Nat} (h1 : 1 ≤ ν) (h4 : ν ≤ 4) : feedA z (nI ν) = (if z + ν ≤ 250 then nI (z + ν) else -6) ∧ feedZ z (nI ν) = (if z + ν ≤ 250 then z + ν else z) := by
  unfold feedA feedZ
  have a : ¬ nI ν < nI 1 := fun q => by have := (nI_ltI (by omega) (by omega)).mp q; omega
  have b : ¬ nI 4 < nI ν := fun q => by have := (nI_ltI (by omega) (by omega)).mp q; omega
  rw [if_neg a, if_neg b, if_neg a, if_neg b, clN (by omega)]
  exact ⟨rfl, rfl⟩
theorem ge_nm1 {n : Nat} (h : n < 2 ^ 31) : ¬ nI n ≤ (-1 : Int32) := fun q => by
  rw [Int32.le_iff_toInt_le, nI_toInt h] at q
  have : (-1 : Int32).toInt = -1 := by decide
  omega
set_option maxHeartbeats 4000000 in
theorem c_X7_findBest_n {l : Launch} {h : Hp} {k : Nat} {v : Vg} (hm : MilAt h k v) (hn : 4 < vN v ∨ 6 < vP v) : Mp l yX7_findBest cX7_findBest 3 (some .boolean) 16 [vr 7 k] h (vi (b2i false)) := by
  refine Ms.of (by decide) (Nat.le_of_ble_eq_true rfl) (fun G C X F => ?_)
  have C : Cx G cX7_findBest 3 RX7 := C
  show Rr G 0 [(0, vr 7 k)] [] h
  have bP := hm.bP
  have bM := hm.bM
  have bN := hm.bN
  refine r_aload_n C (dx dX7_findBest 0 rfl) rfl ?_
  refine g_X7_74 (x := nI (vN v)) C (dx dX7_findBest 1 rfl) hm.eN ?_
  refine r_iconst (v := nI 4) C (dx dX7_findBest 2 rfl) rfl ?_
  refine rn_gt (a := vN v) (b := 4) (tgt := 17) C (by omega) (by omega) (dx dX7_findBest 3 rfl) (by decide) (fun c1 => ?_) (fun c1 => ?_)
  · first
    | (omega; done)
    | (
        have c1 : 4 < vN v := c1
        refine r_iconst (v := nI 0) C (dx dX7_findBest 8 rfl) rfl ?_
        exact F.1 _ _ _ _ _ rfl rfl (dx dX7_findBest 9 rfl) rfl ⟨congrArg (fun x => some (vi x)) (show nI 0 = b2i _ by rw [show false = false by rfl]; rfl), rfl⟩)
  · first
    | (omega; done)
    | (
        have c1 : vN v ≤ 4 := c1
        refine r_aload_n C (dx dX7_findBest 4 rfl) rfl ?_
        refine g_X7_64 (x := nI (vP v)) C (dx dX7_findBest 5 rfl) hm.eP ?_
        refine r_bipush (v := nI 6) C (dx dX7_findBest 6 rfl) rfl ?_
        refine rn_le (a := vP v) (b := 6) (tgt := 19) C (by omega) (by omega) (dx dX7_findBest 7 rfl) (by decide) (fun c2 => ?_) (fun c2 => ?_)
        · first
          | (omega; done)
          | (
              have c2 : vP v ≤ 6 := c2
              exact absurd hn (by omega))
        · first
          | (omega; done)
          | (
              have c2 : 6 < vP v := c2
              refine r_iconst (v := nI 0) C (dx dX7_findBest 8 rfl) rfl ?_
              exact F.1 _ _ _ _ _ rfl rfl (dx dX7_findBest 9 rfl) rfl ⟨congrArg (fun x => some (vi x)) (show nI 0 = b2i _ by rw [show false = false by rfl]; rfl), rfl⟩))
