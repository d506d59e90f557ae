/-! PART 56: the reference, exactly: what is kept, the tape's bytes -/
def XT (h : Hp) (k : Nat) (κ : Bool) (ω : Vg) (Bt : Nat → Int32) : Prop := (∀ i, i < 250 → xI h (k + 16) i = Bt i) ∧ (κ = true → ∃ c, xN h k 21 = c + 1 ∧ MilAt h c ω)
section XTS
variable {h h1 h3 : Hp} {P : List Nat} {k b z a : Nat} {v v' w ω : Vg} {g g' : Sg} {κ τ : Bool} {Bt : Nat → Int32}
theorem Md.kc (M : Md h P k v g z κ τ) {c : Nat} (e : xN h k 21 = c + 1) : (c = k + 32 ∨ c = k + 64) ∧ c + 32 ≤ (xK h).length := by
  obtain ⟨m, ms, e8, bz, nok, hP, hk, al, fk, ft, sk, st, ap⟩ := M
  rcases sk with q | ⟨b2, w2, q1, q2, q3, q4⟩
  · omega
  · have : b2 = c := by omega
    subst this; exact ⟨q2, q3⟩
theorem XT.kp (x : XT h k κ ω Bt) (M : Md h P k v g z κ τ) (f : Kp k h h1) : XT h1 k κ ω Bt :=
  ⟨fun i hi => by rw [f.t16]; exact x.1 i hi, fun e => by
    obtain ⟨c, e1, m⟩ := x.2 e
    exact ⟨c, by rw [f.2.1]; exact e1, m.fr (Fr.vc f) (by have := (M.kc e1).1; omega)⟩⟩
theorem XT.kt (x : XT h k κ ω Bt) (M : Md h P k v g z κ τ) (f : Kt k h h1) : XT h1 k κ ω Bt :=
  ⟨fun i hi => by rw [f.2]; exact x.1 i hi, fun e => by
    obtain ⟨c, e1, m⟩ := x.2 e
    exact ⟨c, by rw [f.1.2.1]; exact e1, m.fr f.1.2.2 (by have := (M.kc e1).1; omega)⟩⟩
/-- own cells written, the tape's among them -/
theorem XT.tp {Bt' : Nat → Int32} (x : XT h k κ ω Bt) (M : Md h P k v g z κ τ) (en : xN h1 k = xN h k) (f : Fr k (k + 32) h h1) (t : ∀ i, i < 250 → xI h1 (k + 16) i = Bt' i) : XT h1 k κ ω Bt' :=
  ⟨t, fun e => by
    obtain ⟨c, e1, m⟩ := x.2 e
    exact ⟨c, by rw [en]; exact e1, m.fr f (by have := (M.kc e1).1; omega)⟩⟩
theorem XT.tk (x : XT h k κ ω Bt) (M : Md h P k v g z κ τ) (hb : b = k + 32 ∨ b = k + 64) (eb : xN h k 22 = b + 1) (f : Kp b h h1) : XT h1 k κ ω Bt :=
  ⟨fun i hi => by rw [((Fr.vc f) (k + 16) (by omega)).1]; exact x.1 i hi, fun e => by
    obtain ⟨c, e1, m⟩ := x.2 e
    have hc := (M.kc e1).1
    have ne : c ≠ b := fun q => by
      have ap := M.2.2.2.2.2.2.2.2.2.2.2.2
      have := ap (by rw [e1, eb, q])
      omega
    exact ⟨c, by rw [((Fr.vc f) k (by omega)).2.2]; exact e1, m.fr (Fr.vc f) (by omega)⟩⟩
theorem XT.nwτ (x : XT h k κ ω Bt) (M : Md h P k v g z κ τ) (ha : (xK h).length = a) (lo3 : Lo a h h3) : XT (sN h3 k 22 (a + 1)) k κ ω Bt := by
  have hla := M.len
  have ka : k + 32 ≤ a := by rw [ha] at hla; omega
  refine ⟨fun i hi => ?_, fun e => ?_⟩
  · rw [show xI (sN h3 k 22 (a + 1)) = xI h3 from rfl, (lo3 (k + 16) (by omega)).1]; exact x.1 i hi
  · obtain ⟨c, e1, m⟩ := x.2 e
    have hc := M.kc e1
    rw [ha] at hc
    exact ⟨c, by rw [sN_ne (by decide), (lo3 k (by omega)).2.2]; exact e1, mil_sN9 (m.ag lo3.fs (show ¬ a ≤ c by omega) (unl (by omega)))⟩
theorem XT.tpκ (x : XT h k κ ω Bt) (M : Md h P k v g z κ τ) (ha : (xK h).length = a) (lo3 : Lo a h h3) : ∀ i, i < 250 → xI (sN h3 k 21 (a + 1)) (k + 16) i = Bt i := fun i hi => by
  have hla := M.len
  have ka : k + 32 ≤ a := by rw [ha] at hla; omega
  rw [show xI (sN h3 k 21 (a + 1)) = xI h3 from rfl, (lo3 (k + 16) (by omega)).1]; exact x.1 i hi
end XTS
set_option maxHeartbeats 4000000 in
theorem e_fresh {l : Launch} {h : Hp} {P : List Nat} {k z : Nat} {v : Vg} {g : Sg} {κ τ : Bool} (M : Md h P k v g z κ τ) {ω : Vg} {Bt : Nat → Int32} (x0 : XT h k κ ω Bt) : Ms l yX7_fresh cX7_fresh 1 (some (.object "OnlyWhatFitsModel")) 3 [vr 7 k] h (AL P κ true) (fun r h' => ∃ b, r = some (vr 7 b) ∧ xN h' k 22 = b + 1 ∧ MilAt h' b v ∧ Md h' P k v g z κ true ∧ (b = k + 32 ∨ b = k + 64) ∧ b + 32 ≤ (xK h').length ∧ Lo k h h' ∧ XT h' k κ ω Bt) := by
  refine Ms.of2 (by decide) (Nat.le_of_ble_eq_true rfl) (fun G C NM E0 X F => ?_)
  have C : Cx G cX7_fresh 1 RX7 := C
  show Rr G 0 [(0, vr 7 k)] [] h
  have tail : ∀ (h1 : Hp) (b : Nat), Md h1 P k v g z κ true → xN h1 k 22 = b + 1 → Lo k h h1 → XT h1 k κ ω Bt → Rr G 18 [(0, vr 7 k)] [] h1 := fun h1 b M1 eb f1 x1 => by
    have M0 := M1
    obtain ⟨m, ms, e8, bz, nok, hP, hk, al, fk, ft, sk, st, ap⟩ := M1
    rcases st with q | ⟨b2, w, q1, q2, q3, q4⟩
    · exact absurd (eb.symm.trans q) (by omega)
    have e9 : b2 = b := by have := q1.symm.trans eb; omega
    subst e9
    have k7 := M0.k7 (b := b2) (by omega) q3
    refine r_aload_n C (dx dX7_fresh 8 rfl) rfl ?_
    refine r_getN (k := 7) (j := 22) (T := TX7) (N := 32) C rfl rfl rfl (by decide) f_X7_110 (dx dX7_fresh 9 rfl) eb (Or.inr (by rw [Nat.add_sub_cancel]; exact k7)) ?_
    refine r_some C ?_
    refine r_aload_n C (dx dX7_fresh 10 rfl) rfl ?_
    refine r_cv (as := [vr 7 k]) (st := []) C X I_X7_takeFrom l_X7_237 (c_X7_takeFrom q4 m (by omega)) (by decide) (Nat.le_of_ble_eq_true rfl) List.prefix_rfl (by rw [al]; exact List.prefix_rfl) rfl rfl (Nat.le_of_ble_eq_true rfl) rfl (dx dX7_fresh 11 rfl) ?_
    rintro _ h2 ⟨rfl, m2, kp2⟩ kk2
    have M2 := M0.tk q2 q3 m2 kp2 kk2
    have x2 := x1.tk M0 q2 eb kp2
    have f2 : Lo k h h2 := f1.tr (Lo.fr (Fr.vc kp2) (by omega))
    have eb2 : xN h2 k 22 = b2 + 1 := by rw [((Fr.vc kp2) k (by omega)).2.2]; exact eb
    refine r_aload_n C (dx dX7_fresh 12 rfl) rfl ?_
    refine r_getN (k := 7) (j := 22) (T := TX7) (N := 32) C rfl rfl rfl (by decide) f_X7_110 (dx dX7_fresh 13 rfl) eb2 (Or.inr (by rw [Nat.add_sub_cancel, kk2]; exact k7)) ?_
    refine r_some C ?_
    exact F.2.2.2 _ _ _ _ _ _ rfl (dx dX7_fresh 14 rfl) (kk2.trans al) ⟨b2, rfl, eb2, m2, M2, q2, by rw [kk2]; exact q3, f2, x2⟩
  refine r_aload_n C (dx dX7_fresh 0 rfl) rfl ?_
  cases τ with
  | true =>
    obtain ⟨m, ms, e8, bz, nok, hP, hk, al, fk, ft, sk, st, ap⟩ := id M
    rcases st with q | ⟨b2, w, q1, q2, q3, q4⟩
    · exact absurd (ft.mp q) (by decide)
    have k7 := M.k7 (b := b2) (by omega) q3
    refine r_getN (k := 7) (j := 22) (T := TX7) (N := 32) C rfl rfl rfl (by decide) f_X7_110 (dx dX7_fresh 1 rfl) q1 (Or.inr (by rw [Nat.add_sub_cancel]; exact k7)) ?_
    refine r_ifnonnull_y (tgt := 18) C (dx dX7_fresh 2 rfl) (by decide) ?_
    exact tail h b2 M q1 Lo.rf x0
  | false =>
    have hla := M.len
    obtain ⟨m, ms, e8, bz, nok, hP, hk, al, fk, ft, sk, st, ap⟩ := id M
    have n0 : xN h k 22 = 0 := ft.mpr rfl
    refine r_getN (k := 7) (j := 22) (T := TX7) (N := 32) C rfl rfl rfl (by decide) f_X7_110 (dx dX7_fresh 1 rfl) n0 (Or.inl rfl) ?_
    refine r_ifnonnull_n C (dx dX7_fresh 2 rfl) ?_
    refine r_aload_n C (dx dX7_fresh 3 rfl) rfl ?_
    generalize ha : (xK h).length = a at hla
    have ab : (a = k + 32 ∨ a = k + 64) := by revert hla; cases κ <;> simp <;> omega
    have X : Rmx l G 3 (xK h ++ mdK) := by have q := X; rw [AL_τ, ← al] at q; exact q
    refine r_new (kk := 15) (C0 := RX7) (T := TX7) (N := 32) C (X.go (M := []) (E := [15]) (List.append_nil _).symm (by decide) (by decide)) rfl rfl rfl (by decide) hfs7 List.prefix_rfl nok (by omega) cl_RX7_8 q_in7 q_ii7 (dx dX7_fresh 4 rfl) ?_
    rw [ha]
    have K1 : xK (nw h 15) = xK h ++ [15] := rfl
    have lo1 : Lo a h (nw h 15) := Lo.nw (Nat.le_of_eq ha.symm)
    have no1 := nok.nw (k := 15)
    have Y1 : xI (nw h 15) a = fun _ => 0 := by have q9 := nw_I (h := h) (k := 15); rw [ha] at q9; exact q9
    have Y2 : xL (nw h 15) a = fun _ => 0 := by have q9 := nw_L (h := h) (k := 15); rw [ha] at q9; exact q9
    have Y3 : xN (nw h 15) a = fun _ => 0 := by have q9 := nw_N (h := h) (k := 15); rw [ha] at q9; exact q9
    generalize nw h 15 = h1 at K1 lo1 no1 Y1 Y2 Y3 ⊢
    have len1 : (xK h1).length = a + 1 := by rw [K1, List.length_append, ha]; rfl
    refine r_dupR C (dx dX7_fresh 5 rfl) ?_
    refine r_callI (st := [vr 15 a, vr 7 k]) C (X.go (E := [22, 22, 22, 33, 31, 31, 31, 31, 31, 31, 31, 31, 31, 22, 22, 30, 22, 20, 20, 21, 21, 34, 27, 27, 27, 27, 27, 27, 27, 27, 20]) K1 (by decide) (by decide)) (c_X7_init (a := a) len1 (by omega) no1 Y1 Y2 Y3) (by decide) (Nat.le_of_ble_eq_true rfl) (List.prefix_append _ _) List.prefix_rfl rfl rfl (Nat.le_of_ble_eq_true rfl) l_X7_278 q_im7 q_ii7 q_co7 rfl nh_RX7 q_pd7 (dx dX7_fresh 6 rfl) ?_
    rintro _ h2 ⟨rfl, no2, lo2, p0, p1, p2, p3, p4, p5, p6, p7, p9, p11, p12, p14, p15, p17, p30, m2, ms2, z2, n21, n22⟩ kk2
    have K2 : xK h2 = xK h ++ (15 :: [22, 22, 22, 33, 31, 31, 31, 31, 31, 31, 31, 31, 31, 22, 22, 30, 22, 20, 20, 21, 21, 34, 27, 27, 27, 27, 27, 27, 27, 27, 20]) := by rw [kk2, K1, List.append_assoc]; rfl
    have ha2 : (xK h2)[a]? = some (7 + 8) := by rw [K2]; exact (getK0 ha 0).trans rfl
    have hp2 : ∀ (j o k9 : Nat), ([(2, 1, 22), (2, 2, 22), (2, 3, 22), (2, 4, 33), (2, 13, 31), (2, 14, 22), (2, 15, 22), (2, 16, 30), (0, 0, 0), (2, 17, 22), (0, 0, 0), (2, 18, 20), (2, 19, 20), (0, 0, 0), (2, 20, 21), (2, 21, 21), (0, 0, 0), (2, 22, 34), (0, 0, 0), (0, 0, 0), (0, 0, 0), (3, 0, 7), (3, 0, 7), (0, 0, 0), (0, 0, 0), (0, 0, 0), (1, 0, 0), (0, 0, 0), (0, 0, 0), (0, 0, 0), (2, 31, 20), (1, 0, 0)] : List Fd3)[j]? = some (2, o, k9) → xN h2 a j = a + o + 1 ∧ (xK h2)[a + o]? = some k9 := fun j o k9 hj => by
      match j, hj with
      | 0, hj => cases hj; exact ⟨p0, by rw [K2]; exact (getK0 ha 1).trans rfl⟩
      | 1, hj => cases hj; exact ⟨p1, by rw [K2]; exact (getK0 ha 2).trans rfl⟩
      | 2, hj => cases hj; exact ⟨p2, by rw [K2]; exact (getK0 ha 3).trans rfl⟩
      | 3, hj => cases hj; exact ⟨p3, by rw [K2]; exact (getK0 ha 4).trans rfl⟩
      | 4, hj => cases hj; exact ⟨p4, by rw [K2]; exact (getK0 ha 13).trans rfl⟩
      | 5, hj => cases hj; exact ⟨p5, by rw [K2]; exact (getK0 ha 14).trans rfl⟩
      | 6, hj => cases hj; exact ⟨p6, by rw [K2]; exact (getK0 ha 15).trans rfl⟩
      | 7, hj => cases hj; exact ⟨p7, by rw [K2]; exact (getK0 ha 16).trans rfl⟩
      | 8, hj => cases hj
      | 9, hj => cases hj; exact ⟨p9, by rw [K2]; exact (getK0 ha 17).trans rfl⟩
      | 10, hj => cases hj
      | 11, hj => cases hj; exact ⟨p11, by rw [K2]; exact (getK0 ha 18).trans rfl⟩
      | 12, hj => cases hj; exact ⟨p12, by rw [K2]; exact (getK0 ha 19).trans rfl⟩
      | 13, hj => cases hj
      | 14, hj => cases hj; exact ⟨p14, by rw [K2]; exact (getK0 ha 20).trans rfl⟩
      | 15, hj => cases hj; exact ⟨p15, by rw [K2]; exact (getK0 ha 21).trans rfl⟩
      | 16, hj => cases hj
      | 17, hj => cases hj; exact ⟨p17, by rw [K2]; exact (getK0 ha 22).trans rfl⟩
      | 18, hj => cases hj
      | 19, hj => cases hj
      | 20, hj => cases hj
      | 21, hj => cases hj
      | 22, hj => cases hj
      | 23, hj => cases hj
      | 24, hj => cases hj
      | 25, hj => cases hj
      | 26, hj => cases hj
      | 27, hj => cases hj
      | 28, hj => cases hj
      | 29, hj => cases hj
      | 30, hj => cases hj; exact ⟨p30, by rw [K2]; exact (getK0 ha 31).trans rfl⟩
      | 31, hj => cases hj
      | n + 32, hj => simp at hj
    refine r_retag (a := a) (k := 7) (al := xK h) C E0 (Nat.le_of_eq ha) (by decide) ha2 rfl hp2 ⟨show k ≠ a by omega, trivial⟩ ⟨show k ≠ a by omega, trivial⟩ ?_
    have K3 : xK (rt h2 a 7) = xK h ++ mdK := by show (xK h2).set _ _ = _; rw [K2]; exact (set_app (i := 0) ha.symm).trans rfl
    have no3 : NOk (rt h2 a 7) := no2.mk8 (by decide) ha2
    have lo3 : Lo a h (rt h2 a 7) := lo1.tr lo2
    have m3 : MilAt (rt h2 a 7) a v00 := m2
    generalize rt h2 a 7 = h3 at K3 no3 lo3 m3 ⊢
    have len3 : (xK h3).length = a + 32 := by rw [K3, List.length_append, ha]; rfl
    refine r_putN (k := 7) (j := 22) (t := 0) (C0 := RX7) (T := TX7) (N := 32) C rfl rfl rfl (by decide) f_X7_110 rfl (fun _ => rfl) (fun _ => rfl) (dx dX7_fresh 7 rfl) ?_
    obtain ⟨M4, en9, f4⟩ := Md.nwτ M ha lo3 no3 K3 m3
    exact tail _ a M4 en9 f4 (x0.nwτ M ha lo3)
set_option maxHeartbeats 4000000 in
theorem e_image {l : Launch} {h : Hp} {P : List Nat} {k z : Nat} {v : Vg} {g : Sg} {κ τ : Bool} (M : Md h P k v g z κ τ) {ω : Vg} {Bt : Nat → Int32} (x0 : XT h k κ ω Bt) : Ms l yX7_image cX7_image 1 (some .int) 3 [vr 7 k] h (AL P true τ) (fun r h' => r = some (vi (nI 1)) ∧ Md h' P k v g z true τ ∧ Lo k h h' ∧ XT h' k true v Bt) := by
  refine Ms.of2 (by decide) (Nat.le_of_ble_eq_true rfl) (fun G C NM E0 X F => ?_)
  have C : Cx G cX7_image 1 RX7 := C
  show Rr G 0 [(0, vr 7 k)] [] h
  have tail : ∀ (h1 : Hp) (b : Nat), Md h1 P k v g z true τ → xN h1 k 21 = b + 1 → Lo k h h1 → (∀ i, i < 250 → xI h1 (k + 16) i = Bt i) → Rr G 18 [(0, vr 7 k)] [] h1 := fun h1 b M1 eb f1 x1 => by
    have M0 := M1
    obtain ⟨m, ms, e8, bz, nok, hP, hk, al, fk, ft, sk, st, ap⟩ := M1
    rcases sk with q | ⟨b2, w, q1, q2, q3, q4⟩
    · exact absurd (eb.symm.trans q) (by omega)
    have e9 : b2 = b := by have := q1.symm.trans eb; omega
    subst e9
    have k7 := M0.k7 (b := b2) (by omega) q3
    refine r_aload_n C (dx dX7_image 8 rfl) rfl ?_
    refine r_getN (k := 7) (j := 21) (T := TX7) (N := 32) C rfl rfl rfl (by decide) f_X7_354 (dx dX7_image 9 rfl) eb (Or.inr (by rw [Nat.add_sub_cancel]; exact k7)) ?_
    refine r_some C ?_
    refine r_aload_n C (dx dX7_image 10 rfl) rfl ?_
    refine r_cv (as := [vr 7 k]) (st := []) C X I_X7_takeFrom l_X7_237 (c_X7_takeFrom q4 m (by omega)) (by decide) (Nat.le_of_ble_eq_true rfl) List.prefix_rfl (by rw [al]; exact List.prefix_rfl) rfl rfl (Nat.le_of_ble_eq_true rfl) rfl (dx dX7_image 11 rfl) ?_
    rintro _ h2 ⟨rfl, m2, kp2⟩ kk2
    have M2 := M0.tk q2 q3 m2 kp2 kk2
    have x2 : XT h2 k true v Bt := ⟨fun i hi => by rw [((Fr.vc kp2) (k + 16) (by omega)).1]; exact x1 i hi, fun _ => ⟨b2, by rw [((Fr.vc kp2) k (by omega)).2.2]; exact eb, m2⟩⟩
    have f2 : Lo k h h2 := f1.tr (Lo.fr (Fr.vc kp2) (by omega))
    refine r_iconst (v := nI 1) C (dx dX7_image 12 rfl) rfl ?_
    exact F.1 _ _ _ _ _ rfl rfl (dx dX7_image 13 rfl) (kk2.trans al) ⟨rfl, M2, f2, x2⟩
  refine r_aload_n C (dx dX7_image 0 rfl) rfl ?_
  cases κ with
  | true =>
    obtain ⟨m, ms, e8, bz, nok, hP, hk, al, fk, ft, sk, st, ap⟩ := id M
    rcases sk with q | ⟨b2, w, q1, q2, q3, q4⟩
    · exact absurd (fk.mp q) (by decide)
    have k7 := M.k7 (b := b2) (by omega) q3
    refine r_getN (k := 7) (j := 21) (T := TX7) (N := 32) C rfl rfl rfl (by decide) f_X7_354 (dx dX7_image 1 rfl) q1 (Or.inr (by rw [Nat.add_sub_cancel]; exact k7)) ?_
    refine r_ifnonnull_y (tgt := 18) C (dx dX7_image 2 rfl) (by decide) ?_
    exact tail h b2 M q1 Lo.rf x0.1
  | false =>
    have hla := M.len
    obtain ⟨m, ms, e8, bz, nok, hP, hk, al, fk, ft, sk, st, ap⟩ := id M
    have n0 : xN h k 21 = 0 := fk.mpr rfl
    refine r_getN (k := 7) (j := 21) (T := TX7) (N := 32) C rfl rfl rfl (by decide) f_X7_354 (dx dX7_image 1 rfl) n0 (Or.inl rfl) ?_
    refine r_ifnonnull_n C (dx dX7_image 2 rfl) ?_
    refine r_aload_n C (dx dX7_image 3 rfl) rfl ?_
    generalize ha : (xK h).length = a at hla
    have ab : (a = k + 32 ∨ a = k + 64) := by revert hla; cases τ <;> simp <;> omega
    have X : Rmx l G 3 (xK h ++ mdK) := by have q := X; rw [AL_κ, ← al] at q; exact q
    refine r_new (kk := 15) (C0 := RX7) (T := TX7) (N := 32) C (X.go (M := []) (E := [15]) (List.append_nil _).symm (by decide) (by decide)) rfl rfl rfl (by decide) hfs7 List.prefix_rfl nok (by omega) cl_RX7_8 q_in7 q_ii7 (dx dX7_image 4 rfl) ?_
    rw [ha]
    have K1 : xK (nw h 15) = xK h ++ [15] := rfl
    have lo1 : Lo a h (nw h 15) := Lo.nw (Nat.le_of_eq ha.symm)
    have no1 := nok.nw (k := 15)
    have Y1 : xI (nw h 15) a = fun _ => 0 := by have q9 := nw_I (h := h) (k := 15); rw [ha] at q9; exact q9
    have Y2 : xL (nw h 15) a = fun _ => 0 := by have q9 := nw_L (h := h) (k := 15); rw [ha] at q9; exact q9
    have Y3 : xN (nw h 15) a = fun _ => 0 := by have q9 := nw_N (h := h) (k := 15); rw [ha] at q9; exact q9
    generalize nw h 15 = h1 at K1 lo1 no1 Y1 Y2 Y3 ⊢
    have len1 : (xK h1).length = a + 1 := by rw [K1, List.length_append, ha]; rfl
    refine r_dupR C (dx dX7_image 5 rfl) ?_
    refine r_callI (st := [vr 15 a, vr 7 k]) C (X.go (E := [22, 22, 22, 33, 31, 31, 31, 31, 31, 31, 31, 31, 31, 22, 22, 30, 22, 20, 20, 21, 21, 34, 27, 27, 27, 27, 27, 27, 27, 27, 20]) K1 (by decide) (by decide)) (c_X7_init (a := a) len1 (by omega) no1 Y1 Y2 Y3) (by decide) (Nat.le_of_ble_eq_true rfl) (List.prefix_append _ _) List.prefix_rfl rfl rfl (Nat.le_of_ble_eq_true rfl) l_X7_278 q_im7 q_ii7 q_co7 rfl nh_RX7 q_pd7 (dx dX7_image 6 rfl) ?_
    rintro _ h2 ⟨rfl, no2, lo2, p0, p1, p2, p3, p4, p5, p6, p7, p9, p11, p12, p14, p15, p17, p30, m2, ms2, z2, n21, n22⟩ kk2
    have K2 : xK h2 = xK h ++ (15 :: [22, 22, 22, 33, 31, 31, 31, 31, 31, 31, 31, 31, 31, 22, 22, 30, 22, 20, 20, 21, 21, 34, 27, 27, 27, 27, 27, 27, 27, 27, 20]) := by rw [kk2, K1, List.append_assoc]; rfl
    have ha2 : (xK h2)[a]? = some (7 + 8) := by rw [K2]; exact (getK0 ha 0).trans rfl
    have hp2 : ∀ (j o k9 : Nat), ([(2, 1, 22), (2, 2, 22), (2, 3, 22), (2, 4, 33), (2, 13, 31), (2, 14, 22), (2, 15, 22), (2, 16, 30), (0, 0, 0), (2, 17, 22), (0, 0, 0), (2, 18, 20), (2, 19, 20), (0, 0, 0), (2, 20, 21), (2, 21, 21), (0, 0, 0), (2, 22, 34), (0, 0, 0), (0, 0, 0), (0, 0, 0), (3, 0, 7), (3, 0, 7), (0, 0, 0), (0, 0, 0), (0, 0, 0), (1, 0, 0), (0, 0, 0), (0, 0, 0), (0, 0, 0), (2, 31, 20), (1, 0, 0)] : List Fd3)[j]? = some (2, o, k9) → xN h2 a j = a + o + 1 ∧ (xK h2)[a + o]? = some k9 := fun j o k9 hj => by
      match j, hj with
      | 0, hj => cases hj; exact ⟨p0, by rw [K2]; exact (getK0 ha 1).trans rfl⟩
      | 1, hj => cases hj; exact ⟨p1, by rw [K2]; exact (getK0 ha 2).trans rfl⟩
      | 2, hj => cases hj; exact ⟨p2, by rw [K2]; exact (getK0 ha 3).trans rfl⟩
      | 3, hj => cases hj; exact ⟨p3, by rw [K2]; exact (getK0 ha 4).trans rfl⟩
      | 4, hj => cases hj; exact ⟨p4, by rw [K2]; exact (getK0 ha 13).trans rfl⟩
      | 5, hj => cases hj; exact ⟨p5, by rw [K2]; exact (getK0 ha 14).trans rfl⟩
      | 6, hj => cases hj; exact ⟨p6, by rw [K2]; exact (getK0 ha 15).trans rfl⟩
      | 7, hj => cases hj; exact ⟨p7, by rw [K2]; exact (getK0 ha 16).trans rfl⟩
      | 8, hj => cases hj
      | 9, hj => cases hj; exact ⟨p9, by rw [K2]; exact (getK0 ha 17).trans rfl⟩
      | 10, hj => cases hj
      | 11, hj => cases hj; exact ⟨p11, by rw [K2]; exact (getK0 ha 18).trans rfl⟩
      | 12, hj => cases hj; exact ⟨p12, by rw [K2]; exact (getK0 ha 19).trans rfl⟩
      | 13, hj => cases hj
      | 14, hj => cases hj; exact ⟨p14, by rw [K2]; exact (getK0 ha 20).trans rfl⟩
      | 15, hj => cases hj; exact ⟨p15, by rw [K2]; exact (getK0 ha 21).trans rfl⟩
      | 16, hj => cases hj
      | 17, hj => cases hj; exact ⟨p17, by rw [K2]; exact (getK0 ha 22).trans rfl⟩
      | 18, hj => cases hj
      | 19, hj => cases hj
      | 20, hj => cases hj
      | 21, hj => cases hj
      | 22, hj => cases hj
      | 23, hj => cases hj
      | 24, hj => cases hj
      | 25, hj => cases hj
      | 26, hj => cases hj
      | 27, hj => cases hj
      | 28, hj => cases hj
      | 29, hj => cases hj
      | 30, hj => cases hj; exact ⟨p30, by rw [K2]; exact (getK0 ha 31).trans rfl⟩
      | 31, hj => cases hj
      | n + 32, hj => simp at hj
    refine r_retag (a := a) (k := 7) (al := xK h) C E0 (Nat.le_of_eq ha) (by decide) ha2 rfl hp2 ⟨show k ≠ a by omega, trivial⟩ ⟨show k ≠ a by omega, trivial⟩ ?_
    have K3 : xK (rt h2 a 7) = xK h ++ mdK := by show (xK h2).set _ _ = _; rw [K2]; exact (set_app (i := 0) ha.symm).trans rfl
    have no3 : NOk (rt h2 a 7) := no2.mk8 (by decide) ha2
    have lo3 : Lo a h (rt h2 a 7) := lo1.tr lo2
    have m3 : MilAt (rt h2 a 7) a v00 := m2
    generalize rt h2 a 7 = h3 at K3 no3 lo3 m3 ⊢
    have len3 : (xK h3).length = a + 32 := by rw [K3, List.length_append, ha]; rfl
    refine r_putN (k := 7) (j := 21) (t := 0) (C0 := RX7) (T := TX7) (N := 32) C rfl rfl rfl (by decide) f_X7_354 rfl (fun _ => rfl) (fun _ => rfl) (dx dX7_image 7 rfl) ?_
    obtain ⟨M4, en9, f4⟩ := Md.nwκ M ha lo3 no3 K3 m3
    exact tail _ a M4 en9 f4 (x0.tpκ M ha lo3)
set_option maxHeartbeats 4000000 in
theorem e_back {l : Launch} {h : Hp} {P : List Nat} {k z : Nat} {v : Vg} {g : Sg} {κ τ : Bool} (M : Md h P k v g z κ τ) {ω : Vg} {Bt : Nat → Int32} (x0 : XT h k κ ω Bt) : Ms l yX7_back cX7_back 1 (some .int) 3 [vr 7 k] h (xK h) (fun r h' => r = some (vi (if κ then nI 1 else -5)) ∧ Md h' P k (if κ then ω else v) g z κ τ ∧ Lo k h h' ∧ XT h' k κ ω Bt) := by
  refine Ms.of (by decide) (Nat.le_of_ble_eq_true rfl) (fun G C X F => ?_)
  have C : Cx G cX7_back 1 RX7 := C
  show Rr G 0 [(0, vr 7 k)] [] h
  obtain ⟨m, ms, e8, bz, nok, hP, hk, al, fk, ft, sk, st, ap⟩ := id M
  refine r_aload_n C (dx dX7_back 0 rfl) rfl ?_
  cases κ with
  | true =>
    rcases sk with q | ⟨b2, w, q1, q2, q3, q4⟩
    · exact absurd (fk.mp q) (by decide)
    obtain ⟨c9, e9, m9⟩ := x0.2 rfl
    have q9 : c9 = b2 := by omega
    subst q9
    have k7 := M.k7 (b := c9) (by omega) q3
    refine r_getN (k := 7) (j := 21) (T := TX7) (N := 32) C rfl rfl rfl (by decide) f_X7_354 (dx dX7_back 1 rfl) q1 (Or.inr (by rw [Nat.add_sub_cancel]; exact k7)) ?_
    refine r_ifnonnull_y (tgt := 14) C (dx dX7_back 2 rfl) (by decide) ?_
    refine r_aload_n C (dx dX7_back 7 rfl) rfl ?_
    refine r_aload_n C (dx dX7_back 8 rfl) rfl ?_
    refine r_getN (k := 7) (j := 21) (T := TX7) (N := 32) C rfl rfl rfl (by decide) f_X7_354 (dx dX7_back 9 rfl) q1 (Or.inr (by rw [Nat.add_sub_cancel]; exact k7)) ?_
    refine r_some C ?_
    refine r_cv (as := [vr 7 c9]) (st := []) C X I_X7_takeFrom l_X7_237 (c_X7_takeFrom m m9 (by omega)) (by decide) (Nat.le_of_ble_eq_true rfl) List.prefix_rfl List.prefix_rfl rfl rfl (Nat.le_of_ble_eq_true rfl) rfl (dx dX7_back 10 rfl) ?_
    rintro _ h2 ⟨rfl, m2, kp2⟩ kk2
    refine r_iconst (v := nI 1) C (dx dX7_back 11 rfl) rfl ?_
    exact F.1 _ _ _ _ _ rfl rfl (dx dX7_back 12 rfl) kk2 ⟨rfl, M.kp m2 kp2 kk2, Lo.fr (Fr.vc kp2) (Nat.le_refl _), x0.kp M kp2⟩
  | false =>
    refine r_getN (k := 7) (j := 21) (T := TX7) (N := 32) C rfl rfl rfl (by decide) f_X7_354 (dx dX7_back 1 rfl) (fk.mpr rfl) (Or.inl rfl) ?_
    refine r_ifnonnull_n C (dx dX7_back 2 rfl) ?_
    refine r_aload_n C (dx dX7_back 3 rfl) rfl ?_
    refine r_bipush (v := -5) C (dx dX7_back 4 rfl) rfl ?_
    refine r_cv (as := [vi (-5)]) (st := []) C X I_X7_refuse l_X7_83 (e_refuse m (x := -5) (j := 5) (by decide) (by decide)) (by decide) (Nat.le_of_ble_eq_true rfl) List.prefix_rfl List.prefix_rfl rfl rfl (Nat.le_of_ble_eq_true rfl) rfl (dx dX7_back 5 rfl) ?_
    rintro _ h2 ⟨rfl, m2, kp2⟩ kk2
    exact F.1 _ _ _ _ _ rfl rfl (dx dX7_back 6 rfl) kk2 ⟨rfl, M.kp m2 kp2 kk2, Lo.fr (Fr.vc kp2) (Nat.le_refl _), x0.kp M kp2⟩


