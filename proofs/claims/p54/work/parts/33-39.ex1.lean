section
/-! PART 33: the class made -/
theorem Lo.fs {c : Nat} {h h1 : Hp} (q : Lo c h h1) : Fs (fun b => c ≤ b) h h1 := fun b hb => q b (Nat.lt_of_not_le hb)
theorem unl {c lo hi : Nat} (h : hi ≤ c) : un (fun b => c ≤ b) lo hi := fun b _ h2 q => by omega
theorem una {a lo hi : Nat} (h : a < lo) : un (fun b => b = a) lo hi := fun b h1 _ q => by omega
theorem Fs.a {a j : Nat} {x : Int32} {h : Hp} : Fs (fun b => b = a) h (sI h a j x) := fun b hb => oth_sI b hb
theorem oaU {a B s c : Nat} (h : B + s ≤ c) : a + B + s ≤ a + c := by omega
theorem oaV {a B s : Nat} (h : 0 < B) : a < a + B + s := by omega
theorem oaL {L a B i : Nat} (hlen : L = a + 1) (h : B = i + 1) : a + B = L + i := by omega
theorem oa9 {a B T T' : Nat} (hb : a + T < 900) (h : B + T' ≤ T) : a + B + T' < 900 := by omega
theorem getK {al M : List Nat} {a : Nat} (hlen : al.length = a + 1) (i : Nat) : (al ++ M)[a + 1 + i]? = M[i]? := by
  rw [← hlen, List.getElem?_append_right (Nat.le_add_right _ _), Nat.add_sub_cancel_left]
theorem Rmx.go {l : Launch} {G : Gt} {d : Nat} {h H : Hp} {M E T : List Nat} (X : Rmx l G d (xK h ++ T)) (K : xK H = xK h ++ M) (h1 : (M ++ E).length ≤ T.length) (h2 : slo (M ++ E) ≤ slo T) : Rmx l G d (xK H ++ E) := by
  obtain ⟨p, l', e, R, s, m, args, below, meth, c, D, dA, A, f0, al0, Q, nL'⟩ := G
  obtain ⟨rfl, X1, X2, X3, X4⟩ := X
  rw [List.length_append] at X3
  rw [slo_app] at X4
  refine ⟨rfl, X1, X2, ?_, ?_⟩
  · rw [K, List.append_assoc, List.length_append]; omega
  · rw [K, List.append_assoc, slo_app]; omega
theorem hfs0 : ∀ j, j < 1 → defaultValue (clTy 8 j) = vp_V (zf [(3, 0, 22)]) j := fun j hj => by
  match j, hj with
  | 0, _ => rfl
  | k + 1, h => exact absurd h (by omega)
theorem hfs1 : ∀ j, j < 6 → defaultValue (clTy 9 j) = vp_V (zf [(3, 0, 21), (3, 0, 21), (3, 0, 27), (3, 0, 32), (3, 0, 28), (1, 0, 0)]) j := fun j hj => by
  match j, hj with
  | 0, _ => rfl
  | 1, _ => rfl
  | 2, _ => rfl
  | 3, _ => rfl
  | 4, _ => rfl
  | 5, _ => rfl
  | k + 6, h => exact absurd h (by omega)
theorem hfs2 : ∀ j, j < 4 → defaultValue (clTy 10 j) = vp_V (zf [(3, 0, 22), (3, 0, 22), (3, 0, 33), (3, 0, 22)]) j := fun j hj => by
  match j, hj with
  | 0, _ => rfl
  | 1, _ => rfl
  | 2, _ => rfl
  | 3, _ => rfl
  | k + 4, h => exact absurd h (by omega)
theorem hfs3 : ∀ j, j < 5 → defaultValue (clTy 11 j) = vp_V (zf [(3, 0, 29), (0, 0, 0), (0, 0, 0), (0, 0, 0), (0, 0, 0)]) j := fun j hj => by
  match j, hj with
  | 0, _ => rfl
  | 1, _ => rfl
  | 2, _ => rfl
  | 3, _ => rfl
  | 4, _ => rfl
  | k + 5, h => exact absurd h (by omega)
theorem hfs4 : ∀ j, j < 3 → defaultValue (clTy 12 j) = vp_V (zf [(3, 0, 24), (3, 0, 25), (3, 0, 22)]) j := fun j hj => by
  match j, hj with
  | 0, _ => rfl
  | 1, _ => rfl
  | 2, _ => rfl
  | k + 3, h => exact absurd h (by omega)
theorem hfs5 : ∀ j, j < 12 → defaultValue (clTy 13 j) = vp_V (zf [(0, 0, 0), (3, 0, 20), (3, 0, 20), (0, 0, 0), (3, 0, 21), (3, 0, 21), (0, 0, 0), (3, 0, 22), (3, 0, 22), (3, 0, 23), (3, 0, 22), (0, 0, 0)]) j := fun j hj => by
  match j, hj with
  | 0, _ => rfl
  | 1, _ => rfl
  | 2, _ => rfl
  | 3, _ => rfl
  | 4, _ => rfl
  | 5, _ => rfl
  | 6, _ => rfl
  | 7, _ => rfl
  | 8, _ => rfl
  | 9, _ => rfl
  | 10, _ => rfl
  | 11, _ => rfl
  | k + 12, h => exact absurd h (by omega)
theorem hfs6 : ∀ j, j < 12 → defaultValue (clTy 14 j) = vp_V (zf [(3, 0, 5), (3, 0, 5), (3, 0, 5), (0, 0, 0), (3, 0, 4), (3, 0, 0), (3, 0, 1), (3, 0, 3), (3, 0, 2), (3, 0, 26), (0, 0, 0), (0, 0, 0)]) j := fun j hj => by
  match j, hj with
  | 0, _ => rfl
  | 1, _ => rfl
  | 2, _ => rfl
  | 3, _ => rfl
  | 4, _ => rfl
  | 5, _ => rfl
  | 6, _ => rfl
  | 7, _ => rfl
  | 8, _ => rfl
  | 9, _ => rfl
  | 10, _ => rfl
  | 11, _ => rfl
  | k + 12, h => exact absurd h (by omega)
theorem hfs7 : ∀ j, j < 32 → defaultValue (clTy 15 j) = vp_V (zf [(3, 0, 22), (3, 0, 22), (3, 0, 22), (3, 0, 33), (3, 0, 31), (3, 0, 22), (3, 0, 22), (3, 0, 30), (0, 0, 0), (3, 0, 22), (0, 0, 0), (3, 0, 20), (3, 0, 20), (0, 0, 0), (3, 0, 21), (3, 0, 21), (0, 0, 0), (3, 0, 34), (0, 0, 0), (0, 0, 0), (0, 0, 0), (3, 0, 7), (3, 0, 7), (0, 0, 0), (0, 0, 0), (0, 0, 0), (1, 0, 0), (0, 0, 0), (0, 0, 0), (0, 0, 0), (3, 0, 20), (1, 0, 0)]) j := fun j hj => by
  match j, hj with
  | 0, _ => rfl
  | 1, _ => rfl
  | 2, _ => rfl
  | 3, _ => rfl
  | 4, _ => rfl
  | 5, _ => rfl
  | 6, _ => rfl
  | 7, _ => rfl
  | 8, _ => rfl
  | 9, _ => rfl
  | 10, _ => rfl
  | 11, _ => rfl
  | 12, _ => rfl
  | 13, _ => rfl
  | 14, _ => rfl
  | 15, _ => rfl
  | 16, _ => rfl
  | 17, _ => rfl
  | 18, _ => rfl
  | 19, _ => rfl
  | 20, _ => rfl
  | 21, _ => rfl
  | 22, _ => rfl
  | 23, _ => rfl
  | 24, _ => rfl
  | 25, _ => rfl
  | 26, _ => rfl
  | 27, _ => rfl
  | 28, _ => rfl
  | 29, _ => rfl
  | 30, _ => rfl
  | 31, _ => rfl
  | k + 32, h => exact absurd h (by omega)
set_option maxHeartbeats 8000000 in
theorem c_X6_init {l : Launch} {h : Hp} {a : Nat} (hlen : (xK h).length = a + 1) (hb : a + 66 < 900) (hN : NOk h) : Ms l yX6_init cX6_init 1 none 4 [vr 14 a] h (xK h ++ [5, 20, 20, 21, 21, 22, 22, 23, 22, 5, 20, 20, 21, 21, 22, 22, 23, 22, 5, 20, 20, 21, 21, 22, 22, 23, 22, 4, 24, 25, 22, 0, 22, 1, 21, 21, 27, 32, 21, 21, 21, 21, 21, 21, 21, 28, 3, 29, 2, 22, 22, 33, 31, 31, 31, 31, 31, 31, 31, 31, 22, 26]) (fun r h' => r = none ∧ NOk h' ∧ Lo a h h' ∧ xN h' a 0 = a + 1 + 1 ∧ xN h' a 1 = a + 10 + 1 ∧ xN h' a 2 = a + 19 + 1 ∧ xN h' a 4 = a + 28 + 1 ∧ xN h' a 5 = a + 32 + 1 ∧ xN h' a 6 = a + 34 + 1 ∧ xN h' a 7 = a + 47 + 1 ∧ xN h' a 8 = a + 49 + 1 ∧ xN h' a 9 = a + 62 + 1 ∧ (VilAt h' (a + 1) v00) ∧ (VilAt h' (a + 10) v00) ∧ (VilAt h' (a + 19) v00) ∧ (∀ i, i < 8 → xI h' (a + 31) i = nI (fct i)) ∧ (SInv h' (a + 34)) ∧ (TapAt h' (a + 47) (fun _ => 0) 0) ∧ (ShAt h' (a + 49) g00) ∧ xI h' a 3 = nI 0) := by
  refine Ms.of2 (by decide) (Nat.le_of_ble_eq_true rfl) (fun G C NM E0 X F => ?_)
  have C : Cx G cX6_init 1 RX6 := C
  have hI : CI G := NM
  show Rr G 0 [(0, vr 14 a)] [] h
  have K0 : xK h = xK h ++ [] := (List.append_nil _).symm
  have L0 : Lo a h h := Lo.rf
  have len_h : (xK h).length = a + 1 := hlen
  refine r_aload_n C (dx dX6_init 0 rfl) rfl ?_
  refine r_obj C X (by decide) l_X6_1 q_oi q_oc (dx dX6_init 1 rfl) ?_
  refine r_aload_n C (dx dX6_init 2 rfl) rfl ?_
  refine r_new (kk := 13) (C0 := RX5) (T := TX5) (N := 12) C (X.go (E := [13]) K0 (by decide) (by decide)) rfl rfl rfl (by decide) hfs5 List.prefix_rfl hN (by rw [len_h]; exact oa4 hb (by decide)) cl_RX6_7 q_in5 q_ii5 (dx dX6_init 3 rfl) ?_
  rw [len_h]
  have NO_h1 : NOk (nw h 13) := hN.nw
  have LO_h1 : Lo a h (nw h 13) := L0.tr (Lo.nw (by rw [len_h]; exact Nat.le_add_right _ _))
  have K_h1 : xK (nw h 13) = xK h ++ [13] := rfl
  have Y1_h1 : xI (nw h 13) (a + 1) = fun _ => 0 := by have q9 := nw_I (h := h) (k := 13); rw [len_h] at q9; exact q9
  have Y2_h1 : xL (nw h 13) (a + 1) = fun _ => 0 := by have q9 := nw_L (h := h) (k := 13); rw [len_h] at q9; exact q9
  have Y3_h1 : xN (nw h 13) (a + 1) = fun _ => 0 := by have q9 := nw_N (h := h) (k := 13); rw [len_h] at q9; exact q9
  generalize nw h 13 = h1 at NO_h1 LO_h1 K_h1 Y1_h1 Y2_h1 Y3_h1 ⊢
  have len_h1 : (xK h1).length = a + 2 := by rw [K_h1, List.length_append, hlen]; rfl
  refine r_dupR C (dx dX6_init 4 rfl) ?_
  refine r_callIN (st := [vr 13 (a + 1), vr 14 a]) (i9 := 0) C (X.go (E := [20, 20, 21, 21, 22, 22, 23, 22]) K_h1 (by decide) (by decide)) (c_X5_init (a := a + 1) len_h1 (oa9 hb (by decide)) NO_h1 Y1_h1 Y2_h1 Y3_h1) (by decide) (Nat.le_of_ble_eq_true rfl) (List.prefix_append _ _) List.prefix_rfl rfl rfl (Nat.le_of_ble_eq_true rfl) rfl q_im5 q_ii5 q_co5 rfl nh_RX5 q_pd5 (dx dX6_init 5 rfl) ?_
  rintro _ h2 ⟨rfl, NO_h2, lo_h2, p1_h2, p2_h2, p4_h2, p5_h2, p7_h2, p8_h2, p9_h2, p10_h2, sp_h2⟩ kk_h2
  have LO_h2 : Lo a h h2 := LO_h1.tr (lo_h2.mono (Nat.le_add_right _ _))
  have K_h2 : xK h2 = xK h ++ [13, 20, 20, 21, 21, 22, 22, 23, 22] := by rw [kk_h2, K_h1, List.append_assoc]; rfl
  have len_h2 : (xK h2).length = a + 10 := by rw [K_h2, List.length_append, hlen]; rfl
  have ha_h2 : (xK h2)[a + 1]? = some (5 + 8) := by rw [K_h2]; exact (getK hlen 0).trans rfl
  have hp_h2 : ∀ (j o k9 : Nat), ([(0, 0, 0), (2, 1, 20), (2, 2, 20), (0, 0, 0), (2, 3, 21), (2, 4, 21), (0, 0, 0), (2, 5, 22), (2, 6, 22), (2, 7, 23), (2, 8, 22), (0, 0, 0)] : List Fd3)[j]? = some (2, o, k9) → xN h2 (a + 1) j = a + 1 + o + 1 ∧ (xK h2)[a + 1 + o]? = some k9 := fun j o k9 hj => by
    match j, hj with
    | 0, hj => cases hj
    | 1, hj => cases hj; exact ⟨p1_h2, by rw [K_h2]; exact (getK hlen 1).trans rfl⟩
    | 2, hj => cases hj; exact ⟨p2_h2, by rw [K_h2]; exact (getK hlen 2).trans rfl⟩
    | 3, hj => cases hj
    | 4, hj => cases hj; exact ⟨p4_h2, by rw [K_h2]; exact (getK hlen 3).trans rfl⟩
    | 5, hj => cases hj; exact ⟨p5_h2, by rw [K_h2]; exact (getK hlen 4).trans rfl⟩
    | 6, hj => cases hj
    | 7, hj => cases hj; exact ⟨p7_h2, by rw [K_h2]; exact (getK hlen 5).trans rfl⟩
    | 8, hj => cases hj; exact ⟨p8_h2, by rw [K_h2]; exact (getK hlen 6).trans rfl⟩
    | 9, hj => cases hj; exact ⟨p9_h2, by rw [K_h2]; exact (getK hlen 7).trans rfl⟩
    | 10, hj => cases hj; exact ⟨p10_h2, by rw [K_h2]; exact (getK hlen 8).trans rfl⟩
    | 11, hj => cases hj
    | n + 12, hj => simp at hj
  refine r_retag (a := a + 1) (k := 5) (al := xK h) C E0 (by rw [hlen]; exact Nat.add_le_add_left (by decide) a) (by decide) ha_h2 rfl hp_h2 ⟨(show a ≠ _ from oa3 (by decide)), trivial⟩ ⟨(show a ≠ _ from oa3 (by decide)), trivial⟩ ?_
  have LO_h3 : Lo a h (rt h2 (a + 1) 5) := LO_h2
  have S1_h3 : VilAt (rt h2 (a + 1) 5) (a + 1) v00 := sp_h2
  have K_h3 : xK (rt h2 (a + 1) 5) = xK h ++ [5, 20, 20, 21, 21, 22, 22, 23, 22] := by show (xK h2).set _ _ = _; rw [K_h2]; exact (set_app (i := 0) (oaL hlen rfl)).trans rfl
  have NO_h3 : NOk (rt h2 (a + 1) 5) := NO_h2.mk8 (by decide) ha_h2
  generalize rt h2 (a + 1) 5 = h3 at LO_h3 S1_h3 K_h3 NO_h3 ⊢
  have len_h3 : (xK h3).length = a + 10 := by rw [K_h3, List.length_append, hlen]; rfl
  refine r_putNF (k := 14) (j := 0) (t := 0) C hI rfl rfl rfl (by decide) f_X6_10 rfl rfl (fun _ => rfl) (fun _ => rfl) (dx dX6_init 6 rfl) ?_
  have LO_h4 : Lo a h (sN h3 a 0 (a + 1 + 1)) := LO_h3.tr (Lo.sN (Nat.le_refl _))
  have S1_h4 : VilAt (sN h3 a 0 (a + 1 + 1)) (a + 1) v00 := S1_h3
  have K_h4 : xK (sN h3 a 0 (a + 1 + 1)) = xK h ++ [5, 20, 20, 21, 21, 22, 22, 23, 22] := K_h3
  have NO_h4 : NOk (sN h3 a 0 (a + 1 + 1)) := NO_h3.sN (by rw [len_h3]; exact oa6 (by decide))
  have N0_h4 : xN (sN h3 a 0 (a + 1 + 1)) a 0 = a + 1 + 1 := sN_at
  generalize sN h3 a 0 (a + 1 + 1) = h4 at LO_h4 S1_h4 K_h4 NO_h4 N0_h4 ⊢
  have len_h4 : (xK h4).length = a + 10 := by rw [K_h4, List.length_append, hlen]; rfl
  refine r_aload_n C (dx dX6_init 7 rfl) rfl ?_
  refine r_new (kk := 13) (C0 := RX5) (T := TX5) (N := 12) C (X.go (E := [13]) K_h4 (by decide) (by decide)) rfl rfl rfl (by decide) hfs5 List.prefix_rfl NO_h4 (by rw [len_h4]; exact oa4 hb (by decide)) cl_RX6_7 q_in5 q_ii5 (dx dX6_init 8 rfl) ?_
  rw [len_h4]
  have LO_h5 : Lo a h (nw h4 13) := LO_h4.tr (Lo.nw (by rw [len_h4]; exact Nat.le_add_right _ _))
  have S1_h5 : VilAt (nw h4 13) (a + 1) v00 := S1_h4.ag (Lo.nw (h := h4) (k := 13) (a := a + 10) (by rw [len_h4]; exact Nat.le_refl _)).fs (unl (oaU (a := a) (B := 1) (s := 9) (c := 10) (by decide)))
  have NO_h5 : NOk (nw h4 13) := NO_h4.nw
  have N0_h5 : xN (nw h4 13) a 0 = a + 1 + 1 := by rw [(nw_ne (h := h4) (k := 13) (b := a) (by rw [len_h4]; exact oa3 (by decide))).2.2]; exact N0_h4
  have K_h5 : xK (nw h4 13) = xK h ++ [5, 20, 20, 21, 21, 22, 22, 23, 22, 13] := by show xK h4 ++ _ = _; rw [K_h4, List.append_assoc]; rfl
  have Y1_h5 : xI (nw h4 13) (a + 10) = fun _ => 0 := by have q9 := nw_I (h := h4) (k := 13); rw [len_h4] at q9; exact q9
  have Y2_h5 : xL (nw h4 13) (a + 10) = fun _ => 0 := by have q9 := nw_L (h := h4) (k := 13); rw [len_h4] at q9; exact q9
  have Y3_h5 : xN (nw h4 13) (a + 10) = fun _ => 0 := by have q9 := nw_N (h := h4) (k := 13); rw [len_h4] at q9; exact q9
  generalize nw h4 13 = h5 at LO_h5 S1_h5 NO_h5 N0_h5 K_h5 Y1_h5 Y2_h5 Y3_h5 ⊢
  have len_h5 : (xK h5).length = a + 11 := by rw [K_h5, List.length_append, hlen]; rfl
  refine r_dupR C (dx dX6_init 9 rfl) ?_
  refine r_callIN (st := [vr 13 (a + 10), vr 14 a]) (i9 := 0) C (X.go (E := [20, 20, 21, 21, 22, 22, 23, 22]) K_h5 (by decide) (by decide)) (c_X5_init (a := a + 10) len_h5 (oa9 hb (by decide)) NO_h5 Y1_h5 Y2_h5 Y3_h5) (by decide) (Nat.le_of_ble_eq_true rfl) (List.prefix_append _ _) List.prefix_rfl rfl rfl (Nat.le_of_ble_eq_true rfl) rfl q_im5 q_ii5 q_co5 rfl nh_RX5 q_pd5 (dx dX6_init 10 rfl) ?_
  rintro _ h6 ⟨rfl, NO_h6, lo_h6, p1_h6, p2_h6, p4_h6, p5_h6, p7_h6, p8_h6, p9_h6, p10_h6, sp_h6⟩ kk_h6
  have LO_h6 : Lo a h h6 := LO_h5.tr (lo_h6.mono (Nat.le_add_right _ _))
  have S1_h6 : VilAt h6 (a + 1) v00 := S1_h5.ag lo_h6.fs (unl (oaU (a := a) (B := 1) (s := 9) (c := 10) (by decide)))
  have N0_h6 : xN h6 a 0 = a + 1 + 1 := by rw [(lo_h6 _ (oa8 (by decide))).2.2]; exact N0_h5
  have K_h6 : xK h6 = xK h ++ [5, 20, 20, 21, 21, 22, 22, 23, 22, 13, 20, 20, 21, 21, 22, 22, 23, 22] := by rw [kk_h6, K_h5, List.append_assoc]; rfl
  have len_h6 : (xK h6).length = a + 19 := by rw [K_h6, List.length_append, hlen]; rfl
  have ha_h6 : (xK h6)[a + 10]? = some (5 + 8) := by rw [K_h6]; exact (getK hlen 9).trans rfl
  have hp_h6 : ∀ (j o k9 : Nat), ([(0, 0, 0), (2, 1, 20), (2, 2, 20), (0, 0, 0), (2, 3, 21), (2, 4, 21), (0, 0, 0), (2, 5, 22), (2, 6, 22), (2, 7, 23), (2, 8, 22), (0, 0, 0)] : List Fd3)[j]? = some (2, o, k9) → xN h6 (a + 10) j = a + 10 + o + 1 ∧ (xK h6)[a + 10 + o]? = some k9 := fun j o k9 hj => by
    match j, hj with
    | 0, hj => cases hj
    | 1, hj => cases hj; exact ⟨p1_h6, by rw [K_h6]; exact (getK hlen 10).trans rfl⟩
    | 2, hj => cases hj; exact ⟨p2_h6, by rw [K_h6]; exact (getK hlen 11).trans rfl⟩
    | 3, hj => cases hj
    | 4, hj => cases hj; exact ⟨p4_h6, by rw [K_h6]; exact (getK hlen 12).trans rfl⟩
    | 5, hj => cases hj; exact ⟨p5_h6, by rw [K_h6]; exact (getK hlen 13).trans rfl⟩
    | 6, hj => cases hj
    | 7, hj => cases hj; exact ⟨p7_h6, by rw [K_h6]; exact (getK hlen 14).trans rfl⟩
    | 8, hj => cases hj; exact ⟨p8_h6, by rw [K_h6]; exact (getK hlen 15).trans rfl⟩
    | 9, hj => cases hj; exact ⟨p9_h6, by rw [K_h6]; exact (getK hlen 16).trans rfl⟩
    | 10, hj => cases hj; exact ⟨p10_h6, by rw [K_h6]; exact (getK hlen 17).trans rfl⟩
    | 11, hj => cases hj
    | n + 12, hj => simp at hj
  refine r_retag (a := a + 10) (k := 5) (al := xK h) C E0 (by rw [hlen]; exact Nat.add_le_add_left (by decide) a) (by decide) ha_h6 rfl hp_h6 ⟨(show a ≠ _ from oa3 (by decide)), trivial⟩ ⟨(show a ≠ _ from oa3 (by decide)), trivial⟩ ?_
  have LO_h7 : Lo a h (rt h6 (a + 10) 5) := LO_h6
  have S1_h7 : VilAt (rt h6 (a + 10) 5) (a + 1) v00 := S1_h6
  have N0_h7 : xN (rt h6 (a + 10) 5) a 0 = a + 1 + 1 := N0_h6
  have S10_h7 : VilAt (rt h6 (a + 10) 5) (a + 10) v00 := sp_h6
  have K_h7 : xK (rt h6 (a + 10) 5) = xK h ++ [5, 20, 20, 21, 21, 22, 22, 23, 22, 5, 20, 20, 21, 21, 22, 22, 23, 22] := by show (xK h6).set _ _ = _; rw [K_h6]; exact (set_app (i := 9) (oaL hlen rfl)).trans rfl
  have NO_h7 : NOk (rt h6 (a + 10) 5) := NO_h6.mk8 (by decide) ha_h6
  generalize rt h6 (a + 10) 5 = h7 at LO_h7 S1_h7 N0_h7 S10_h7 K_h7 NO_h7 ⊢
  have len_h7 : (xK h7).length = a + 19 := by rw [K_h7, List.length_append, hlen]; rfl
  refine r_putNF (k := 14) (j := 1) (t := 0) C hI rfl rfl rfl (by decide) f_X6_16 rfl rfl (fun _ => rfl) (fun _ => rfl) (dx dX6_init 11 rfl) ?_
  have LO_h8 : Lo a h (sN h7 a 1 (a + 10 + 1)) := LO_h7.tr (Lo.sN (Nat.le_refl _))
  have S1_h8 : VilAt (sN h7 a 1 (a + 10 + 1)) (a + 1) v00 := S1_h7
  have N0_h8 : xN (sN h7 a 1 (a + 10 + 1)) a 0 = a + 1 + 1 := (sN_ne (by decide)).trans N0_h7
  have S10_h8 : VilAt (sN h7 a 1 (a + 10 + 1)) (a + 10) v00 := S10_h7
  have K_h8 : xK (sN h7 a 1 (a + 10 + 1)) = xK h ++ [5, 20, 20, 21, 21, 22, 22, 23, 22, 5, 20, 20, 21, 21, 22, 22, 23, 22] := K_h7
  have NO_h8 : NOk (sN h7 a 1 (a + 10 + 1)) := NO_h7.sN (by rw [len_h7]; exact oa6 (by decide))
  have N1_h8 : xN (sN h7 a 1 (a + 10 + 1)) a 1 = a + 10 + 1 := sN_at
  generalize sN h7 a 1 (a + 10 + 1) = h8 at LO_h8 S1_h8 N0_h8 S10_h8 K_h8 NO_h8 N1_h8 ⊢
  have len_h8 : (xK h8).length = a + 19 := by rw [K_h8, List.length_append, hlen]; rfl
  refine r_aload_n C (dx dX6_init 12 rfl) rfl ?_
  refine r_new (kk := 13) (C0 := RX5) (T := TX5) (N := 12) C (X.go (E := [13]) K_h8 (by decide) (by decide)) rfl rfl rfl (by decide) hfs5 List.prefix_rfl NO_h8 (by rw [len_h8]; exact oa4 hb (by decide)) cl_RX6_7 q_in5 q_ii5 (dx dX6_init 13 rfl) ?_
  rw [len_h8]
  have LO_h9 : Lo a h (nw h8 13) := LO_h8.tr (Lo.nw (by rw [len_h8]; exact Nat.le_add_right _ _))
  have S1_h9 : VilAt (nw h8 13) (a + 1) v00 := S1_h8.ag (Lo.nw (h := h8) (k := 13) (a := a + 19) (by rw [len_h8]; exact Nat.le_refl _)).fs (unl (oaU (a := a) (B := 1) (s := 9) (c := 19) (by decide)))
  have N0_h9 : xN (nw h8 13) a 0 = a + 1 + 1 := by rw [(nw_ne (h := h8) (k := 13) (b := a) (by rw [len_h8]; exact oa3 (by decide))).2.2]; exact N0_h8
  have S10_h9 : VilAt (nw h8 13) (a + 10) v00 := S10_h8.ag (Lo.nw (h := h8) (k := 13) (a := a + 19) (by rw [len_h8]; exact Nat.le_refl _)).fs (unl (oaU (a := a) (B := 10) (s := 9) (c := 19) (by decide)))
  have NO_h9 : NOk (nw h8 13) := NO_h8.nw
  have N1_h9 : xN (nw h8 13) a 1 = a + 10 + 1 := by rw [(nw_ne (h := h8) (k := 13) (b := a) (by rw [len_h8]; exact oa3 (by decide))).2.2]; exact N1_h8
  have K_h9 : xK (nw h8 13) = xK h ++ [5, 20, 20, 21, 21, 22, 22, 23, 22, 5, 20, 20, 21, 21, 22, 22, 23, 22, 13] := by show xK h8 ++ _ = _; rw [K_h8, List.append_assoc]; rfl
  have Y1_h9 : xI (nw h8 13) (a + 19) = fun _ => 0 := by have q9 := nw_I (h := h8) (k := 13); rw [len_h8] at q9; exact q9
  have Y2_h9 : xL (nw h8 13) (a + 19) = fun _ => 0 := by have q9 := nw_L (h := h8) (k := 13); rw [len_h8] at q9; exact q9
  have Y3_h9 : xN (nw h8 13) (a + 19) = fun _ => 0 := by have q9 := nw_N (h := h8) (k := 13); rw [len_h8] at q9; exact q9
  generalize nw h8 13 = h9 at LO_h9 S1_h9 N0_h9 S10_h9 NO_h9 N1_h9 K_h9 Y1_h9 Y2_h9 Y3_h9 ⊢
  have len_h9 : (xK h9).length = a + 20 := by rw [K_h9, List.length_append, hlen]; rfl
  refine r_dupR C (dx dX6_init 14 rfl) ?_
  refine r_callIN (st := [vr 13 (a + 19), vr 14 a]) (i9 := 0) C (X.go (E := [20, 20, 21, 21, 22, 22, 23, 22]) K_h9 (by decide) (by decide)) (c_X5_init (a := a + 19) len_h9 (oa9 hb (by decide)) NO_h9 Y1_h9 Y2_h9 Y3_h9) (by decide) (Nat.le_of_ble_eq_true rfl) (List.prefix_append _ _) List.prefix_rfl rfl rfl (Nat.le_of_ble_eq_true rfl) rfl q_im5 q_ii5 q_co5 rfl nh_RX5 q_pd5 (dx dX6_init 15 rfl) ?_
  rintro _ h10 ⟨rfl, NO_h10, lo_h10, p1_h10, p2_h10, p4_h10, p5_h10, p7_h10, p8_h10, p9_h10, p10_h10, sp_h10⟩ kk_h10
  have LO_h10 : Lo a h h10 := LO_h9.tr (lo_h10.mono (Nat.le_add_right _ _))
  have S1_h10 : VilAt h10 (a + 1) v00 := S1_h9.ag lo_h10.fs (unl (oaU (a := a) (B := 1) (s := 9) (c := 19) (by decide)))
  have N0_h10 : xN h10 a 0 = a + 1 + 1 := by rw [(lo_h10 _ (oa8 (by decide))).2.2]; exact N0_h9
  have S10_h10 : VilAt h10 (a + 10) v00 := S10_h9.ag lo_h10.fs (unl (oaU (a := a) (B := 10) (s := 9) (c := 19) (by decide)))
  have N1_h10 : xN h10 a 1 = a + 10 + 1 := by rw [(lo_h10 _ (oa8 (by decide))).2.2]; exact N1_h9
  have K_h10 : xK h10 = xK h ++ [5, 20, 20, 21, 21, 22, 22, 23, 22, 5, 20, 20, 21, 21, 22, 22, 23, 22, 13, 20, 20, 21, 21, 22, 22, 23, 22] := by rw [kk_h10, K_h9, List.append_assoc]; rfl
  have len_h10 : (xK h10).length = a + 28 := by rw [K_h10, List.length_append, hlen]; rfl
  have ha_h10 : (xK h10)[a + 19]? = some (5 + 8) := by rw [K_h10]; exact (getK hlen 18).trans rfl
  have hp_h10 : ∀ (j o k9 : Nat), ([(0, 0, 0), (2, 1, 20), (2, 2, 20), (0, 0, 0), (2, 3, 21), (2, 4, 21), (0, 0, 0), (2, 5, 22), (2, 6, 22), (2, 7, 23), (2, 8, 22), (0, 0, 0)] : List Fd3)[j]? = some (2, o, k9) → xN h10 (a + 19) j = a + 19 + o + 1 ∧ (xK h10)[a + 19 + o]? = some k9 := fun j o k9 hj => by
    match j, hj with
    | 0, hj => cases hj
    | 1, hj => cases hj; exact ⟨p1_h10, by rw [K_h10]; exact (getK hlen 19).trans rfl⟩
    | 2, hj => cases hj; exact ⟨p2_h10, by rw [K_h10]; exact (getK hlen 20).trans rfl⟩
    | 3, hj => cases hj
    | 4, hj => cases hj; exact ⟨p4_h10, by rw [K_h10]; exact (getK hlen 21).trans rfl⟩
    | 5, hj => cases hj; exact ⟨p5_h10, by rw [K_h10]; exact (getK hlen 22).trans rfl⟩
    | 6, hj => cases hj
    | 7, hj => cases hj; exact ⟨p7_h10, by rw [K_h10]; exact (getK hlen 23).trans rfl⟩
    | 8, hj => cases hj; exact ⟨p8_h10, by rw [K_h10]; exact (getK hlen 24).trans rfl⟩
    | 9, hj => cases hj; exact ⟨p9_h10, by rw [K_h10]; exact (getK hlen 25).trans rfl⟩
    | 10, hj => cases hj; exact ⟨p10_h10, by rw [K_h10]; exact (getK hlen 26).trans rfl⟩
    | 11, hj => cases hj
    | n + 12, hj => simp at hj
  refine r_retag (a := a + 19) (k := 5) (al := xK h) C E0 (by rw [hlen]; exact Nat.add_le_add_left (by decide) a) (by decide) ha_h10 rfl hp_h10 ⟨(show a ≠ _ from oa3 (by decide)), trivial⟩ ⟨(show a ≠ _ from oa3 (by decide)), trivial⟩ ?_
  have LO_h11 : Lo a h (rt h10 (a + 19) 5) := LO_h10
  have S1_h11 : VilAt (rt h10 (a + 19) 5) (a + 1) v00 := S1_h10
  have N0_h11 : xN (rt h10 (a + 19) 5) a 0 = a + 1 + 1 := N0_h10
  have S10_h11 : VilAt (rt h10 (a + 19) 5) (a + 10) v00 := S10_h10
  have N1_h11 : xN (rt h10 (a + 19) 5) a 1 = a + 10 + 1 := N1_h10
  have S19_h11 : VilAt (rt h10 (a + 19) 5) (a + 19) v00 := sp_h10
  have K_h11 : xK (rt h10 (a + 19) 5) = xK h ++ [5, 20, 20, 21, 21, 22, 22, 23, 22, 5, 20, 20, 21, 21, 22, 22, 23, 22, 5, 20, 20, 21, 21, 22, 22, 23, 22] := by show (xK h10).set _ _ = _; rw [K_h10]; exact (set_app (i := 18) (oaL hlen rfl)).trans rfl
  have NO_h11 : NOk (rt h10 (a + 19) 5) := NO_h10.mk8 (by decide) ha_h10
  generalize rt h10 (a + 19) 5 = h11 at LO_h11 S1_h11 N0_h11 S10_h11 N1_h11 S19_h11 K_h11 NO_h11 ⊢
  have len_h11 : (xK h11).length = a + 28 := by rw [K_h11, List.length_append, hlen]; rfl
  refine r_putNF (k := 14) (j := 2) (t := 0) C hI rfl rfl rfl (by decide) f_X6_19 rfl rfl (fun _ => rfl) (fun _ => rfl) (dx dX6_init 16 rfl) ?_
  have LO_h12 : Lo a h (sN h11 a 2 (a + 19 + 1)) := LO_h11.tr (Lo.sN (Nat.le_refl _))
  have S1_h12 : VilAt (sN h11 a 2 (a + 19 + 1)) (a + 1) v00 := S1_h11
  have N0_h12 : xN (sN h11 a 2 (a + 19 + 1)) a 0 = a + 1 + 1 := (sN_ne (by decide)).trans N0_h11
  have S10_h12 : VilAt (sN h11 a 2 (a + 19 + 1)) (a + 10) v00 := S10_h11
  have N1_h12 : xN (sN h11 a 2 (a + 19 + 1)) a 1 = a + 10 + 1 := (sN_ne (by decide)).trans N1_h11
  have S19_h12 : VilAt (sN h11 a 2 (a + 19 + 1)) (a + 19) v00 := S19_h11
  have K_h12 : xK (sN h11 a 2 (a + 19 + 1)) = xK h ++ [5, 20, 20, 21, 21, 22, 22, 23, 22, 5, 20, 20, 21, 21, 22, 22, 23, 22, 5, 20, 20, 21, 21, 22, 22, 23, 22] := K_h11
  have NO_h12 : NOk (sN h11 a 2 (a + 19 + 1)) := NO_h11.sN (by rw [len_h11]; exact oa6 (by decide))
  have N2_h12 : xN (sN h11 a 2 (a + 19 + 1)) a 2 = a + 19 + 1 := sN_at
  generalize sN h11 a 2 (a + 19 + 1) = h12 at LO_h12 S1_h12 N0_h12 S10_h12 N1_h12 S19_h12 K_h12 NO_h12 N2_h12 ⊢
  have len_h12 : (xK h12).length = a + 28 := by rw [K_h12, List.length_append, hlen]; rfl
  refine r_aload_n C (dx dX6_init 17 rfl) rfl ?_
  refine r_iconst (v := nI 0) C (dx dX6_init 18 rfl) rfl ?_
  refine r_putI (k := 14) (j := 3) (T := TX6) C rfl rfl rfl (by decide) f_X6_22 rfl rfl rfl (dx dX6_init 19 rfl) ?_
  have LO_h13 : Lo a h (sI h12 a 3 (nI 0)) := LO_h12.tr (Lo.sI (Nat.le_refl _))
  have S1_h13 : VilAt (sI h12 a 3 (nI 0)) (a + 1) v00 := S1_h12.ag Fs.a (una (oaV (a := a) (B := 1) (s := 0) (by decide)))
  have N0_h13 : xN (sI h12 a 3 (nI 0)) a 0 = a + 1 + 1 := N0_h12
  have S10_h13 : VilAt (sI h12 a 3 (nI 0)) (a + 10) v00 := S10_h12.ag Fs.a (una (oaV (a := a) (B := 10) (s := 0) (by decide)))
  have N1_h13 : xN (sI h12 a 3 (nI 0)) a 1 = a + 10 + 1 := N1_h12
  have S19_h13 : VilAt (sI h12 a 3 (nI 0)) (a + 19) v00 := S19_h12.ag Fs.a (una (oaV (a := a) (B := 19) (s := 0) (by decide)))
  have K_h13 : xK (sI h12 a 3 (nI 0)) = xK h ++ [5, 20, 20, 21, 21, 22, 22, 23, 22, 5, 20, 20, 21, 21, 22, 22, 23, 22, 5, 20, 20, 21, 21, 22, 22, 23, 22] := K_h12
  have NO_h13 : NOk (sI h12 a 3 (nI 0)) := NO_h12
  have N2_h13 : xN (sI h12 a 3 (nI 0)) a 2 = a + 19 + 1 := N2_h12
  have I3_h13 : xI (sI h12 a 3 (nI 0)) a 3 = nI 0 := by rw [sI_at, if_pos rfl]
  generalize sI h12 a 3 (nI 0) = h13 at LO_h13 S1_h13 N0_h13 S10_h13 N1_h13 S19_h13 K_h13 NO_h13 N2_h13 I3_h13 ⊢
  have len_h13 : (xK h13).length = a + 28 := by rw [K_h13, List.length_append, hlen]; rfl
  refine r_aload_n C (dx dX6_init 20 rfl) rfl ?_
  refine r_new (kk := 12) (C0 := RX4) (T := TX4) (N := 3) C (X.go (E := [12]) K_h13 (by decide) (by decide)) rfl rfl rfl (by decide) hfs4 List.prefix_rfl NO_h13 (by rw [len_h13]; exact oa4 hb (by decide)) cl_RX6_26 q_in4 q_ii4 (dx dX6_init 21 rfl) ?_
  rw [len_h13]
  have LO_h14 : Lo a h (nw h13 12) := LO_h13.tr (Lo.nw (by rw [len_h13]; exact Nat.le_add_right _ _))
  have S1_h14 : VilAt (nw h13 12) (a + 1) v00 := S1_h13.ag (Lo.nw (h := h13) (k := 12) (a := a + 28) (by rw [len_h13]; exact Nat.le_refl _)).fs (unl (oaU (a := a) (B := 1) (s := 9) (c := 28) (by decide)))
  have N0_h14 : xN (nw h13 12) a 0 = a + 1 + 1 := by rw [(nw_ne (h := h13) (k := 12) (b := a) (by rw [len_h13]; exact oa3 (by decide))).2.2]; exact N0_h13
  have S10_h14 : VilAt (nw h13 12) (a + 10) v00 := S10_h13.ag (Lo.nw (h := h13) (k := 12) (a := a + 28) (by rw [len_h13]; exact Nat.le_refl _)).fs (unl (oaU (a := a) (B := 10) (s := 9) (c := 28) (by decide)))
  have N1_h14 : xN (nw h13 12) a 1 = a + 10 + 1 := by rw [(nw_ne (h := h13) (k := 12) (b := a) (by rw [len_h13]; exact oa3 (by decide))).2.2]; exact N1_h13
  have S19_h14 : VilAt (nw h13 12) (a + 19) v00 := S19_h13.ag (Lo.nw (h := h13) (k := 12) (a := a + 28) (by rw [len_h13]; exact Nat.le_refl _)).fs (unl (oaU (a := a) (B := 19) (s := 9) (c := 28) (by decide)))
  have NO_h14 : NOk (nw h13 12) := NO_h13.nw
  have N2_h14 : xN (nw h13 12) a 2 = a + 19 + 1 := by rw [(nw_ne (h := h13) (k := 12) (b := a) (by rw [len_h13]; exact oa3 (by decide))).2.2]; exact N2_h13
  have I3_h14 : xI (nw h13 12) a 3 = nI 0 := by rw [(nw_ne (h := h13) (k := 12) (b := a) (by rw [len_h13]; exact oa3 (by decide))).1]; exact I3_h13
  have K_h14 : xK (nw h13 12) = xK h ++ [5, 20, 20, 21, 21, 22, 22, 23, 22, 5, 20, 20, 21, 21, 22, 22, 23, 22, 5, 20, 20, 21, 21, 22, 22, 23, 22, 12] := by show xK h13 ++ _ = _; rw [K_h13, List.append_assoc]; rfl
  have Y1_h14 : xI (nw h13 12) (a + 28) = fun _ => 0 := by have q9 := nw_I (h := h13) (k := 12); rw [len_h13] at q9; exact q9
  have Y2_h14 : xL (nw h13 12) (a + 28) = fun _ => 0 := by have q9 := nw_L (h := h13) (k := 12); rw [len_h13] at q9; exact q9
  have Y3_h14 : xN (nw h13 12) (a + 28) = fun _ => 0 := by have q9 := nw_N (h := h13) (k := 12); rw [len_h13] at q9; exact q9
  generalize nw h13 12 = h14 at LO_h14 S1_h14 N0_h14 S10_h14 N1_h14 S19_h14 NO_h14 N2_h14 I3_h14 K_h14 Y1_h14 Y2_h14 Y3_h14 ⊢
  have len_h14 : (xK h14).length = a + 29 := by rw [K_h14, List.length_append, hlen]; rfl
  refine r_dupR C (dx dX6_init 22 rfl) ?_
  refine r_callI (st := [vr 12 (a + 28), vr 14 a]) C (X.go (E := [24, 25, 22]) K_h14 (by decide) (by decide)) (c_X4_init (a := a + 28) len_h14 (oa9 hb (by decide)) NO_h14 Y1_h14 Y2_h14 Y3_h14) (by decide) (Nat.le_of_ble_eq_true rfl) (List.prefix_append _ _) List.prefix_rfl rfl rfl (Nat.le_of_ble_eq_true rfl) l_X6_28 q_im4 q_ii4 q_co4 rfl nh_RX4 q_pd4 (dx dX6_init 23 rfl) ?_
  rintro _ h15 ⟨rfl, NO_h15, lo_h15, p0_h15, p1_h15, p2_h15, sp_h15⟩ kk_h15
  have LO_h15 : Lo a h h15 := LO_h14.tr (lo_h15.mono (Nat.le_add_right _ _))
  have S1_h15 : VilAt h15 (a + 1) v00 := S1_h14.ag lo_h15.fs (unl (oaU (a := a) (B := 1) (s := 9) (c := 28) (by decide)))
  have N0_h15 : xN h15 a 0 = a + 1 + 1 := by rw [(lo_h15 _ (oa8 (by decide))).2.2]; exact N0_h14
  have S10_h15 : VilAt h15 (a + 10) v00 := S10_h14.ag lo_h15.fs (unl (oaU (a := a) (B := 10) (s := 9) (c := 28) (by decide)))
  have N1_h15 : xN h15 a 1 = a + 10 + 1 := by rw [(lo_h15 _ (oa8 (by decide))).2.2]; exact N1_h14
  have S19_h15 : VilAt h15 (a + 19) v00 := S19_h14.ag lo_h15.fs (unl (oaU (a := a) (B := 19) (s := 9) (c := 28) (by decide)))
  have N2_h15 : xN h15 a 2 = a + 19 + 1 := by rw [(lo_h15 _ (oa8 (by decide))).2.2]; exact N2_h14
  have I3_h15 : xI h15 a 3 = nI 0 := by rw [(lo_h15 _ (oa8 (by decide))).1]; exact I3_h14
  have K_h15 : xK h15 = xK h ++ [5, 20, 20, 21, 21, 22, 22, 23, 22, 5, 20, 20, 21, 21, 22, 22, 23, 22, 5, 20, 20, 21, 21, 22, 22, 23, 22, 12, 24, 25, 22] := by rw [kk_h15, K_h14, List.append_assoc]; rfl
  have len_h15 : (xK h15).length = a + 32 := by rw [K_h15, List.length_append, hlen]; rfl
  have ha_h15 : (xK h15)[a + 28]? = some (4 + 8) := by rw [K_h15]; exact (getK hlen 27).trans rfl
  have hp_h15 : ∀ (j o k9 : Nat), ([(2, 1, 24), (2, 2, 25), (2, 3, 22)] : List Fd3)[j]? = some (2, o, k9) → xN h15 (a + 28) j = a + 28 + o + 1 ∧ (xK h15)[a + 28 + o]? = some k9 := fun j o k9 hj => by
    match j, hj with
    | 0, hj => cases hj; exact ⟨p0_h15, by rw [K_h15]; exact (getK hlen 28).trans rfl⟩
    | 1, hj => cases hj; exact ⟨p1_h15, by rw [K_h15]; exact (getK hlen 29).trans rfl⟩
    | 2, hj => cases hj; exact ⟨p2_h15, by rw [K_h15]; exact (getK hlen 30).trans rfl⟩
    | n + 3, hj => simp at hj
  refine r_retag (a := a + 28) (k := 4) (al := xK h) C E0 (by rw [hlen]; exact Nat.add_le_add_left (by decide) a) (by decide) ha_h15 rfl hp_h15 ⟨(show a ≠ _ from oa3 (by decide)), trivial⟩ ⟨(show a ≠ _ from oa3 (by decide)), trivial⟩ ?_
  have LO_h16 : Lo a h (rt h15 (a + 28) 4) := LO_h15
  have S1_h16 : VilAt (rt h15 (a + 28) 4) (a + 1) v00 := S1_h15
  have N0_h16 : xN (rt h15 (a + 28) 4) a 0 = a + 1 + 1 := N0_h15
  have S10_h16 : VilAt (rt h15 (a + 28) 4) (a + 10) v00 := S10_h15
  have N1_h16 : xN (rt h15 (a + 28) 4) a 1 = a + 10 + 1 := N1_h15
  have S19_h16 : VilAt (rt h15 (a + 28) 4) (a + 19) v00 := S19_h15
  have N2_h16 : xN (rt h15 (a + 28) 4) a 2 = a + 19 + 1 := N2_h15
  have I3_h16 : xI (rt h15 (a + 28) 4) a 3 = nI 0 := I3_h15
  have S28_h16 : ∀ i, i < 8 → xI (rt h15 (a + 28) 4) (a + 31) i = nI (fct i) := sp_h15
  have K_h16 : xK (rt h15 (a + 28) 4) = xK h ++ [5, 20, 20, 21, 21, 22, 22, 23, 22, 5, 20, 20, 21, 21, 22, 22, 23, 22, 5, 20, 20, 21, 21, 22, 22, 23, 22, 4, 24, 25, 22] := by show (xK h15).set _ _ = _; rw [K_h15]; exact (set_app (i := 27) (oaL hlen rfl)).trans rfl
  have NO_h16 : NOk (rt h15 (a + 28) 4) := NO_h15.mk8 (by decide) ha_h15
  generalize rt h15 (a + 28) 4 = h16 at LO_h16 S1_h16 N0_h16 S10_h16 N1_h16 S19_h16 N2_h16 I3_h16 S28_h16 K_h16 NO_h16 ⊢
  have len_h16 : (xK h16).length = a + 32 := by rw [K_h16, List.length_append, hlen]; rfl
  refine r_putNF (k := 14) (j := 4) (t := 0) C hI rfl rfl rfl (by decide) f_X6_29 rfl rfl (fun _ => rfl) (fun _ => rfl) (dx dX6_init 24 rfl) ?_
  have LO_h17 : Lo a h (sN h16 a 4 (a + 28 + 1)) := LO_h16.tr (Lo.sN (Nat.le_refl _))
  have S1_h17 : VilAt (sN h16 a 4 (a + 28 + 1)) (a + 1) v00 := S1_h16
  have N0_h17 : xN (sN h16 a 4 (a + 28 + 1)) a 0 = a + 1 + 1 := (sN_ne (by decide)).trans N0_h16
  have S10_h17 : VilAt (sN h16 a 4 (a + 28 + 1)) (a + 10) v00 := S10_h16
  have N1_h17 : xN (sN h16 a 4 (a + 28 + 1)) a 1 = a + 10 + 1 := (sN_ne (by decide)).trans N1_h16
  have S19_h17 : VilAt (sN h16 a 4 (a + 28 + 1)) (a + 19) v00 := S19_h16
  have N2_h17 : xN (sN h16 a 4 (a + 28 + 1)) a 2 = a + 19 + 1 := (sN_ne (by decide)).trans N2_h16
  have I3_h17 : xI (sN h16 a 4 (a + 28 + 1)) a 3 = nI 0 := I3_h16
  have S28_h17 : ∀ i, i < 8 → xI (sN h16 a 4 (a + 28 + 1)) (a + 31) i = nI (fct i) := S28_h16
  have K_h17 : xK (sN h16 a 4 (a + 28 + 1)) = xK h ++ [5, 20, 20, 21, 21, 22, 22, 23, 22, 5, 20, 20, 21, 21, 22, 22, 23, 22, 5, 20, 20, 21, 21, 22, 22, 23, 22, 4, 24, 25, 22] := K_h16
  have NO_h17 : NOk (sN h16 a 4 (a + 28 + 1)) := NO_h16.sN (by rw [len_h16]; exact oa6 (by decide))
  have N4_h17 : xN (sN h16 a 4 (a + 28 + 1)) a 4 = a + 28 + 1 := sN_at
  generalize sN h16 a 4 (a + 28 + 1) = h17 at LO_h17 S1_h17 N0_h17 S10_h17 N1_h17 S19_h17 N2_h17 I3_h17 S28_h17 K_h17 NO_h17 N4_h17 ⊢
  have len_h17 : (xK h17).length = a + 32 := by rw [K_h17, List.length_append, hlen]; rfl
  refine r_aload_n C (dx dX6_init 25 rfl) rfl ?_
  refine r_new (kk := 8) (C0 := RX0) (T := TX0) (N := 1) C (X.go (E := [8]) K_h17 (by decide) (by decide)) rfl rfl rfl (by decide) hfs0 List.prefix_rfl NO_h17 (by rw [len_h17]; exact oa4 hb (by decide)) cl_RX6_33 q_in0 q_ii0 (dx dX6_init 26 rfl) ?_
  rw [len_h17]
  have LO_h18 : Lo a h (nw h17 8) := LO_h17.tr (Lo.nw (by rw [len_h17]; exact Nat.le_add_right _ _))
  have S1_h18 : VilAt (nw h17 8) (a + 1) v00 := S1_h17.ag (Lo.nw (h := h17) (k := 8) (a := a + 32) (by rw [len_h17]; exact Nat.le_refl _)).fs (unl (oaU (a := a) (B := 1) (s := 9) (c := 32) (by decide)))
  have N0_h18 : xN (nw h17 8) a 0 = a + 1 + 1 := by rw [(nw_ne (h := h17) (k := 8) (b := a) (by rw [len_h17]; exact oa3 (by decide))).2.2]; exact N0_h17
  have S10_h18 : VilAt (nw h17 8) (a + 10) v00 := S10_h17.ag (Lo.nw (h := h17) (k := 8) (a := a + 32) (by rw [len_h17]; exact Nat.le_refl _)).fs (unl (oaU (a := a) (B := 10) (s := 9) (c := 32) (by decide)))
  have N1_h18 : xN (nw h17 8) a 1 = a + 10 + 1 := by rw [(nw_ne (h := h17) (k := 8) (b := a) (by rw [len_h17]; exact oa3 (by decide))).2.2]; exact N1_h17
  have S19_h18 : VilAt (nw h17 8) (a + 19) v00 := S19_h17.ag (Lo.nw (h := h17) (k := 8) (a := a + 32) (by rw [len_h17]; exact Nat.le_refl _)).fs (unl (oaU (a := a) (B := 19) (s := 9) (c := 32) (by decide)))
  have N2_h18 : xN (nw h17 8) a 2 = a + 19 + 1 := by rw [(nw_ne (h := h17) (k := 8) (b := a) (by rw [len_h17]; exact oa3 (by decide))).2.2]; exact N2_h17
  have I3_h18 : xI (nw h17 8) a 3 = nI 0 := by rw [(nw_ne (h := h17) (k := 8) (b := a) (by rw [len_h17]; exact oa3 (by decide))).1]; exact I3_h17
  have S28_h18 : ∀ i, i < 8 → xI (nw h17 8) (a + 31) i = nI (fct i) := fun i hi => by rw [((Lo.nw (h := h17) (k := 8) (a := a + 32) (by rw [len_h17]; exact Nat.le_refl _)) _ (Nat.add_lt_add_left (by decide) a)).1]; exact S28_h17 i hi
  have NO_h18 : NOk (nw h17 8) := NO_h17.nw
  have N4_h18 : xN (nw h17 8) a 4 = a + 28 + 1 := by rw [(nw_ne (h := h17) (k := 8) (b := a) (by rw [len_h17]; exact oa3 (by decide))).2.2]; exact N4_h17
  have K_h18 : xK (nw h17 8) = xK h ++ [5, 20, 20, 21, 21, 22, 22, 23, 22, 5, 20, 20, 21, 21, 22, 22, 23, 22, 5, 20, 20, 21, 21, 22, 22, 23, 22, 4, 24, 25, 22, 8] := by show xK h17 ++ _ = _; rw [K_h17, List.append_assoc]; rfl
  have Y1_h18 : xI (nw h17 8) (a + 32) = fun _ => 0 := by have q9 := nw_I (h := h17) (k := 8); rw [len_h17] at q9; exact q9
  have Y2_h18 : xL (nw h17 8) (a + 32) = fun _ => 0 := by have q9 := nw_L (h := h17) (k := 8); rw [len_h17] at q9; exact q9
  have Y3_h18 : xN (nw h17 8) (a + 32) = fun _ => 0 := by have q9 := nw_N (h := h17) (k := 8); rw [len_h17] at q9; exact q9
  generalize nw h17 8 = h18 at LO_h18 S1_h18 N0_h18 S10_h18 N1_h18 S19_h18 N2_h18 I3_h18 S28_h18 NO_h18 N4_h18 K_h18 Y1_h18 Y2_h18 Y3_h18 ⊢
  have len_h18 : (xK h18).length = a + 33 := by rw [K_h18, List.length_append, hlen]; rfl
  refine r_dupR C (dx dX6_init 27 rfl) ?_
  refine r_callIN (st := [vr 8 (a + 32), vr 14 a]) (i9 := 1) C (X.go (E := [22]) K_h18 (by decide) (by decide)) (c_X0_init (a := a + 32) len_h18 (oa9 hb (by decide)) NO_h18 Y1_h18 Y2_h18 Y3_h18) (by decide) (Nat.le_of_ble_eq_true rfl) (List.prefix_append _ _) List.prefix_rfl rfl rfl (Nat.le_of_ble_eq_true rfl) rfl q_im0 q_ii0 q_co0 rfl nh_RX0 q_pd0 (dx dX6_init 28 rfl) ?_
  rintro _ h19 ⟨rfl, NO_h19, lo_h19, p0_h19⟩ kk_h19
  have LO_h19 : Lo a h h19 := LO_h18.tr (lo_h19.mono (Nat.le_add_right _ _))
  have S1_h19 : VilAt h19 (a + 1) v00 := S1_h18.ag lo_h19.fs (unl (oaU (a := a) (B := 1) (s := 9) (c := 32) (by decide)))
  have N0_h19 : xN h19 a 0 = a + 1 + 1 := by rw [(lo_h19 _ (oa8 (by decide))).2.2]; exact N0_h18
  have S10_h19 : VilAt h19 (a + 10) v00 := S10_h18.ag lo_h19.fs (unl (oaU (a := a) (B := 10) (s := 9) (c := 32) (by decide)))
  have N1_h19 : xN h19 a 1 = a + 10 + 1 := by rw [(lo_h19 _ (oa8 (by decide))).2.2]; exact N1_h18
  have S19_h19 : VilAt h19 (a + 19) v00 := S19_h18.ag lo_h19.fs (unl (oaU (a := a) (B := 19) (s := 9) (c := 32) (by decide)))
  have N2_h19 : xN h19 a 2 = a + 19 + 1 := by rw [(lo_h19 _ (oa8 (by decide))).2.2]; exact N2_h18
  have I3_h19 : xI h19 a 3 = nI 0 := by rw [(lo_h19 _ (oa8 (by decide))).1]; exact I3_h18
  have S28_h19 : ∀ i, i < 8 → xI h19 (a + 31) i = nI (fct i) := fun i hi => by rw [(lo_h19 _ (Nat.add_lt_add_left (by decide) a)).1]; exact S28_h18 i hi
  have N4_h19 : xN h19 a 4 = a + 28 + 1 := by rw [(lo_h19 _ (oa8 (by decide))).2.2]; exact N4_h18
  have K_h19 : xK h19 = xK h ++ [5, 20, 20, 21, 21, 22, 22, 23, 22, 5, 20, 20, 21, 21, 22, 22, 23, 22, 5, 20, 20, 21, 21, 22, 22, 23, 22, 4, 24, 25, 22, 8, 22] := by rw [kk_h19, K_h18, List.append_assoc]; rfl
  have len_h19 : (xK h19).length = a + 34 := by rw [K_h19, List.length_append, hlen]; rfl
  have ha_h19 : (xK h19)[a + 32]? = some (0 + 8) := by rw [K_h19]; exact (getK hlen 31).trans rfl
  have hp_h19 : ∀ (j o k9 : Nat), ([(2, 1, 22)] : List Fd3)[j]? = some (2, o, k9) → xN h19 (a + 32) j = a + 32 + o + 1 ∧ (xK h19)[a + 32 + o]? = some k9 := fun j o k9 hj => by
    match j, hj with
    | 0, hj => cases hj; exact ⟨p0_h19, by rw [K_h19]; exact (getK hlen 32).trans rfl⟩
    | n + 1, hj => simp at hj
  refine r_retag (a := a + 32) (k := 0) (al := xK h) C E0 (by rw [hlen]; exact Nat.add_le_add_left (by decide) a) (by decide) ha_h19 rfl hp_h19 ⟨(show a ≠ _ from oa3 (by decide)), trivial⟩ ⟨(show a ≠ _ from oa3 (by decide)), trivial⟩ ?_
  have LO_h20 : Lo a h (rt h19 (a + 32) 0) := LO_h19
  have S1_h20 : VilAt (rt h19 (a + 32) 0) (a + 1) v00 := S1_h19
  have N0_h20 : xN (rt h19 (a + 32) 0) a 0 = a + 1 + 1 := N0_h19
  have S10_h20 : VilAt (rt h19 (a + 32) 0) (a + 10) v00 := S10_h19
  have N1_h20 : xN (rt h19 (a + 32) 0) a 1 = a + 10 + 1 := N1_h19
  have S19_h20 : VilAt (rt h19 (a + 32) 0) (a + 19) v00 := S19_h19
  have N2_h20 : xN (rt h19 (a + 32) 0) a 2 = a + 19 + 1 := N2_h19
  have I3_h20 : xI (rt h19 (a + 32) 0) a 3 = nI 0 := I3_h19
  have S28_h20 : ∀ i, i < 8 → xI (rt h19 (a + 32) 0) (a + 31) i = nI (fct i) := S28_h19
  have N4_h20 : xN (rt h19 (a + 32) 0) a 4 = a + 28 + 1 := N4_h19
  have K_h20 : xK (rt h19 (a + 32) 0) = xK h ++ [5, 20, 20, 21, 21, 22, 22, 23, 22, 5, 20, 20, 21, 21, 22, 22, 23, 22, 5, 20, 20, 21, 21, 22, 22, 23, 22, 4, 24, 25, 22, 0, 22] := by show (xK h19).set _ _ = _; rw [K_h19]; exact (set_app (i := 31) (oaL hlen rfl)).trans rfl
  have NO_h20 : NOk (rt h19 (a + 32) 0) := NO_h19.mk8 (by decide) ha_h19
  generalize rt h19 (a + 32) 0 = h20 at LO_h20 S1_h20 N0_h20 S10_h20 N1_h20 S19_h20 N2_h20 I3_h20 S28_h20 N4_h20 K_h20 NO_h20 ⊢
  have len_h20 : (xK h20).length = a + 34 := by rw [K_h20, List.length_append, hlen]; rfl
  refine r_putNF (k := 14) (j := 5) (t := 0) C hI rfl rfl rfl (by decide) f_X6_36 rfl rfl (fun _ => rfl) (fun _ => rfl) (dx dX6_init 29 rfl) ?_
  have LO_h21 : Lo a h (sN h20 a 5 (a + 32 + 1)) := LO_h20.tr (Lo.sN (Nat.le_refl _))
  have S1_h21 : VilAt (sN h20 a 5 (a + 32 + 1)) (a + 1) v00 := S1_h20
  have N0_h21 : xN (sN h20 a 5 (a + 32 + 1)) a 0 = a + 1 + 1 := (sN_ne (by decide)).trans N0_h20
  have S10_h21 : VilAt (sN h20 a 5 (a + 32 + 1)) (a + 10) v00 := S10_h20
  have N1_h21 : xN (sN h20 a 5 (a + 32 + 1)) a 1 = a + 10 + 1 := (sN_ne (by decide)).trans N1_h20
  have S19_h21 : VilAt (sN h20 a 5 (a + 32 + 1)) (a + 19) v00 := S19_h20
  have N2_h21 : xN (sN h20 a 5 (a + 32 + 1)) a 2 = a + 19 + 1 := (sN_ne (by decide)).trans N2_h20
  have I3_h21 : xI (sN h20 a 5 (a + 32 + 1)) a 3 = nI 0 := I3_h20
  have S28_h21 : ∀ i, i < 8 → xI (sN h20 a 5 (a + 32 + 1)) (a + 31) i = nI (fct i) := S28_h20
  have N4_h21 : xN (sN h20 a 5 (a + 32 + 1)) a 4 = a + 28 + 1 := (sN_ne (by decide)).trans N4_h20
  have K_h21 : xK (sN h20 a 5 (a + 32 + 1)) = xK h ++ [5, 20, 20, 21, 21, 22, 22, 23, 22, 5, 20, 20, 21, 21, 22, 22, 23, 22, 5, 20, 20, 21, 21, 22, 22, 23, 22, 4, 24, 25, 22, 0, 22] := K_h20
  have NO_h21 : NOk (sN h20 a 5 (a + 32 + 1)) := NO_h20.sN (by rw [len_h20]; exact oa6 (by decide))
  have N5_h21 : xN (sN h20 a 5 (a + 32 + 1)) a 5 = a + 32 + 1 := sN_at
  generalize sN h20 a 5 (a + 32 + 1) = h21 at LO_h21 S1_h21 N0_h21 S10_h21 N1_h21 S19_h21 N2_h21 I3_h21 S28_h21 N4_h21 K_h21 NO_h21 N5_h21 ⊢
  have len_h21 : (xK h21).length = a + 34 := by rw [K_h21, List.length_append, hlen]; rfl
  refine r_aload_n C (dx dX6_init 30 rfl) rfl ?_
  refine r_new (kk := 9) (C0 := RX1) (T := TX1) (N := 6) C (X.go (E := [9]) K_h21 (by decide) (by decide)) rfl rfl rfl (by decide) hfs1 List.prefix_rfl NO_h21 (by rw [len_h21]; exact oa4 hb (by decide)) cl_RX6_40 q_in1 q_ii1 (dx dX6_init 31 rfl) ?_
  rw [len_h21]
  have LO_h22 : Lo a h (nw h21 9) := LO_h21.tr (Lo.nw (by rw [len_h21]; exact Nat.le_add_right _ _))
  have S1_h22 : VilAt (nw h21 9) (a + 1) v00 := S1_h21.ag (Lo.nw (h := h21) (k := 9) (a := a + 34) (by rw [len_h21]; exact Nat.le_refl _)).fs (unl (oaU (a := a) (B := 1) (s := 9) (c := 34) (by decide)))
  have N0_h22 : xN (nw h21 9) a 0 = a + 1 + 1 := by rw [(nw_ne (h := h21) (k := 9) (b := a) (by rw [len_h21]; exact oa3 (by decide))).2.2]; exact N0_h21
  have S10_h22 : VilAt (nw h21 9) (a + 10) v00 := S10_h21.ag (Lo.nw (h := h21) (k := 9) (a := a + 34) (by rw [len_h21]; exact Nat.le_refl _)).fs (unl (oaU (a := a) (B := 10) (s := 9) (c := 34) (by decide)))
  have N1_h22 : xN (nw h21 9) a 1 = a + 10 + 1 := by rw [(nw_ne (h := h21) (k := 9) (b := a) (by rw [len_h21]; exact oa3 (by decide))).2.2]; exact N1_h21
  have S19_h22 : VilAt (nw h21 9) (a + 19) v00 := S19_h21.ag (Lo.nw (h := h21) (k := 9) (a := a + 34) (by rw [len_h21]; exact Nat.le_refl _)).fs (unl (oaU (a := a) (B := 19) (s := 9) (c := 34) (by decide)))
  have N2_h22 : xN (nw h21 9) a 2 = a + 19 + 1 := by rw [(nw_ne (h := h21) (k := 9) (b := a) (by rw [len_h21]; exact oa3 (by decide))).2.2]; exact N2_h21
  have I3_h22 : xI (nw h21 9) a 3 = nI 0 := by rw [(nw_ne (h := h21) (k := 9) (b := a) (by rw [len_h21]; exact oa3 (by decide))).1]; exact I3_h21
  have S28_h22 : ∀ i, i < 8 → xI (nw h21 9) (a + 31) i = nI (fct i) := fun i hi => by rw [((Lo.nw (h := h21) (k := 9) (a := a + 34) (by rw [len_h21]; exact Nat.le_refl _)) _ (Nat.add_lt_add_left (by decide) a)).1]; exact S28_h21 i hi
  have N4_h22 : xN (nw h21 9) a 4 = a + 28 + 1 := by rw [(nw_ne (h := h21) (k := 9) (b := a) (by rw [len_h21]; exact oa3 (by decide))).2.2]; exact N4_h21
  have NO_h22 : NOk (nw h21 9) := NO_h21.nw
  have N5_h22 : xN (nw h21 9) a 5 = a + 32 + 1 := by rw [(nw_ne (h := h21) (k := 9) (b := a) (by rw [len_h21]; exact oa3 (by decide))).2.2]; exact N5_h21
  have K_h22 : xK (nw h21 9) = xK h ++ [5, 20, 20, 21, 21, 22, 22, 23, 22, 5, 20, 20, 21, 21, 22, 22, 23, 22, 5, 20, 20, 21, 21, 22, 22, 23, 22, 4, 24, 25, 22, 0, 22, 9] := by show xK h21 ++ _ = _; rw [K_h21, List.append_assoc]; rfl
  have Y1_h22 : xI (nw h21 9) (a + 34) = fun _ => 0 := by have q9 := nw_I (h := h21) (k := 9); rw [len_h21] at q9; exact q9
  have Y2_h22 : xL (nw h21 9) (a + 34) = fun _ => 0 := by have q9 := nw_L (h := h21) (k := 9); rw [len_h21] at q9; exact q9
  have Y3_h22 : xN (nw h21 9) (a + 34) = fun _ => 0 := by have q9 := nw_N (h := h21) (k := 9); rw [len_h21] at q9; exact q9
  generalize nw h21 9 = h22 at LO_h22 S1_h22 N0_h22 S10_h22 N1_h22 S19_h22 N2_h22 I3_h22 S28_h22 N4_h22 NO_h22 N5_h22 K_h22 Y1_h22 Y2_h22 Y3_h22 ⊢
  have len_h22 : (xK h22).length = a + 35 := by rw [K_h22, List.length_append, hlen]; rfl
  refine r_dupR C (dx dX6_init 32 rfl) ?_
  refine r_callIN (st := [vr 9 (a + 34), vr 14 a]) (i9 := 2) C (X.go (E := [21, 21, 27, 32, 21, 21, 21, 21, 21, 21, 21, 28]) K_h22 (by decide) (by decide)) (c_X1_init (a := a + 34) len_h22 (oa9 hb (by decide)) NO_h22 Y1_h22 Y2_h22 Y3_h22) (by decide) (Nat.le_of_ble_eq_true rfl) (List.prefix_append _ _) List.prefix_rfl rfl rfl (Nat.le_of_ble_eq_true rfl) rfl q_im1 q_ii1 q_co1 rfl nh_RX1 q_pd1 (dx dX6_init 33 rfl) ?_
  rintro _ h23 ⟨rfl, NO_h23, lo_h23, p0_h23, p1_h23, p2_h23, p3_h23, p4_h23, sp_h23⟩ kk_h23
  have LO_h23 : Lo a h h23 := LO_h22.tr (lo_h23.mono (Nat.le_add_right _ _))
  have S1_h23 : VilAt h23 (a + 1) v00 := S1_h22.ag lo_h23.fs (unl (oaU (a := a) (B := 1) (s := 9) (c := 34) (by decide)))
  have N0_h23 : xN h23 a 0 = a + 1 + 1 := by rw [(lo_h23 _ (oa8 (by decide))).2.2]; exact N0_h22
  have S10_h23 : VilAt h23 (a + 10) v00 := S10_h22.ag lo_h23.fs (unl (oaU (a := a) (B := 10) (s := 9) (c := 34) (by decide)))
  have N1_h23 : xN h23 a 1 = a + 10 + 1 := by rw [(lo_h23 _ (oa8 (by decide))).2.2]; exact N1_h22
  have S19_h23 : VilAt h23 (a + 19) v00 := S19_h22.ag lo_h23.fs (unl (oaU (a := a) (B := 19) (s := 9) (c := 34) (by decide)))
  have N2_h23 : xN h23 a 2 = a + 19 + 1 := by rw [(lo_h23 _ (oa8 (by decide))).2.2]; exact N2_h22
  have I3_h23 : xI h23 a 3 = nI 0 := by rw [(lo_h23 _ (oa8 (by decide))).1]; exact I3_h22
  have S28_h23 : ∀ i, i < 8 → xI h23 (a + 31) i = nI (fct i) := fun i hi => by rw [(lo_h23 _ (Nat.add_lt_add_left (by decide) a)).1]; exact S28_h22 i hi
  have N4_h23 : xN h23 a 4 = a + 28 + 1 := by rw [(lo_h23 _ (oa8 (by decide))).2.2]; exact N4_h22
  have N5_h23 : xN h23 a 5 = a + 32 + 1 := by rw [(lo_h23 _ (oa8 (by decide))).2.2]; exact N5_h22
  have K_h23 : xK h23 = xK h ++ [5, 20, 20, 21, 21, 22, 22, 23, 22, 5, 20, 20, 21, 21, 22, 22, 23, 22, 5, 20, 20, 21, 21, 22, 22, 23, 22, 4, 24, 25, 22, 0, 22, 9, 21, 21, 27, 32, 21, 21, 21, 21, 21, 21, 21, 28] := by rw [kk_h23, K_h22, List.append_assoc]; rfl
  have len_h23 : (xK h23).length = a + 47 := by rw [K_h23, List.length_append, hlen]; rfl
  have ha_h23 : (xK h23)[a + 34]? = some (1 + 8) := by rw [K_h23]; exact (getK hlen 33).trans rfl
  have hp_h23 : ∀ (j o k9 : Nat), ([(2, 1, 21), (2, 2, 21), (2, 3, 27), (2, 4, 32), (2, 12, 28), (1, 0, 0)] : List Fd3)[j]? = some (2, o, k9) → xN h23 (a + 34) j = a + 34 + o + 1 ∧ (xK h23)[a + 34 + o]? = some k9 := fun j o k9 hj => by
    match j, hj with
    | 0, hj => cases hj; exact ⟨p0_h23, by rw [K_h23]; exact (getK hlen 34).trans rfl⟩
    | 1, hj => cases hj; exact ⟨p1_h23, by rw [K_h23]; exact (getK hlen 35).trans rfl⟩
    | 2, hj => cases hj; exact ⟨p2_h23, by rw [K_h23]; exact (getK hlen 36).trans rfl⟩
    | 3, hj => cases hj; exact ⟨p3_h23, by rw [K_h23]; exact (getK hlen 37).trans rfl⟩
    | 4, hj => cases hj; exact ⟨p4_h23, by rw [K_h23]; exact (getK hlen 45).trans rfl⟩
    | 5, hj => cases hj
    | n + 6, hj => simp at hj
  refine r_retag (a := a + 34) (k := 1) (al := xK h) C E0 (by rw [hlen]; exact Nat.add_le_add_left (by decide) a) (by decide) ha_h23 rfl hp_h23 ⟨(show a ≠ _ from oa3 (by decide)), trivial⟩ ⟨(show a ≠ _ from oa3 (by decide)), trivial⟩ ?_
  have LO_h24 : Lo a h (rt h23 (a + 34) 1) := LO_h23
  have S1_h24 : VilAt (rt h23 (a + 34) 1) (a + 1) v00 := S1_h23
  have N0_h24 : xN (rt h23 (a + 34) 1) a 0 = a + 1 + 1 := N0_h23
  have S10_h24 : VilAt (rt h23 (a + 34) 1) (a + 10) v00 := S10_h23
  have N1_h24 : xN (rt h23 (a + 34) 1) a 1 = a + 10 + 1 := N1_h23
  have S19_h24 : VilAt (rt h23 (a + 34) 1) (a + 19) v00 := S19_h23
  have N2_h24 : xN (rt h23 (a + 34) 1) a 2 = a + 19 + 1 := N2_h23
  have I3_h24 : xI (rt h23 (a + 34) 1) a 3 = nI 0 := I3_h23
  have S28_h24 : ∀ i, i < 8 → xI (rt h23 (a + 34) 1) (a + 31) i = nI (fct i) := S28_h23
  have N4_h24 : xN (rt h23 (a + 34) 1) a 4 = a + 28 + 1 := N4_h23
  have N5_h24 : xN (rt h23 (a + 34) 1) a 5 = a + 32 + 1 := N5_h23
  have S34_h24 : SInv (rt h23 (a + 34) 1) (a + 34) := sp_h23
  have K_h24 : xK (rt h23 (a + 34) 1) = xK h ++ [5, 20, 20, 21, 21, 22, 22, 23, 22, 5, 20, 20, 21, 21, 22, 22, 23, 22, 5, 20, 20, 21, 21, 22, 22, 23, 22, 4, 24, 25, 22, 0, 22, 1, 21, 21, 27, 32, 21, 21, 21, 21, 21, 21, 21, 28] := by show (xK h23).set _ _ = _; rw [K_h23]; exact (set_app (i := 33) (oaL hlen rfl)).trans rfl
  have NO_h24 : NOk (rt h23 (a + 34) 1) := NO_h23.mk8 (by decide) ha_h23
  generalize rt h23 (a + 34) 1 = h24 at LO_h24 S1_h24 N0_h24 S10_h24 N1_h24 S19_h24 N2_h24 I3_h24 S28_h24 N4_h24 N5_h24 S34_h24 K_h24 NO_h24 ⊢
  have len_h24 : (xK h24).length = a + 47 := by rw [K_h24, List.length_append, hlen]; rfl
  refine r_putNF (k := 14) (j := 6) (t := 0) C hI rfl rfl rfl (by decide) f_X6_43 rfl rfl (fun _ => rfl) (fun _ => rfl) (dx dX6_init 34 rfl) ?_
  have LO_h25 : Lo a h (sN h24 a 6 (a + 34 + 1)) := LO_h24.tr (Lo.sN (Nat.le_refl _))
  have S1_h25 : VilAt (sN h24 a 6 (a + 34 + 1)) (a + 1) v00 := S1_h24
  have N0_h25 : xN (sN h24 a 6 (a + 34 + 1)) a 0 = a + 1 + 1 := (sN_ne (by decide)).trans N0_h24
  have S10_h25 : VilAt (sN h24 a 6 (a + 34 + 1)) (a + 10) v00 := S10_h24
  have N1_h25 : xN (sN h24 a 6 (a + 34 + 1)) a 1 = a + 10 + 1 := (sN_ne (by decide)).trans N1_h24
  have S19_h25 : VilAt (sN h24 a 6 (a + 34 + 1)) (a + 19) v00 := S19_h24
  have N2_h25 : xN (sN h24 a 6 (a + 34 + 1)) a 2 = a + 19 + 1 := (sN_ne (by decide)).trans N2_h24
  have I3_h25 : xI (sN h24 a 6 (a + 34 + 1)) a 3 = nI 0 := I3_h24
  have S28_h25 : ∀ i, i < 8 → xI (sN h24 a 6 (a + 34 + 1)) (a + 31) i = nI (fct i) := S28_h24
  have N4_h25 : xN (sN h24 a 6 (a + 34 + 1)) a 4 = a + 28 + 1 := (sN_ne (by decide)).trans N4_h24
  have N5_h25 : xN (sN h24 a 6 (a + 34 + 1)) a 5 = a + 32 + 1 := (sN_ne (by decide)).trans N5_h24
  have S34_h25 : SInv (sN h24 a 6 (a + 34 + 1)) (a + 34) := S34_h24
  have K_h25 : xK (sN h24 a 6 (a + 34 + 1)) = xK h ++ [5, 20, 20, 21, 21, 22, 22, 23, 22, 5, 20, 20, 21, 21, 22, 22, 23, 22, 5, 20, 20, 21, 21, 22, 22, 23, 22, 4, 24, 25, 22, 0, 22, 1, 21, 21, 27, 32, 21, 21, 21, 21, 21, 21, 21, 28] := K_h24
  have NO_h25 : NOk (sN h24 a 6 (a + 34 + 1)) := NO_h24.sN (by rw [len_h24]; exact oa6 (by decide))
  have N6_h25 : xN (sN h24 a 6 (a + 34 + 1)) a 6 = a + 34 + 1 := sN_at
  generalize sN h24 a 6 (a + 34 + 1) = h25 at LO_h25 S1_h25 N0_h25 S10_h25 N1_h25 S19_h25 N2_h25 I3_h25 S28_h25 N4_h25 N5_h25 S34_h25 K_h25 NO_h25 N6_h25 ⊢
  have len_h25 : (xK h25).length = a + 47 := by rw [K_h25, List.length_append, hlen]; rfl
  refine r_aload_n C (dx dX6_init 35 rfl) rfl ?_
  refine r_new (kk := 11) (C0 := RX3) (T := TX3) (N := 5) C (X.go (E := [11]) K_h25 (by decide) (by decide)) rfl rfl rfl (by decide) hfs3 List.prefix_rfl NO_h25 (by rw [len_h25]; exact oa4 hb (by decide)) cl_RX6_47 q_in3 q_ii3 (dx dX6_init 36 rfl) ?_
  rw [len_h25]
  have LO_h26 : Lo a h (nw h25 11) := LO_h25.tr (Lo.nw (by rw [len_h25]; exact Nat.le_add_right _ _))
  have S1_h26 : VilAt (nw h25 11) (a + 1) v00 := S1_h25.ag (Lo.nw (h := h25) (k := 11) (a := a + 47) (by rw [len_h25]; exact Nat.le_refl _)).fs (unl (oaU (a := a) (B := 1) (s := 9) (c := 47) (by decide)))
  have N0_h26 : xN (nw h25 11) a 0 = a + 1 + 1 := by rw [(nw_ne (h := h25) (k := 11) (b := a) (by rw [len_h25]; exact oa3 (by decide))).2.2]; exact N0_h25
  have S10_h26 : VilAt (nw h25 11) (a + 10) v00 := S10_h25.ag (Lo.nw (h := h25) (k := 11) (a := a + 47) (by rw [len_h25]; exact Nat.le_refl _)).fs (unl (oaU (a := a) (B := 10) (s := 9) (c := 47) (by decide)))
  have N1_h26 : xN (nw h25 11) a 1 = a + 10 + 1 := by rw [(nw_ne (h := h25) (k := 11) (b := a) (by rw [len_h25]; exact oa3 (by decide))).2.2]; exact N1_h25
  have S19_h26 : VilAt (nw h25 11) (a + 19) v00 := S19_h25.ag (Lo.nw (h := h25) (k := 11) (a := a + 47) (by rw [len_h25]; exact Nat.le_refl _)).fs (unl (oaU (a := a) (B := 19) (s := 9) (c := 47) (by decide)))
  have N2_h26 : xN (nw h25 11) a 2 = a + 19 + 1 := by rw [(nw_ne (h := h25) (k := 11) (b := a) (by rw [len_h25]; exact oa3 (by decide))).2.2]; exact N2_h25
  have I3_h26 : xI (nw h25 11) a 3 = nI 0 := by rw [(nw_ne (h := h25) (k := 11) (b := a) (by rw [len_h25]; exact oa3 (by decide))).1]; exact I3_h25
  have S28_h26 : ∀ i, i < 8 → xI (nw h25 11) (a + 31) i = nI (fct i) := fun i hi => by rw [((Lo.nw (h := h25) (k := 11) (a := a + 47) (by rw [len_h25]; exact Nat.le_refl _)) _ (Nat.add_lt_add_left (by decide) a)).1]; exact S28_h25 i hi
  have N4_h26 : xN (nw h25 11) a 4 = a + 28 + 1 := by rw [(nw_ne (h := h25) (k := 11) (b := a) (by rw [len_h25]; exact oa3 (by decide))).2.2]; exact N4_h25
  have N5_h26 : xN (nw h25 11) a 5 = a + 32 + 1 := by rw [(nw_ne (h := h25) (k := 11) (b := a) (by rw [len_h25]; exact oa3 (by decide))).2.2]; exact N5_h25
  have S34_h26 : SInv (nw h25 11) (a + 34) := S34_h25.ag (Lo.nw (h := h25) (k := 11) (a := a + 47) (by rw [len_h25]; exact Nat.le_refl _)).fs (unl (oaU (a := a) (B := 34) (s := 12) (c := 47) (by decide)))
  have NO_h26 : NOk (nw h25 11) := NO_h25.nw
  have N6_h26 : xN (nw h25 11) a 6 = a + 34 + 1 := by rw [(nw_ne (h := h25) (k := 11) (b := a) (by rw [len_h25]; exact oa3 (by decide))).2.2]; exact N6_h25
  have K_h26 : xK (nw h25 11) = xK h ++ [5, 20, 20, 21, 21, 22, 22, 23, 22, 5, 20, 20, 21, 21, 22, 22, 23, 22, 5, 20, 20, 21, 21, 22, 22, 23, 22, 4, 24, 25, 22, 0, 22, 1, 21, 21, 27, 32, 21, 21, 21, 21, 21, 21, 21, 28, 11] := by show xK h25 ++ _ = _; rw [K_h25, List.append_assoc]; rfl
  have Y1_h26 : xI (nw h25 11) (a + 47) = fun _ => 0 := by have q9 := nw_I (h := h25) (k := 11); rw [len_h25] at q9; exact q9
  have Y2_h26 : xL (nw h25 11) (a + 47) = fun _ => 0 := by have q9 := nw_L (h := h25) (k := 11); rw [len_h25] at q9; exact q9
  have Y3_h26 : xN (nw h25 11) (a + 47) = fun _ => 0 := by have q9 := nw_N (h := h25) (k := 11); rw [len_h25] at q9; exact q9
  generalize nw h25 11 = h26 at LO_h26 S1_h26 N0_h26 S10_h26 N1_h26 S19_h26 N2_h26 I3_h26 S28_h26 N4_h26 N5_h26 S34_h26 NO_h26 N6_h26 K_h26 Y1_h26 Y2_h26 Y3_h26 ⊢
  have len_h26 : (xK h26).length = a + 48 := by rw [K_h26, List.length_append, hlen]; rfl
  refine r_dupR C (dx dX6_init 37 rfl) ?_
  refine r_callIN (st := [vr 11 (a + 47), vr 14 a]) (i9 := 3) C (X.go (E := [29]) K_h26 (by decide) (by decide)) (c_X3_init (a := a + 47) len_h26 (oa9 hb (by decide)) NO_h26 Y1_h26 Y2_h26 Y3_h26) (by decide) (Nat.le_of_ble_eq_true rfl) (List.prefix_append _ _) List.prefix_rfl rfl rfl (Nat.le_of_ble_eq_true rfl) rfl q_im3 q_ii3 q_co3 rfl nh_RX3 q_pd3 (dx dX6_init 38 rfl) ?_
  rintro _ h27 ⟨rfl, NO_h27, lo_h27, p0_h27, sp_h27⟩ kk_h27
  have LO_h27 : Lo a h h27 := LO_h26.tr (lo_h27.mono (Nat.le_add_right _ _))
  have S1_h27 : VilAt h27 (a + 1) v00 := S1_h26.ag lo_h27.fs (unl (oaU (a := a) (B := 1) (s := 9) (c := 47) (by decide)))
  have N0_h27 : xN h27 a 0 = a + 1 + 1 := by rw [(lo_h27 _ (oa8 (by decide))).2.2]; exact N0_h26
  have S10_h27 : VilAt h27 (a + 10) v00 := S10_h26.ag lo_h27.fs (unl (oaU (a := a) (B := 10) (s := 9) (c := 47) (by decide)))
  have N1_h27 : xN h27 a 1 = a + 10 + 1 := by rw [(lo_h27 _ (oa8 (by decide))).2.2]; exact N1_h26
  have S19_h27 : VilAt h27 (a + 19) v00 := S19_h26.ag lo_h27.fs (unl (oaU (a := a) (B := 19) (s := 9) (c := 47) (by decide)))
  have N2_h27 : xN h27 a 2 = a + 19 + 1 := by rw [(lo_h27 _ (oa8 (by decide))).2.2]; exact N2_h26
  have I3_h27 : xI h27 a 3 = nI 0 := by rw [(lo_h27 _ (oa8 (by decide))).1]; exact I3_h26
  have S28_h27 : ∀ i, i < 8 → xI h27 (a + 31) i = nI (fct i) := fun i hi => by rw [(lo_h27 _ (Nat.add_lt_add_left (by decide) a)).1]; exact S28_h26 i hi
  have N4_h27 : xN h27 a 4 = a + 28 + 1 := by rw [(lo_h27 _ (oa8 (by decide))).2.2]; exact N4_h26
  have N5_h27 : xN h27 a 5 = a + 32 + 1 := by rw [(lo_h27 _ (oa8 (by decide))).2.2]; exact N5_h26
  have S34_h27 : SInv h27 (a + 34) := S34_h26.ag lo_h27.fs (unl (oaU (a := a) (B := 34) (s := 12) (c := 47) (by decide)))
  have N6_h27 : xN h27 a 6 = a + 34 + 1 := by rw [(lo_h27 _ (oa8 (by decide))).2.2]; exact N6_h26
  have K_h27 : xK h27 = xK h ++ [5, 20, 20, 21, 21, 22, 22, 23, 22, 5, 20, 20, 21, 21, 22, 22, 23, 22, 5, 20, 20, 21, 21, 22, 22, 23, 22, 4, 24, 25, 22, 0, 22, 1, 21, 21, 27, 32, 21, 21, 21, 21, 21, 21, 21, 28, 11, 29] := by rw [kk_h27, K_h26, List.append_assoc]; rfl
  have len_h27 : (xK h27).length = a + 49 := by rw [K_h27, List.length_append, hlen]; rfl
  have ha_h27 : (xK h27)[a + 47]? = some (3 + 8) := by rw [K_h27]; exact (getK hlen 46).trans rfl
  have hp_h27 : ∀ (j o k9 : Nat), ([(2, 1, 29), (0, 0, 0), (0, 0, 0), (0, 0, 0), (0, 0, 0)] : List Fd3)[j]? = some (2, o, k9) → xN h27 (a + 47) j = a + 47 + o + 1 ∧ (xK h27)[a + 47 + o]? = some k9 := fun j o k9 hj => by
    match j, hj with
    | 0, hj => cases hj; exact ⟨p0_h27, by rw [K_h27]; exact (getK hlen 47).trans rfl⟩
    | 1, hj => cases hj
    | 2, hj => cases hj
    | 3, hj => cases hj
    | 4, hj => cases hj
    | n + 5, hj => simp at hj
  refine r_retag (a := a + 47) (k := 3) (al := xK h) C E0 (by rw [hlen]; exact Nat.add_le_add_left (by decide) a) (by decide) ha_h27 rfl hp_h27 ⟨(show a ≠ _ from oa3 (by decide)), trivial⟩ ⟨(show a ≠ _ from oa3 (by decide)), trivial⟩ ?_
  have LO_h28 : Lo a h (rt h27 (a + 47) 3) := LO_h27
  have S1_h28 : VilAt (rt h27 (a + 47) 3) (a + 1) v00 := S1_h27
  have N0_h28 : xN (rt h27 (a + 47) 3) a 0 = a + 1 + 1 := N0_h27
  have S10_h28 : VilAt (rt h27 (a + 47) 3) (a + 10) v00 := S10_h27
  have N1_h28 : xN (rt h27 (a + 47) 3) a 1 = a + 10 + 1 := N1_h27
  have S19_h28 : VilAt (rt h27 (a + 47) 3) (a + 19) v00 := S19_h27
  have N2_h28 : xN (rt h27 (a + 47) 3) a 2 = a + 19 + 1 := N2_h27
  have I3_h28 : xI (rt h27 (a + 47) 3) a 3 = nI 0 := I3_h27
  have S28_h28 : ∀ i, i < 8 → xI (rt h27 (a + 47) 3) (a + 31) i = nI (fct i) := S28_h27
  have N4_h28 : xN (rt h27 (a + 47) 3) a 4 = a + 28 + 1 := N4_h27
  have N5_h28 : xN (rt h27 (a + 47) 3) a 5 = a + 32 + 1 := N5_h27
  have S34_h28 : SInv (rt h27 (a + 47) 3) (a + 34) := S34_h27
  have N6_h28 : xN (rt h27 (a + 47) 3) a 6 = a + 34 + 1 := N6_h27
  have S47_h28 : TapAt (rt h27 (a + 47) 3) (a + 47) (fun _ => 0) 0 := sp_h27
  have K_h28 : xK (rt h27 (a + 47) 3) = xK h ++ [5, 20, 20, 21, 21, 22, 22, 23, 22, 5, 20, 20, 21, 21, 22, 22, 23, 22, 5, 20, 20, 21, 21, 22, 22, 23, 22, 4, 24, 25, 22, 0, 22, 1, 21, 21, 27, 32, 21, 21, 21, 21, 21, 21, 21, 28, 3, 29] := by show (xK h27).set _ _ = _; rw [K_h27]; exact (set_app (i := 46) (oaL hlen rfl)).trans rfl
  have NO_h28 : NOk (rt h27 (a + 47) 3) := NO_h27.mk8 (by decide) ha_h27
  generalize rt h27 (a + 47) 3 = h28 at LO_h28 S1_h28 N0_h28 S10_h28 N1_h28 S19_h28 N2_h28 I3_h28 S28_h28 N4_h28 N5_h28 S34_h28 N6_h28 S47_h28 K_h28 NO_h28 ⊢
  have len_h28 : (xK h28).length = a + 49 := by rw [K_h28, List.length_append, hlen]; rfl
  refine r_putNF (k := 14) (j := 7) (t := 0) C hI rfl rfl rfl (by decide) f_X6_50 rfl rfl (fun _ => rfl) (fun _ => rfl) (dx dX6_init 39 rfl) ?_
  have LO_h29 : Lo a h (sN h28 a 7 (a + 47 + 1)) := LO_h28.tr (Lo.sN (Nat.le_refl _))
  have S1_h29 : VilAt (sN h28 a 7 (a + 47 + 1)) (a + 1) v00 := S1_h28
  have N0_h29 : xN (sN h28 a 7 (a + 47 + 1)) a 0 = a + 1 + 1 := (sN_ne (by decide)).trans N0_h28
  have S10_h29 : VilAt (sN h28 a 7 (a + 47 + 1)) (a + 10) v00 := S10_h28
  have N1_h29 : xN (sN h28 a 7 (a + 47 + 1)) a 1 = a + 10 + 1 := (sN_ne (by decide)).trans N1_h28
  have S19_h29 : VilAt (sN h28 a 7 (a + 47 + 1)) (a + 19) v00 := S19_h28
  have N2_h29 : xN (sN h28 a 7 (a + 47 + 1)) a 2 = a + 19 + 1 := (sN_ne (by decide)).trans N2_h28
  have I3_h29 : xI (sN h28 a 7 (a + 47 + 1)) a 3 = nI 0 := I3_h28
  have S28_h29 : ∀ i, i < 8 → xI (sN h28 a 7 (a + 47 + 1)) (a + 31) i = nI (fct i) := S28_h28
  have N4_h29 : xN (sN h28 a 7 (a + 47 + 1)) a 4 = a + 28 + 1 := (sN_ne (by decide)).trans N4_h28
  have N5_h29 : xN (sN h28 a 7 (a + 47 + 1)) a 5 = a + 32 + 1 := (sN_ne (by decide)).trans N5_h28
  have S34_h29 : SInv (sN h28 a 7 (a + 47 + 1)) (a + 34) := S34_h28
  have N6_h29 : xN (sN h28 a 7 (a + 47 + 1)) a 6 = a + 34 + 1 := (sN_ne (by decide)).trans N6_h28
  have S47_h29 : TapAt (sN h28 a 7 (a + 47 + 1)) (a + 47) (fun _ => 0) 0 := S47_h28
  have K_h29 : xK (sN h28 a 7 (a + 47 + 1)) = xK h ++ [5, 20, 20, 21, 21, 22, 22, 23, 22, 5, 20, 20, 21, 21, 22, 22, 23, 22, 5, 20, 20, 21, 21, 22, 22, 23, 22, 4, 24, 25, 22, 0, 22, 1, 21, 21, 27, 32, 21, 21, 21, 21, 21, 21, 21, 28, 3, 29] := K_h28
  have NO_h29 : NOk (sN h28 a 7 (a + 47 + 1)) := NO_h28.sN (by rw [len_h28]; exact oa6 (by decide))
  have N7_h29 : xN (sN h28 a 7 (a + 47 + 1)) a 7 = a + 47 + 1 := sN_at
  generalize sN h28 a 7 (a + 47 + 1) = h29 at LO_h29 S1_h29 N0_h29 S10_h29 N1_h29 S19_h29 N2_h29 I3_h29 S28_h29 N4_h29 N5_h29 S34_h29 N6_h29 S47_h29 K_h29 NO_h29 N7_h29 ⊢
  have len_h29 : (xK h29).length = a + 49 := by rw [K_h29, List.length_append, hlen]; rfl
  refine r_aload_n C (dx dX6_init 40 rfl) rfl ?_
  refine r_new (kk := 10) (C0 := RX2) (T := TX2) (N := 4) C (X.go (E := [10]) K_h29 (by decide) (by decide)) rfl rfl rfl (by decide) hfs2 List.prefix_rfl NO_h29 (by rw [len_h29]; exact oa4 hb (by decide)) cl_RX6_54 q_in2 q_ii2 (dx dX6_init 41 rfl) ?_
  rw [len_h29]
  have LO_h30 : Lo a h (nw h29 10) := LO_h29.tr (Lo.nw (by rw [len_h29]; exact Nat.le_add_right _ _))
  have S1_h30 : VilAt (nw h29 10) (a + 1) v00 := S1_h29.ag (Lo.nw (h := h29) (k := 10) (a := a + 49) (by rw [len_h29]; exact Nat.le_refl _)).fs (unl (oaU (a := a) (B := 1) (s := 9) (c := 49) (by decide)))
  have N0_h30 : xN (nw h29 10) a 0 = a + 1 + 1 := by rw [(nw_ne (h := h29) (k := 10) (b := a) (by rw [len_h29]; exact oa3 (by decide))).2.2]; exact N0_h29
  have S10_h30 : VilAt (nw h29 10) (a + 10) v00 := S10_h29.ag (Lo.nw (h := h29) (k := 10) (a := a + 49) (by rw [len_h29]; exact Nat.le_refl _)).fs (unl (oaU (a := a) (B := 10) (s := 9) (c := 49) (by decide)))
  have N1_h30 : xN (nw h29 10) a 1 = a + 10 + 1 := by rw [(nw_ne (h := h29) (k := 10) (b := a) (by rw [len_h29]; exact oa3 (by decide))).2.2]; exact N1_h29
  have S19_h30 : VilAt (nw h29 10) (a + 19) v00 := S19_h29.ag (Lo.nw (h := h29) (k := 10) (a := a + 49) (by rw [len_h29]; exact Nat.le_refl _)).fs (unl (oaU (a := a) (B := 19) (s := 9) (c := 49) (by decide)))
  have N2_h30 : xN (nw h29 10) a 2 = a + 19 + 1 := by rw [(nw_ne (h := h29) (k := 10) (b := a) (by rw [len_h29]; exact oa3 (by decide))).2.2]; exact N2_h29
  have I3_h30 : xI (nw h29 10) a 3 = nI 0 := by rw [(nw_ne (h := h29) (k := 10) (b := a) (by rw [len_h29]; exact oa3 (by decide))).1]; exact I3_h29
  have S28_h30 : ∀ i, i < 8 → xI (nw h29 10) (a + 31) i = nI (fct i) := fun i hi => by rw [((Lo.nw (h := h29) (k := 10) (a := a + 49) (by rw [len_h29]; exact Nat.le_refl _)) _ (Nat.add_lt_add_left (by decide) a)).1]; exact S28_h29 i hi
  have N4_h30 : xN (nw h29 10) a 4 = a + 28 + 1 := by rw [(nw_ne (h := h29) (k := 10) (b := a) (by rw [len_h29]; exact oa3 (by decide))).2.2]; exact N4_h29
  have N5_h30 : xN (nw h29 10) a 5 = a + 32 + 1 := by rw [(nw_ne (h := h29) (k := 10) (b := a) (by rw [len_h29]; exact oa3 (by decide))).2.2]; exact N5_h29
  have S34_h30 : SInv (nw h29 10) (a + 34) := S34_h29.ag (Lo.nw (h := h29) (k := 10) (a := a + 49) (by rw [len_h29]; exact Nat.le_refl _)).fs (unl (oaU (a := a) (B := 34) (s := 12) (c := 49) (by decide)))
  have N6_h30 : xN (nw h29 10) a 6 = a + 34 + 1 := by rw [(nw_ne (h := h29) (k := 10) (b := a) (by rw [len_h29]; exact oa3 (by decide))).2.2]; exact N6_h29
  have S47_h30 : TapAt (nw h29 10) (a + 47) (fun _ => 0) 0 := S47_h29.ag (Lo.nw (h := h29) (k := 10) (a := a + 49) (by rw [len_h29]; exact Nat.le_refl _)).fs (unl (oaU (a := a) (B := 47) (s := 2) (c := 49) (by decide)))
  have NO_h30 : NOk (nw h29 10) := NO_h29.nw
  have N7_h30 : xN (nw h29 10) a 7 = a + 47 + 1 := by rw [(nw_ne (h := h29) (k := 10) (b := a) (by rw [len_h29]; exact oa3 (by decide))).2.2]; exact N7_h29
  have K_h30 : xK (nw h29 10) = xK h ++ [5, 20, 20, 21, 21, 22, 22, 23, 22, 5, 20, 20, 21, 21, 22, 22, 23, 22, 5, 20, 20, 21, 21, 22, 22, 23, 22, 4, 24, 25, 22, 0, 22, 1, 21, 21, 27, 32, 21, 21, 21, 21, 21, 21, 21, 28, 3, 29, 10] := by show xK h29 ++ _ = _; rw [K_h29, List.append_assoc]; rfl
  have Y1_h30 : xI (nw h29 10) (a + 49) = fun _ => 0 := by have q9 := nw_I (h := h29) (k := 10); rw [len_h29] at q9; exact q9
  have Y2_h30 : xL (nw h29 10) (a + 49) = fun _ => 0 := by have q9 := nw_L (h := h29) (k := 10); rw [len_h29] at q9; exact q9
  have Y3_h30 : xN (nw h29 10) (a + 49) = fun _ => 0 := by have q9 := nw_N (h := h29) (k := 10); rw [len_h29] at q9; exact q9
  generalize nw h29 10 = h30 at LO_h30 S1_h30 N0_h30 S10_h30 N1_h30 S19_h30 N2_h30 I3_h30 S28_h30 N4_h30 N5_h30 S34_h30 N6_h30 S47_h30 NO_h30 N7_h30 K_h30 Y1_h30 Y2_h30 Y3_h30 ⊢
  have len_h30 : (xK h30).length = a + 50 := by rw [K_h30, List.length_append, hlen]; rfl
  refine r_dupR C (dx dX6_init 42 rfl) ?_
  refine r_callI (st := [vr 10 (a + 49), vr 14 a]) C (X.go (E := [22, 22, 33, 31, 31, 31, 31, 31, 31, 31, 31, 22]) K_h30 (by decide) (by decide)) (c_X2_init (a := a + 49) len_h30 (oa9 hb (by decide)) NO_h30 Y1_h30 Y2_h30 Y3_h30) (by decide) (Nat.le_of_ble_eq_true rfl) (List.prefix_append _ _) List.prefix_rfl rfl rfl (Nat.le_of_ble_eq_true rfl) l_X6_56 q_im2 q_ii2 q_co2 rfl nh_RX2 q_pd2 (dx dX6_init 43 rfl) ?_
  rintro _ h31 ⟨rfl, NO_h31, lo_h31, p0_h31, p1_h31, p2_h31, p3_h31, sp_h31⟩ kk_h31
  have LO_h31 : Lo a h h31 := LO_h30.tr (lo_h31.mono (Nat.le_add_right _ _))
  have S1_h31 : VilAt h31 (a + 1) v00 := S1_h30.ag lo_h31.fs (unl (oaU (a := a) (B := 1) (s := 9) (c := 49) (by decide)))
  have N0_h31 : xN h31 a 0 = a + 1 + 1 := by rw [(lo_h31 _ (oa8 (by decide))).2.2]; exact N0_h30
  have S10_h31 : VilAt h31 (a + 10) v00 := S10_h30.ag lo_h31.fs (unl (oaU (a := a) (B := 10) (s := 9) (c := 49) (by decide)))
  have N1_h31 : xN h31 a 1 = a + 10 + 1 := by rw [(lo_h31 _ (oa8 (by decide))).2.2]; exact N1_h30
  have S19_h31 : VilAt h31 (a + 19) v00 := S19_h30.ag lo_h31.fs (unl (oaU (a := a) (B := 19) (s := 9) (c := 49) (by decide)))
  have N2_h31 : xN h31 a 2 = a + 19 + 1 := by rw [(lo_h31 _ (oa8 (by decide))).2.2]; exact N2_h30
  have I3_h31 : xI h31 a 3 = nI 0 := by rw [(lo_h31 _ (oa8 (by decide))).1]; exact I3_h30
  have S28_h31 : ∀ i, i < 8 → xI h31 (a + 31) i = nI (fct i) := fun i hi => by rw [(lo_h31 _ (Nat.add_lt_add_left (by decide) a)).1]; exact S28_h30 i hi
  have N4_h31 : xN h31 a 4 = a + 28 + 1 := by rw [(lo_h31 _ (oa8 (by decide))).2.2]; exact N4_h30
  have N5_h31 : xN h31 a 5 = a + 32 + 1 := by rw [(lo_h31 _ (oa8 (by decide))).2.2]; exact N5_h30
  have S34_h31 : SInv h31 (a + 34) := S34_h30.ag lo_h31.fs (unl (oaU (a := a) (B := 34) (s := 12) (c := 49) (by decide)))
  have N6_h31 : xN h31 a 6 = a + 34 + 1 := by rw [(lo_h31 _ (oa8 (by decide))).2.2]; exact N6_h30
  have S47_h31 : TapAt h31 (a + 47) (fun _ => 0) 0 := S47_h30.ag lo_h31.fs (unl (oaU (a := a) (B := 47) (s := 2) (c := 49) (by decide)))
  have N7_h31 : xN h31 a 7 = a + 47 + 1 := by rw [(lo_h31 _ (oa8 (by decide))).2.2]; exact N7_h30
  have K_h31 : xK h31 = xK h ++ [5, 20, 20, 21, 21, 22, 22, 23, 22, 5, 20, 20, 21, 21, 22, 22, 23, 22, 5, 20, 20, 21, 21, 22, 22, 23, 22, 4, 24, 25, 22, 0, 22, 1, 21, 21, 27, 32, 21, 21, 21, 21, 21, 21, 21, 28, 3, 29, 10, 22, 22, 33, 31, 31, 31, 31, 31, 31, 31, 31, 22] := by rw [kk_h31, K_h30, List.append_assoc]; rfl
  have len_h31 : (xK h31).length = a + 62 := by rw [K_h31, List.length_append, hlen]; rfl
  have ha_h31 : (xK h31)[a + 49]? = some (2 + 8) := by rw [K_h31]; exact (getK hlen 48).trans rfl
  have hp_h31 : ∀ (j o k9 : Nat), ([(2, 1, 22), (2, 2, 22), (2, 3, 33), (2, 12, 22)] : List Fd3)[j]? = some (2, o, k9) → xN h31 (a + 49) j = a + 49 + o + 1 ∧ (xK h31)[a + 49 + o]? = some k9 := fun j o k9 hj => by
    match j, hj with
    | 0, hj => cases hj; exact ⟨p0_h31, by rw [K_h31]; exact (getK hlen 49).trans rfl⟩
    | 1, hj => cases hj; exact ⟨p1_h31, by rw [K_h31]; exact (getK hlen 50).trans rfl⟩
    | 2, hj => cases hj; exact ⟨p2_h31, by rw [K_h31]; exact (getK hlen 51).trans rfl⟩
    | 3, hj => cases hj; exact ⟨p3_h31, by rw [K_h31]; exact (getK hlen 60).trans rfl⟩
    | n + 4, hj => simp at hj
  refine r_retag (a := a + 49) (k := 2) (al := xK h) C E0 (by rw [hlen]; exact Nat.add_le_add_left (by decide) a) (by decide) ha_h31 rfl hp_h31 ⟨(show a ≠ _ from oa3 (by decide)), trivial⟩ ⟨(show a ≠ _ from oa3 (by decide)), trivial⟩ ?_
  have LO_h32 : Lo a h (rt h31 (a + 49) 2) := LO_h31
  have S1_h32 : VilAt (rt h31 (a + 49) 2) (a + 1) v00 := S1_h31
  have N0_h32 : xN (rt h31 (a + 49) 2) a 0 = a + 1 + 1 := N0_h31
  have S10_h32 : VilAt (rt h31 (a + 49) 2) (a + 10) v00 := S10_h31
  have N1_h32 : xN (rt h31 (a + 49) 2) a 1 = a + 10 + 1 := N1_h31
  have S19_h32 : VilAt (rt h31 (a + 49) 2) (a + 19) v00 := S19_h31
  have N2_h32 : xN (rt h31 (a + 49) 2) a 2 = a + 19 + 1 := N2_h31
  have I3_h32 : xI (rt h31 (a + 49) 2) a 3 = nI 0 := I3_h31
  have S28_h32 : ∀ i, i < 8 → xI (rt h31 (a + 49) 2) (a + 31) i = nI (fct i) := S28_h31
  have N4_h32 : xN (rt h31 (a + 49) 2) a 4 = a + 28 + 1 := N4_h31
  have N5_h32 : xN (rt h31 (a + 49) 2) a 5 = a + 32 + 1 := N5_h31
  have S34_h32 : SInv (rt h31 (a + 49) 2) (a + 34) := S34_h31
  have N6_h32 : xN (rt h31 (a + 49) 2) a 6 = a + 34 + 1 := N6_h31
  have S47_h32 : TapAt (rt h31 (a + 49) 2) (a + 47) (fun _ => 0) 0 := S47_h31
  have N7_h32 : xN (rt h31 (a + 49) 2) a 7 = a + 47 + 1 := N7_h31
  have S49_h32 : ShAt (rt h31 (a + 49) 2) (a + 49) g00 := sp_h31
  have K_h32 : xK (rt h31 (a + 49) 2) = xK h ++ [5, 20, 20, 21, 21, 22, 22, 23, 22, 5, 20, 20, 21, 21, 22, 22, 23, 22, 5, 20, 20, 21, 21, 22, 22, 23, 22, 4, 24, 25, 22, 0, 22, 1, 21, 21, 27, 32, 21, 21, 21, 21, 21, 21, 21, 28, 3, 29, 2, 22, 22, 33, 31, 31, 31, 31, 31, 31, 31, 31, 22] := by show (xK h31).set _ _ = _; rw [K_h31]; exact (set_app (i := 48) (oaL hlen rfl)).trans rfl
  have NO_h32 : NOk (rt h31 (a + 49) 2) := NO_h31.mk8 (by decide) ha_h31
  generalize rt h31 (a + 49) 2 = h32 at LO_h32 S1_h32 N0_h32 S10_h32 N1_h32 S19_h32 N2_h32 I3_h32 S28_h32 N4_h32 N5_h32 S34_h32 N6_h32 S47_h32 N7_h32 S49_h32 K_h32 NO_h32 ⊢
  have len_h32 : (xK h32).length = a + 62 := by rw [K_h32, List.length_append, hlen]; rfl
  refine r_putNF (k := 14) (j := 8) (t := 0) C hI rfl rfl rfl (by decide) f_X6_57 rfl rfl (fun _ => rfl) (fun _ => rfl) (dx dX6_init 44 rfl) ?_
  have LO_h33 : Lo a h (sN h32 a 8 (a + 49 + 1)) := LO_h32.tr (Lo.sN (Nat.le_refl _))
  have S1_h33 : VilAt (sN h32 a 8 (a + 49 + 1)) (a + 1) v00 := S1_h32
  have N0_h33 : xN (sN h32 a 8 (a + 49 + 1)) a 0 = a + 1 + 1 := (sN_ne (by decide)).trans N0_h32
  have S10_h33 : VilAt (sN h32 a 8 (a + 49 + 1)) (a + 10) v00 := S10_h32
  have N1_h33 : xN (sN h32 a 8 (a + 49 + 1)) a 1 = a + 10 + 1 := (sN_ne (by decide)).trans N1_h32
  have S19_h33 : VilAt (sN h32 a 8 (a + 49 + 1)) (a + 19) v00 := S19_h32
  have N2_h33 : xN (sN h32 a 8 (a + 49 + 1)) a 2 = a + 19 + 1 := (sN_ne (by decide)).trans N2_h32
  have I3_h33 : xI (sN h32 a 8 (a + 49 + 1)) a 3 = nI 0 := I3_h32
  have S28_h33 : ∀ i, i < 8 → xI (sN h32 a 8 (a + 49 + 1)) (a + 31) i = nI (fct i) := S28_h32
  have N4_h33 : xN (sN h32 a 8 (a + 49 + 1)) a 4 = a + 28 + 1 := (sN_ne (by decide)).trans N4_h32
  have N5_h33 : xN (sN h32 a 8 (a + 49 + 1)) a 5 = a + 32 + 1 := (sN_ne (by decide)).trans N5_h32
  have S34_h33 : SInv (sN h32 a 8 (a + 49 + 1)) (a + 34) := S34_h32
  have N6_h33 : xN (sN h32 a 8 (a + 49 + 1)) a 6 = a + 34 + 1 := (sN_ne (by decide)).trans N6_h32
  have S47_h33 : TapAt (sN h32 a 8 (a + 49 + 1)) (a + 47) (fun _ => 0) 0 := S47_h32
  have N7_h33 : xN (sN h32 a 8 (a + 49 + 1)) a 7 = a + 47 + 1 := (sN_ne (by decide)).trans N7_h32
  have S49_h33 : ShAt (sN h32 a 8 (a + 49 + 1)) (a + 49) g00 := S49_h32
  have K_h33 : xK (sN h32 a 8 (a + 49 + 1)) = xK h ++ [5, 20, 20, 21, 21, 22, 22, 23, 22, 5, 20, 20, 21, 21, 22, 22, 23, 22, 5, 20, 20, 21, 21, 22, 22, 23, 22, 4, 24, 25, 22, 0, 22, 1, 21, 21, 27, 32, 21, 21, 21, 21, 21, 21, 21, 28, 3, 29, 2, 22, 22, 33, 31, 31, 31, 31, 31, 31, 31, 31, 22] := K_h32
  have NO_h33 : NOk (sN h32 a 8 (a + 49 + 1)) := NO_h32.sN (by rw [len_h32]; exact oa6 (by decide))
  have N8_h33 : xN (sN h32 a 8 (a + 49 + 1)) a 8 = a + 49 + 1 := sN_at
  generalize sN h32 a 8 (a + 49 + 1) = h33 at LO_h33 S1_h33 N0_h33 S10_h33 N1_h33 S19_h33 N2_h33 I3_h33 S28_h33 N4_h33 N5_h33 S34_h33 N6_h33 S47_h33 N7_h33 S49_h33 K_h33 NO_h33 N8_h33 ⊢
  have len_h33 : (xK h33).length = a + 62 := by rw [K_h33, List.length_append, hlen]; rfl
  refine r_aload_n C (dx dX6_init 45 rfl) rfl ?_
  refine r_iconst (v := nI 5) C (dx dX6_init 46 rfl) rfl ?_
  refine r_newa (kk := 26) (t := 0) (n := 5) (ty := .int) (S := "[" ++ (.int : FieldType).toString) (a0 := (5, .inl (fun _ => 0))) C (X.go (E := [26]) K_h33 (by decide) (by decide)) rfl rfl (by decide) List.prefix_rfl NO_h33 (by rw [len_h33]; exact oa4 hb (by decide)) rfl q_ac_int (fun _ => rfl) (fun _ _ q => q) (fun _ => rfl) (fun dA f h9 a9 e1 e2 => by rw [ent_arr (q := (0, 5, 0)) rfl rfl]; simp [entA, e1, e2]) (by decide) (by decide) (dx dX6_init 47 rfl) ?_
  rw [len_h33]
  have LO_h34 : Lo a h (nw h33 26) := LO_h33.tr (Lo.nw (by rw [len_h33]; exact Nat.le_add_right _ _))
  have S1_h34 : VilAt (nw h33 26) (a + 1) v00 := S1_h33.ag (Lo.nw (h := h33) (k := 26) (a := a + 62) (by rw [len_h33]; exact Nat.le_refl _)).fs (unl (oaU (a := a) (B := 1) (s := 9) (c := 62) (by decide)))
  have N0_h34 : xN (nw h33 26) a 0 = a + 1 + 1 := by rw [(nw_ne (h := h33) (k := 26) (b := a) (by rw [len_h33]; exact oa3 (by decide))).2.2]; exact N0_h33
  have S10_h34 : VilAt (nw h33 26) (a + 10) v00 := S10_h33.ag (Lo.nw (h := h33) (k := 26) (a := a + 62) (by rw [len_h33]; exact Nat.le_refl _)).fs (unl (oaU (a := a) (B := 10) (s := 9) (c := 62) (by decide)))
  have N1_h34 : xN (nw h33 26) a 1 = a + 10 + 1 := by rw [(nw_ne (h := h33) (k := 26) (b := a) (by rw [len_h33]; exact oa3 (by decide))).2.2]; exact N1_h33
  have S19_h34 : VilAt (nw h33 26) (a + 19) v00 := S19_h33.ag (Lo.nw (h := h33) (k := 26) (a := a + 62) (by rw [len_h33]; exact Nat.le_refl _)).fs (unl (oaU (a := a) (B := 19) (s := 9) (c := 62) (by decide)))
  have N2_h34 : xN (nw h33 26) a 2 = a + 19 + 1 := by rw [(nw_ne (h := h33) (k := 26) (b := a) (by rw [len_h33]; exact oa3 (by decide))).2.2]; exact N2_h33
  have I3_h34 : xI (nw h33 26) a 3 = nI 0 := by rw [(nw_ne (h := h33) (k := 26) (b := a) (by rw [len_h33]; exact oa3 (by decide))).1]; exact I3_h33
  have S28_h34 : ∀ i, i < 8 → xI (nw h33 26) (a + 31) i = nI (fct i) := fun i hi => by rw [((Lo.nw (h := h33) (k := 26) (a := a + 62) (by rw [len_h33]; exact Nat.le_refl _)) _ (Nat.add_lt_add_left (by decide) a)).1]; exact S28_h33 i hi
  have N4_h34 : xN (nw h33 26) a 4 = a + 28 + 1 := by rw [(nw_ne (h := h33) (k := 26) (b := a) (by rw [len_h33]; exact oa3 (by decide))).2.2]; exact N4_h33
  have N5_h34 : xN (nw h33 26) a 5 = a + 32 + 1 := by rw [(nw_ne (h := h33) (k := 26) (b := a) (by rw [len_h33]; exact oa3 (by decide))).2.2]; exact N5_h33
  have S34_h34 : SInv (nw h33 26) (a + 34) := S34_h33.ag (Lo.nw (h := h33) (k := 26) (a := a + 62) (by rw [len_h33]; exact Nat.le_refl _)).fs (unl (oaU (a := a) (B := 34) (s := 12) (c := 62) (by decide)))
  have N6_h34 : xN (nw h33 26) a 6 = a + 34 + 1 := by rw [(nw_ne (h := h33) (k := 26) (b := a) (by rw [len_h33]; exact oa3 (by decide))).2.2]; exact N6_h33
  have S47_h34 : TapAt (nw h33 26) (a + 47) (fun _ => 0) 0 := S47_h33.ag (Lo.nw (h := h33) (k := 26) (a := a + 62) (by rw [len_h33]; exact Nat.le_refl _)).fs (unl (oaU (a := a) (B := 47) (s := 2) (c := 62) (by decide)))
  have N7_h34 : xN (nw h33 26) a 7 = a + 47 + 1 := by rw [(nw_ne (h := h33) (k := 26) (b := a) (by rw [len_h33]; exact oa3 (by decide))).2.2]; exact N7_h33
  have S49_h34 : ShAt (nw h33 26) (a + 49) g00 := S49_h33.ag (Lo.nw (h := h33) (k := 26) (a := a + 62) (by rw [len_h33]; exact Nat.le_refl _)).fs (unl (oaU (a := a) (B := 49) (s := 13) (c := 62) (by decide)))
  have NO_h34 : NOk (nw h33 26) := NO_h33.nw
  have N8_h34 : xN (nw h33 26) a 8 = a + 49 + 1 := by rw [(nw_ne (h := h33) (k := 26) (b := a) (by rw [len_h33]; exact oa3 (by decide))).2.2]; exact N8_h33
  have K_h34 : xK (nw h33 26) = xK h ++ [5, 20, 20, 21, 21, 22, 22, 23, 22, 5, 20, 20, 21, 21, 22, 22, 23, 22, 5, 20, 20, 21, 21, 22, 22, 23, 22, 4, 24, 25, 22, 0, 22, 1, 21, 21, 27, 32, 21, 21, 21, 21, 21, 21, 21, 28, 3, 29, 2, 22, 22, 33, 31, 31, 31, 31, 31, 31, 31, 31, 22, 26] := by show xK h33 ++ _ = _; rw [K_h33, List.append_assoc]; rfl
  generalize nw h33 26 = h34 at LO_h34 S1_h34 N0_h34 S10_h34 N1_h34 S19_h34 N2_h34 I3_h34 S28_h34 N4_h34 N5_h34 S34_h34 N6_h34 S47_h34 N7_h34 S49_h34 NO_h34 N8_h34 K_h34 ⊢
  have len_h34 : (xK h34).length = a + 63 := by rw [K_h34, List.length_append, hlen]; rfl
  refine r_putNF (k := 14) (j := 9) (t := 0) C hI rfl rfl rfl (by decide) f_X6_61 rfl rfl (fun _ => rfl) (fun _ => rfl) (dx dX6_init 48 rfl) ?_
  have LO_h35 : Lo a h (sN h34 a 9 (a + 62 + 1)) := LO_h34.tr (Lo.sN (Nat.le_refl _))
  have S1_h35 : VilAt (sN h34 a 9 (a + 62 + 1)) (a + 1) v00 := S1_h34
  have N0_h35 : xN (sN h34 a 9 (a + 62 + 1)) a 0 = a + 1 + 1 := (sN_ne (by decide)).trans N0_h34
  have S10_h35 : VilAt (sN h34 a 9 (a + 62 + 1)) (a + 10) v00 := S10_h34
  have N1_h35 : xN (sN h34 a 9 (a + 62 + 1)) a 1 = a + 10 + 1 := (sN_ne (by decide)).trans N1_h34
  have S19_h35 : VilAt (sN h34 a 9 (a + 62 + 1)) (a + 19) v00 := S19_h34
  have N2_h35 : xN (sN h34 a 9 (a + 62 + 1)) a 2 = a + 19 + 1 := (sN_ne (by decide)).trans N2_h34
  have I3_h35 : xI (sN h34 a 9 (a + 62 + 1)) a 3 = nI 0 := I3_h34
  have S28_h35 : ∀ i, i < 8 → xI (sN h34 a 9 (a + 62 + 1)) (a + 31) i = nI (fct i) := S28_h34
  have N4_h35 : xN (sN h34 a 9 (a + 62 + 1)) a 4 = a + 28 + 1 := (sN_ne (by decide)).trans N4_h34
  have N5_h35 : xN (sN h34 a 9 (a + 62 + 1)) a 5 = a + 32 + 1 := (sN_ne (by decide)).trans N5_h34
  have S34_h35 : SInv (sN h34 a 9 (a + 62 + 1)) (a + 34) := S34_h34
  have N6_h35 : xN (sN h34 a 9 (a + 62 + 1)) a 6 = a + 34 + 1 := (sN_ne (by decide)).trans N6_h34
  have S47_h35 : TapAt (sN h34 a 9 (a + 62 + 1)) (a + 47) (fun _ => 0) 0 := S47_h34
  have N7_h35 : xN (sN h34 a 9 (a + 62 + 1)) a 7 = a + 47 + 1 := (sN_ne (by decide)).trans N7_h34
  have S49_h35 : ShAt (sN h34 a 9 (a + 62 + 1)) (a + 49) g00 := S49_h34
  have NO_h35 : NOk (sN h34 a 9 (a + 62 + 1)) := NO_h34.sN (by rw [len_h34]; exact oa6 (by decide))
  have N8_h35 : xN (sN h34 a 9 (a + 62 + 1)) a 8 = a + 49 + 1 := (sN_ne (by decide)).trans N8_h34
  have K_h35 : xK (sN h34 a 9 (a + 62 + 1)) = xK h ++ [5, 20, 20, 21, 21, 22, 22, 23, 22, 5, 20, 20, 21, 21, 22, 22, 23, 22, 5, 20, 20, 21, 21, 22, 22, 23, 22, 4, 24, 25, 22, 0, 22, 1, 21, 21, 27, 32, 21, 21, 21, 21, 21, 21, 21, 28, 3, 29, 2, 22, 22, 33, 31, 31, 31, 31, 31, 31, 31, 31, 22, 26] := K_h34
  have N9_h35 : xN (sN h34 a 9 (a + 62 + 1)) a 9 = a + 62 + 1 := sN_at
  generalize sN h34 a 9 (a + 62 + 1) = h35 at LO_h35 S1_h35 N0_h35 S10_h35 N1_h35 S19_h35 N2_h35 I3_h35 S28_h35 N4_h35 N5_h35 S34_h35 N6_h35 S47_h35 N7_h35 S49_h35 NO_h35 N8_h35 K_h35 N9_h35 ⊢
  have len_h35 : (xK h35).length = a + 63 := by rw [K_h35, List.length_append, hlen]; rfl
  refine r_aload_n C (dx dX6_init 49 rfl) rfl ?_
  refine r_iconst (v := nI 0) C (dx dX6_init 50 rfl) rfl ?_
  refine r_putI (k := 14) (j := 10) (T := TX6) C rfl rfl rfl (by decide) f_X6_65 rfl rfl rfl (dx dX6_init 51 rfl) ?_
  have LO_h36 : Lo a h (sI h35 a 10 (nI 0)) := LO_h35.tr (Lo.sI (Nat.le_refl _))
  have S1_h36 : VilAt (sI h35 a 10 (nI 0)) (a + 1) v00 := S1_h35.ag Fs.a (una (oaV (a := a) (B := 1) (s := 0) (by decide)))
  have N0_h36 : xN (sI h35 a 10 (nI 0)) a 0 = a + 1 + 1 := N0_h35
  have S10_h36 : VilAt (sI h35 a 10 (nI 0)) (a + 10) v00 := S10_h35.ag Fs.a (una (oaV (a := a) (B := 10) (s := 0) (by decide)))
  have N1_h36 : xN (sI h35 a 10 (nI 0)) a 1 = a + 10 + 1 := N1_h35
  have S19_h36 : VilAt (sI h35 a 10 (nI 0)) (a + 19) v00 := S19_h35.ag Fs.a (una (oaV (a := a) (B := 19) (s := 0) (by decide)))
  have N2_h36 : xN (sI h35 a 10 (nI 0)) a 2 = a + 19 + 1 := N2_h35
  have I3_h36 : xI (sI h35 a 10 (nI 0)) a 3 = nI 0 := by rw [sI_at, if_neg (by decide)]; exact I3_h35
  have S28_h36 : ∀ i, i < 8 → xI (sI h35 a 10 (nI 0)) (a + 31) i = nI (fct i) := fun i hi => by rw [sI_ne (oa7 (by decide))]; exact S28_h35 i hi
  have N4_h36 : xN (sI h35 a 10 (nI 0)) a 4 = a + 28 + 1 := N4_h35
  have N5_h36 : xN (sI h35 a 10 (nI 0)) a 5 = a + 32 + 1 := N5_h35
  have S34_h36 : SInv (sI h35 a 10 (nI 0)) (a + 34) := S34_h35.ag Fs.a (una (oaV (a := a) (B := 34) (s := 5) (by decide)))
  have N6_h36 : xN (sI h35 a 10 (nI 0)) a 6 = a + 34 + 1 := N6_h35
  have S47_h36 : TapAt (sI h35 a 10 (nI 0)) (a + 47) (fun _ => 0) 0 := S47_h35.ag Fs.a (una (oaV (a := a) (B := 47) (s := 0) (by decide)))
  have N7_h36 : xN (sI h35 a 10 (nI 0)) a 7 = a + 47 + 1 := N7_h35
  have S49_h36 : ShAt (sI h35 a 10 (nI 0)) (a + 49) g00 := S49_h35.ag Fs.a (una (oaV (a := a) (B := 49) (s := 1) (by decide)))
  have NO_h36 : NOk (sI h35 a 10 (nI 0)) := NO_h35
  have N8_h36 : xN (sI h35 a 10 (nI 0)) a 8 = a + 49 + 1 := N8_h35
  have K_h36 : xK (sI h35 a 10 (nI 0)) = xK h ++ [5, 20, 20, 21, 21, 22, 22, 23, 22, 5, 20, 20, 21, 21, 22, 22, 23, 22, 5, 20, 20, 21, 21, 22, 22, 23, 22, 4, 24, 25, 22, 0, 22, 1, 21, 21, 27, 32, 21, 21, 21, 21, 21, 21, 21, 28, 3, 29, 2, 22, 22, 33, 31, 31, 31, 31, 31, 31, 31, 31, 22, 26] := K_h35
  have N9_h36 : xN (sI h35 a 10 (nI 0)) a 9 = a + 62 + 1 := N9_h35
  have I10_h36 : xI (sI h35 a 10 (nI 0)) a 10 = nI 0 := by rw [sI_at, if_pos rfl]
  generalize sI h35 a 10 (nI 0) = h36 at LO_h36 S1_h36 N0_h36 S10_h36 N1_h36 S19_h36 N2_h36 I3_h36 S28_h36 N4_h36 N5_h36 S34_h36 N6_h36 S47_h36 N7_h36 S49_h36 NO_h36 N8_h36 K_h36 N9_h36 I10_h36 ⊢
  have len_h36 : (xK h36).length = a + 63 := by rw [K_h36, List.length_append, hlen]; rfl
  refine r_aload_n C (dx dX6_init 52 rfl) rfl ?_
  refine r_iconst (v := nI 0) C (dx dX6_init 53 rfl) rfl ?_
  refine r_putI (k := 14) (j := 11) (T := TX6) C rfl rfl rfl (by decide) f_X6_69 rfl rfl rfl (dx dX6_init 54 rfl) ?_
  have LO_h37 : Lo a h (sI h36 a 11 (nI 0)) := LO_h36.tr (Lo.sI (Nat.le_refl _))
  have S1_h37 : VilAt (sI h36 a 11 (nI 0)) (a + 1) v00 := S1_h36.ag Fs.a (una (oaV (a := a) (B := 1) (s := 0) (by decide)))
  have N0_h37 : xN (sI h36 a 11 (nI 0)) a 0 = a + 1 + 1 := N0_h36
  have S10_h37 : VilAt (sI h36 a 11 (nI 0)) (a + 10) v00 := S10_h36.ag Fs.a (una (oaV (a := a) (B := 10) (s := 0) (by decide)))
  have N1_h37 : xN (sI h36 a 11 (nI 0)) a 1 = a + 10 + 1 := N1_h36
  have S19_h37 : VilAt (sI h36 a 11 (nI 0)) (a + 19) v00 := S19_h36.ag Fs.a (una (oaV (a := a) (B := 19) (s := 0) (by decide)))
  have N2_h37 : xN (sI h36 a 11 (nI 0)) a 2 = a + 19 + 1 := N2_h36
  have I3_h37 : xI (sI h36 a 11 (nI 0)) a 3 = nI 0 := by rw [sI_at, if_neg (by decide)]; exact I3_h36
  have S28_h37 : ∀ i, i < 8 → xI (sI h36 a 11 (nI 0)) (a + 31) i = nI (fct i) := fun i hi => by rw [sI_ne (oa7 (by decide))]; exact S28_h36 i hi
  have N4_h37 : xN (sI h36 a 11 (nI 0)) a 4 = a + 28 + 1 := N4_h36
  have N5_h37 : xN (sI h36 a 11 (nI 0)) a 5 = a + 32 + 1 := N5_h36
  have S34_h37 : SInv (sI h36 a 11 (nI 0)) (a + 34) := S34_h36.ag Fs.a (una (oaV (a := a) (B := 34) (s := 5) (by decide)))
  have N6_h37 : xN (sI h36 a 11 (nI 0)) a 6 = a + 34 + 1 := N6_h36
  have S47_h37 : TapAt (sI h36 a 11 (nI 0)) (a + 47) (fun _ => 0) 0 := S47_h36.ag Fs.a (una (oaV (a := a) (B := 47) (s := 0) (by decide)))
  have N7_h37 : xN (sI h36 a 11 (nI 0)) a 7 = a + 47 + 1 := N7_h36
  have S49_h37 : ShAt (sI h36 a 11 (nI 0)) (a + 49) g00 := S49_h36.ag Fs.a (una (oaV (a := a) (B := 49) (s := 1) (by decide)))
  have NO_h37 : NOk (sI h36 a 11 (nI 0)) := NO_h36
  have N8_h37 : xN (sI h36 a 11 (nI 0)) a 8 = a + 49 + 1 := N8_h36
  have K_h37 : xK (sI h36 a 11 (nI 0)) = xK h ++ [5, 20, 20, 21, 21, 22, 22, 23, 22, 5, 20, 20, 21, 21, 22, 22, 23, 22, 5, 20, 20, 21, 21, 22, 22, 23, 22, 4, 24, 25, 22, 0, 22, 1, 21, 21, 27, 32, 21, 21, 21, 21, 21, 21, 21, 28, 3, 29, 2, 22, 22, 33, 31, 31, 31, 31, 31, 31, 31, 31, 22, 26] := K_h36
  have N9_h37 : xN (sI h36 a 11 (nI 0)) a 9 = a + 62 + 1 := N9_h36
  have I10_h37 : xI (sI h36 a 11 (nI 0)) a 10 = nI 0 := by rw [sI_at, if_neg (by decide)]; exact I10_h36
  have I11_h37 : xI (sI h36 a 11 (nI 0)) a 11 = nI 0 := by rw [sI_at, if_pos rfl]
  generalize sI h36 a 11 (nI 0) = h37 at LO_h37 S1_h37 N0_h37 S10_h37 N1_h37 S19_h37 N2_h37 I3_h37 S28_h37 N4_h37 N5_h37 S34_h37 N6_h37 S47_h37 N7_h37 S49_h37 NO_h37 N8_h37 K_h37 N9_h37 I10_h37 I11_h37 ⊢
  have len_h37 : (xK h37).length = a + 63 := by rw [K_h37, List.length_append, hlen]; rfl
  exact F.2.2.1 _ _ _ rfl (dx dX6_init 55 rfl) K_h37 ⟨rfl, NO_h37, LO_h37, N0_h37, N1_h37, N2_h37, N4_h37, N5_h37, N6_h37, N7_h37, N8_h37, N9_h37, S1_h37, S10_h37, S19_h37, S28_h37, S34_h37, S47_h37, S49_h37, I3_h37⟩
end
section
/-! PART 34: the reference: a village taken over from another model -/
/-- of the rows of people the first p from w -/
def vrow (u w : Vg) (p : Nat) : Vg := (vP u, vM u, vN u, fun c i => if 4 ≤ c ∧ i < p then vF w c i else vF u c i, vS u)
section TK
variable {h h1 : Hp} {k : Nat} {u w : Vg}
theorem MilAt.o0 (a : MilAt h k u) (f : Fr (k + 18) (k + 18 + 1) h h1) (q : ∀ i, i < 12 → xI h1 (k + 18) i = vF w 0 i) : MilAt h1 k (vcp u 0 w) :=
  ⟨by rw [f.I (by omega)]; exact a.eP, by rw [f.I (by omega)]; exact a.eM, by rw [f.I (by omega)]; exact a.eN, by rw [f.I (by omega)]; exact a.eS, fun i hi => q i hi, fun i hi => by rw [f.I (by omega)]; exact a.e1 hi, fun i hi => by rw [f.I (by omega)]; exact a.e2 hi, fun i hi => by rw [f.I (by omega)]; exact a.e3 hi, fun o ho c hc => by rw [f.I (by omega), a.eo ho hc]; show _ = if 4 + c = 0 then _ else _; rw [if_neg (by omega)], a.bP, a.bM, a.bN⟩
theorem MilAt.o1 (a : MilAt h k u) (f : Fr (k + 19) (k + 19 + 1) h h1) (q : ∀ i, i < 12 → xI h1 (k + 19) i = vF w 1 i) : MilAt h1 k (vcp u 1 w) :=
  ⟨by rw [f.I (by omega)]; exact a.eP, by rw [f.I (by omega)]; exact a.eM, by rw [f.I (by omega)]; exact a.eN, by rw [f.I (by omega)]; exact a.eS, fun i hi => by rw [f.I (by omega)]; exact a.e0 hi, fun i hi => q i hi, fun i hi => by rw [f.I (by omega)]; exact a.e2 hi, fun i hi => by rw [f.I (by omega)]; exact a.e3 hi, fun o ho c hc => by rw [f.I (by omega), a.eo ho hc]; show _ = if 4 + c = 1 then _ else _; rw [if_neg (by omega)], a.bP, a.bM, a.bN⟩
theorem MilAt.o2 (a : MilAt h k u) (f : Fr (k + 20) (k + 20 + 1) h h1) (q : ∀ i, i < 6 → xI h1 (k + 20) i = vF w 2 i) : MilAt h1 k (vcp u 2 w) :=
  ⟨by rw [f.I (by omega)]; exact a.eP, by rw [f.I (by omega)]; exact a.eM, by rw [f.I (by omega)]; exact a.eN, by rw [f.I (by omega)]; exact a.eS, fun i hi => by rw [f.I (by omega)]; exact a.e0 hi, fun i hi => by rw [f.I (by omega)]; exact a.e1 hi, fun i hi => q i hi, fun i hi => by rw [f.I (by omega)]; exact a.e3 hi, fun o ho c hc => by rw [f.I (by omega), a.eo ho hc]; show _ = if 4 + c = 2 then _ else _; rw [if_neg (by omega)], a.bP, a.bM, a.bN⟩
theorem MilAt.o3 (a : MilAt h k u) (f : Fr (k + 21) (k + 21 + 1) h h1) (q : ∀ i, i < 6 → xI h1 (k + 21) i = vF w 3 i) : MilAt h1 k (vcp u 3 w) :=
  ⟨by rw [f.I (by omega)]; exact a.eP, by rw [f.I (by omega)]; exact a.eM, by rw [f.I (by omega)]; exact a.eN, by rw [f.I (by omega)]; exact a.eS, fun i hi => by rw [f.I (by omega)]; exact a.e0 hi, fun i hi => by rw [f.I (by omega)]; exact a.e1 hi, fun i hi => by rw [f.I (by omega)]; exact a.e2 hi, fun i hi => q i hi, fun o ho c hc => by rw [f.I (by omega), a.eo ho hc]; show _ = if 4 + c = 3 then _ else _; rw [if_neg (by omega)], a.bP, a.bM, a.bN⟩
theorem MilAt.r0 (a : MilAt h k u) : MilAt h k (vrow u w 0) :=
  ⟨a.eP, a.eM, a.eN, a.eS, fun i hi => a.e0 hi, fun i hi => a.e1 hi, fun i hi => a.e2 hi, fun i hi => a.e3 hi, fun o ho c hc => by rw [a.eo ho hc]; show _ = if 4 ≤ 4 + c ∧ o < 0 then _ else _; rw [if_neg (by omega)], a.bP, a.bM, a.bN⟩
theorem MilAt.rs {p : Nat} (a : MilAt h k (vrow u w p)) (f : Fr (k + 23 + p) (k + 23 + p + 1) h h1) (q : ∀ c, c < 4 → xI h1 (k + 23 + p) c = vF w (4 + c) p) : MilAt h1 k (vrow u w (p + 1)) := by
  refine ⟨by rw [f.I (by omega)]; exact a.eP, by rw [f.I (by omega)]; exact a.eM, by rw [f.I (by omega)]; exact a.eN, by rw [f.I (by omega)]; exact a.eS, fun i hi => by rw [f.I (by omega)]; exact a.e0 hi, fun i hi => by rw [f.I (by omega)]; exact a.e1 hi, fun i hi => by rw [f.I (by omega)]; exact a.e2 hi, fun i hi => by rw [f.I (by omega)]; exact a.e3 hi, fun o ho c hc => ?_, a.bP, a.bM, a.bN⟩
  by_cases e : o = p
  · subst e
    rw [q c hc]; show _ = if 4 ≤ 4 + c ∧ o < o + 1 then _ else _
    rw [if_pos ⟨by omega, by omega⟩]
  · rw [f.I (by omega), a.eo ho hc]
    show (if 4 ≤ 4 + c ∧ o < p then _ else _) = if 4 ≤ 4 + c ∧ o < p + 1 then _ else _
    by_cases z : o < p
    · rw [if_pos ⟨by omega, z⟩, if_pos ⟨by omega, by omega⟩]
    · rw [if_neg (by omega), if_neg (by omega)]
theorem MilAt.to (a : MilAt h k u) (h1 : vP u = vP w) (h2 : vM u = vM w) (h3 : vN u = vN w) (h5 : vS u = vS w) (q0 : ∀ i, vF u 0 i = vF w 0 i) (q1 : ∀ i, vF u 1 i = vF w 1 i) (q2 : ∀ i, vF u 2 i = vF w 2 i) (q3 : ∀ i, vF u 3 i = vF w 3 i) (q4 : ∀ o, o < 8 → ∀ c, c < 4 → vF u (4 + c) o = vF w (4 + c) o) : MilAt h k w :=
  ⟨by rw [← h1]; exact a.eP, by rw [← h2]; exact a.eM, by rw [← h3]; exact a.eN, by rw [← h5]; exact a.eS, fun i hi => by rw [← q0]; exact a.e0 hi, fun i hi => by rw [← q1]; exact a.e1 hi, fun i hi => by rw [← q2]; exact a.e2 hi, fun i hi => by rw [← q3]; exact a.e3 hi, fun o ho c hc => by rw [← q4 o ho c hc]; exact a.eo ho hc, by rw [← h1]; exact a.bP, by rw [← h2]; exact a.bM, by rw [← h3]; exact a.bN⟩
end TK
set_option maxHeartbeats 4000000 in
theorem c_over20 {l : Launch} {h : Hp} {a b : Nat} (hab : a ≠ b)  : Ms l yX7_over cX7_over 3 none 1 [vr 20 a, vr 20 b] h (xK h) (fun r h' => r = none ∧ (∀ i, i < 12 → xI h' b i = xI h a i) ∧ Fr b (b + 1) h h') := by
  refine Ms.of (by decide) (Nat.le_of_ble_eq_true rfl) (fun G C X F => ?_)
  have C : Cx G cX7_over 3 RX7 := C
  show Rr G 0 [(0, vr 20 a), (1, vr 20 b)] [] h
  refine r_iconst (v := nI 0) C (dx dX7_over 0 rfl) rfl ?_
  refine r_istore_n (ls' := [(0, vr 20 a), (1, vr 20 b), (2, vi (nI 0))]) C (dx dX7_over 1 rfl) (by decide) [1, 2, 0] rfl ?_
  refine loopU (Φ := fun p => ∀ h9, (∀ i, i < p → xI h9 b i = xI h a i) → Fr b (b + 1) h h9 → xK h9 = xK h → Rr G 2 [(0, vr 20 a), (1, vr 20 b), (2, vi (nI p))] [] h9) (N := 12) ?_ ?_ 0 (by omega) _ (fun i hi => absurd hi (by omega)) Fr.rf rfl
  ·
    intro h9 q9 f9 k9
    refine r_iload_n C (dx dX7_over 2 rfl) rfl ?_
    refine r_aload_n C (dx dX7_over 3 rfl) rfl ?_
    refine r_alen0 (v := nI 12) C rfl rfl rfl (dx dX7_over 4 rfl) ?_
    refine rn_ge (a := 12) (b := 12) (tgt := 20) C (by omega) (by omega) (dx dX7_over 5 rfl) (by decide) (fun c1 => ?_) (fun c1 => ?_)
    · first
      | (omega; done)
      | (
          have c1 : 12 ≤ 12 := c1
          exact F.2.2.1 _ _ _ rfl (dx dX7_over 14 rfl) k9 ⟨rfl, q9, f9⟩)
    · first
      | (omega; done)
  ·
    intro p hp ih h9 q9 f9 k9
    refine r_iload_n C (dx dX7_over 2 rfl) rfl ?_
    refine r_aload_n C (dx dX7_over 3 rfl) rfl ?_
    refine r_alen0 (v := nI 12) C rfl rfl rfl (dx dX7_over 4 rfl) ?_
    refine rn_ge (a := p) (b := 12) (tgt := 20) C (by omega) (by omega) (dx dX7_over 5 rfl) (by decide) (fun c2 => ?_) (fun c2 => ?_)
    · first
      | (omega; done)
      | (
          have c2 : 12 ≤ p := c2
          exact F.2.2.1 _ _ _ rfl (dx dX7_over 14 rfl) k9 ⟨rfl, q9, f9⟩)
    · first
      | (omega; done)
      | (
          have c2 : p < 12 := c2
          refine r_aload_n C (dx dX7_over 6 rfl) rfl ?_
          refine r_iload_n C (dx dX7_over 7 rfl) rfl ?_
          refine r_aload_n C (dx dX7_over 8 rfl) rfl ?_
          refine r_iload_n C (dx dX7_over 9 rfl) rfl ?_
          refine r_iald (j := p) (x := xI h9 a p) C rfl rfl (by decide) rfl (by omega) (dx dX7_over 10 rfl) rfl ?_
          refine r_iast (j := p) C rfl rfl (by decide) rfl (by omega) (dx dX7_over 11 rfl) ?_
          refine rn_iinc (a := p) (k := 1) (ls' := [(0, vr 20 a), (1, vr 20 b), (2, vi (nI (p + 1)))]) C (dx dX7_over 12 rfl) rfl rfl (by decide) [1, 2, 0] rfl ?_
          refine r_goto (tgt := 2) C (dx dX7_over 13 rfl) (by decide) ?_
          exact ih _ (fun i hi => by rw [sI_at]; split; (next e => rw [e]; exact f9.I (by omega) _); exact q9 i (by omega)) (f9.tr (Fr.sI (by omega) (by omega))) k9)
set_option maxHeartbeats 4000000 in
theorem c_over21 {l : Launch} {h : Hp} {a b : Nat} (hab : a ≠ b)  : Ms l yX7_over cX7_over 3 none 1 [vr 21 a, vr 21 b] h (xK h) (fun r h' => r = none ∧ (∀ i, i < 6 → xI h' b i = xI h a i) ∧ Fr b (b + 1) h h') := by
  refine Ms.of (by decide) (Nat.le_of_ble_eq_true rfl) (fun G C X F => ?_)
  have C : Cx G cX7_over 3 RX7 := C
  show Rr G 0 [(0, vr 21 a), (1, vr 21 b)] [] h
  refine r_iconst (v := nI 0) C (dx dX7_over 0 rfl) rfl ?_
  refine r_istore_n (ls' := [(0, vr 21 a), (1, vr 21 b), (2, vi (nI 0))]) C (dx dX7_over 1 rfl) (by decide) [1, 2, 0] rfl ?_
  refine loopU (Φ := fun p => ∀ h9, (∀ i, i < p → xI h9 b i = xI h a i) → Fr b (b + 1) h h9 → xK h9 = xK h → Rr G 2 [(0, vr 21 a), (1, vr 21 b), (2, vi (nI p))] [] h9) (N := 6) ?_ ?_ 0 (by omega) _ (fun i hi => absurd hi (by omega)) Fr.rf rfl
  ·
    intro h9 q9 f9 k9
    refine r_iload_n C (dx dX7_over 2 rfl) rfl ?_
    refine r_aload_n C (dx dX7_over 3 rfl) rfl ?_
    refine r_alen0 (v := nI 6) C rfl rfl rfl (dx dX7_over 4 rfl) ?_
    refine rn_ge (a := 6) (b := 6) (tgt := 20) C (by omega) (by omega) (dx dX7_over 5 rfl) (by decide) (fun c1 => ?_) (fun c1 => ?_)
    · first
      | (omega; done)
      | (
          have c1 : 6 ≤ 6 := c1
          exact F.2.2.1 _ _ _ rfl (dx dX7_over 14 rfl) k9 ⟨rfl, q9, f9⟩)
    · first
      | (omega; done)
  ·
    intro p hp ih h9 q9 f9 k9
    refine r_iload_n C (dx dX7_over 2 rfl) rfl ?_
    refine r_aload_n C (dx dX7_over 3 rfl) rfl ?_
    refine r_alen0 (v := nI 6) C rfl rfl rfl (dx dX7_over 4 rfl) ?_
    refine rn_ge (a := p) (b := 6) (tgt := 20) C (by omega) (by omega) (dx dX7_over 5 rfl) (by decide) (fun c2 => ?_) (fun c2 => ?_)
    · first
      | (omega; done)
      | (
          have c2 : 6 ≤ p := c2
          exact F.2.2.1 _ _ _ rfl (dx dX7_over 14 rfl) k9 ⟨rfl, q9, f9⟩)
    · first
      | (omega; done)
      | (
          have c2 : p < 6 := c2
          refine r_aload_n C (dx dX7_over 6 rfl) rfl ?_
          refine r_iload_n C (dx dX7_over 7 rfl) rfl ?_
          refine r_aload_n C (dx dX7_over 8 rfl) rfl ?_
          refine r_iload_n C (dx dX7_over 9 rfl) rfl ?_
          refine r_iald (j := p) (x := xI h9 a p) C rfl rfl (by decide) rfl (by omega) (dx dX7_over 10 rfl) rfl ?_
          refine r_iast (j := p) C rfl rfl (by decide) rfl (by omega) (dx dX7_over 11 rfl) ?_
          refine rn_iinc (a := p) (k := 1) (ls' := [(0, vr 21 a), (1, vr 21 b), (2, vi (nI (p + 1)))]) C (dx dX7_over 12 rfl) rfl rfl (by decide) [1, 2, 0] rfl ?_
          refine r_goto (tgt := 2) C (dx dX7_over 13 rfl) (by decide) ?_
          exact ih _ (fun i hi => by rw [sI_at]; split; (next e => rw [e]; exact f9.I (by omega) _); exact q9 i (by omega)) (f9.tr (Fr.sI (by omega) (by omega))) k9)
set_option maxHeartbeats 4000000 in
theorem c_over27 {l : Launch} {h : Hp} {a b : Nat} (hab : a ≠ b)  : Ms l yX7_over cX7_over 3 none 1 [vr 27 a, vr 27 b] h (xK h) (fun r h' => r = none ∧ (∀ i, i < 4 → xI h' b i = xI h a i) ∧ Fr b (b + 1) h h') := by
  refine Ms.of (by decide) (Nat.le_of_ble_eq_true rfl) (fun G C X F => ?_)
  have C : Cx G cX7_over 3 RX7 := C
  show Rr G 0 [(0, vr 27 a), (1, vr 27 b)] [] h
  refine r_iconst (v := nI 0) C (dx dX7_over 0 rfl) rfl ?_
  refine r_istore_n (ls' := [(0, vr 27 a), (1, vr 27 b), (2, vi (nI 0))]) C (dx dX7_over 1 rfl) (by decide) [1, 2, 0] rfl ?_
  refine loopU (Φ := fun p => ∀ h9, (∀ i, i < p → xI h9 b i = xI h a i) → Fr b (b + 1) h h9 → xK h9 = xK h → Rr G 2 [(0, vr 27 a), (1, vr 27 b), (2, vi (nI p))] [] h9) (N := 4) ?_ ?_ 0 (by omega) _ (fun i hi => absurd hi (by omega)) Fr.rf rfl
  ·
    intro h9 q9 f9 k9
    refine r_iload_n C (dx dX7_over 2 rfl) rfl ?_
    refine r_aload_n C (dx dX7_over 3 rfl) rfl ?_
    refine r_alen0 (v := nI 4) C rfl rfl rfl (dx dX7_over 4 rfl) ?_
    refine rn_ge (a := 4) (b := 4) (tgt := 20) C (by omega) (by omega) (dx dX7_over 5 rfl) (by decide) (fun c1 => ?_) (fun c1 => ?_)
    · first
      | (omega; done)
      | (
          have c1 : 4 ≤ 4 := c1
          exact F.2.2.1 _ _ _ rfl (dx dX7_over 14 rfl) k9 ⟨rfl, q9, f9⟩)
    · first
      | (omega; done)
  ·
    intro p hp ih h9 q9 f9 k9
    refine r_iload_n C (dx dX7_over 2 rfl) rfl ?_
    refine r_aload_n C (dx dX7_over 3 rfl) rfl ?_
    refine r_alen0 (v := nI 4) C rfl rfl rfl (dx dX7_over 4 rfl) ?_
    refine rn_ge (a := p) (b := 4) (tgt := 20) C (by omega) (by omega) (dx dX7_over 5 rfl) (by decide) (fun c2 => ?_) (fun c2 => ?_)
    · first
      | (omega; done)
      | (
          have c2 : 4 ≤ p := c2
          exact F.2.2.1 _ _ _ rfl (dx dX7_over 14 rfl) k9 ⟨rfl, q9, f9⟩)
    · first
      | (omega; done)
      | (
          have c2 : p < 4 := c2
          refine r_aload_n C (dx dX7_over 6 rfl) rfl ?_
          refine r_iload_n C (dx dX7_over 7 rfl) rfl ?_
          refine r_aload_n C (dx dX7_over 8 rfl) rfl ?_
          refine r_iload_n C (dx dX7_over 9 rfl) rfl ?_
          refine r_iald (j := p) (x := xI h9 a p) C rfl rfl (by decide) rfl (by omega) (dx dX7_over 10 rfl) rfl ?_
          refine r_iast (j := p) C rfl rfl (by decide) rfl (by omega) (dx dX7_over 11 rfl) ?_
          refine rn_iinc (a := p) (k := 1) (ls' := [(0, vr 27 a), (1, vr 27 b), (2, vi (nI (p + 1)))]) C (dx dX7_over 12 rfl) rfl rfl (by decide) [1, 2, 0] rfl ?_
          refine r_goto (tgt := 2) C (dx dX7_over 13 rfl) (by decide) ?_
          exact ih _ (fun i hi => by rw [sI_at]; split; (next e => rw [e]; exact f9.I (by omega) _); exact q9 i (by omega)) (f9.tr (Fr.sI (by omega) (by omega))) k9)
set_option maxHeartbeats 4000000 in
theorem c_X7_takeFrom {l : Launch} {h : Hp} {k : Nat} {v : Vg} (hm : MilAt h k v) {b : Nat} {w : Vg} (hw : MilAt h b w) (hd : k + 32 ≤ b ∨ b + 32 ≤ k) : Ms l yX7_takeFrom cX7_takeFrom 3 none 2 [vr 7 k, vr 7 b] h (xK h) (fun r h' => r = none ∧ MilAt h' k w ∧ Kp k h h') := by
  refine Ms.of (by decide) (Nat.le_of_ble_eq_true rfl) (fun G C X F => ?_)
  have C : Cx G cX7_takeFrom 3 RX7 := C
  show Rr G 0 [(0, vr 7 k), (1, vr 7 b)] [] h
  have bP := hm.bP
  have bM := hm.bM
  have bN := hm.bN
  have q0 : ¬ VC k b := by unfold VC; omega
  have q1 : un (VC k) (b + 18) (b + 31) := fun a h1 h2 => by unfold VC; omega
  refine r_aload_n C (dx dX7_takeFrom 0 rfl) rfl ?_
  refine r_aload_n C (dx dX7_takeFrom 1 rfl) rfl ?_
  refine g_X7_64 (x := nI (vP w)) C (dx dX7_takeFrom 2 rfl) hw.eP ?_
  refine p_X7_64 C (dx dX7_takeFrom 3 rfl) rfl rfl ?_
  have mh1 : MilAt (sI h k 10 (nI (vP w))) k (vsP v (vP w)) := hm.sP (n := vP w) hw.bP
  have ph1 : Kp k h (sI h k 10 (nI (vP w))) := Kp.f (by decide)
  have kh1 : xK (sI h k 10 (nI (vP w))) = xK h := rfl
  generalize sI h k 10 (nI (vP w)) = h1 at mh1 ph1 kh1 ⊢
  have bh1 : MilAt h1 b w := hw.ag ph1.2.2 q0 q1
  refine r_aload_n C (dx dX7_takeFrom 4 rfl) rfl ?_
  refine g_X7_40 C (dx dX7_takeFrom 5 rfl) ?_
  refine r_aload_n C (dx dX7_takeFrom 6 rfl) rfl ?_
  refine g_X7_40 C (dx dX7_takeFrom 7 rfl) ?_
  refine r_cs (as := [vr 20 (b + 18), vr 20 (k + 18)]) (st := []) C X I_X7_over l_X7_350 (c_over20 (show b + 18 ≠ k + 18 by omega)) (by decide) (Nat.le_of_ble_eq_true rfl) List.prefix_rfl (pfx_eq kh1) (Nat.le_of_ble_eq_true rfl) rfl (dx dX7_takeFrom 8 rfl) ?_
  rintro _ h2 ⟨rfl, qh2, fh2⟩ kkh2
  have mh2 : MilAt h2 k (vcp (vsP v (vP w)) 0 w) := mh1.o0 fh2 (fun i hi => (qh2 i hi).trans (bh1.e0 hi))
  have ph2 : Kp k h h2 := ph1.tr (Kp.fr fh2 (by omega) (by omega))
  have kh2 : xK h2 = xK h := (kkh2).trans kh1
  have bh2 : MilAt h2 b w := hw.ag ph2.2.2 q0 q1
  refine r_aload_n C (dx dX7_takeFrom 9 rfl) rfl ?_
  refine g_X7_43 C (dx dX7_takeFrom 10 rfl) ?_
  refine r_aload_n C (dx dX7_takeFrom 11 rfl) rfl ?_
  refine g_X7_43 C (dx dX7_takeFrom 12 rfl) ?_
  refine r_cs (as := [vr 20 (b + 19), vr 20 (k + 19)]) (st := []) C X I_X7_over l_X7_350 (c_over20 (show b + 19 ≠ k + 19 by omega)) (by decide) (Nat.le_of_ble_eq_true rfl) List.prefix_rfl (pfx_eq kh2) (Nat.le_of_ble_eq_true rfl) rfl (dx dX7_takeFrom 13 rfl) ?_
  rintro _ h3 ⟨rfl, qh3, fh3⟩ kkh3
  have mh3 : MilAt h3 k (vcp (vcp (vsP v (vP w)) 0 w) 1 w) := mh2.o1 fh3 (fun i hi => (qh3 i hi).trans (bh2.e1 hi))
  have ph3 : Kp k h h3 := ph2.tr (Kp.fr fh3 (by omega) (by omega))
  have kh3 : xK h3 = xK h := (kkh3).trans kh2
  have bh3 : MilAt h3 b w := hw.ag ph3.2.2 q0 q1
  refine r_aload_n C (dx dX7_takeFrom 14 rfl) rfl ?_
  refine r_aload_n C (dx dX7_takeFrom 15 rfl) rfl ?_
  refine g_X7_71 (x := nI (vM w)) C (dx dX7_takeFrom 16 rfl) bh3.eM ?_
  refine p_X7_71 C (dx dX7_takeFrom 17 rfl) rfl rfl ?_
  have mh4 : MilAt (sI h3 k 13 (nI (vM w))) k (vsM (vcp (vcp (vsP v (vP w)) 0 w) 1 w) (vM w)) := mh3.sM (n := vM w) hw.bM
  have ph4 : Kp k h (sI h3 k 13 (nI (vM w))) := ph3.tr (Kp.f (by decide))
  have kh4 : xK (sI h3 k 13 (nI (vM w))) = xK h := kh3
  generalize sI h3 k 13 (nI (vM w)) = h4 at mh4 ph4 kh4 ⊢
  have bh4 : MilAt h4 b w := hw.ag ph4.2.2 q0 q1
  refine r_aload_n C (dx dX7_takeFrom 18 rfl) rfl ?_
  refine g_X7_46 C (dx dX7_takeFrom 19 rfl) ?_
  refine r_aload_n C (dx dX7_takeFrom 20 rfl) rfl ?_
  refine g_X7_46 C (dx dX7_takeFrom 21 rfl) ?_
  refine r_cs (as := [vr 21 (b + 20), vr 21 (k + 20)]) (st := []) C X I_X7_over l_X7_350 (c_over21 (show b + 20 ≠ k + 20 by omega)) (by decide) (Nat.le_of_ble_eq_true rfl) List.prefix_rfl (pfx_eq kh4) (Nat.le_of_ble_eq_true rfl) rfl (dx dX7_takeFrom 22 rfl) ?_
  rintro _ h5 ⟨rfl, qh5, fh5⟩ kkh5
  have mh5 : MilAt h5 k (vcp (vsM (vcp (vcp (vsP v (vP w)) 0 w) 1 w) (vM w)) 2 w) := mh4.o2 fh5 (fun i hi => (qh5 i hi).trans (bh4.e2 hi))
  have ph5 : Kp k h h5 := ph4.tr (Kp.fr fh5 (by omega) (by omega))
  have kh5 : xK h5 = xK h := (kkh5).trans kh4
  have bh5 : MilAt h5 b w := hw.ag ph5.2.2 q0 q1
  refine r_aload_n C (dx dX7_takeFrom 23 rfl) rfl ?_
  refine g_X7_49 C (dx dX7_takeFrom 24 rfl) ?_
  refine r_aload_n C (dx dX7_takeFrom 25 rfl) rfl ?_
  refine g_X7_49 C (dx dX7_takeFrom 26 rfl) ?_
  refine r_cs (as := [vr 21 (b + 21), vr 21 (k + 21)]) (st := []) C X I_X7_over l_X7_350 (c_over21 (show b + 21 ≠ k + 21 by omega)) (by decide) (Nat.le_of_ble_eq_true rfl) List.prefix_rfl (pfx_eq kh5) (Nat.le_of_ble_eq_true rfl) rfl (dx dX7_takeFrom 27 rfl) ?_
  rintro _ h6 ⟨rfl, qh6, fh6⟩ kkh6
  have mh6 : MilAt h6 k (vcp (vcp (vsM (vcp (vcp (vsP v (vP w)) 0 w) 1 w) (vM w)) 2 w) 3 w) := mh5.o3 fh6 (fun i hi => (qh6 i hi).trans (bh5.e3 hi))
  have ph6 : Kp k h h6 := ph5.tr (Kp.fr fh6 (by omega) (by omega))
  have kh6 : xK h6 = xK h := (kkh6).trans kh5
  have bh6 : MilAt h6 b w := hw.ag ph6.2.2 q0 q1
  refine r_aload_n C (dx dX7_takeFrom 28 rfl) rfl ?_
  refine r_aload_n C (dx dX7_takeFrom 29 rfl) rfl ?_
  refine g_X7_74 (x := nI (vN w)) C (dx dX7_takeFrom 30 rfl) bh6.eN ?_
  refine p_X7_74 C (dx dX7_takeFrom 31 rfl) rfl rfl ?_
  have mh7 : MilAt (sI h6 k 16 (nI (vN w))) k (vsN (vcp (vcp (vsM (vcp (vcp (vsP v (vP w)) 0 w) 1 w) (vM w)) 2 w) 3 w) (vN w)) := mh6.sN (n := vN w) hw.bN
  have ph7 : Kp k h (sI h6 k 16 (nI (vN w))) := ph6.tr (Kp.f (by decide))
  have kh7 : xK (sI h6 k 16 (nI (vN w))) = xK h := kh6
  generalize sI h6 k 16 (nI (vN w)) = h7 at mh7 ph7 kh7 ⊢
  have bh7 : MilAt h7 b w := hw.ag ph7.2.2 q0 q1
  refine r_iconst (v := nI 0) C (dx dX7_takeFrom 32 rfl) rfl ?_
  refine r_istore_n (ls' := [(0, vr 7 k), (1, vr 7 b), (2, vi (nI 0))]) C (dx dX7_takeFrom 33 rfl) (by decide) [1, 2, 0] rfl ?_
  refine loopU (Φ := fun p => ∀ h9, MilAt h9 k (vrow (vsN (vcp (vcp (vsM (vcp (vcp (vsP v (vP w)) 0 w) 1 w) (vM w)) 2 w) 3 w) (vN w)) w p) → Kp k h h9 → xK h9 = xK h → Rr G 70 [(0, vr 7 k), (1, vr 7 b), (2, vi (nI p))] [] h9) (N := 8) ?_ ?_ 0 (by omega) _ mh7.r0 ph7 kh7
  ·
    intro h9 m9 p9 k9
    have b9 : MilAt h9 b w := hw.ag p9.2.2 q0 q1
    refine r_iload_n C (dx dX7_takeFrom 34 rfl) rfl ?_
    refine r_bipush (v := nI 8) C (dx dX7_takeFrom 35 rfl) rfl ?_
    refine rn_ge (a := 8) (b := 8) (tgt := 97) C (by omega) (by omega) (dx dX7_takeFrom 36 rfl) (by decide) (fun c8 => ?_) (fun c8 => ?_)
    · first
      | (omega; done)
      | (
          have c8 : 8 ≤ 8 := c8
          refine r_aload_n C (dx dX7_takeFrom 48 rfl) rfl ?_
          refine r_aload_n C (dx dX7_takeFrom 49 rfl) rfl ?_
          refine g_X7_339 (x := xI h9 b 18) C (dx dX7_takeFrom 50 rfl) rfl ?_
          refine p_X7_339 C (dx dX7_takeFrom 51 rfl) rfl rfl ?_
          have mh9 : MilAt (sI h9 k 18 (xI h9 b 18)) k (vrow (vsN (vcp (vcp (vsM (vcp (vcp (vsP v (vP w)) 0 w) 1 w) (vM w)) 2 w) 3 w) (vN w)) w 8) := m9.f (by decide) (by decide) (by decide) (by decide)
          have ph9 : Kp k h (sI h9 k 18 (xI h9 b 18)) := p9.tr (Kp.f (by decide))
          have kh9 : xK (sI h9 k 18 (xI h9 b 18)) = xK h := k9
          generalize sI h9 k 18 (xI h9 b 18) = h9 at mh9 ph9 kh9 ⊢
          have bh9 : MilAt h9 b w := hw.ag ph9.2.2 q0 q1
          refine r_aload_n C (dx dX7_takeFrom 52 rfl) rfl ?_
          refine r_aload_n C (dx dX7_takeFrom 53 rfl) rfl ?_
          refine g_X7_347 (x := xI h9 b 19) C (dx dX7_takeFrom 54 rfl) rfl ?_
          refine p_X7_347 C (dx dX7_takeFrom 55 rfl) rfl rfl ?_
          have mh10 : MilAt (sI h9 k 19 (xI h9 b 19)) k (vrow (vsN (vcp (vcp (vsM (vcp (vcp (vsP v (vP w)) 0 w) 1 w) (vM w)) 2 w) 3 w) (vN w)) w 8) := mh9.f (by decide) (by decide) (by decide) (by decide)
          have ph10 : Kp k h (sI h9 k 19 (xI h9 b 19)) := ph9.tr (Kp.f (by decide))
          have kh10 : xK (sI h9 k 19 (xI h9 b 19)) = xK h := kh9
          generalize sI h9 k 19 (xI h9 b 19) = h10 at mh10 ph10 kh10 ⊢
          have bh10 : MilAt h10 b w := hw.ag ph10.2.2 q0 q1
          refine r_aload_n C (dx dX7_takeFrom 56 rfl) rfl ?_
          refine r_aload_n C (dx dX7_takeFrom 57 rfl) rfl ?_
          refine g_X7_57 (x := vS w) C (dx dX7_takeFrom 58 rfl) bh10.eS ?_
          refine p_X7_57 C (dx dX7_takeFrom 59 rfl) rfl rfl ?_
          have mh11 : MilAt (sI h10 k 20 (vS w)) k (vsS (vrow (vsN (vcp (vcp (vsM (vcp (vcp (vsP v (vP w)) 0 w) 1 w) (vM w)) 2 w) 3 w) (vN w)) w 8) (vS w)) := mh10.sS (x := vS w)
          have ph11 : Kp k h (sI h10 k 20 (vS w)) := ph10.tr (Kp.f (by decide))
          have kh11 : xK (sI h10 k 20 (vS w)) = xK h := kh10
          generalize sI h10 k 20 (vS w) = h11 at mh11 ph11 kh11 ⊢
          have bh11 : MilAt h11 b w := hw.ag ph11.2.2 q0 q1
          exact F.2.2.1 _ _ _ rfl (dx dX7_takeFrom 60 rfl) kh11 ⟨rfl, mh11.to rfl rfl rfl rfl (fun _ => rfl) (fun _ => rfl) (fun _ => rfl) (fun _ => rfl) (fun o ho c hc => if_pos ⟨by omega, ho⟩), ph11⟩)
    · first
      | (omega; done)
  ·
    intro p hp ih h9 m9 p9 k9
    have b9 : MilAt h9 b w := hw.ag p9.2.2 q0 q1
    refine r_iload_n C (dx dX7_takeFrom 34 rfl) rfl ?_
    refine r_bipush (v := nI 8) C (dx dX7_takeFrom 35 rfl) rfl ?_
    refine rn_ge (a := p) (b := 8) (tgt := 97) C (by omega) (by omega) (dx dX7_takeFrom 36 rfl) (by decide) (fun c13 => ?_) (fun c13 => ?_)
    · first
      | (omega; done)
      | (
          have c13 : 8 ≤ p := c13
          refine r_aload_n C (dx dX7_takeFrom 48 rfl) rfl ?_
          refine r_aload_n C (dx dX7_takeFrom 49 rfl) rfl ?_
          refine g_X7_339 (x := xI h9 b 18) C (dx dX7_takeFrom 50 rfl) rfl ?_
          refine p_X7_339 C (dx dX7_takeFrom 51 rfl) rfl rfl ?_
          have mh14 : MilAt (sI h9 k 18 (xI h9 b 18)) k (vrow (vsN (vcp (vcp (vsM (vcp (vcp (vsP v (vP w)) 0 w) 1 w) (vM w)) 2 w) 3 w) (vN w)) w p) := m9.f (by decide) (by decide) (by decide) (by decide)
          have ph14 : Kp k h (sI h9 k 18 (xI h9 b 18)) := p9.tr (Kp.f (by decide))
          have kh14 : xK (sI h9 k 18 (xI h9 b 18)) = xK h := k9
          generalize sI h9 k 18 (xI h9 b 18) = h14 at mh14 ph14 kh14 ⊢
          have bh14 : MilAt h14 b w := hw.ag ph14.2.2 q0 q1
          refine r_aload_n C (dx dX7_takeFrom 52 rfl) rfl ?_
          refine r_aload_n C (dx dX7_takeFrom 53 rfl) rfl ?_
          refine g_X7_347 (x := xI h14 b 19) C (dx dX7_takeFrom 54 rfl) rfl ?_
          refine p_X7_347 C (dx dX7_takeFrom 55 rfl) rfl rfl ?_
          have mh15 : MilAt (sI h14 k 19 (xI h14 b 19)) k (vrow (vsN (vcp (vcp (vsM (vcp (vcp (vsP v (vP w)) 0 w) 1 w) (vM w)) 2 w) 3 w) (vN w)) w p) := mh14.f (by decide) (by decide) (by decide) (by decide)
          have ph15 : Kp k h (sI h14 k 19 (xI h14 b 19)) := ph14.tr (Kp.f (by decide))
          have kh15 : xK (sI h14 k 19 (xI h14 b 19)) = xK h := kh14
          generalize sI h14 k 19 (xI h14 b 19) = h15 at mh15 ph15 kh15 ⊢
          have bh15 : MilAt h15 b w := hw.ag ph15.2.2 q0 q1
          refine r_aload_n C (dx dX7_takeFrom 56 rfl) rfl ?_
          refine r_aload_n C (dx dX7_takeFrom 57 rfl) rfl ?_
          refine g_X7_57 (x := vS w) C (dx dX7_takeFrom 58 rfl) bh15.eS ?_
          refine p_X7_57 C (dx dX7_takeFrom 59 rfl) rfl rfl ?_
          have mh16 : MilAt (sI h15 k 20 (vS w)) k (vsS (vrow (vsN (vcp (vcp (vsM (vcp (vcp (vsP v (vP w)) 0 w) 1 w) (vM w)) 2 w) 3 w) (vN w)) w p) (vS w)) := mh15.sS (x := vS w)
          have ph16 : Kp k h (sI h15 k 20 (vS w)) := ph15.tr (Kp.f (by decide))
          have kh16 : xK (sI h15 k 20 (vS w)) = xK h := kh15
          generalize sI h15 k 20 (vS w) = h16 at mh16 ph16 kh16 ⊢
          have bh16 : MilAt h16 b w := hw.ag ph16.2.2 q0 q1
          exact F.2.2.1 _ _ _ rfl (dx dX7_takeFrom 60 rfl) kh16 ⟨rfl, mh16.to rfl rfl rfl rfl (fun _ => rfl) (fun _ => rfl) (fun _ => rfl) (fun _ => rfl) (fun o ho c hc => if_pos ⟨by omega, ho⟩), ph16⟩)
    · first
      | (omega; done)
      | (
          have c13 : p < 8 := c13
          refine r_aload_n C (dx dX7_takeFrom 37 rfl) rfl ?_
          refine g_X7_54 C (dx dX7_takeFrom 38 rfl) ?_
          refine r_iload_n C (dx dX7_takeFrom 39 rfl) rfl ?_
          refine r_aald4 (j := p) C rfl rfl (by decide) rfl (by omega) (dx dX7_takeFrom 40 rfl) ?_
          refine r_aload_n C (dx dX7_takeFrom 41 rfl) rfl ?_
          refine g_X7_54 C (dx dX7_takeFrom 42 rfl) ?_
          refine r_iload_n C (dx dX7_takeFrom 43 rfl) rfl ?_
          refine r_aald4 (j := p) C rfl rfl (by decide) rfl (by omega) (dx dX7_takeFrom 44 rfl) ?_
          refine r_cs (as := [vr 27 (b + 23 + p), vr 27 (k + 23 + p)]) (st := []) C X I_X7_over l_X7_350 (c_over27 (show b + 23 + p ≠ k + 23 + p by omega)) (by decide) (Nat.le_of_ble_eq_true rfl) List.prefix_rfl (pfx_eq k9) (Nat.le_of_ble_eq_true rfl) rfl (dx dX7_takeFrom 45 rfl) ?_
          rintro _ h17 ⟨rfl, qh17, fh17⟩ kkh17
          have mh17 : MilAt h17 k (vrow (vsN (vcp (vcp (vsM (vcp (vcp (vsP v (vP w)) 0 w) 1 w) (vM w)) 2 w) 3 w) (vN w)) w (p + 1)) := m9.rs fh17 (fun i hi => (qh17 i hi).trans (b9.eo (by omega) hi))
          have ph17 : Kp k h h17 := p9.tr (Kp.fr fh17 (by omega) (by omega))
          have kh17 : xK h17 = xK h := (kkh17).trans k9
          have bh17 : MilAt h17 b w := hw.ag ph17.2.2 q0 q1
          refine rn_iinc (a := p) (k := 1) (ls' := [(0, vr 7 k), (1, vr 7 b), (2, vi (nI (p + 1)))]) C (dx dX7_takeFrom 46 rfl) rfl rfl (by decide) [1, 2, 0] rfl ?_
          refine r_goto (tgt := 70) C (dx dX7_takeFrom 47 rfl) (by decide) ?_
          exact ih _ mh17 ph17 kh17)
end
section
/-! PART 35: the reference: the models behind it -/
def mdK : List Nat := [7, 22, 22, 22, 33, 31, 31, 31, 31, 31, 31, 31, 31, 31, 22, 22, 30, 22, 20, 20, 21, 21, 34, 27, 27, 27, 27, 27, 27, 27, 27, 20]
def mk1 (b : Bool) : List Nat := if b then mdK else []
/-- the kinds of cells, where there are models behind -/
def AL (P : List Nat) (κ τ : Bool) : List Nat := P ++ (mdK ++ (mk1 κ ++ mk1 τ))
theorem AL_len {P : List Nat} {κ τ : Bool} : (AL P κ τ).length = P.length + 32 + (if κ then 32 else 0) + (if τ then 32 else 0) := by
  unfold AL
  rw [List.length_append, List.length_append, List.length_append]
  cases κ <;> cases τ <;> rfl
theorem AL_τ {P : List Nat} {κ : Bool} : AL P κ true = AL P κ false ++ mdK := by
  unfold AL; cases κ <;> simp [mk1]
theorem AL_κ {P : List Nat} {τ : Bool} : AL P true τ = AL P false τ ++ mdK := by
  unfold AL; cases τ <;> simp [mk1]
theorem AL_pre {P : List Nat} {κ τ κ' τ' : Bool} (h1 : κ = true → κ' = true) (h2 : τ = true → τ' = true) : AL P κ τ <+: AL P κ' τ' := by
  cases κ <;> cases κ' <;> cases τ <;> cases τ' <;> first
    | exact List.prefix_rfl
    | exact absurd (h1 rfl) (by decide)
    | exact absurd (h2 rfl) (by decide)
    | (rw [AL_κ]; exact List.prefix_append _ _)
    | (rw [AL_τ]; exact List.prefix_append _ _)
    | (rw [AL_τ, AL_κ, List.append_assoc]; exact List.prefix_append _ _)
theorem blk_tab : ∀ κ τ : Bool, ∀ j : Fin 3, j.1 * 32 + 32 ≤ (mdK ++ (mk1 κ ++ mk1 τ)).length → ∀ i : Fin 32, (mdK ++ (mk1 κ ++ mk1 τ))[j.1 * 32 + i.1]? = mdK[i.1]? := by decide +kernel
theorem mdK_arr : ∀ i : Fin 32, 1 ≤ i.1 → ∀ kb, mdK[i.1]? = some kb → fkL[kb]? = none := by
  intro i hi kb hk
  have t : ∀ i : Fin 32, 1 ≤ i.1 → (mdK[i.1]?).bind (fun kb => fkL[kb]?) = none := by decide +kernel
  have := t i hi
  rw [hk] at this
  exact this
theorem blk {P : List Nat} {k b i : Nat} {κ τ : Bool} (hP : P.length = k) (hb : b = k ∨ b = k + 32 ∨ b = k + 64) (hl : b + 32 ≤ (AL P κ τ).length) (hi : i < 32) : (AL P κ τ)[b + i]? = mdK[i]? := by
  unfold AL at hl ⊢
  rw [List.length_append, hP] at hl
  have key : ∀ j, j < 3 → b = k + j * 32 → (P ++ (mdK ++ (mk1 κ ++ mk1 τ)))[b + i]? = mdK[i]? := fun j hj e => by
    rw [List.getElem?_append_right (by omega), show b + i - P.length = j * 32 + i by omega]
    exact blk_tab κ τ ⟨j, hj⟩ (by show j * 32 + 32 ≤ _; omega) ⟨i, hi⟩
  rcases hb with e | e | e
  · exact key 0 (by omega) (by omega)
  · exact key 1 (by omega) (by omega)
  · exact key 2 (by omega) (by omega)
theorem NOk.bk {P : List Nat} {k b : Nat} {κ τ : Bool} {h h1 : Hp} (q : NOk h) (hP : P.length = k) (hK : xK h = AL P κ τ) (hb : b = k ∨ b = k + 32 ∨ b = k + 64) (hl : b + 32 ≤ (AL P κ τ).length) (f : Fr b (b + 32) h h1) (e : xN h1 b = xN h b) (kk : xK h1 = xK h) : NOk h1 := fun a k' L j t o k2 ha hL hj ht => by
  rw [kk] at ha ⊢
  by_cases z : b ≤ a ∧ a < b + 32
  · by_cases z2 : a = b
    · subst z2; rw [e]; exact q a k' L j t o k2 ha hL hj ht
    · have g := blk hP hb hl (i := a - b) (by omega)
      rw [show b + (a - b) = a by omega, ← hK, ha] at g
      have := mdK_arr ⟨a - b, by omega⟩ (by show 1 ≤ a - b; omega) k' g.symm
      rw [hL] at this; cases this
  · rw [(f a (by omega)).2.2]; exact q a k' L j t o k2 ha hL hj ht
/-- a model behind, if there is one -/
def Sub (h : Hp) (k x : Nat) : Prop := x = 0 ∨ ∃ b w, x = b + 1 ∧ (b = k + 32 ∨ b = k + 64) ∧ b + 32 ≤ (xK h).length ∧ MilAt h b w
/-- the reference, with what is behind it -/
def Md (h : Hp) (P : List Nat) (k : Nat) (v : Vg) (g : Sg) (z : Nat) (κ τ : Bool) : Prop :=
  MilAt h k v ∧ MshAt h k g ∧ xI h k 8 = nI z ∧ z ≤ 250 ∧ NOk h ∧ P.length = k ∧ k ≤ 700 ∧ xK h = AL P κ τ ∧ (xN h k 21 = 0 ↔ κ = false) ∧ (xN h k 22 = 0 ↔ τ = false) ∧ Sub h k (xN h k 21) ∧ Sub h k (xN h k 22) ∧ (xN h k 21 = xN h k 22 → xN h k 21 = 0)
theorem Fr.vc {k : Nat} {h h1 : Hp} (f : Kp k h h1) : Fr k (k + 32) h h1 := fun b hb => f.2.2 b (fun q => by unfold VC at q; omega)
theorem Lo.fr {k lo hi : Nat} {h h1 : Hp} (f : Fr lo hi h h1) (q : k ≤ lo) : Lo k h h1 := fun b hb => f b (by omega)
section MDD
variable {h h1 : Hp} {P : List Nat} {k b z : Nat} {v v' w : Vg} {g g' : Sg} {κ τ : Bool}
theorem Md.len (M : Md h P k v g z κ τ) : (xK h).length = k + 32 + (if κ then 32 else 0) + (if τ then 32 else 0) := by
  obtain ⟨m, ms, e8, bz, nok, hP, hk, al, fk, ft, sk, st, ap⟩ := M
  rw [al, AL_len, hP]
theorem Md.k7 (M : Md h P k v g z κ τ) (hb : b = k ∨ b = k + 32 ∨ b = k + 64) (hl : b + 32 ≤ (xK h).length) : (xK h)[b]? = some 7 := by
  obtain ⟨m, ms, e8, bz, nok, hP, hk, al, fk, ft, sk, st, ap⟩ := M
  rw [al] at hl ⊢
  exact blk hP hb hl (i := 0) (by omega)
/-- only this model's own cells written -/
theorem Md.gen {z' : Nat} (M : Md h P k v g z κ τ) (m' : MilAt h1 k v') (ms' : MshAt h1 k g') (e8' : xI h1 k 8 = nI z') (bz' : z' ≤ 250) (e : xN h1 k = xN h k) (f : Fr k (k + 32) h h1) (kk : xK h1 = xK h) : Md h1 P k v' g' z' κ τ := by
  obtain ⟨m, ms, e8, bz, nok, hP, hk, al, fk, ft, sk, st, ap⟩ := M
  have sub : ∀ x, Sub h k x → Sub h1 k x := fun x q => by
    rcases q with q | ⟨b, w, q1, q2, q3, q4⟩
    · exact Or.inl q
    · exact Or.inr ⟨b, w, q1, q2, by rw [kk]; exact q3, q4.fr f (by omega)⟩
  refine ⟨m', ms', e8', bz', nok.bk hP al (Or.inl rfl) (by rw [AL_len, hP]; omega) f e kk, hP, hk, kk.trans al, by rw [e]; exact fk, by rw [e]; exact ft, by rw [e]; exact sub _ sk, by rw [e]; exact sub _ st, by rw [e]; exact ap⟩
theorem Md.kp (M : Md h P k v g z κ τ) (m' : MilAt h1 k v') (f : Kp k h h1) (kk : xK h1 = xK h) : Md h1 P k v' g z κ τ :=
  M.gen m' (M.2.1.kp f) (f.1.trans M.2.2.1) M.2.2.2.1 f.2.1 (Fr.vc f) kk
/-- another model's village written -/
theorem Md.tk (M : Md h P k v g z κ τ) (hb : b = k + 32 ∨ b = k + 64) (hl : b + 32 ≤ (xK h).length) (m' : MilAt h1 b w) (f : Kp b h h1) (kk : xK h1 = xK h) : Md h1 P k v g z κ τ := by
  obtain ⟨m, ms, e8, bz, nok, hP, hk, al, fk, ft, sk, st, ap⟩ := M
  have F := Fr.vc f
  have ek : xI h1 k = xI h k := (F k (by omega)).1
  have en : xN h1 k = xN h k := (F k (by omega)).2.2
  have sub : ∀ x, Sub h k x → Sub h1 k x := fun x q => by
    rcases q with q | ⟨b2, w2, q1, q2, q3, q4⟩
    · exact Or.inl q
    · by_cases e : b2 = b
      · subst e; exact Or.inr ⟨b2, w, q1, q2, by rw [kk]; exact q3, m'⟩
      · exact Or.inr ⟨b2, w2, q1, q2, by rw [kk]; exact q3, q4.fr F (by omega)⟩
  exact ⟨m.fr F (by omega), ms.fr F (by omega), by rw [ek]; exact e8, bz, nok.bk hP al (by omega) (by rw [← al]; exact hl) F f.2.1 kk, hP, hk, kk.trans al, by rw [en]; exact fk, by rw [en]; exact ft, by rw [en]; exact sub _ sk, by rw [en]; exact sub _ st, by rw [en]; exact ap⟩
end MDD
theorem getK0 {al M : List Nat} {a : Nat} (hlen : al.length = a) (i : Nat) : (al ++ M)[a + i]? = M[i]? := by
  rw [← hlen, List.getElem?_append_right (Nat.le_add_right _ _), Nat.add_sub_cancel_left]

theorem mil_sN9 {h : Hp} {k b j x : Nat} {v : Vg} (a : MilAt h k v) : MilAt (sN h b j x) k v := ⟨a.eP, a.eM, a.eN, a.eS, fun i hi => a.e0 hi, fun i hi => a.e1 hi, fun i hi => a.e2 hi, fun i hi => a.e3 hi, fun o ho c hc => a.eo ho hc, a.bP, a.bM, a.bN⟩
set_option maxHeartbeats 1000000 in
theorem Md.nwτ {h h3 : Hp} {P : List Nat} {k z a : Nat} {v : Vg} {g : Sg} {κ : Bool} (M : Md h P k v g z κ false) (ha : (xK h).length = a) (lo3 : Lo a h h3) (no3 : NOk h3) (K3 : xK h3 = xK h ++ mdK) (m3 : MilAt h3 a v00) : Md (sN h3 k 22 (a + 1)) P k v g z κ true ∧ xN (sN h3 k 22 (a + 1)) k 22 = a + 1 ∧ Lo k h (sN h3 k 22 (a + 1)) := by
  have hla := M.len
  obtain ⟨m, ms, e8, bz, nok, hP, hk, al, fk, ft, sk, st, ap⟩ := M
  have ab : (a = k + 32 ∨ a = k + 64) := by rw [ha] at hla; revert hla; cases κ <;> simp <;> omega
  have ka : k + 32 ≤ a := by omega
  have len3 : (xK h3).length = a + 32 := by rw [K3, List.length_append, ha]; rfl
  have en : ∀ j, j ≠ 22 → xN (sN h3 k 22 (a + 1)) k j = xN h k j := fun j hj => by rw [sN_ne hj, (lo3 k (by omega)).2.2]
  have en9 : xN (sN h3 k 22 (a + 1)) k 22 = a + 1 := sN_at
  have ml : ∀ b2 w2, b2 + 32 ≤ a → MilAt h b2 w2 → MilAt (sN h3 k 22 (a + 1)) b2 w2 := fun b2 w2 hb q => mil_sN9 (q.ag lo3.fs (show ¬ a ≤ b2 by omega) (unl (by omega)))
  have sub : ∀ x, Sub h k x → Sub (sN h3 k 22 (a + 1)) k x := fun x q => by
    rcases q with q | ⟨b2, w2, q1, q2, q3, q4⟩
    · exact Or.inl q
    · rw [ha] at q3; exact Or.inr ⟨b2, w2, q1, q2, Nat.le_trans q3 (by rw [show xK (sN h3 k 22 (a + 1)) = xK h3 from rfl, len3]; exact Nat.le_add_right _ _), ml b2 w2 q3 q4⟩
  have mi4 : MilAt (sN h3 k 22 (a + 1)) k v := ml k v ka m
  have ms4 : MshAt (sN h3 k 22 (a + 1)) k g := (ms.ag lo3.fs (unl (by omega))).ag (P := fun b => b = k) (fun b hb => oth_sN b hb) (una (by omega))
  have e84 : xI (sN h3 k 22 (a + 1)) k 8 = nI z := by rw [show xI (sN h3 k 22 (a + 1)) = xI h3 from rfl, (lo3 k (by omega)).1]; exact e8
  have no4 : NOk (sN h3 k 22 (a + 1)) := no3.sN (by rw [len3]; omega)
  have l4 : a + 32 ≤ (xK (sN h3 k 22 (a + 1))).length := by rw [show xK (sN h3 k 22 (a + 1)) = xK h3 from rfl, len3]; exact Nat.le_refl _
  have s4 : Sub (sN h3 k 22 (a + 1)) k (xN (sN h3 k 22 (a + 1)) k 22) := Or.inr ⟨a, v00, en9, ab, l4, mil_sN9 m3⟩
  have s5 : Sub (sN h3 k 22 (a + 1)) k (xN (sN h3 k 22 (a + 1)) k 21) := by rw [en 21 (by decide)]; exact sub _ sk
  have fl4 : (xN (sN h3 k 22 (a + 1)) k 22 = 0 ↔ true = false) := ⟨fun q => absurd (en9.symm.trans q) (by omega), fun q => by cases q⟩
  have fl5 : (xN (sN h3 k 22 (a + 1)) k 21 = 0 ↔ κ = false) := by rw [en 21 (by decide)]; exact fk
  have ne4 : xN h k 21 ≠ a + 1 := fun q => by
    rcases sk with q0 | ⟨b2, w2, q1, q2, q3, q4⟩
    · omega
    · omega
  have ap4 : xN (sN h3 k 22 (a + 1)) k 21 = xN (sN h3 k 22 (a + 1)) k 22 → xN (sN h3 k 22 (a + 1)) k 21 = 0 := fun q => by rw [en 21 (by decide), en9] at q; exact absurd q ne4
  have al4 : xK (sN h3 k 22 (a + 1)) = AL P κ true := by show xK h3 = _; rw [K3, AL_τ, al]
  have f4 : Lo k h (sN h3 k 22 (a + 1)) := (lo3.mono (by omega)).tr (Lo.sN (Nat.le_refl _))
  exact ⟨⟨mi4, ms4, e84, bz, no4, hP, hk, al4, fl5, fl4, s5, s4, ap4⟩, en9, f4⟩
set_option maxHeartbeats 1000000 in
theorem Md.nwκ {h h3 : Hp} {P : List Nat} {k z a : Nat} {v : Vg} {g : Sg} {τ : Bool} (M : Md h P k v g z false τ) (ha : (xK h).length = a) (lo3 : Lo a h h3) (no3 : NOk h3) (K3 : xK h3 = xK h ++ mdK) (m3 : MilAt h3 a v00) : Md (sN h3 k 21 (a + 1)) P k v g z true τ ∧ xN (sN h3 k 21 (a + 1)) k 21 = a + 1 ∧ Lo k h (sN h3 k 21 (a + 1)) := by
  have hla := M.len
  obtain ⟨m, ms, e8, bz, nok, hP, hk, al, fk, ft, sk, st, ap⟩ := M
  have ab : (a = k + 32 ∨ a = k + 64) := by rw [ha] at hla; revert hla; cases τ <;> simp <;> omega
  have ka : k + 32 ≤ a := by omega
  have len3 : (xK h3).length = a + 32 := by rw [K3, List.length_append, ha]; rfl
  have en : ∀ j, j ≠ 21 → xN (sN h3 k 21 (a + 1)) k j = xN h k j := fun j hj => by rw [sN_ne hj, (lo3 k (by omega)).2.2]
  have en9 : xN (sN h3 k 21 (a + 1)) k 21 = a + 1 := sN_at
  have ml : ∀ b2 w2, b2 + 32 ≤ a → MilAt h b2 w2 → MilAt (sN h3 k 21 (a + 1)) b2 w2 := fun b2 w2 hb q => mil_sN9 (q.ag lo3.fs (show ¬ a ≤ b2 by omega) (unl (by omega)))
  have sub : ∀ x, Sub h k x → Sub (sN h3 k 21 (a + 1)) k x := fun x q => by
    rcases q with q | ⟨b2, w2, q1, q2, q3, q4⟩
    · exact Or.inl q
    · rw [ha] at q3; exact Or.inr ⟨b2, w2, q1, q2, Nat.le_trans q3 (by rw [show xK (sN h3 k 21 (a + 1)) = xK h3 from rfl, len3]; exact Nat.le_add_right _ _), ml b2 w2 q3 q4⟩
  have mi4 : MilAt (sN h3 k 21 (a + 1)) k v := ml k v ka m
  have ms4 : MshAt (sN h3 k 21 (a + 1)) k g := (ms.ag lo3.fs (unl (by omega))).ag (P := fun b => b = k) (fun b hb => oth_sN b hb) (una (by omega))
  have e84 : xI (sN h3 k 21 (a + 1)) k 8 = nI z := by rw [show xI (sN h3 k 21 (a + 1)) = xI h3 from rfl, (lo3 k (by omega)).1]; exact e8
  have no4 : NOk (sN h3 k 21 (a + 1)) := no3.sN (by rw [len3]; omega)
  have l4 : a + 32 ≤ (xK (sN h3 k 21 (a + 1))).length := by rw [show xK (sN h3 k 21 (a + 1)) = xK h3 from rfl, len3]; exact Nat.le_refl _
  have s4 : Sub (sN h3 k 21 (a + 1)) k (xN (sN h3 k 21 (a + 1)) k 21) := Or.inr ⟨a, v00, en9, ab, l4, mil_sN9 m3⟩
  have s5 : Sub (sN h3 k 21 (a + 1)) k (xN (sN h3 k 21 (a + 1)) k 22) := by rw [en 22 (by decide)]; exact sub _ st
  have fl4 : (xN (sN h3 k 21 (a + 1)) k 21 = 0 ↔ true = false) := ⟨fun q => absurd (en9.symm.trans q) (by omega), fun q => by cases q⟩
  have fl5 : (xN (sN h3 k 21 (a + 1)) k 22 = 0 ↔ τ = false) := by rw [en 22 (by decide)]; exact ft
  have ne4 : xN h k 22 ≠ a + 1 := fun q => by
    rcases st with q0 | ⟨b2, w2, q1, q2, q3, q4⟩
    · omega
    · omega
  have ap4 : xN (sN h3 k 21 (a + 1)) k 21 = xN (sN h3 k 21 (a + 1)) k 22 → xN (sN h3 k 21 (a + 1)) k 21 = 0 := fun q => by rw [en 22 (by decide), en9] at q; exact absurd q.symm ne4
  have al4 : xK (sN h3 k 21 (a + 1)) = AL P true τ := by show xK h3 = _; rw [K3, AL_κ, al]
  have f4 : Lo k h (sN h3 k 21 (a + 1)) := (lo3.mono (by omega)).tr (Lo.sN (Nat.le_refl _))
  exact ⟨⟨mi4, ms4, e84, bz, no4, hP, hk, al4, fl4, fl5, s4, s5, ap4⟩, en9, f4⟩
end
section
/-! PART 36: the reference: texts read -/
/-- the state while a token is looked for -/
def Lk (h0 h : Hp) (k z a : Nat) (v : Vg) : Prop := MilAt h k v ∧ xI h k 8 = nI z ∧ xI h k 23 = nI a ∧ a ≤ z ∧ z ≤ 250 ∧ Kp k h0 h ∧ xI h k 28 = xI h0 k 28 ∧ xK h = xK h0
/-- the state between: size, place, where the token begins -/
def Pk (h0 h : Hp) (k z a f : Nat) (v : Vg) : Prop := MilAt h k v ∧ xI h k 8 = nI z ∧ xI h k 23 = nI a ∧ xI h k 25 = nI f ∧ f ≤ a ∧ a ≤ z ∧ z ≤ 250 ∧ (xI h k 24 = 0 ∨ f < a) ∧ Kp k h0 h ∧ xK h = xK h0
section LK
variable {h0 h h1 h2 : Hp} {k z a a' f f' j : Nat} {v v' : Vg} {x : Int32} {y : Int64}
theorem Lk.m (p : Lk h0 h k z a v) : MilAt h k v := p.1
theorem Lk.e8 (p : Lk h0 h k z a v) : xI h k 8 = nI z := p.2.1
theorem Lk.e23 (p : Lk h0 h k z a v) : xI h k 23 = nI a := p.2.2.1
theorem Lk.az (p : Lk h0 h k z a v) : a ≤ z := p.2.2.2.1
theorem Lk.bz (p : Lk h0 h k z a v) : z ≤ 250 := p.2.2.2.2.1
theorem Lk.kp (p : Lk h0 h k z a v) : Kp k h0 h := p.2.2.2.2.2.1
theorem Lk.e28 (p : Lk h0 h k z a v) : xI h k 28 = xI h0 k 28 := p.2.2.2.2.2.2.1
theorem Lk.kk (p : Lk h0 h k z a v) : xK h = xK h0 := p.2.2.2.2.2.2.2
theorem Lk.tp (p : Lk h0 h k z a v) {i : Nat} : xI h (k + 16) i = xI h0 (k + 16) i := by rw [(p.kp.2.2 (k + 16) (fun q => by unfold VC at q; omega)).1]
theorem Lk.at (p : Lk h0 h k z a v) (ha : a' ≤ z) : Lk h0 (sI h k 23 (nI a')) k z a' v :=
  ⟨p.m.f (by decide) (by decide) (by decide) (by decide), by rw [sI_at, if_neg (by decide)]; exact p.e8, by rw [sI_at, if_pos rfl], ha, p.bz, p.kp.tr (Kp.f (by decide)), by rw [sI_at, if_neg (by decide)]; exact p.e28, p.kk⟩
theorem Lk.fd (p : Lk h0 h k z a v) (hj : j = 24 ∨ j = 25) : Lk h0 (sI h k j x) k z a v :=
  ⟨p.m.f (by omega) (by omega) (by omega) (by omega), by rw [sI_at, if_neg (by omega)]; exact p.e8, by rw [sI_at, if_neg (by omega)]; exact p.e23, p.az, p.bz, p.kp.tr (Kp.f (by omega)), by rw [sI_at, if_neg (by omega)]; exact p.e28, p.kk⟩
theorem Lk.l (p : Lk h0 h k z a v) : Lk h0 (sL h k j y) k z a v :=
  ⟨p.m.fL, p.e8, p.e23, p.az, p.bz, p.kp.tr Kp.fL, p.e28, p.kk⟩
theorem Pk.m (p : Pk h0 h k z a f v) : MilAt h k v := p.1
theorem Pk.e8 (p : Pk h0 h k z a f v) : xI h k 8 = nI z := p.2.1
theorem Pk.e23 (p : Pk h0 h k z a f v) : xI h k 23 = nI a := p.2.2.1
theorem Pk.e25 (p : Pk h0 h k z a f v) : xI h k 25 = nI f := p.2.2.2.1
theorem Pk.fa (p : Pk h0 h k z a f v) : f ≤ a := p.2.2.2.2.1
theorem Pk.az (p : Pk h0 h k z a f v) : a ≤ z := p.2.2.2.2.2.1
theorem Pk.bz (p : Pk h0 h k z a f v) : z ≤ 250 := p.2.2.2.2.2.2.1
theorem Pk.tk (p : Pk h0 h k z a f v) : xI h k 24 = 0 ∨ f < a := p.2.2.2.2.2.2.2.1
theorem Pk.kp (p : Pk h0 h k z a f v) : Kp k h0 h := p.2.2.2.2.2.2.2.2.1
theorem Pk.kk (p : Pk h0 h k z a f v) : xK h = xK h0 := p.2.2.2.2.2.2.2.2.2
theorem Pk.slf (p : Pk h0 h k z a f v) : Pk h h k z a f v := ⟨p.m, p.e8, p.e23, p.e25, p.fa, p.az, p.bz, p.tk, Kp.rf, rfl⟩
theorem Pk.lk (p : Pk h0 h k z a f v) : Lk h h k z a v := ⟨p.m, p.e8, p.e23, p.az, p.bz, Kp.rf, rfl, rfl⟩
theorem Pk.tr (p : Pk h0 h1 k z a f v) (q : Pk h1 h2 k z a' f' v') : Pk h0 h2 k z a' f' v' := ⟨q.m, q.e8, q.e23, q.e25, q.fa, q.az, q.bz, q.tk, p.kp.tr q.kp, q.kk.trans p.kk⟩
theorem Pk.pre (p : Pk h1 h2 k z a f v) (c : Kp k h0 h1) (e : xK h1 = xK h0) : Pk h0 h2 k z a f v := ⟨p.m, p.e8, p.e23, p.e25, p.fa, p.az, p.bz, p.tk, c.tr p.kp, p.kk.trans e⟩
theorem Pk.of (p : Lk h0 h k z a v) (e : xI h k 25 = nI f) (b : f ≤ a) (t : xI h k 24 = 0 ∨ f < a) : Pk h0 h k z a f v := ⟨p.m, p.e8, p.e23, e, b, p.az, p.bz, t, p.kp, p.kk⟩
/-- another cell of the village written; a field of it -/
theorem Pk.c {b : Nat} (p : Pk h0 h k z a f v) (m' : MilAt (sI h b j x) k v') (h1 : k + 17 ≤ b) (h2 : b < k + 32) : Pk h0 (sI h b j x) k z a f v' := by
  have e : xI (sI h b j x) k = xI h k := (oth_sI k (by omega)).1
  exact ⟨m', by rw [e]; exact p.e8, by rw [e]; exact p.e23, by rw [e]; exact p.e25, p.fa, p.az, p.bz, by rw [e]; exact p.tk, p.kp.tr (Kp.c h1 h2), p.kk⟩
theorem Pk.fd (p : Pk h0 h k z a f v) (m' : MilAt (sI h k j x) k v') (h1 : j ≠ 8) (h2 : j ≠ 23) (h3 : j ≠ 24) (h4 : j ≠ 25) : Pk h0 (sI h k j x) k z a f v' :=
  ⟨m', by rw [sI_at, if_neg (Ne.symm h1)]; exact p.e8, by rw [sI_at, if_neg (Ne.symm h2)]; exact p.e23, by rw [sI_at, if_neg (Ne.symm h4)]; exact p.e25, p.fa, p.az, p.bz, by rw [sI_at, if_neg (Ne.symm h3)]; exact p.tk, p.kp.tr (Kp.f h1), p.kk⟩
theorem Pk.lt (p : Pk h0 h k z a f v) {n : Nat} (e : xI h k 24 = nI n) (hn : 0 < n ∧ n < 5) : f < a := by
  rcases p.tk with q | q
  · exact absurd (e.symm.trans q) (by
      intro c; have := congrArg Int32.toInt c; rw [nI_toInt (by omega), show (0 : Int32).toInt = 0 by decide] at this; omega)
  · exact q
end LK
def ltB (x : Int32) : Bool := decide (¬ x < nI 97) && decide (¬ nI 122 < x)
def dgB (x : Int32) : Bool := decide (¬ x < nI 48) && decide (¬ nI 57 < x)
/-- a long between two ints is an int -/
theorem inL_i {F : Int64} {a b : Int32} (h : inL F a.toInt64 b.toInt64 = true) : inL F.toInt32.toInt64 a.toInt64 b.toInt64 = true := by
  have e : F.toInt32.toInt64 = F := by
    unfold inL at h
    simp only [Bool.and_eq_true, decide_eq_true_eq, Int64.le_iff_toInt_le, Int32.toInt_toInt64] at h
    have h1 := Int32.le_toInt a
    have h2 := Int32.toInt_lt b
    apply Int64.toInt_inj.mp
    rw [Int32.toInt_toInt64, Int64.toInt_toInt32]
    exact Int.bmod_eq_of_le (by omega) (by omega)
  rw [e]; exact h
theorem inL_ex {t : Int32} {n : Nat} (hn : n < 2 ^ 30) (h : inL t.toInt64 (nI 0).toInt64 (nI n - nI 1).toInt64 = true) : ∃ j, j < n ∧ t = nI j := by
  rw [show (nI 0).toInt64 = 0 by decide, inL_N hn] at h
  exact inR_ex (by omega) h
theorem inL_e0 {F : Int64} {n : Nat} (hn : n < 2 ^ 30) (h : inL F 0 (nI n - nI 1).toInt64 = true) : ∃ j, j < n ∧ F.toInt32 = nI j := by
  rw [show (0 : Int64) = (nI 0).toInt64 by decide] at h
  exact inL_ex hn (inL_i h)
set_option maxHeartbeats 4000000 in
theorem c_X7_isLetter {l : Launch} {h : Hp} (x : Int32) : Mp l yX7_isLetter cX7_isLetter 1 (some .boolean) 1 [vi x] h (vi (b2i (ltB x))) := by
  refine Ms.of (by decide) (Nat.le_of_ble_eq_true rfl) (fun G C X F => ?_)
  have C : Cx G cX7_isLetter 1 RX7 := C
  show Rr G 0 [(0, vi x)] [] h
  refine r_iload_n C (dx dX7_isLetter 0 rfl) rfl ?_
  refine r_bipush (v := nI 97) C (dx dX7_isLetter 1 rfl) rfl ?_
  refine r_icmp_lt (tgt := 16) C (dx dX7_isLetter 2 rfl) (by decide) (fun c1 => ?_) (fun c1 => ?_)
  ·
    have c1 : x < nI 97 := c1
    refine r_iconst (v := nI 0) C (dx dX7_isLetter 8 rfl) rfl ?_
    exact F.1 _ _ _ _ _ rfl rfl (dx dX7_isLetter 9 rfl) rfl ⟨congrArg (fun x => some (vi x)) (show nI 0 = b2i _ by rw [show (ltB x) = false by (unfold ltB; first | (rw [decide_eq_false (not_not_intro c1)]; rfl) | (rw [decide_eq_true c1, decide_eq_false (not_not_intro c1)]; rfl) | (rw [decide_eq_true c1, decide_eq_true c1]; rfl))]; rfl), rfl⟩
  ·
    have c1 : ¬ x < nI 97 := c1
    refine r_iload_n C (dx dX7_isLetter 3 rfl) rfl ?_
    refine r_bipush (v := nI 122) C (dx dX7_isLetter 4 rfl) rfl ?_
    refine r_icmp_gt (tgt := 16) C (dx dX7_isLetter 5 rfl) (by decide) (fun c2 => ?_) (fun c2 => ?_)
    ·
      have c2 : nI 122 < x := c2
      refine r_iconst (v := nI 0) C (dx dX7_isLetter 8 rfl) rfl ?_
      exact F.1 _ _ _ _ _ rfl rfl (dx dX7_isLetter 9 rfl) rfl ⟨congrArg (fun x => some (vi x)) (show nI 0 = b2i _ by rw [show (ltB x) = false by (unfold ltB; first | (rw [decide_eq_false (not_not_intro c1)]; rfl) | (rw [decide_eq_true c1, decide_eq_false (not_not_intro c2)]; rfl) | (rw [decide_eq_true c1, decide_eq_true c2]; rfl))]; rfl), rfl⟩
    ·
      have c2 : ¬ nI 122 < x := c2
      refine r_iconst (v := nI 1) C (dx dX7_isLetter 6 rfl) rfl ?_
      refine r_goto (tgt := 17) C (dx dX7_isLetter 7 rfl) (by decide) ?_
      exact F.1 _ _ _ _ _ rfl rfl (dx dX7_isLetter 9 rfl) rfl ⟨congrArg (fun x => some (vi x)) (show nI 1 = b2i _ by rw [show (ltB x) = true by (unfold ltB; first | (rw [decide_eq_false (not_not_intro c1)]; rfl) | (rw [decide_eq_true c1, decide_eq_false (not_not_intro c2)]; rfl) | (rw [decide_eq_true c1, decide_eq_true c2]; rfl))]; rfl), rfl⟩
set_option maxHeartbeats 4000000 in
theorem c_X7_isDigit {l : Launch} {h : Hp} (x : Int32) : Mp l yX7_isDigit cX7_isDigit 1 (some .boolean) 1 [vi x] h (vi (b2i (dgB x))) := by
  refine Ms.of (by decide) (Nat.le_of_ble_eq_true rfl) (fun G C X F => ?_)
  have C : Cx G cX7_isDigit 1 RX7 := C
  show Rr G 0 [(0, vi x)] [] h
  refine r_iload_n C (dx dX7_isDigit 0 rfl) rfl ?_
  refine r_bipush (v := nI 48) C (dx dX7_isDigit 1 rfl) rfl ?_
  refine r_icmp_lt (tgt := 16) C (dx dX7_isDigit 2 rfl) (by decide) (fun c1 => ?_) (fun c1 => ?_)
  ·
    have c1 : x < nI 48 := c1
    refine r_iconst (v := nI 0) C (dx dX7_isDigit 8 rfl) rfl ?_
    exact F.1 _ _ _ _ _ rfl rfl (dx dX7_isDigit 9 rfl) rfl ⟨congrArg (fun x => some (vi x)) (show nI 0 = b2i _ by rw [show (dgB x) = false by (unfold dgB; first | (rw [decide_eq_false (not_not_intro c1)]; rfl) | (rw [decide_eq_true c1, decide_eq_false (not_not_intro c1)]; rfl) | (rw [decide_eq_true c1, decide_eq_true c1]; rfl))]; rfl), rfl⟩
  ·
    have c1 : ¬ x < nI 48 := c1
    refine r_iload_n C (dx dX7_isDigit 3 rfl) rfl ?_
    refine r_bipush (v := nI 57) C (dx dX7_isDigit 4 rfl) rfl ?_
    refine r_icmp_gt (tgt := 16) C (dx dX7_isDigit 5 rfl) (by decide) (fun c2 => ?_) (fun c2 => ?_)
    ·
      have c2 : nI 57 < x := c2
      refine r_iconst (v := nI 0) C (dx dX7_isDigit 8 rfl) rfl ?_
      exact F.1 _ _ _ _ _ rfl rfl (dx dX7_isDigit 9 rfl) rfl ⟨congrArg (fun x => some (vi x)) (show nI 0 = b2i _ by rw [show (dgB x) = false by (unfold dgB; first | (rw [decide_eq_false (not_not_intro c1)]; rfl) | (rw [decide_eq_true c1, decide_eq_false (not_not_intro c2)]; rfl) | (rw [decide_eq_true c1, decide_eq_true c2]; rfl))]; rfl), rfl⟩
    ·
      have c2 : ¬ nI 57 < x := c2
      refine r_iconst (v := nI 1) C (dx dX7_isDigit 6 rfl) rfl ?_
      refine r_goto (tgt := 17) C (dx dX7_isDigit 7 rfl) (by decide) ?_
      exact F.1 _ _ _ _ _ rfl rfl (dx dX7_isDigit 9 rfl) rfl ⟨congrArg (fun x => some (vi x)) (show nI 1 = b2i _ by rw [show (dgB x) = true by (unfold dgB; first | (rw [decide_eq_false (not_not_intro c1)]; rfl) | (rw [decide_eq_true c1, decide_eq_false (not_not_intro c2)]; rfl) | (rw [decide_eq_true c1, decide_eq_true c2]; rfl))]; rfl), rfl⟩
end
section
/-! PART 37: the reference: what tries a village on another model -/
theorem Ms.mono {l : Launch} {y : MethodName} {cc : ByteArray} {nL : Nat} {ret : Option FieldType} {d : Nat} {as : List V} {h : Hp} {al1 : List Nat} {post post' : Option V → Hp → Prop} (c : Ms l y cc nL ret d as h al1 post) (q : ∀ r h', post r h' → xK h' = al1 → post' r h') : Ms l y cc nL ret d as h al1 post' := fun D dA f sz p e ha hc hk s m args below hf happ hP hK => by
  obtain ⟨n, o, h1, h2, h3, ⟨⟨r, h', f', g1, g2, g3, g4⟩, hz⟩, L⟩ := c D dA f sz p e ha hc hk s m args below hf happ hP hK
  exact ⟨n, o, h1, h2, h3, ⟨⟨r, h', f', g1, q r h' g2 g3, g3, g4⟩, hz⟩, L⟩
/-- a call of the reference: its answer, its shelves, its tape, whether one is kept; a tried model may have come behind it -/
def MdF (l : Launch) (y : MethodName) (cc : ByteArray) (nL : Nat) (ret : Option FieldType) (d : Nat) (as : List V) (h : Hp) (P : List Nat) (k : Nat) (g : Sg) (z : Nat) (κ : Bool) (Q : Option V → Prop) : Prop :=
  ∃ τ, xK h <+: AL P κ τ ∧ Ms l y cc nL ret d as h (AL P κ τ) (fun r h' => Q r ∧ (∃ v', Md h' P k v' g z κ τ) ∧ Lo k h h')
section MF
variable {l : Launch} {y : MethodName} {cc : ByteArray} {nL : Nat} {ret : Option FieldType} {d : Nat} {as : List V} {h : Hp} {P : List Nat} {k z z' : Nat} {v : Vg} {g g' : Sg} {κ τ : Bool} {Q : Option V → Prop}
theorem Md.al (M : Md h P k v g z κ τ) : xK h = AL P κ τ := M.2.2.2.2.2.2.2.1
theorem Md.hk (M : Md h P k v g z κ τ) : k ≤ 700 := M.2.2.2.2.2.2.1
theorem Md.e8 (M : Md h P k v g z κ τ) : xI h k 8 = nI z := M.2.2.1
theorem Md.bz (M : Md h P k v g z κ τ) : z ≤ 250 := M.2.2.2.1
theorem MdF.kp (M : Md h P k v g z κ τ) (c : Ms l y cc nL ret d as h (xK h) (fun r h' => Q r ∧ (∃ v', MilAt h' k v') ∧ Kp k h h')) : MdF l y cc nL ret d as h P k g z κ Q :=
  ⟨τ, by rw [M.al]; exact List.prefix_rfl, by rw [← M.al]; exact c.mono (fun r h' ⟨q, ⟨v', m'⟩, kp⟩ e => ⟨q, ⟨v', M.kp m' kp e⟩, Lo.fr (Fr.vc kp) (Nat.le_refl _)⟩)⟩
theorem MdF.ks (M : Md h P k v g z κ τ) (c : Ms l y cc nL ret d as h (xK h) (fun r h' => Q r ∧ (∃ v', MilAt h' k v') ∧ MshAt h' k g' ∧ Ks k h h')) : MdF l y cc nL ret d as h P k g' z κ Q :=
  ⟨τ, by rw [M.al]; exact List.prefix_rfl, by rw [← M.al]; exact c.mono (fun r h' ⟨q, ⟨v', m'⟩, s, kp⟩ e => ⟨q, ⟨v', M.gen m' s (kp.1.trans M.e8) M.bz kp.2.1 kp.2.2 e⟩, Lo.fr kp.2.2 (Nat.le_refl _)⟩)⟩
theorem MdF.md (M : Md h P k v g z κ τ) (c : Ms l y cc nL ret d as h (AL P κ true) (fun r h' => Q r ∧ (∃ v', Md h' P k v' g' z' κ true) ∧ Lo k h h')) : MdF l y cc nL ret d as h P k g' z' κ Q :=
  ⟨true, by rw [M.al]; exact AL_pre id (fun _ => rfl), c⟩
theorem MdF.sm (M : Md h P k v g z κ τ) (c : Ms l y cc nL ret d as h (xK h) (fun r h' => Q r ∧ (∃ v', Md h' P k v' g' z' κ τ) ∧ Lo k h h')) : MdF l y cc nL ret d as h P k g' z' κ Q :=
  ⟨τ, by rw [M.al]; exact List.prefix_rfl, by rw [← M.al]; exact c⟩
end MF
/-- a shelf that holds a rule, in whatever cells -/
theorem MshAt.hold {h : Hp} {k : Nat} {g : Sg} {σ η β : Nat} (a : MshAt h k g) (hσ : σ < 8) (h1 : 1 ≤ η ∧ η ≤ 5) (hb : β < 100) (e : gT g σ = nI (10 + η)) (e2 : gY g σ = nI β) : xI h (k + 1) σ = nI 2 ∧ xI h (k + 14) σ = nI η ∧ xI h (k + 15) σ = nI β := by
  rcases a σ hσ with ⟨a1, a2⟩ | ⟨t, n, a1, a2, a3, a4, a5, a6, a7, a8⟩ | ⟨κ, b, a1, a2, a3, a4, a5, a6, a7, a8⟩
  · exact absurd (a2.symm.trans e) (fun q => nI_nm1 (by omega) q.symm)
  · have := (nI_eq (by omega) (by omega)).mp (a6.symm.trans e); omega
  · have e3 := (nI_eq (by omega) (by omega)).mp (a7.symm.trans e)
    have e4 := (nI_eq (by omega) (by omega)).mp (a8.symm.trans e2)
    have : κ = η := by omega
    subst this; subst e4
    exact ⟨a4, a5, a6⟩
theorem nh_hold {g : Sg} {σ η β : Nat} (hσ : σ < 8) (hη : η ≤ 5) (e : gT g σ = nI (10 + η)) (e2 : gY g σ = nI β) : nhA g (nI σ) = 0 := by
  unfold nhA; rw [if_pos (inN (by omega) hσ), (sh_hold hσ hη e e2).2.2.2.2.2.2.1]; rfl
theorem Md.z0 {h : Hp} {P : List Nat} {k z : Nat} {v : Vg} {g : Sg} {κ τ : Bool} (M : Md h P k v g z κ τ) : Md (sI h k 8 (nI 0)) P k v g 0 κ τ :=
  M.gen (M.1.f (by decide) (by decide) (by decide) (by decide)) (M.2.1.fr (Fr.sI (lo := k) (hi := k + 1) (by omega) (by omega)) (by omega)) (by rw [sI_at, if_pos rfl]) (by omega) rfl (Fr.sI (by omega) (by omega)) rfl
/-- feeding the tape -/
def Fk (h h9 : Hp) (k : Nat) (v : Vg) (g : Sg) (zz : Nat) : Prop := MilAt h9 k v ∧ MshAt h9 k g ∧ xI h9 k 8 = nI zz ∧ xN h9 k = xN h k ∧ Fr k (k + 32) h h9 ∧ xK h9 = xK h
theorem Fk.t {h h9 : Hp} {k j zz : Nat} {v : Vg} {g : Sg} {x : Int32} (a : Fk h h9 k v g zz) : Fk h (sI h9 (k + 16) j x) k v g zz := by
  have f : Fr (k + 16) (k + 17) h9 (sI h9 (k + 16) j x) := Fr.sI (by omega) (by omega)
  exact ⟨a.1.fr f (by omega), a.2.1.fr f (by omega), by rw [(f k (by omega)).1]; exact a.2.2.1, by rw [(f k (by omega)).2.2]; exact a.2.2.2.1, a.2.2.2.2.1.tr (f.mono (by omega) (by omega)), a.2.2.2.2.2⟩
theorem Fk.z {h h9 : Hp} {k zz z' : Nat} {v : Vg} {g : Sg} (a : Fk h h9 k v g zz) : Fk h (sI h9 k 8 (nI z')) k v g z' :=
  ⟨a.1.f (by decide) (by decide) (by decide) (by decide), a.2.1.fr (Fr.sI (lo := k) (hi := k + 1) (by omega) (by omega)) (by omega), by rw [sI_at, if_pos rfl], a.2.2.2.1, a.2.2.2.2.1.tr (Fr.sI (by omega) (by omega)), a.2.2.2.2.2⟩
theorem Fk.md {h h9 : Hp} {P : List Nat} {k z zz : Nat} {v v0 : Vg} {g : Sg} {κ τ : Bool} (a : Fk h h9 k v g zz) (M : Md h P k v0 g z κ τ) (hz : zz ≤ 250) : Md h9 P k v g zz κ τ :=
  M.gen a.1 a.2.1 a.2.2.1 hz a.2.2.2.1 a.2.2.2.2.1 a.2.2.2.2.2
theorem feed_no {z : Nat} {n : Int32} (h : btwB n 1 4 = false) : feedA z n = -2 ∧ feedZ z n = z := by
  unfold btwB at h
  unfold feedA feedZ
  by_cases a : n < nI 1
  · rw [if_pos a, if_pos a]; exact ⟨rfl, rfl⟩
  · rw [if_neg a, if_neg a]
    by_cases b : nI 4 < n
    · rw [if_pos b, if_pos b]; exact ⟨rfl, rfl⟩
    · simp [a, b] at h
theorem feed_in {z ν : Nat} (h1 : 1 ≤ ν) (h4 : ν ≤ 4) : feedA z (nI ν) = (if z + ν ≤ 250 then nI (z + ν) else -6) ∧ feedZ z (nI ν) = (if z + ν ≤ 250 then z + ν else z) := by
  unfold feedA feedZ
  have a : ¬ nI ν < nI 1 := fun q => by have := (nI_ltI (by omega) (by omega)).mp q; omega
  have b : ¬ nI 4 < nI ν := fun q => by have := (nI_ltI (by omega) (by omega)).mp q; omega
  rw [if_neg a, if_neg b, if_neg a, if_neg b, clN (by omega)]
  exact ⟨rfl, rfl⟩
theorem ge_nm1 {n : Nat} (h : n < 2 ^ 31) : ¬ nI n ≤ (-1 : Int32) := fun q => by
  rw [Int32.le_iff_toInt_le, nI_toInt h] at q
  have : (-1 : Int32).toInt = -1 := by decide
  omega
set_option maxHeartbeats 4000000 in
theorem c_X7_findBest_n {l : Launch} {h : Hp} {k : Nat} {v : Vg} (hm : MilAt h k v) (hn : 4 < vN v ∨ 6 < vP v) : Mp l yX7_findBest cX7_findBest 3 (some .boolean) 16 [vr 7 k] h (vi (b2i false)) := by
  refine Ms.of (by decide) (Nat.le_of_ble_eq_true rfl) (fun G C X F => ?_)
  have C : Cx G cX7_findBest 3 RX7 := C
  show Rr G 0 [(0, vr 7 k)] [] h
  have bP := hm.bP
  have bM := hm.bM
  have bN := hm.bN
  refine r_aload_n C (dx dX7_findBest 0 rfl) rfl ?_
  refine g_X7_74 (x := nI (vN v)) C (dx dX7_findBest 1 rfl) hm.eN ?_
  refine r_iconst (v := nI 4) C (dx dX7_findBest 2 rfl) rfl ?_
  refine rn_gt (a := vN v) (b := 4) (tgt := 17) C (by omega) (by omega) (dx dX7_findBest 3 rfl) (by decide) (fun c1 => ?_) (fun c1 => ?_)
  · first
    | (omega; done)
    | (
        have c1 : 4 < vN v := c1
        refine r_iconst (v := nI 0) C (dx dX7_findBest 8 rfl) rfl ?_
        exact F.1 _ _ _ _ _ rfl rfl (dx dX7_findBest 9 rfl) rfl ⟨congrArg (fun x => some (vi x)) (show nI 0 = b2i _ by rw [show false = false by rfl]; rfl), rfl⟩)
  · first
    | (omega; done)
    | (
        have c1 : vN v ≤ 4 := c1
        refine r_aload_n C (dx dX7_findBest 4 rfl) rfl ?_
        refine g_X7_64 (x := nI (vP v)) C (dx dX7_findBest 5 rfl) hm.eP ?_
        refine r_bipush (v := nI 6) C (dx dX7_findBest 6 rfl) rfl ?_
        refine rn_le (a := vP v) (b := 6) (tgt := 19) C (by omega) (by omega) (dx dX7_findBest 7 rfl) (by decide) (fun c2 => ?_) (fun c2 => ?_)
        · first
          | (omega; done)
          | (
              have c2 : vP v ≤ 6 := c2
              exact absurd hn (by omega))
        · first
          | (omega; done)
          | (
              have c2 : 6 < vP v := c2
              refine r_iconst (v := nI 0) C (dx dX7_findBest 8 rfl) rfl ?_
              exact F.1 _ _ _ _ _ rfl rfl (dx dX7_findBest 9 rfl) rfl ⟨congrArg (fun x => some (vi x)) (show nI 0 = b2i _ by rw [show false = false by rfl]; rfl), rfl⟩))
end
section
/-! PART 38: the reference: head, texts, the tape -/
def hdB (g : Sg) : Nat → Bool
  | 0 => false
  | s + 1 => hdB g s || holdB g (nI s)
theorem hd_all {g : Sg} {p : Nat} (e : holdB g (nI p) = true) : ∀ n, p < n → hdB g n = true
  | 0, h => absurd h (by omega)
  | n + 1, h => by
    show (hdB g n || holdB g (nI n)) = true
    by_cases q : p = n
    · subst q; rw [e, Bool.or_true]
    · rw [hd_all e n (by omega), Bool.true_or]
end
section
/-! PART 44: the reference, exactly: what only reads -/
theorem and31 (y : Int32) : ∃ j, j < 32 ∧ y &&& 31 = nI j := by
  obtain ⟨j, rfl⟩ := nI_ex y
  refine ⟨j &&& 31, by have : j &&& 31 ≤ 31 := Nat.and_le_right; omega, ?_⟩
  rw [show (31 : Int32) = nI 31 from rfl]
  exact nI_and
theorem shr_k : ∀ o : Fin 32, (nI o.val &&& 31).toBitVec.smod 32 = BitVec.ofNat 32 o.val := by decide +kernel
theorem and31_i {y : Int32} {j : Nat} (e : y &&& 31 = nI j) (hj : j < 32) : y &&& 31 = nI j &&& 31 := by
  have t : ∀ o : Fin 32, nI o.val &&& 31 = nI o.val := by decide +kernel
  rw [e]; exact (t ⟨j, hj⟩).symm
theorem bt_shr2 (x : Int32) {o : Nat} (ho : o < 32) : bt (x >>> (nI o &&& 31)) 0 = bt x o := by
  have e := shr_k ⟨o, ho⟩
  simp only at e
  unfold bt
  rw [Int32.toBitVec_shiftRight, e, BitVec.sshiftRight_eq', BitVec.getLsbD_sshiftRight, BitVec.toNat_ofNat, Nat.mod_eq_of_lt (by omega)]
  simp [show o < 32 by omega]
theorem bt_pow2 : ∀ n : Fin 32, ∀ i : Fin 32, bt (nI 1 <<< (nI n.val &&& 31)) i.val = decide (i.val = n.val) := by decide +kernel
theorem pow_0 (x : Int32) {o : Nat} (ho : o < 32) : (x &&& (nI 1 <<< (nI o &&& 31)) = 0) ↔ bt x o = false := by
  constructor
  · intro q
    have q2 := congrArg (fun z => bt z o) q
    simp only [bt_and] at q2
    rw [bt_pow2 ⟨o, ho⟩ ⟨o, ho⟩, decide_eq_true rfl, Bool.and_true] at q2
    rw [q2]; exact bt_0 o
  · intro q
    apply bt_ext
    intro i hi
    rw [bt_and, bt_pow2 ⟨o, ho⟩ ⟨i, hi⟩, show bt 0 i = false from bt_0 i]
    by_cases h : i = o
    · subst h; rw [q]; rfl
    · rw [decide_eq_false h, Bool.and_false]
theorem or0 (x : Int32) : x ||| nI 0 = x := by rw [nI_0, Int32.or_zero]
/-- a bit asked by shifting the set, or by shifting 1 -/
theorem sh_bit (x y : Int32) : ((x >>> (y &&& 31)) &&& nI 1 = 0) ↔ (x &&& (nI 1 <<< (y &&& 31)) = 0) := by
  obtain ⟨j, hj, e⟩ := and31 y
  rw [and31_i e hj, and1_0, bt_shr2 x hj, pow_0 x hj]
set_option maxHeartbeats 4000000 in
theorem e_isIn {l : Launch} {h : Hp} (x y : Int32) : Mp l yX7_isIn cX7_isIn 2 (some .boolean) 1 [vi x, vi y] h (vi (b2i (inB x y))) := by
  refine Ms.of (by decide) (Nat.le_of_ble_eq_true rfl) (fun G C X F => ?_)
  have C : Cx G cX7_isIn 2 RX7 := C
  show Rr G 0 [(0, vi x), (1, vi y)] [] h
  refine r_iload_n C (dx dX7_isIn 0 rfl) rfl ?_
  refine r_iconst (v := -1) C (dx dX7_isIn 1 rfl) rfl ?_
  refine r_icmp_eq (tgt := 17) C (dx dX7_isIn 2 rfl) (by decide) (fun c1 => ?_) (fun c1 => ?_)
  ·
    have c1 : y = -1 := c1
    refine r_iconst (v := nI 0) C (dx dX7_isIn 11 rfl) rfl ?_
    exact F.1 _ _ _ _ _ rfl rfl (dx dX7_isIn 12 rfl) rfl ⟨congrArg (fun x => some (vi x)) (show nI 0 = b2i _ by rw [show (inB x y) = false by (unfold inB; first | (rw [decide_eq_false (not_not_intro c1)]; rfl) | (rw [decide_eq_true c1, decide_eq_false (not_not_intro ((sh_bit _ _).mp c1))]; rfl) | (rw [decide_eq_true c1, decide_eq_true (show ¬ x &&& (nI 1 <<< (y &&& 31)) = 0 from fun q => c1 ((sh_bit _ _).mpr q))]; rfl))]; rfl), rfl⟩
  ·
    have c1 : ¬ y = -1 := c1
    refine r_iload_n C (dx dX7_isIn 3 rfl) rfl ?_
    refine r_iload_n C (dx dX7_isIn 4 rfl) rfl ?_
    refine r_ishr C (dx dX7_isIn 5 rfl) ?_
    refine r_iconst (v := nI 1) C (dx dX7_isIn 6 rfl) rfl ?_
    refine r_iand C (dx dX7_isIn 7 rfl) ?_
    refine r_if_eq (tgt := 17) C (dx dX7_isIn 8 rfl) (by decide) (fun c2 => ?_) (fun c2 => ?_)
    ·
      have c2 : (x >>> (y &&& 31)) &&& (nI 1) = 0 := c2
      refine r_iconst (v := nI 0) C (dx dX7_isIn 11 rfl) rfl ?_
      exact F.1 _ _ _ _ _ rfl rfl (dx dX7_isIn 12 rfl) rfl ⟨congrArg (fun x => some (vi x)) (show nI 0 = b2i _ by rw [show (inB x y) = false by (unfold inB; first | (rw [decide_eq_false (not_not_intro c1)]; rfl) | (rw [decide_eq_true c1, decide_eq_false (not_not_intro ((sh_bit _ _).mp c2))]; rfl) | (rw [decide_eq_true c1, decide_eq_true (show ¬ x &&& (nI 1 <<< (y &&& 31)) = 0 from fun q => c2 ((sh_bit _ _).mpr q))]; rfl))]; rfl), rfl⟩
    ·
      have c2 : ¬ (x >>> (y &&& 31)) &&& (nI 1) = 0 := c2
      refine r_iconst (v := nI 1) C (dx dX7_isIn 9 rfl) rfl ?_
      refine r_goto (tgt := 18) C (dx dX7_isIn 10 rfl) (by decide) ?_
      exact F.1 _ _ _ _ _ rfl rfl (dx dX7_isIn 12 rfl) rfl ⟨congrArg (fun x => some (vi x)) (show nI 1 = b2i _ by rw [show (inB x y) = true by (unfold inB; first | (rw [decide_eq_false (not_not_intro c1)]; rfl) | (rw [decide_eq_true c1, decide_eq_false (not_not_intro ((sh_bit _ _).mp c2))]; rfl) | (rw [decide_eq_true c1, decide_eq_true (show ¬ x &&& (nI 1 <<< (y &&& 31)) = 0 from fun q => c2 ((sh_bit _ _).mpr q))]; rfl))]; rfl), rfl⟩
set_option maxHeartbeats 4000000 in
theorem e_piecesOf {l : Launch} {h : Hp} {k : Nat} {v : Vg} (hm : MilAt h k v) (o : Int32) : Mp l yX7_piecesOf cX7_piecesOf 4 (some .int) 1 [vr 7 k, vi o] h (vi (nI (pcs v o (vP v)))) := by
  refine Ms.of (by decide) (Nat.le_of_ble_eq_true rfl) (fun G C X F => ?_)
  have C : Cx G cX7_piecesOf 4 RX7 := C
  show Rr G 0 [(0, vr 7 k), (1, vi o)] [] h
  have bP := hm.bP
  have bM := hm.bM
  have bN := hm.bN
  refine r_iconst (v := nI 0) C (dx dX7_piecesOf 0 rfl) rfl ?_
  refine r_istore_n (ls' := [(0, vr 7 k), (1, vi o), (2, vi (nI 0))]) C (dx dX7_piecesOf 1 rfl) (by decide) [1, 2, 0] rfl ?_
  refine r_iconst (v := nI 0) C (dx dX7_piecesOf 2 rfl) rfl ?_
  refine r_istore_n (ls' := [(0, vr 7 k), (1, vi o), (2, vi (nI 0)), (3, vi (nI 0))]) C (dx dX7_piecesOf 3 rfl) (by decide) [1, 2, 3, 0] rfl ?_
  refine loopU (Φ := fun p => Rr G 4 [(0, vr 7 k), (1, vi o), (2, vi (nI (pcs v o p))), (3, vi (nI p))] [] h) (N := vP v) ?_ ?_ 0 (Nat.zero_le _)
  ·
    refine r_iload_n C (dx dX7_piecesOf 4 rfl) rfl ?_
    refine r_aload_n C (dx dX7_piecesOf 5 rfl) rfl ?_
    refine g_X7_64 (x := nI (vP v)) C (dx dX7_piecesOf 6 rfl) hm.eP ?_
    refine rn_ge (a := vP v) (b := vP v) (tgt := 52) C (by omega) (by omega) (dx dX7_piecesOf 7 rfl) (by decide) (fun c1 => ?_) (fun c1 => ?_)
    · first
      | (omega; done)
      | (
          have c1 : vP v ≤ vP v := c1
          refine r_iload_n C (dx dX7_piecesOf 32 rfl) rfl ?_
          exact F.1 _ _ _ _ _ rfl rfl (dx dX7_piecesOf 33 rfl) rfl ⟨congrArg (fun x => some (vi x)) rfl, rfl⟩)
    · first
      | (omega; done)
  ·
    intro p hp ih
    refine r_iload_n C (dx dX7_piecesOf 4 rfl) rfl ?_
    refine r_aload_n C (dx dX7_piecesOf 5 rfl) rfl ?_
    refine g_X7_64 (x := nI (vP v)) C (dx dX7_piecesOf 6 rfl) hm.eP ?_
    refine rn_ge (a := p) (b := vP v) (tgt := 52) C (by omega) (by omega) (dx dX7_piecesOf 7 rfl) (by decide) (fun c4 => ?_) (fun c4 => ?_)
    · first
      | (omega; done)
      | (
          have c4 : vP v ≤ p := c4
          refine r_iload_n C (dx dX7_piecesOf 32 rfl) rfl ?_
          exact F.1 _ _ _ _ _ rfl rfl (dx dX7_piecesOf 33 rfl) rfl ⟨congrArg (fun x => some (vi x)) (show nI (pcs v o p) = nI (pcs v o (vP v)) by rfl), rfl⟩)
    · first
      | (omega; done)
      | (
          have c4 : p < vP v := c4
          refine r_iload_n C (dx dX7_piecesOf 8 rfl) rfl ?_
          refine r_aload_n C (dx dX7_piecesOf 9 rfl) rfl ?_
          refine g_X7_40 C (dx dX7_piecesOf 10 rfl) ?_
          refine r_iload_n C (dx dX7_piecesOf 11 rfl) rfl ?_
          refine r_iald (j := p) (x := vF v 0 p) C rfl rfl (by decide) rfl (by omega) (dx dX7_piecesOf 12 rfl) (hm.e0 (by omega)) ?_
          refine r_iload_n C (dx dX7_piecesOf 13 rfl) rfl ?_
          refine r_icmp_ne (tgt := 27) C (dx dX7_piecesOf 14 rfl) (by decide) (fun c5 => ?_) (fun c5 => ?_)
          ·
            have c5 : ¬ vF v 0 p = o := c5
            refine r_iconst (v := nI 0) C (dx dX7_piecesOf 17 rfl) rfl ?_
            refine r_aload_n C (dx dX7_piecesOf 18 rfl) rfl ?_
            refine g_X7_43 C (dx dX7_piecesOf 19 rfl) ?_
            refine r_iload_n C (dx dX7_piecesOf 20 rfl) rfl ?_
            refine r_iald (j := p) (x := vF v 1 p) C rfl rfl (by decide) rfl (by omega) (dx dX7_piecesOf 21 rfl) (hm.e1 (by omega)) ?_
            refine r_iload_n C (dx dX7_piecesOf 22 rfl) rfl ?_
            refine r_icmp_ne (tgt := 42) C (dx dX7_piecesOf 23 rfl) (by decide) (fun c6 => ?_) (fun c6 => ?_)
            ·
              have c6 : ¬ vF v 1 p = o := c6
              refine r_iconst (v := nI 0) C (dx dX7_piecesOf 26 rfl) rfl ?_
              refine rn_iadd (a := 0) (b := 0) C (dx dX7_piecesOf 27 rfl) ?_
              refine rn_iadd (a := pcs v o p) (b := 0) C (dx dX7_piecesOf 28 rfl) ?_
              refine r_istore_n (ls' := [(0, vr 7 k), (1, vi o), (2, vi (nI (pcs v o p + 0))), (3, vi (nI p))]) C (dx dX7_piecesOf 29 rfl) (by decide) [1, 2, 0, 3] rfl ?_
              refine rn_iinc (a := p) (k := 1) (ls' := [(0, vr 7 k), (1, vi o), (2, vi (nI (pcs v o p + 0))), (3, vi (nI (p + 1)))]) C (dx dX7_piecesOf 30 rfl) rfl rfl (by decide) [1, 2, 3, 0] rfl ?_
              refine r_goto (tgt := 4) C (dx dX7_piecesOf 31 rfl) (by decide) ?_
              have e9 : (nI (pcs v o p + 0)) = (nI (pcs v o (p + 1))) := by simp [pcs, c4, c5, c6]
              rw [e9]
              exact ih
            ·
              have c6 : vF v 1 p = o := c6
              refine r_iconst (v := nI 1) C (dx dX7_piecesOf 24 rfl) rfl ?_
              refine r_goto (tgt := 43) C (dx dX7_piecesOf 25 rfl) (by decide) ?_
              refine rn_iadd (a := 0) (b := 1) C (dx dX7_piecesOf 27 rfl) ?_
              refine rn_iadd (a := pcs v o p) (b := 1) C (dx dX7_piecesOf 28 rfl) ?_
              refine r_istore_n (ls' := [(0, vr 7 k), (1, vi o), (2, vi (nI (pcs v o p + 1))), (3, vi (nI p))]) C (dx dX7_piecesOf 29 rfl) (by decide) [1, 2, 0, 3] rfl ?_
              refine rn_iinc (a := p) (k := 1) (ls' := [(0, vr 7 k), (1, vi o), (2, vi (nI (pcs v o p + 1))), (3, vi (nI (p + 1)))]) C (dx dX7_piecesOf 30 rfl) rfl rfl (by decide) [1, 2, 3, 0] rfl ?_
              refine r_goto (tgt := 4) C (dx dX7_piecesOf 31 rfl) (by decide) ?_
              have e9 : (nI (pcs v o p + 1)) = (nI (pcs v o (p + 1))) := by simp [pcs, c4, c5, c6]
              rw [e9]
              exact ih
          ·
            have c5 : vF v 0 p = o := c5
            refine r_iconst (v := nI 1) C (dx dX7_piecesOf 15 rfl) rfl ?_
            refine r_goto (tgt := 28) C (dx dX7_piecesOf 16 rfl) (by decide) ?_
            refine r_aload_n C (dx dX7_piecesOf 18 rfl) rfl ?_
            refine g_X7_43 C (dx dX7_piecesOf 19 rfl) ?_
            refine r_iload_n C (dx dX7_piecesOf 20 rfl) rfl ?_
            refine r_iald (j := p) (x := vF v 1 p) C rfl rfl (by decide) rfl (by omega) (dx dX7_piecesOf 21 rfl) (hm.e1 (by omega)) ?_
            refine r_iload_n C (dx dX7_piecesOf 22 rfl) rfl ?_
            refine r_icmp_ne (tgt := 42) C (dx dX7_piecesOf 23 rfl) (by decide) (fun c7 => ?_) (fun c7 => ?_)
            ·
              have c7 : ¬ vF v 1 p = o := c7
              refine r_iconst (v := nI 0) C (dx dX7_piecesOf 26 rfl) rfl ?_
              refine rn_iadd (a := 1) (b := 0) C (dx dX7_piecesOf 27 rfl) ?_
              refine rn_iadd (a := pcs v o p) (b := 1) C (dx dX7_piecesOf 28 rfl) ?_
              refine r_istore_n (ls' := [(0, vr 7 k), (1, vi o), (2, vi (nI (pcs v o p + 1))), (3, vi (nI p))]) C (dx dX7_piecesOf 29 rfl) (by decide) [1, 2, 0, 3] rfl ?_
              refine rn_iinc (a := p) (k := 1) (ls' := [(0, vr 7 k), (1, vi o), (2, vi (nI (pcs v o p + 1))), (3, vi (nI (p + 1)))]) C (dx dX7_piecesOf 30 rfl) rfl rfl (by decide) [1, 2, 3, 0] rfl ?_
              refine r_goto (tgt := 4) C (dx dX7_piecesOf 31 rfl) (by decide) ?_
              have e9 : (nI (pcs v o p + 1)) = (nI (pcs v o (p + 1))) := by simp [pcs, c4, c5, c7]
              rw [e9]
              exact ih
            ·
              have c7 : vF v 1 p = o := c7
              refine r_iconst (v := nI 1) C (dx dX7_piecesOf 24 rfl) rfl ?_
              refine r_goto (tgt := 43) C (dx dX7_piecesOf 25 rfl) (by decide) ?_
              refine rn_iadd (a := 1) (b := 1) C (dx dX7_piecesOf 27 rfl) ?_
              refine rn_iadd (a := pcs v o p) (b := 2) C (dx dX7_piecesOf 28 rfl) ?_
              refine r_istore_n (ls' := [(0, vr 7 k), (1, vi o), (2, vi (nI (pcs v o p + 2))), (3, vi (nI p))]) C (dx dX7_piecesOf 29 rfl) (by decide) [1, 2, 0, 3] rfl ?_
              refine rn_iinc (a := p) (k := 1) (ls' := [(0, vr 7 k), (1, vi o), (2, vi (nI (pcs v o p + 2))), (3, vi (nI (p + 1)))]) C (dx dX7_piecesOf 30 rfl) rfl rfl (by decide) [1, 2, 3, 0] rfl ?_
              refine r_goto (tgt := 4) C (dx dX7_piecesOf 31 rfl) (by decide) ?_
              have e9 : (nI (pcs v o p + 2)) = (nI (pcs v o (p + 1))) := by simp [pcs, c4, c5, c7]
              rw [e9]
              exact ih)
set_option maxHeartbeats 4000000 in
theorem e_hasOf {l : Launch} {h : Hp} {k : Nat} {v : Vg} (hm : MilAt h k v) (s : Int32) : Mp l yX7_hasOf cX7_hasOf 4 (some .int) 2 [vr 7 k, vi s] h (vi (hasP v s)) := by
  refine Ms.of (by decide) (Nat.le_of_ble_eq_true rfl) (fun G C X F => ?_)
  have C : Cx G cX7_hasOf 4 RX7 := C
  show Rr G 0 [(0, vr 7 k), (1, vi s)] [] h
  have bP := hm.bP
  have bM := hm.bM
  have bN := hm.bN
  refine r_iconst (v := nI 0) C (dx dX7_hasOf 0 rfl) rfl ?_
  refine r_istore_n (ls' := [(0, vr 7 k), (1, vi s), (2, vi (nI 0))]) C (dx dX7_hasOf 1 rfl) (by decide) [1, 2, 0] rfl ?_
  refine r_iconst (v := nI 0) C (dx dX7_hasOf 2 rfl) rfl ?_
  refine r_istore_n (ls' := [(0, vr 7 k), (1, vi s), (2, vi (nI 0)), (3, vi (nI 0))]) C (dx dX7_hasOf 3 rfl) (by decide) [1, 2, 3, 0] rfl ?_
  refine loopU (Φ := fun p => Rr G 4 [(0, vr 7 k), (1, vi s), (2, vi (bset (fun p => inB s (vF v 0 p) || inB s (vF v 1 p)) p)), (3, vi (nI p))] [] h) (N := vP v) ?_ ?_ 0 (Nat.zero_le _)
  ·
    refine r_iload_n C (dx dX7_hasOf 4 rfl) rfl ?_
    refine r_aload_n C (dx dX7_hasOf 5 rfl) rfl ?_
    refine g_X7_64 (x := nI (vP v)) C (dx dX7_hasOf 6 rfl) hm.eP ?_
    refine rn_ge (a := vP v) (b := vP v) (tgt := 54) C (by omega) (by omega) (dx dX7_hasOf 7 rfl) (by decide) (fun c1 => ?_) (fun c1 => ?_)
    · first
      | (omega; done)
      | (
          have c1 : vP v ≤ vP v := c1
          refine r_iload_n C (dx dX7_hasOf 32 rfl) rfl ?_
          exact F.1 _ _ _ _ _ rfl rfl (dx dX7_hasOf 33 rfl) rfl ⟨congrArg (fun x => some (vi x)) (show bset (fun p => inB s (vF v 0 p) || inB s (vF v 1 p)) (vP v) = hasP v s by rfl), rfl⟩)
    · first
      | (omega; done)
  ·
    intro p hp ih
    refine r_iload_n C (dx dX7_hasOf 4 rfl) rfl ?_
    refine r_aload_n C (dx dX7_hasOf 5 rfl) rfl ?_
    refine g_X7_64 (x := nI (vP v)) C (dx dX7_hasOf 6 rfl) hm.eP ?_
    refine rn_ge (a := p) (b := vP v) (tgt := 54) C (by omega) (by omega) (dx dX7_hasOf 7 rfl) (by decide) (fun c3 => ?_) (fun c3 => ?_)
    · first
      | (omega; done)
      | (
          have c3 : vP v ≤ p := c3
          refine r_iload_n C (dx dX7_hasOf 32 rfl) rfl ?_
          exact F.1 _ _ _ _ _ rfl rfl (dx dX7_hasOf 33 rfl) rfl ⟨congrArg (fun x => some (vi x)) (show bset (fun p => inB s (vF v 0 p) || inB s (vF v 1 p)) p = hasP v s by rfl), rfl⟩)
    · first
      | (omega; done)
      | (
          have c3 : p < vP v := c3
          refine r_iload_n C (dx dX7_hasOf 8 rfl) rfl ?_
          refine r_iload_n C (dx dX7_hasOf 9 rfl) rfl ?_
          refine r_aload_n C (dx dX7_hasOf 10 rfl) rfl ?_
          refine g_X7_40 C (dx dX7_hasOf 11 rfl) ?_
          refine r_iload_n C (dx dX7_hasOf 12 rfl) rfl ?_
          refine r_iald (j := p) (x := vF v 0 p) C rfl rfl (by decide) rfl (by omega) (dx dX7_hasOf 13 rfl) (hm.e0 (by omega)) ?_
          refine r_csP (as := [vi s, vi (vF v 0 p)]) (st := [vi (bset (fun p => inB s (vF v 0 p) || inB s (vF v 1 p)) p)]) (v := vi (b2i (inB s (vF v 0 p)))) C X I_X7_isIn l_X7_244 (e_isIn _ _) (by decide) (Nat.le_of_ble_eq_true rfl) List.prefix_rfl (Nat.le_of_ble_eq_true rfl) rfl (dx dX7_hasOf 14 rfl) ?_
          refine rb_ne (b := inB s (vF v 0 p)) (tgt := 39) C (dx dX7_hasOf 15 rfl) (by decide) (fun c4 => ?_) (fun c4 => ?_)
          ·
            have c4 : (inB s (vF v 0 p)) = true := c4
            refine r_iconst (v := nI 1) C (dx dX7_hasOf 23 rfl) rfl ?_
            refine r_iload_n C (dx dX7_hasOf 24 rfl) rfl ?_
            refine r_ishl C (dx dX7_hasOf 25 rfl) ?_
            refine r_goto (tgt := 46) C (dx dX7_hasOf 26 rfl) (by decide) ?_
            refine r_ior C (dx dX7_hasOf 28 rfl) ?_
            refine r_istore_n (ls' := [(0, vr 7 k), (1, vi s), (2, vi ((bset (fun p => inB s (vF v 0 p) || inB s (vF v 1 p)) p) ||| ((nI 1) <<< ((nI p) &&& 31)))), (3, vi (nI p))]) C (dx dX7_hasOf 29 rfl) (by decide) [1, 2, 0, 3] rfl ?_
            refine rn_iinc (a := p) (k := 1) (ls' := [(0, vr 7 k), (1, vi s), (2, vi ((bset (fun p => inB s (vF v 0 p) || inB s (vF v 1 p)) p) ||| ((nI 1) <<< ((nI p) &&& 31)))), (3, vi (nI (p + 1)))]) C (dx dX7_hasOf 30 rfl) rfl rfl (by decide) [1, 2, 3, 0] rfl ?_
            refine r_goto (tgt := 4) C (dx dX7_hasOf 31 rfl) (by decide) ?_
            have e9 : ((bset (fun p => inB s (vF v 0 p) || inB s (vF v 1 p)) p) ||| ((nI 1) <<< ((nI p) &&& 31))) = (bset (fun p => inB s (vF v 0 p) || inB s (vF v 1 p)) (p + 1)) := by simp [bset, or0, c3, c4]
            rw [e9]
            exact ih
          ·
            have c4 : (inB s (vF v 0 p)) = false := c4
            refine r_iload_n C (dx dX7_hasOf 16 rfl) rfl ?_
            refine r_aload_n C (dx dX7_hasOf 17 rfl) rfl ?_
            refine g_X7_43 C (dx dX7_hasOf 18 rfl) ?_
            refine r_iload_n C (dx dX7_hasOf 19 rfl) rfl ?_
            refine r_iald (j := p) (x := vF v 1 p) C rfl rfl (by decide) rfl (by omega) (dx dX7_hasOf 20 rfl) (hm.e1 (by omega)) ?_
            refine r_csP (as := [vi s, vi (vF v 1 p)]) (st := [vi (bset (fun p => inB s (vF v 0 p) || inB s (vF v 1 p)) p)]) (v := vi (b2i (inB s (vF v 1 p)))) C X I_X7_isIn l_X7_244 (e_isIn _ _) (by decide) (Nat.le_of_ble_eq_true rfl) List.prefix_rfl (Nat.le_of_ble_eq_true rfl) rfl (dx dX7_hasOf 21 rfl) ?_
            refine rb_eq (b := inB s (vF v 1 p)) (tgt := 45) C (dx dX7_hasOf 22 rfl) (by decide) (fun c5 => ?_) (fun c5 => ?_)
            ·
              have c5 : (inB s (vF v 1 p)) = false := c5
              refine r_iconst (v := nI 0) C (dx dX7_hasOf 27 rfl) rfl ?_
              refine r_ior C (dx dX7_hasOf 28 rfl) ?_
              refine r_istore_n (ls' := [(0, vr 7 k), (1, vi s), (2, vi ((bset (fun p => inB s (vF v 0 p) || inB s (vF v 1 p)) p) ||| (nI 0))), (3, vi (nI p))]) C (dx dX7_hasOf 29 rfl) (by decide) [1, 2, 0, 3] rfl ?_
              refine rn_iinc (a := p) (k := 1) (ls' := [(0, vr 7 k), (1, vi s), (2, vi ((bset (fun p => inB s (vF v 0 p) || inB s (vF v 1 p)) p) ||| (nI 0))), (3, vi (nI (p + 1)))]) C (dx dX7_hasOf 30 rfl) rfl rfl (by decide) [1, 2, 3, 0] rfl ?_
              refine r_goto (tgt := 4) C (dx dX7_hasOf 31 rfl) (by decide) ?_
              have e9 : ((bset (fun p => inB s (vF v 0 p) || inB s (vF v 1 p)) p) ||| (nI 0)) = (bset (fun p => inB s (vF v 0 p) || inB s (vF v 1 p)) (p + 1)) := by simp [bset, or0, c3, c4, c5]
              rw [e9]
              exact ih
            ·
              have c5 : (inB s (vF v 1 p)) = true := c5
              refine r_iconst (v := nI 1) C (dx dX7_hasOf 23 rfl) rfl ?_
              refine r_iload_n C (dx dX7_hasOf 24 rfl) rfl ?_
              refine r_ishl C (dx dX7_hasOf 25 rfl) ?_
              refine r_goto (tgt := 46) C (dx dX7_hasOf 26 rfl) (by decide) ?_
              refine r_ior C (dx dX7_hasOf 28 rfl) ?_
              refine r_istore_n (ls' := [(0, vr 7 k), (1, vi s), (2, vi ((bset (fun p => inB s (vF v 0 p) || inB s (vF v 1 p)) p) ||| ((nI 1) <<< ((nI p) &&& 31)))), (3, vi (nI p))]) C (dx dX7_hasOf 29 rfl) (by decide) [1, 2, 0, 3] rfl ?_
              refine rn_iinc (a := p) (k := 1) (ls' := [(0, vr 7 k), (1, vi s), (2, vi ((bset (fun p => inB s (vF v 0 p) || inB s (vF v 1 p)) p) ||| ((nI 1) <<< ((nI p) &&& 31)))), (3, vi (nI (p + 1)))]) C (dx dX7_hasOf 30 rfl) rfl rfl (by decide) [1, 2, 3, 0] rfl ?_
              refine r_goto (tgt := 4) C (dx dX7_hasOf 31 rfl) (by decide) ?_
              have e9 : ((bset (fun p => inB s (vF v 0 p) || inB s (vF v 1 p)) p) ||| ((nI 1) <<< ((nI p) &&& 31))) = (bset (fun p => inB s (vF v 0 p) || inB s (vF v 1 p)) (p + 1)) := by simp [bset, or0, c3, c4, c5]
              rw [e9]
              exact ih)
set_option maxHeartbeats 4000000 in
theorem e_hasRoom {l : Launch} {h : Hp} {k : Nat} {v : Vg} (hm : MilAt h k v) {j : Nat} (hj : j < vN v) : Mp l yX7_hasRoom cX7_hasRoom 2 (some .boolean) 2 [vr 7 k, vi (nI j)] h (vi (b2i (hasRm v (nI j)))) := by
  refine Ms.of (by decide) (Nat.le_of_ble_eq_true rfl) (fun G C X F => ?_)
  have C : Cx G cX7_hasRoom 2 RX7 := C
  show Rr G 0 [(0, vr 7 k), (1, vi (nI j))] [] h
  have bP := hm.bP
  have bM := hm.bM
  have bN := hm.bN
  refine r_aload_n C (dx dX7_hasRoom 0 rfl) rfl ?_
  refine r_iload_n C (dx dX7_hasRoom 1 rfl) rfl ?_
  refine r_cvP (as := [vi (nI j)]) (st := []) (v := vi (nI (pcs v (nI j) (vP v)))) C X I_X7_piecesOf l_X7_129 (e_piecesOf hm _) (by decide) (Nat.le_of_ble_eq_true rfl) List.prefix_rfl rfl rfl (Nat.le_of_ble_eq_true rfl) rfl (dx dX7_hasRoom 2 rfl) ?_
  refine r_aload_n C (dx dX7_hasRoom 3 rfl) rfl ?_
  refine g_X7_54 C (dx dX7_hasRoom 4 rfl) ?_
  refine r_iload_n C (dx dX7_hasRoom 5 rfl) rfl ?_
  refine r_aald4 (j := j) C rfl rfl (by decide) rfl (by omega) (dx dX7_hasRoom 6 rfl) ?_
  refine r_iconst (v := nI 0) C (dx dX7_hasRoom 7 rfl) rfl ?_
  refine r_iald (j := 0) (x := vF v 4 j) C rfl rfl (by decide) rfl (by omega) (dx dX7_hasRoom 8 rfl) (hm.eo (by omega) (by omega)) ?_
  refine r_icmp_ge (tgt := 20) C (dx dX7_hasRoom 9 rfl) (by decide) (fun c1 => ?_) (fun c1 => ?_)
  ·
    have c1 : vF v 4 j ≤ nI (pcs v (nI j) (vP v)) := c1
    refine r_iconst (v := nI 0) C (dx dX7_hasRoom 12 rfl) rfl ?_
    exact F.1 _ _ _ _ _ rfl rfl (dx dX7_hasRoom 13 rfl) rfl ⟨congrArg (fun x => some (vi x)) (show nI 0 = b2i _ by rw [show (hasRm v (nI j)) = false by (unfold hasRm; rw [inN (show j < 2 ^ 31 by omega) hj, clN (show j < 2 ^ 31 by omega)]; first | (rw [decide_eq_true (Int32.not_le.mp c1)]; rfl) | (rw [decide_eq_false (Int32.not_lt.mpr c1)]; rfl))]; rfl), rfl⟩
  ·
    have c1 : ¬ vF v 4 j ≤ nI (pcs v (nI j) (vP v)) := c1
    refine r_iconst (v := nI 1) C (dx dX7_hasRoom 10 rfl) rfl ?_
    refine r_goto (tgt := 21) C (dx dX7_hasRoom 11 rfl) (by decide) ?_
    exact F.1 _ _ _ _ _ rfl rfl (dx dX7_hasRoom 13 rfl) rfl ⟨congrArg (fun x => some (vi x)) (show nI 1 = b2i _ by rw [show (hasRm v (nI j)) = true by (unfold hasRm; rw [inN (show j < 2 ^ 31 by omega) hj, clN (show j < 2 ^ 31 by omega)]; first | (rw [decide_eq_true (Int32.not_le.mp c1)]; rfl) | (rw [decide_eq_false (Int32.not_lt.mpr c1)]; rfl))]; rfl), rfl⟩
set_option maxHeartbeats 4000000 in
theorem e_worksOf {l : Launch} {h : Hp} {k : Nat} {v : Vg} (hm : MilAt h k v) {m : Nat} (hj : m < vM v) (s : Int32) : Mp l yX7_worksOf cX7_worksOf 3 (some .boolean) 3 [vr 7 k, vi (nI m), vi s] h (vi (b2i (needW v (hasP v s) m))) := by
  refine Ms.of (by decide) (Nat.le_of_ble_eq_true rfl) (fun G C X F => ?_)
  have C : Cx G cX7_worksOf 3 RX7 := C
  show Rr G 0 [(0, vr 7 k), (1, vi (nI m)), (2, vi s)] [] h
  have bP := hm.bP
  have bM := hm.bM
  have bN := hm.bN
  refine r_aload_n C (dx dX7_worksOf 0 rfl) rfl ?_
  refine g_X7_46 C (dx dX7_worksOf 1 rfl) ?_
  refine r_iload_n C (dx dX7_worksOf 2 rfl) rfl ?_
  refine r_iald (j := m) (x := vF v 2 m) C rfl rfl (by decide) rfl (by omega) (dx dX7_worksOf 3 rfl) (hm.e2 (by omega)) ?_
  refine r_aload_n C (dx dX7_worksOf 4 rfl) rfl ?_
  refine r_iload_n C (dx dX7_worksOf 5 rfl) rfl ?_
  refine r_cvP (as := [vi s]) (st := [vi (vF v 2 m)]) (v := vi (hasP v s)) C X I_X7_hasOf l_X7_247 (e_hasOf hm _) (by decide) (Nat.le_of_ble_eq_true rfl) List.prefix_rfl rfl rfl (Nat.le_of_ble_eq_true rfl) rfl (dx dX7_worksOf 6 rfl) ?_
  refine r_iconst (v := -1) C (dx dX7_worksOf 7 rfl) rfl ?_
  refine r_ixor C (dx dX7_worksOf 8 rfl) ?_
  refine r_iand C (dx dX7_worksOf 9 rfl) ?_
  refine r_if_ne (tgt := 21) C (dx dX7_worksOf 10 rfl) (by decide) (fun c1 => ?_) (fun c1 => ?_)
  ·
    have c1 : ¬ (vF v 2 m) &&& ((hasP v s) ^^^ (-1)) = 0 := c1
    refine r_iconst (v := nI 0) C (dx dX7_worksOf 13 rfl) rfl ?_
    exact F.1 _ _ _ _ _ rfl rfl (dx dX7_worksOf 14 rfl) rfl ⟨congrArg (fun x => some (vi x)) (show nI 0 = b2i _ by rw [show (needW v (hasP v s) m) = false by (unfold needW; first | exact decide_eq_true c1 | exact decide_eq_false c1)]; rfl), rfl⟩
  ·
    have c1 : (vF v 2 m) &&& ((hasP v s) ^^^ (-1)) = 0 := c1
    refine r_iconst (v := nI 1) C (dx dX7_worksOf 11 rfl) rfl ?_
    refine r_goto (tgt := 22) C (dx dX7_worksOf 12 rfl) (by decide) ?_
    exact F.1 _ _ _ _ _ rfl rfl (dx dX7_worksOf 14 rfl) rfl ⟨congrArg (fun x => some (vi x)) (show nI 1 = b2i _ by rw [show (needW v (hasP v s) m) = true by (unfold needW; first | exact decide_eq_true c1 | exact decide_eq_false c1)]; rfl), rfl⟩
set_option maxHeartbeats 4000000 in
theorem e_held {l : Launch} {h : Hp} {k : Nat} {v : Vg} (hm : MilAt h k v) (b : Bool) : Mp l yX7_held cX7_held 4 (some .int) 1 [vr 7 k, vi (b2i b)] h (vi (nI (cnt (fun p => decide (¬ vF v (if b then 1 else 0) p = -1)) (vP v)))) := by
  refine Ms.of (by decide) (Nat.le_of_ble_eq_true rfl) (fun G C X F => ?_)
  have C : Cx G cX7_held 4 RX7 := C
  show Rr G 0 [(0, vr 7 k), (1, vi (b2i b))] [] h
  have bP := hm.bP
  have bM := hm.bM
  have bN := hm.bN
  refine r_iconst (v := nI 0) C (dx dX7_held 0 rfl) rfl ?_
  refine r_istore_n (ls' := [(0, vr 7 k), (1, vi (b2i b)), (2, vi (nI 0))]) C (dx dX7_held 1 rfl) (by decide) [1, 2, 0] rfl ?_
  refine r_iconst (v := nI 0) C (dx dX7_held 2 rfl) rfl ?_
  refine r_istore_n (ls' := [(0, vr 7 k), (1, vi (b2i b)), (2, vi (nI 0)), (3, vi (nI 0))]) C (dx dX7_held 3 rfl) (by decide) [1, 2, 3, 0] rfl ?_
  refine loopU (Φ := fun p => Rr G 4 [(0, vr 7 k), (1, vi (b2i b)), (2, vi (nI (cnt (fun p => decide (¬ vF v (if b then 1 else 0) p = -1)) p))), (3, vi (nI p))] [] h) (N := vP v) ?_ ?_ 0 (Nat.zero_le _)
  ·
    refine r_iload_n C (dx dX7_held 4 rfl) rfl ?_
    refine r_aload_n C (dx dX7_held 5 rfl) rfl ?_
    refine g_X7_64 (x := nI (vP v)) C (dx dX7_held 6 rfl) hm.eP ?_
    refine rn_ge (a := vP v) (b := vP v) (tgt := 49) C (by omega) (by omega) (dx dX7_held 7 rfl) (by decide) (fun c1 => ?_) (fun c1 => ?_)
    · first
      | (omega; done)
      | (
          have c1 : vP v ≤ vP v := c1
          refine r_iload_n C (dx dX7_held 29 rfl) rfl ?_
          exact F.1 _ _ _ _ _ rfl rfl (dx dX7_held 30 rfl) rfl ⟨congrArg (fun x => some (vi x)) rfl, rfl⟩)
    · first
      | (omega; done)
  ·
    intro p hp ih
    refine r_iload_n C (dx dX7_held 4 rfl) rfl ?_
    refine r_aload_n C (dx dX7_held 5 rfl) rfl ?_
    refine g_X7_64 (x := nI (vP v)) C (dx dX7_held 6 rfl) hm.eP ?_
    refine rn_ge (a := p) (b := vP v) (tgt := 49) C (by omega) (by omega) (dx dX7_held 7 rfl) (by decide) (fun c4 => ?_) (fun c4 => ?_)
    · first
      | (omega; done)
      | (
          have c4 : vP v ≤ p := c4
          refine r_iload_n C (dx dX7_held 29 rfl) rfl ?_
          exact F.1 _ _ _ _ _ rfl rfl (dx dX7_held 30 rfl) rfl ⟨congrArg (fun x => some (vi x)) (show nI (cnt (fun p => decide (¬ vF v (if b then 1 else 0) p = -1)) p) = nI (cnt (fun p => decide (¬ vF v (if b then 1 else 0) p = -1)) (vP v)) by rfl), rfl⟩)
    · first
      | (omega; done)
      | (
          have c4 : p < vP v := c4
          refine r_iload_n C (dx dX7_held 8 rfl) rfl ?_
          refine r_iload_n C (dx dX7_held 9 rfl) rfl ?_
          refine rb_eq (b := b) (tgt := 26) C (dx dX7_held 10 rfl) (by decide) (fun c5 => ?_) (fun c5 => ?_)
          ·
            have c5 : b = false := c5
            refine r_aload_n C (dx dX7_held 16 rfl) rfl ?_
            refine g_X7_40 C (dx dX7_held 17 rfl) ?_
            refine r_iload_n C (dx dX7_held 18 rfl) rfl ?_
            refine r_iald (j := p) (x := vF v 0 p) C rfl rfl (by decide) rfl (by omega) (dx dX7_held 19 rfl) (hm.e0 (by omega)) ?_
            refine r_iconst (v := -1) C (dx dX7_held 20 rfl) rfl ?_
            refine r_icmp_eq (tgt := 40) C (dx dX7_held 21 rfl) (by decide) (fun c6 => ?_) (fun c6 => ?_)
            ·
              have c6 : vF v 0 p = -1 := c6
              refine r_iconst (v := nI 0) C (dx dX7_held 24 rfl) rfl ?_
              refine rn_iadd (a := cnt (fun p => decide (¬ vF v (if b then 1 else 0) p = -1)) p) (b := 0) C (dx dX7_held 25 rfl) ?_
              refine r_istore_n (ls' := [(0, vr 7 k), (1, vi (b2i b)), (2, vi (nI (cnt (fun p => decide (¬ vF v (if b then 1 else 0) p = -1)) p + 0))), (3, vi (nI p))]) C (dx dX7_held 26 rfl) (by decide) [1, 2, 0, 3] rfl ?_
              refine rn_iinc (a := p) (k := 1) (ls' := [(0, vr 7 k), (1, vi (b2i b)), (2, vi (nI (cnt (fun p => decide (¬ vF v (if b then 1 else 0) p = -1)) p + 0))), (3, vi (nI (p + 1)))]) C (dx dX7_held 27 rfl) rfl rfl (by decide) [1, 2, 3, 0] rfl ?_
              refine r_goto (tgt := 4) C (dx dX7_held 28 rfl) (by decide) ?_
              have e9 : (nI (cnt (fun p => decide (¬ vF v (if b then 1 else 0) p = -1)) p + 0)) = (nI (cnt (fun p => decide (¬ vF v (if b then 1 else 0) p = -1)) (p + 1))) := by simp [cnt, c4, c5, c6]
              rw [e9]
              exact ih
            ·
              have c6 : ¬ vF v 0 p = -1 := c6
              refine r_iconst (v := nI 1) C (dx dX7_held 22 rfl) rfl ?_
              refine r_goto (tgt := 41) C (dx dX7_held 23 rfl) (by decide) ?_
              refine rn_iadd (a := cnt (fun p => decide (¬ vF v (if b then 1 else 0) p = -1)) p) (b := 1) C (dx dX7_held 25 rfl) ?_
              refine r_istore_n (ls' := [(0, vr 7 k), (1, vi (b2i b)), (2, vi (nI (cnt (fun p => decide (¬ vF v (if b then 1 else 0) p = -1)) p + 1))), (3, vi (nI p))]) C (dx dX7_held 26 rfl) (by decide) [1, 2, 0, 3] rfl ?_
              refine rn_iinc (a := p) (k := 1) (ls' := [(0, vr 7 k), (1, vi (b2i b)), (2, vi (nI (cnt (fun p => decide (¬ vF v (if b then 1 else 0) p = -1)) p + 1))), (3, vi (nI (p + 1)))]) C (dx dX7_held 27 rfl) rfl rfl (by decide) [1, 2, 3, 0] rfl ?_
              refine r_goto (tgt := 4) C (dx dX7_held 28 rfl) (by decide) ?_
              have e9 : (nI (cnt (fun p => decide (¬ vF v (if b then 1 else 0) p = -1)) p + 1)) = (nI (cnt (fun p => decide (¬ vF v (if b then 1 else 0) p = -1)) (p + 1))) := by simp [cnt, c4, c5, c6]
              rw [e9]
              exact ih
          ·
            have c5 : b = true := c5
            refine r_aload_n C (dx dX7_held 11 rfl) rfl ?_
            refine g_X7_43 C (dx dX7_held 12 rfl) ?_
            refine r_iload_n C (dx dX7_held 13 rfl) rfl ?_
            refine r_iald (j := p) (x := vF v 1 p) C rfl rfl (by decide) rfl (by omega) (dx dX7_held 14 rfl) (hm.e1 (by omega)) ?_
            refine r_goto (tgt := 32) C (dx dX7_held 15 rfl) (by decide) ?_
            refine r_iconst (v := -1) C (dx dX7_held 20 rfl) rfl ?_
            refine r_icmp_eq (tgt := 40) C (dx dX7_held 21 rfl) (by decide) (fun c7 => ?_) (fun c7 => ?_)
            ·
              have c7 : vF v 1 p = -1 := c7
              refine r_iconst (v := nI 0) C (dx dX7_held 24 rfl) rfl ?_
              refine rn_iadd (a := cnt (fun p => decide (¬ vF v (if b then 1 else 0) p = -1)) p) (b := 0) C (dx dX7_held 25 rfl) ?_
              refine r_istore_n (ls' := [(0, vr 7 k), (1, vi (b2i b)), (2, vi (nI (cnt (fun p => decide (¬ vF v (if b then 1 else 0) p = -1)) p + 0))), (3, vi (nI p))]) C (dx dX7_held 26 rfl) (by decide) [1, 2, 0, 3] rfl ?_
              refine rn_iinc (a := p) (k := 1) (ls' := [(0, vr 7 k), (1, vi (b2i b)), (2, vi (nI (cnt (fun p => decide (¬ vF v (if b then 1 else 0) p = -1)) p + 0))), (3, vi (nI (p + 1)))]) C (dx dX7_held 27 rfl) rfl rfl (by decide) [1, 2, 3, 0] rfl ?_
              refine r_goto (tgt := 4) C (dx dX7_held 28 rfl) (by decide) ?_
              have e9 : (nI (cnt (fun p => decide (¬ vF v (if b then 1 else 0) p = -1)) p + 0)) = (nI (cnt (fun p => decide (¬ vF v (if b then 1 else 0) p = -1)) (p + 1))) := by simp [cnt, c4, c5, c7]
              rw [e9]
              exact ih
            ·
              have c7 : ¬ vF v 1 p = -1 := c7
              refine r_iconst (v := nI 1) C (dx dX7_held 22 rfl) rfl ?_
              refine r_goto (tgt := 41) C (dx dX7_held 23 rfl) (by decide) ?_
              refine rn_iadd (a := cnt (fun p => decide (¬ vF v (if b then 1 else 0) p = -1)) p) (b := 1) C (dx dX7_held 25 rfl) ?_
              refine r_istore_n (ls' := [(0, vr 7 k), (1, vi (b2i b)), (2, vi (nI (cnt (fun p => decide (¬ vF v (if b then 1 else 0) p = -1)) p + 1))), (3, vi (nI p))]) C (dx dX7_held 26 rfl) (by decide) [1, 2, 0, 3] rfl ?_
              refine rn_iinc (a := p) (k := 1) (ls' := [(0, vr 7 k), (1, vi (b2i b)), (2, vi (nI (cnt (fun p => decide (¬ vF v (if b then 1 else 0) p = -1)) p + 1))), (3, vi (nI (p + 1)))]) C (dx dX7_held 27 rfl) rfl rfl (by decide) [1, 2, 3, 0] rfl ?_
              refine r_goto (tgt := 4) C (dx dX7_held 28 rfl) (by decide) ?_
              have e9 : (nI (cnt (fun p => decide (¬ vF v (if b then 1 else 0) p = -1)) p + 1)) = (nI (cnt (fun p => decide (¬ vF v (if b then 1 else 0) p = -1)) (p + 1))) := by simp [cnt, c4, c5, c7]
              rw [e9]
              exact ih)
end
