/-! PART 33: the class made -/
theorem Lo.fs {c : Nat} {h h1 : Hp} (q : Lo c h h1) : Fs (fun b => c ≤ b) h h1 := fun b hb => q b (Nat.lt_of_not_le hb)
theorem unl {c lo hi : Nat} (h : hi ≤ c) : un (fun b => c ≤ b) lo hi := fun b _ h2 q => by omega
theorem una {a lo hi : Nat} (h : a < lo) : un (fun b => b = a) lo hi := fun b h1 _ q => by omega
theorem Fs.a {a j : Nat} {x : Int32} {h : Hp} : Fs (fun b => b = a) h (sI h a j x) := fun b hb => oth_sI b hb
theorem oaU {a B s c : Nat} (h : B + s ≤ c) : a + B + s ≤ a + c := by omega
theorem oaV {a B s : Nat} (h : 0 < B) : a < a + B + s := by omega
theorem oaL {L a B i : Nat} (hlen : L = a + 1) (h : B = i + 1) : a + B = L + i := by omega
theorem oa9 {a B T T' : Nat} (hb : a + T < 900) (h : B + T' ≤ T) : a + B + T' < 900 := by omega
theorem getK {al M : List Nat} {a : Nat} (hlen : al.length = a + 1) (i : Nat) : (al ++ M)[a + 1 + i]? = M[i]? := by
  rw [← hlen, List.getElem?_append_right (Nat.le_add_right _ _), Nat.add_sub_cancel_left]
theorem Rmx.go {l : Launch} {G : Gt} {d : Nat} {h H : Hp} {M E T : List Nat} (X : Rmx l G d (xK h ++ T)) (K : xK H = xK h ++ M) (h1 : (M ++ E).length ≤ T.length) (h2 : slo (M ++ E) ≤ slo T) : Rmx l G d (xK H ++ E) := by
  obtain ⟨p, l', e, R, s, m, args, below, meth, c, D, dA, A, f0, al0, Q, nL'⟩ := G
  obtain ⟨rfl, X1, X2, X3, X4⟩ := X
  rw [List.length_append] at X3
  rw [slo_app] at X4
  refine ⟨rfl, X1, X2, ?_, ?_⟩
  · rw [K, List.append_assoc, List.length_append]; omega
  · rw [K, List.append_assoc, slo_app]; omega
theorem hfs0 : ∀ j, j < 1 → defaultValue (clTy 8 j) = vp_V (zf [(3, 0, 22)]) j := fun j hj => by
  match j, hj with
  | 0, _ => rfl
  | k + 1, h => exact absurd h (by omega)
theorem hfs1 : ∀ j, j < 6 → defaultValue (clTy 9 j) = vp_V (zf [(3, 0, 21), (3, 0, 21), (3, 0, 27), (3, 0, 32), (3, 0, 28), (1, 0, 0)]) j := fun j hj => by
  match j, hj with
  | 0, _ => rfl
  | 1, _ => rfl
  | 2, _ => rfl
  | 3, _ => rfl
  | 4, _ => rfl
  | 5, _ => rfl
  | k + 6, h => exact absurd h (by omega)
theorem hfs2 : ∀ j, j < 4 → defaultValue (clTy 10 j) = vp_V (zf [(3, 0, 22), (3, 0, 22), (3, 0, 33), (3, 0, 22)]) j := fun j hj => by
  match j, hj with
  | 0, _ => rfl
  | 1, _ => rfl
  | 2, _ => rfl
  | 3, _ => rfl
  | k + 4, h => exact absurd h (by omega)
theorem hfs3 : ∀ j, j < 5 → defaultValue (clTy 11 j) = vp_V (zf [(3, 0, 29), (0, 0, 0), (0, 0, 0), (0, 0, 0), (0, 0, 0)]) j := fun j hj => by
  match j, hj with
  | 0, _ => rfl
  | 1, _ => rfl
  | 2, _ => rfl
  | 3, _ => rfl
  | 4, _ => rfl
  | k + 5, h => exact absurd h (by omega)
theorem hfs4 : ∀ j, j < 3 → defaultValue (clTy 12 j) = vp_V (zf [(3, 0, 24), (3, 0, 25), (3, 0, 22)]) j := fun j hj => by
  match j, hj with
  | 0, _ => rfl
  | 1, _ => rfl
  | 2, _ => rfl
  | k + 3, h => exact absurd h (by omega)
theorem hfs5 : ∀ j, j < 12 → defaultValue (clTy 13 j) = vp_V (zf [(0, 0, 0), (3, 0, 20), (3, 0, 20), (0, 0, 0), (3, 0, 21), (3, 0, 21), (0, 0, 0), (3, 0, 22), (3, 0, 22), (3, 0, 23), (3, 0, 22), (0, 0, 0)]) j := fun j hj => by
  match j, hj with
  | 0, _ => rfl
  | 1, _ => rfl
  | 2, _ => rfl
  | 3, _ => rfl
  | 4, _ => rfl
  | 5, _ => rfl
  | 6, _ => rfl
  | 7, _ => rfl
  | 8, _ => rfl
  | 9, _ => rfl
  | 10, _ => rfl
  | 11, _ => rfl
  | k + 12, h => exact absurd h (by omega)
theorem hfs6 : ∀ j, j < 12 → defaultValue (clTy 14 j) = vp_V (zf [(3, 0, 5), (3, 0, 5), (3, 0, 5), (0, 0, 0), (3, 0, 4), (3, 0, 0), (3, 0, 1), (3, 0, 3), (3, 0, 2), (3, 0, 26), (0, 0, 0), (0, 0, 0)]) j := fun j hj => by
  match j, hj with
  | 0, _ => rfl
  | 1, _ => rfl
  | 2, _ => rfl
  | 3, _ => rfl
  | 4, _ => rfl
  | 5, _ => rfl
  | 6, _ => rfl
  | 7, _ => rfl
  | 8, _ => rfl
  | 9, _ => rfl
  | 10, _ => rfl
  | 11, _ => rfl
  | k + 12, h => exact absurd h (by omega)
theorem hfs7 : ∀ j, j < 32 → defaultValue (clTy 15 j) = vp_V (zf [(3, 0, 22), (3, 0, 22), (3, 0, 22), (3, 0, 33), (3, 0, 31), (3, 0, 22), (3, 0, 22), (3, 0, 30), (0, 0, 0), (3, 0, 22), (0, 0, 0), (3, 0, 20), (3, 0, 20), (0, 0, 0), (3, 0, 21), (3, 0, 21), (0, 0, 0), (3, 0, 34), (0, 0, 0), (0, 0, 0), (0, 0, 0), (3, 0, 7), (3, 0, 7), (0, 0, 0), (0, 0, 0), (0, 0, 0), (1, 0, 0), (0, 0, 0), (0, 0, 0), (0, 0, 0), (3, 0, 20), (1, 0, 0)]) j := fun j hj => by
  match j, hj with
  | 0, _ => rfl
  | 1, _ => rfl
  | 2, _ => rfl
  | 3, _ => rfl
  | 4, _ => rfl
  | 5, _ => rfl
  | 6, _ => rfl
  | 7, _ => rfl
  | 8, _ => rfl
  | 9, _ => rfl
  | 10, _ => rfl
  | 11, _ => rfl
  | 12, _ => rfl
  | 13, _ => rfl
  | 14, _ => rfl
  | 15, _ => rfl
  | 16, _ => rfl
  | 17, _ => rfl
  | 18, _ => rfl
  | 19, _ => rfl
  | 20, _ => rfl
  | 21, _ => rfl
  | 22, _ => rfl
  | 23, _ => rfl
  | 24, _ => rfl
  | 25, _ => rfl
  | 26, _ => rfl
  | 27, _ => rfl
  | 28, _ => rfl
  | 29, _ => rfl
  | 30, _ => rfl
  | 31, _ => rfl
  | k + 32, h => exact absurd h (by omega)
set_option maxHeartbeats 8000000 in
theorem c_X6_init {l : Launch} {h : Hp} {a : Nat} (hlen : (xK h).length = a + 1) (hb : a + 66 < 900) (hN : NOk h) : Ms l yX6_init cX6_init 1 none 4 [vr 14 a] h (xK h ++ [5, 20, 20, 21, 21, 22, 22, 23, 22, 5, 20, 20, 21, 21, 22, 22, 23, 22, 5, 20, 20, 21, 21, 22, 22, 23, 22, 4, 24, 25, 22, 0, 22, 1, 21, 21, 27, 32, 21, 21, 21, 21, 21, 21, 21, 28, 3, 29, 2, 22, 22, 33, 31, 31, 31, 31, 31, 31, 31, 31, 22, 26]) (fun r h' => r = none ∧ NOk h' ∧ Lo a h h' ∧ xN h' a 0 = a + 1 + 1 ∧ xN h' a 1 = a + 10 + 1 ∧ xN h' a 2 = a + 19 + 1 ∧ xN h' a 4 = a + 28 + 1 ∧ xN h' a 5 = a + 32 + 1 ∧ xN h' a 6 = a + 34 + 1 ∧ xN h' a 7 = a + 47 + 1 ∧ xN h' a 8 = a + 49 + 1 ∧ xN h' a 9 = a + 62 + 1 ∧ (VilAt h' (a + 1) v00) ∧ (VilAt h' (a + 10) v00) ∧ (VilAt h' (a + 19) v00) ∧ (∀ i, i < 8 → xI h' (a + 31) i = nI (fct i)) ∧ (SInv h' (a + 34)) ∧ (TapAt h' (a + 47) (fun _ => 0) 0) ∧ (ShAt h' (a + 49) g00) ∧ xI h' a 3 = nI 0 ∧ xI h' a 10 = 0 ∧ xI h' a 11 = 0 ∧ (∀ i, xI h' (a + 62) i = 0)) := by
  refine Ms.of2 (by decide) (Nat.le_of_ble_eq_true rfl) (fun G C NM E0 X F => ?_)
  have C : Cx G cX6_init 1 RX6 := C
  have hI : CI G := NM
  show Rr G 0 [(0, vr 14 a)] [] h
  have K0 : xK h = xK h ++ [] := (List.append_nil _).symm
  have L0 : Lo a h h := Lo.rf
  have len_h : (xK h).length = a + 1 := hlen
  refine r_aload_n C (dx dX6_init 0 rfl) rfl ?_
  refine r_obj C X (by decide) l_X6_1 q_oi q_oc (dx dX6_init 1 rfl) ?_
  refine r_aload_n C (dx dX6_init 2 rfl) rfl ?_
  refine r_new (kk := 13) (C0 := RX5) (T := TX5) (N := 12) C (X.go (E := [13]) K0 (by decide) (by decide)) rfl rfl rfl (by decide) hfs5 List.prefix_rfl hN (by rw [len_h]; exact oa4 hb (by decide)) cl_RX6_7 q_in5 q_ii5 (dx dX6_init 3 rfl) ?_
  rw [len_h]
  have NO_h1 : NOk (nw h 13) := hN.nw
  have LO_h1 : Lo a h (nw h 13) := L0.tr (Lo.nw (by rw [len_h]; exact Nat.le_add_right _ _))
  have K_h1 : xK (nw h 13) = xK h ++ [13] := rfl
  have Y1_h1 : xI (nw h 13) (a + 1) = fun _ => 0 := by have q9 := nw_I (h := h) (k := 13); rw [len_h] at q9; exact q9
  have Y2_h1 : xL (nw h 13) (a + 1) = fun _ => 0 := by have q9 := nw_L (h := h) (k := 13); rw [len_h] at q9; exact q9
  have Y3_h1 : xN (nw h 13) (a + 1) = fun _ => 0 := by have q9 := nw_N (h := h) (k := 13); rw [len_h] at q9; exact q9
  generalize nw h 13 = h1 at NO_h1 LO_h1 K_h1 Y1_h1 Y2_h1 Y3_h1 ⊢
  have len_h1 : (xK h1).length = a + 2 := by rw [K_h1, List.length_append, hlen]; rfl
  refine r_dupR C (dx dX6_init 4 rfl) ?_
  refine r_callIN (st := [vr 13 (a + 1), vr 14 a]) (i9 := 0) C (X.go (E := [20, 20, 21, 21, 22, 22, 23, 22]) K_h1 (by decide) (by decide)) (c_X5_init (a := a + 1) len_h1 (oa9 hb (by decide)) NO_h1 Y1_h1 Y2_h1 Y3_h1) (by decide) (Nat.le_of_ble_eq_true rfl) (List.prefix_append _ _) List.prefix_rfl rfl rfl (Nat.le_of_ble_eq_true rfl) rfl q_im5 q_ii5 q_co5 rfl nh_RX5 q_pd5 (dx dX6_init 5 rfl) ?_
  rintro _ h2 ⟨rfl, NO_h2, lo_h2, p1_h2, p2_h2, p4_h2, p5_h2, p7_h2, p8_h2, p9_h2, p10_h2, sp_h2⟩ kk_h2
  have LO_h2 : Lo a h h2 := LO_h1.tr (lo_h2.mono (Nat.le_add_right _ _))
  have K_h2 : xK h2 = xK h ++ [13, 20, 20, 21, 21, 22, 22, 23, 22] := by rw [kk_h2, K_h1, List.append_assoc]; rfl
  have len_h2 : (xK h2).length = a + 10 := by rw [K_h2, List.length_append, hlen]; rfl
  have ha_h2 : (xK h2)[a + 1]? = some (5 + 8) := by rw [K_h2]; exact (getK hlen 0).trans rfl
  have hp_h2 : ∀ (j o k9 : Nat), ([(0, 0, 0), (2, 1, 20), (2, 2, 20), (0, 0, 0), (2, 3, 21), (2, 4, 21), (0, 0, 0), (2, 5, 22), (2, 6, 22), (2, 7, 23), (2, 8, 22), (0, 0, 0)] : List Fd3)[j]? = some (2, o, k9) → xN h2 (a + 1) j = a + 1 + o + 1 ∧ (xK h2)[a + 1 + o]? = some k9 := fun j o k9 hj => by
    match j, hj with
    | 0, hj => cases hj
    | 1, hj => cases hj; exact ⟨p1_h2, by rw [K_h2]; exact (getK hlen 1).trans rfl⟩
    | 2, hj => cases hj; exact ⟨p2_h2, by rw [K_h2]; exact (getK hlen 2).trans rfl⟩
    | 3, hj => cases hj
    | 4, hj => cases hj; exact ⟨p4_h2, by rw [K_h2]; exact (getK hlen 3).trans rfl⟩
    | 5, hj => cases hj; exact ⟨p5_h2, by rw [K_h2]; exact (getK hlen 4).trans rfl⟩
    | 6, hj => cases hj
    | 7, hj => cases hj; exact ⟨p7_h2, by rw [K_h2]; exact (getK hlen 5).trans rfl⟩
    | 8, hj => cases hj; exact ⟨p8_h2, by rw [K_h2]; exact (getK hlen 6).trans rfl⟩
    | 9, hj => cases hj; exact ⟨p9_h2, by rw [K_h2]; exact (getK hlen 7).trans rfl⟩
    | 10, hj => cases hj; exact ⟨p10_h2, by rw [K_h2]; exact (getK hlen 8).trans rfl⟩
    | 11, hj => cases hj
    | n + 12, hj => simp at hj
  refine r_retag (a := a + 1) (k := 5) (al := xK h) C E0 (by rw [hlen]; exact Nat.add_le_add_left (by decide) a) (by decide) ha_h2 rfl hp_h2 ⟨(show a ≠ _ from oa3 (by decide)), trivial⟩ ⟨(show a ≠ _ from oa3 (by decide)), trivial⟩ ?_
  have LO_h3 : Lo a h (rt h2 (a + 1) 5) := LO_h2
  have S1_h3 : VilAt (rt h2 (a + 1) 5) (a + 1) v00 := sp_h2
  have K_h3 : xK (rt h2 (a + 1) 5) = xK h ++ [5, 20, 20, 21, 21, 22, 22, 23, 22] := by show (xK h2).set _ _ = _; rw [K_h2]; exact (set_app (i := 0) (oaL hlen rfl)).trans rfl
  have NO_h3 : NOk (rt h2 (a + 1) 5) := NO_h2.mk8 (by decide) ha_h2
  generalize rt h2 (a + 1) 5 = h3 at LO_h3 S1_h3 K_h3 NO_h3 ⊢
  have len_h3 : (xK h3).length = a + 10 := by rw [K_h3, List.length_append, hlen]; rfl
  refine r_putNF (k := 14) (j := 0) (t := 0) C hI rfl rfl rfl (by decide) f_X6_10 rfl rfl (fun _ => rfl) (fun _ => rfl) (dx dX6_init 6 rfl) ?_
  have LO_h4 : Lo a h (sN h3 a 0 (a + 1 + 1)) := LO_h3.tr (Lo.sN (Nat.le_refl _))
  have S1_h4 : VilAt (sN h3 a 0 (a + 1 + 1)) (a + 1) v00 := S1_h3
  have K_h4 : xK (sN h3 a 0 (a + 1 + 1)) = xK h ++ [5, 20, 20, 21, 21, 22, 22, 23, 22] := K_h3
  have NO_h4 : NOk (sN h3 a 0 (a + 1 + 1)) := NO_h3.sN (by rw [len_h3]; exact oa6 (by decide))
  have N0_h4 : xN (sN h3 a 0 (a + 1 + 1)) a 0 = a + 1 + 1 := sN_at
  generalize sN h3 a 0 (a + 1 + 1) = h4 at LO_h4 S1_h4 K_h4 NO_h4 N0_h4 ⊢
  have len_h4 : (xK h4).length = a + 10 := by rw [K_h4, List.length_append, hlen]; rfl
  refine r_aload_n C (dx dX6_init 7 rfl) rfl ?_
  refine r_new (kk := 13) (C0 := RX5) (T := TX5) (N := 12) C (X.go (E := [13]) K_h4 (by decide) (by decide)) rfl rfl rfl (by decide) hfs5 List.prefix_rfl NO_h4 (by rw [len_h4]; exact oa4 hb (by decide)) cl_RX6_7 q_in5 q_ii5 (dx dX6_init 8 rfl) ?_
  rw [len_h4]
  have LO_h5 : Lo a h (nw h4 13) := LO_h4.tr (Lo.nw (by rw [len_h4]; exact Nat.le_add_right _ _))
  have S1_h5 : VilAt (nw h4 13) (a + 1) v00 := S1_h4.ag (Lo.nw (h := h4) (k := 13) (a := a + 10) (by rw [len_h4]; exact Nat.le_refl _)).fs (unl (oaU (a := a) (B := 1) (s := 9) (c := 10) (by decide)))
  have NO_h5 : NOk (nw h4 13) := NO_h4.nw
  have N0_h5 : xN (nw h4 13) a 0 = a + 1 + 1 := by rw [(nw_ne (h := h4) (k := 13) (b := a) (by rw [len_h4]; exact oa3 (by decide))).2.2]; exact N0_h4
  have K_h5 : xK (nw h4 13) = xK h ++ [5, 20, 20, 21, 21, 22, 22, 23, 22, 13] := by show xK h4 ++ _ = _; rw [K_h4, List.append_assoc]; rfl
  have Y1_h5 : xI (nw h4 13) (a + 10) = fun _ => 0 := by have q9 := nw_I (h := h4) (k := 13); rw [len_h4] at q9; exact q9
  have Y2_h5 : xL (nw h4 13) (a + 10) = fun _ => 0 := by have q9 := nw_L (h := h4) (k := 13); rw [len_h4] at q9; exact q9
  have Y3_h5 : xN (nw h4 13) (a + 10) = fun _ => 0 := by have q9 := nw_N (h := h4) (k := 13); rw [len_h4] at q9; exact q9
  generalize nw h4 13 = h5 at LO_h5 S1_h5 NO_h5 N0_h5 K_h5 Y1_h5 Y2_h5 Y3_h5 ⊢
  have len_h5 : (xK h5).length = a + 11 := by rw [K_h5, List.length_append, hlen]; rfl
  refine r_dupR C (dx dX6_init 9 rfl) ?_
  refine r_callIN (st := [vr 13 (a + 10), vr 14 a]) (i9 := 0) C (X.go (E := [20, 20, 21, 21, 22, 22, 23, 22]) K_h5 (by decide) (by decide)) (c_X5_init (a := a + 10) len_h5 (oa9 hb (by decide)) NO_h5 Y1_h5 Y2_h5 Y3_h5) (by decide) (Nat.le_of_ble_eq_true rfl) (List.prefix_append _ _) List.prefix_rfl rfl rfl (Nat.le_of_ble_eq_true rfl) rfl q_im5 q_ii5 q_co5 rfl nh_RX5 q_pd5 (dx dX6_init 10 rfl) ?_
  rintro _ h6 ⟨rfl, NO_h6, lo_h6, p1_h6, p2_h6, p4_h6, p5_h6, p7_h6, p8_h6, p9_h6, p10_h6, sp_h6⟩ kk_h6
  have LO_h6 : Lo a h h6 := LO_h5.tr (lo_h6.mono (Nat.le_add_right _ _))
  have S1_h6 : VilAt h6 (a + 1) v00 := S1_h5.ag lo_h6.fs (unl (oaU (a := a) (B := 1) (s := 9) (c := 10) (by decide)))
  have N0_h6 : xN h6 a 0 = a + 1 + 1 := by rw [(lo_h6 _ (oa8 (by decide))).2.2]; exact N0_h5
  have K_h6 : xK h6 = xK h ++ [5, 20, 20, 21, 21, 22, 22, 23, 22, 13, 20, 20, 21, 21, 22, 22, 23, 22] := by rw [kk_h6, K_h5, List.append_assoc]; rfl
  have len_h6 : (xK h6).length = a + 19 := by rw [K_h6, List.length_append, hlen]; rfl
  have ha_h6 : (xK h6)[a + 10]? = some (5 + 8) := by rw [K_h6]; exact (getK hlen 9).trans rfl
  have hp_h6 : ∀ (j o k9 : Nat), ([(0, 0, 0), (2, 1, 20), (2, 2, 20), (0, 0, 0), (2, 3, 21), (2, 4, 21), (0, 0, 0), (2, 5, 22), (2, 6, 22), (2, 7, 23), (2, 8, 22), (0, 0, 0)] : List Fd3)[j]? = some (2, o, k9) → xN h6 (a + 10) j = a + 10 + o + 1 ∧ (xK h6)[a + 10 + o]? = some k9 := fun j o k9 hj => by
    match j, hj with
    | 0, hj => cases hj
    | 1, hj => cases hj; exact ⟨p1_h6, by rw [K_h6]; exact (getK hlen 10).trans rfl⟩
    | 2, hj => cases hj; exact ⟨p2_h6, by rw [K_h6]; exact (getK hlen 11).trans rfl⟩
    | 3, hj => cases hj
    | 4, hj => cases hj; exact ⟨p4_h6, by rw [K_h6]; exact (getK hlen 12).trans rfl⟩
    | 5, hj => cases hj; exact ⟨p5_h6, by rw [K_h6]; exact (getK hlen 13).trans rfl⟩
    | 6, hj => cases hj
    | 7, hj => cases hj; exact ⟨p7_h6, by rw [K_h6]; exact (getK hlen 14).trans rfl⟩
    | 8, hj => cases hj; exact ⟨p8_h6, by rw [K_h6]; exact (getK hlen 15).trans rfl⟩
    | 9, hj => cases hj; exact ⟨p9_h6, by rw [K_h6]; exact (getK hlen 16).trans rfl⟩
    | 10, hj => cases hj; exact ⟨p10_h6, by rw [K_h6]; exact (getK hlen 17).trans rfl⟩
    | 11, hj => cases hj
    | n + 12, hj => simp at hj
  refine r_retag (a := a + 10) (k := 5) (al := xK h) C E0 (by rw [hlen]; exact Nat.add_le_add_left (by decide) a) (by decide) ha_h6 rfl hp_h6 ⟨(show a ≠ _ from oa3 (by decide)), trivial⟩ ⟨(show a ≠ _ from oa3 (by decide)), trivial⟩ ?_
  have LO_h7 : Lo a h (rt h6 (a + 10) 5) := LO_h6
  have S1_h7 : VilAt (rt h6 (a + 10) 5) (a + 1) v00 := S1_h6
  have N0_h7 : xN (rt h6 (a + 10) 5) a 0 = a + 1 + 1 := N0_h6
  have S10_h7 : VilAt (rt h6 (a + 10) 5) (a + 10) v00 := sp_h6
  have K_h7 : xK (rt h6 (a + 10) 5) = xK h ++ [5, 20, 20, 21, 21, 22, 22, 23, 22, 5, 20, 20, 21, 21, 22, 22, 23, 22] := by show (xK h6).set _ _ = _; rw [K_h6]; exact (set_app (i := 9) (oaL hlen rfl)).trans rfl
  have NO_h7 : NOk (rt h6 (a + 10) 5) := NO_h6.mk8 (by decide) ha_h6
  generalize rt h6 (a + 10) 5 = h7 at LO_h7 S1_h7 N0_h7 S10_h7 K_h7 NO_h7 ⊢
  have len_h7 : (xK h7).length = a + 19 := by rw [K_h7, List.length_append, hlen]; rfl
  refine r_putNF (k := 14) (j := 1) (t := 0) C hI rfl rfl rfl (by decide) f_X6_16 rfl rfl (fun _ => rfl) (fun _ => rfl) (dx dX6_init 11 rfl) ?_
  have LO_h8 : Lo a h (sN h7 a 1 (a + 10 + 1)) := LO_h7.tr (Lo.sN (Nat.le_refl _))
  have S1_h8 : VilAt (sN h7 a 1 (a + 10 + 1)) (a + 1) v00 := S1_h7
  have N0_h8 : xN (sN h7 a 1 (a + 10 + 1)) a 0 = a + 1 + 1 := (sN_ne (by decide)).trans N0_h7
  have S10_h8 : VilAt (sN h7 a 1 (a + 10 + 1)) (a + 10) v00 := S10_h7
  have K_h8 : xK (sN h7 a 1 (a + 10 + 1)) = xK h ++ [5, 20, 20, 21, 21, 22, 22, 23, 22, 5, 20, 20, 21, 21, 22, 22, 23, 22] := K_h7
  have NO_h8 : NOk (sN h7 a 1 (a + 10 + 1)) := NO_h7.sN (by rw [len_h7]; exact oa6 (by decide))
  have N1_h8 : xN (sN h7 a 1 (a + 10 + 1)) a 1 = a + 10 + 1 := sN_at
  generalize sN h7 a 1 (a + 10 + 1) = h8 at LO_h8 S1_h8 N0_h8 S10_h8 K_h8 NO_h8 N1_h8 ⊢
  have len_h8 : (xK h8).length = a + 19 := by rw [K_h8, List.length_append, hlen]; rfl
  refine r_aload_n C (dx dX6_init 12 rfl) rfl ?_
  refine r_new (kk := 13) (C0 := RX5) (T := TX5) (N := 12) C (X.go (E := [13]) K_h8 (by decide) (by decide)) rfl rfl rfl (by decide) hfs5 List.prefix_rfl NO_h8 (by rw [len_h8]; exact oa4 hb (by decide)) cl_RX6_7 q_in5 q_ii5 (dx dX6_init 13 rfl) ?_
  rw [len_h8]
  have LO_h9 : Lo a h (nw h8 13) := LO_h8.tr (Lo.nw (by rw [len_h8]; exact Nat.le_add_right _ _))
  have S1_h9 : VilAt (nw h8 13) (a + 1) v00 := S1_h8.ag (Lo.nw (h := h8) (k := 13) (a := a + 19) (by rw [len_h8]; exact Nat.le_refl _)).fs (unl (oaU (a := a) (B := 1) (s := 9) (c := 19) (by decide)))
  have N0_h9 : xN (nw h8 13) a 0 = a + 1 + 1 := by rw [(nw_ne (h := h8) (k := 13) (b := a) (by rw [len_h8]; exact oa3 (by decide))).2.2]; exact N0_h8
  have S10_h9 : VilAt (nw h8 13) (a + 10) v00 := S10_h8.ag (Lo.nw (h := h8) (k := 13) (a := a + 19) (by rw [len_h8]; exact Nat.le_refl _)).fs (unl (oaU (a := a) (B := 10) (s := 9) (c := 19) (by decide)))
  have NO_h9 : NOk (nw h8 13) := NO_h8.nw
  have N1_h9 : xN (nw h8 13) a 1 = a + 10 + 1 := by rw [(nw_ne (h := h8) (k := 13) (b := a) (by rw [len_h8]; exact oa3 (by decide))).2.2]; exact N1_h8
  have K_h9 : xK (nw h8 13) = xK h ++ [5, 20, 20, 21, 21, 22, 22, 23, 22, 5, 20, 20, 21, 21, 22, 22, 23, 22, 13] := by show xK h8 ++ _ = _; rw [K_h8, List.append_assoc]; rfl
  have Y1_h9 : xI (nw h8 13) (a + 19) = fun _ => 0 := by have q9 := nw_I (h := h8) (k := 13); rw [len_h8] at q9; exact q9
  have Y2_h9 : xL (nw h8 13) (a + 19) = fun _ => 0 := by have q9 := nw_L (h := h8) (k := 13); rw [len_h8] at q9; exact q9
  have Y3_h9 : xN (nw h8 13) (a + 19) = fun _ => 0 := by have q9 := nw_N (h := h8) (k := 13); rw [len_h8] at q9; exact q9
  generalize nw h8 13 = h9 at LO_h9 S1_h9 N0_h9 S10_h9 NO_h9 N1_h9 K_h9 Y1_h9 Y2_h9 Y3_h9 ⊢
  have len_h9 : (xK h9).length = a + 20 := by rw [K_h9, List.length_append, hlen]; rfl
  refine r_dupR C (dx dX6_init 14 rfl) ?_
  refine r_callIN (st := [vr 13 (a + 19), vr 14 a]) (i9 := 0) C (X.go (E := [20, 20, 21, 21, 22, 22, 23, 22]) K_h9 (by decide) (by decide)) (c_X5_init (a := a + 19) len_h9 (oa9 hb (by decide)) NO_h9 Y1_h9 Y2_h9 Y3_h9) (by decide) (Nat.le_of_ble_eq_true rfl) (List.prefix_append _ _) List.prefix_rfl rfl rfl (Nat.le_of_ble_eq_true rfl) rfl q_im5 q_ii5 q_co5 rfl nh_RX5 q_pd5 (dx dX6_init 15 rfl) ?_
  rintro _ h10 ⟨rfl, NO_h10, lo_h10, p1_h10, p2_h10, p4_h10, p5_h10, p7_h10, p8_h10, p9_h10, p10_h10, sp_h10⟩ kk_h10
  have LO_h10 : Lo a h h10 := LO_h9.tr (lo_h10.mono (Nat.le_add_right _ _))
  have S1_h10 : VilAt h10 (a + 1) v00 := S1_h9.ag lo_h10.fs (unl (oaU (a := a) (B := 1) (s := 9) (c := 19) (by decide)))
  have N0_h10 : xN h10 a 0 = a + 1 + 1 := by rw [(lo_h10 _ (oa8 (by decide))).2.2]; exact N0_h9
  have S10_h10 : VilAt h10 (a + 10) v00 := S10_h9.ag lo_h10.fs (unl (oaU (a := a) (B := 10) (s := 9) (c := 19) (by decide)))
  have N1_h10 : xN h10 a 1 = a + 10 + 1 := by rw [(lo_h10 _ (oa8 (by decide))).2.2]; exact N1_h9
  have K_h10 : xK h10 = xK h ++ [5, 20, 20, 21, 21, 22, 22, 23, 22, 5, 20, 20, 21, 21, 22, 22, 23, 22, 13, 20, 20, 21, 21, 22, 22, 23, 22] := by rw [kk_h10, K_h9, List.append_assoc]; rfl
  have len_h10 : (xK h10).length = a + 28 := by rw [K_h10, List.length_append, hlen]; rfl
  have ha_h10 : (xK h10)[a + 19]? = some (5 + 8) := by rw [K_h10]; exact (getK hlen 18).trans rfl
  have hp_h10 : ∀ (j o k9 : Nat), ([(0, 0, 0), (2, 1, 20), (2, 2, 20), (0, 0, 0), (2, 3, 21), (2, 4, 21), (0, 0, 0), (2, 5, 22), (2, 6, 22), (2, 7, 23), (2, 8, 22), (0, 0, 0)] : List Fd3)[j]? = some (2, o, k9) → xN h10 (a + 19) j = a + 19 + o + 1 ∧ (xK h10)[a + 19 + o]? = some k9 := fun j o k9 hj => by
    match j, hj with
    | 0, hj => cases hj
    | 1, hj => cases hj; exact ⟨p1_h10, by rw [K_h10]; exact (getK hlen 19).trans rfl⟩
    | 2, hj => cases hj; exact ⟨p2_h10, by rw [K_h10]; exact (getK hlen 20).trans rfl⟩
    | 3, hj => cases hj
    | 4, hj => cases hj; exact ⟨p4_h10, by rw [K_h10]; exact (getK hlen 21).trans rfl⟩
    | 5, hj => cases hj; exact ⟨p5_h10, by rw [K_h10]; exact (getK hlen 22).trans rfl⟩
    | 6, hj => cases hj
    | 7, hj => cases hj; exact ⟨p7_h10, by rw [K_h10]; exact (getK hlen 23).trans rfl⟩
    | 8, hj => cases hj; exact ⟨p8_h10, by rw [K_h10]; exact (getK hlen 24).trans rfl⟩
    | 9, hj => cases hj; exact ⟨p9_h10, by rw [K_h10]; exact (getK hlen 25).trans rfl⟩
    | 10, hj => cases hj; exact ⟨p10_h10, by rw [K_h10]; exact (getK hlen 26).trans rfl⟩
    | 11, hj => cases hj
    | n + 12, hj => simp at hj
  refine r_retag (a := a + 19) (k := 5) (al := xK h) C E0 (by rw [hlen]; exact Nat.add_le_add_left (by decide) a) (by decide) ha_h10 rfl hp_h10 ⟨(show a ≠ _ from oa3 (by decide)), trivial⟩ ⟨(show a ≠ _ from oa3 (by decide)), trivial⟩ ?_
  have LO_h11 : Lo a h (rt h10 (a + 19) 5) := LO_h10
  have S1_h11 : VilAt (rt h10 (a + 19) 5) (a + 1) v00 := S1_h10
  have N0_h11 : xN (rt h10 (a + 19) 5) a 0 = a + 1 + 1 := N0_h10
  have S10_h11 : VilAt (rt h10 (a + 19) 5) (a + 10) v00 := S10_h10
  have N1_h11 : xN (rt h10 (a + 19) 5) a 1 = a + 10 + 1 := N1_h10
  have S19_h11 : VilAt (rt h10 (a + 19) 5) (a + 19) v00 := sp_h10
  have K_h11 : xK (rt h10 (a + 19) 5) = xK h ++ [5, 20, 20, 21, 21, 22, 22, 23, 22, 5, 20, 20, 21, 21, 22, 22, 23, 22, 5, 20, 20, 21, 21, 22, 22, 23, 22] := by show (xK h10).set _ _ = _; rw [K_h10]; exact (set_app (i := 18) (oaL hlen rfl)).trans rfl
  have NO_h11 : NOk (rt h10 (a + 19) 5) := NO_h10.mk8 (by decide) ha_h10
  generalize rt h10 (a + 19) 5 = h11 at LO_h11 S1_h11 N0_h11 S10_h11 N1_h11 S19_h11 K_h11 NO_h11 ⊢
  have len_h11 : (xK h11).length = a + 28 := by rw [K_h11, List.length_append, hlen]; rfl
  refine r_putNF (k := 14) (j := 2) (t := 0) C hI rfl rfl rfl (by decide) f_X6_19 rfl rfl (fun _ => rfl) (fun _ => rfl) (dx dX6_init 16 rfl) ?_
  have LO_h12 : Lo a h (sN h11 a 2 (a + 19 + 1)) := LO_h11.tr (Lo.sN (Nat.le_refl _))
  have S1_h12 : VilAt (sN h11 a 2 (a + 19 + 1)) (a + 1) v00 := S1_h11
  have N0_h12 : xN (sN h11 a 2 (a + 19 + 1)) a 0 = a + 1 + 1 := (sN_ne (by decide)).trans N0_h11
  have S10_h12 : VilAt (sN h11 a 2 (a + 19 + 1)) (a + 10) v00 := S10_h11
  have N1_h12 : xN (sN h11 a 2 (a + 19 + 1)) a 1 = a + 10 + 1 := (sN_ne (by decide)).trans N1_h11
  have S19_h12 : VilAt (sN h11 a 2 (a + 19 + 1)) (a + 19) v00 := S19_h11
  have K_h12 : xK (sN h11 a 2 (a + 19 + 1)) = xK h ++ [5, 20, 20, 21, 21, 22, 22, 23, 22, 5, 20, 20, 21, 21, 22, 22, 23, 22, 5, 20, 20, 21, 21, 22, 22, 23, 22] := K_h11
  have NO_h12 : NOk (sN h11 a 2 (a + 19 + 1)) := NO_h11.sN (by rw [len_h11]; exact oa6 (by decide))
  have N2_h12 : xN (sN h11 a 2 (a + 19 + 1)) a 2 = a + 19 + 1 := sN_at
  generalize sN h11 a 2 (a + 19 + 1) = h12 at LO_h12 S1_h12 N0_h12 S10_h12 N1_h12 S19_h12 K_h12 NO_h12 N2_h12 ⊢
  have len_h12 : (xK h12).length = a + 28 := by rw [K_h12, List.length_append, hlen]; rfl
  refine r_aload_n C (dx dX6_init 17 rfl) rfl ?_
  refine r_iconst (v := nI 0) C (dx dX6_init 18 rfl) rfl ?_
  refine r_putI (k := 14) (j := 3) (T := TX6) C rfl rfl rfl (by decide) f_X6_22 rfl rfl rfl (dx dX6_init 19 rfl) ?_
  have LO_h13 : Lo a h (sI h12 a 3 (nI 0)) := LO_h12.tr (Lo.sI (Nat.le_refl _))
  have S1_h13 : VilAt (sI h12 a 3 (nI 0)) (a + 1) v00 := S1_h12.ag Fs.a (una (oaV (a := a) (B := 1) (s := 0) (by decide)))
  have N0_h13 : xN (sI h12 a 3 (nI 0)) a 0 = a + 1 + 1 := N0_h12
  have S10_h13 : VilAt (sI h12 a 3 (nI 0)) (a + 10) v00 := S10_h12.ag Fs.a (una (oaV (a := a) (B := 10) (s := 0) (by decide)))
  have N1_h13 : xN (sI h12 a 3 (nI 0)) a 1 = a + 10 + 1 := N1_h12
  have S19_h13 : VilAt (sI h12 a 3 (nI 0)) (a + 19) v00 := S19_h12.ag Fs.a (una (oaV (a := a) (B := 19) (s := 0) (by decide)))
  have K_h13 : xK (sI h12 a 3 (nI 0)) = xK h ++ [5, 20, 20, 21, 21, 22, 22, 23, 22, 5, 20, 20, 21, 21, 22, 22, 23, 22, 5, 20, 20, 21, 21, 22, 22, 23, 22] := K_h12
  have NO_h13 : NOk (sI h12 a 3 (nI 0)) := NO_h12
  have N2_h13 : xN (sI h12 a 3 (nI 0)) a 2 = a + 19 + 1 := N2_h12
  have I3_h13 : xI (sI h12 a 3 (nI 0)) a 3 = nI 0 := by rw [sI_at, if_pos rfl]
  generalize sI h12 a 3 (nI 0) = h13 at LO_h13 S1_h13 N0_h13 S10_h13 N1_h13 S19_h13 K_h13 NO_h13 N2_h13 I3_h13 ⊢
  have len_h13 : (xK h13).length = a + 28 := by rw [K_h13, List.length_append, hlen]; rfl
  refine r_aload_n C (dx dX6_init 20 rfl) rfl ?_
  refine r_new (kk := 12) (C0 := RX4) (T := TX4) (N := 3) C (X.go (E := [12]) K_h13 (by decide) (by decide)) rfl rfl rfl (by decide) hfs4 List.prefix_rfl NO_h13 (by rw [len_h13]; exact oa4 hb (by decide)) cl_RX6_26 q_in4 q_ii4 (dx dX6_init 21 rfl) ?_
  rw [len_h13]
  have LO_h14 : Lo a h (nw h13 12) := LO_h13.tr (Lo.nw (by rw [len_h13]; exact Nat.le_add_right _ _))
  have S1_h14 : VilAt (nw h13 12) (a + 1) v00 := S1_h13.ag (Lo.nw (h := h13) (k := 12) (a := a + 28) (by rw [len_h13]; exact Nat.le_refl _)).fs (unl (oaU (a := a) (B := 1) (s := 9) (c := 28) (by decide)))
  have N0_h14 : xN (nw h13 12) a 0 = a + 1 + 1 := by rw [(nw_ne (h := h13) (k := 12) (b := a) (by rw [len_h13]; exact oa3 (by decide))).2.2]; exact N0_h13
  have S10_h14 : VilAt (nw h13 12) (a + 10) v00 := S10_h13.ag (Lo.nw (h := h13) (k := 12) (a := a + 28) (by rw [len_h13]; exact Nat.le_refl _)).fs (unl (oaU (a := a) (B := 10) (s := 9) (c := 28) (by decide)))
  have N1_h14 : xN (nw h13 12) a 1 = a + 10 + 1 := by rw [(nw_ne (h := h13) (k := 12) (b := a) (by rw [len_h13]; exact oa3 (by decide))).2.2]; exact N1_h13
  have S19_h14 : VilAt (nw h13 12) (a + 19) v00 := S19_h13.ag (Lo.nw (h := h13) (k := 12) (a := a + 28) (by rw [len_h13]; exact Nat.le_refl _)).fs (unl (oaU (a := a) (B := 19) (s := 9) (c := 28) (by decide)))
  have NO_h14 : NOk (nw h13 12) := NO_h13.nw
  have N2_h14 : xN (nw h13 12) a 2 = a + 19 + 1 := by rw [(nw_ne (h := h13) (k := 12) (b := a) (by rw [len_h13]; exact oa3 (by decide))).2.2]; exact N2_h13
  have I3_h14 : xI (nw h13 12) a 3 = nI 0 := by rw [(nw_ne (h := h13) (k := 12) (b := a) (by rw [len_h13]; exact oa3 (by decide))).1]; exact I3_h13
  have K_h14 : xK (nw h13 12) = xK h ++ [5, 20, 20, 21, 21, 22, 22, 23, 22, 5, 20, 20, 21, 21, 22, 22, 23, 22, 5, 20, 20, 21, 21, 22, 22, 23, 22, 12] := by show xK h13 ++ _ = _; rw [K_h13, List.append_assoc]; rfl
  have Y1_h14 : xI (nw h13 12) (a + 28) = fun _ => 0 := by have q9 := nw_I (h := h13) (k := 12); rw [len_h13] at q9; exact q9
  have Y2_h14 : xL (nw h13 12) (a + 28) = fun _ => 0 := by have q9 := nw_L (h := h13) (k := 12); rw [len_h13] at q9; exact q9
  have Y3_h14 : xN (nw h13 12) (a + 28) = fun _ => 0 := by have q9 := nw_N (h := h13) (k := 12); rw [len_h13] at q9; exact q9
  generalize nw h13 12 = h14 at LO_h14 S1_h14 N0_h14 S10_h14 N1_h14 S19_h14 NO_h14 N2_h14 I3_h14 K_h14 Y1_h14 Y2_h14 Y3_h14 ⊢
  have len_h14 : (xK h14).length = a + 29 := by rw [K_h14, List.length_append, hlen]; rfl
  refine r_dupR C (dx dX6_init 22 rfl) ?_
  refine r_callI (st := [vr 12 (a + 28), vr 14 a]) C (X.go (E := [24, 25, 22]) K_h14 (by decide) (by decide)) (c_X4_init (a := a + 28) len_h14 (oa9 hb (by decide)) NO_h14 Y1_h14 Y2_h14 Y3_h14) (by decide) (Nat.le_of_ble_eq_true rfl) (List.prefix_append _ _) List.prefix_rfl rfl rfl (Nat.le_of_ble_eq_true rfl) l_X6_28 q_im4 q_ii4 q_co4 rfl nh_RX4 q_pd4 (dx dX6_init 23 rfl) ?_
  rintro _ h15 ⟨rfl, NO_h15, lo_h15, p0_h15, p1_h15, p2_h15, sp_h15⟩ kk_h15
  have LO_h15 : Lo a h h15 := LO_h14.tr (lo_h15.mono (Nat.le_add_right _ _))
  have S1_h15 : VilAt h15 (a + 1) v00 := S1_h14.ag lo_h15.fs (unl (oaU (a := a) (B := 1) (s := 9) (c := 28) (by decide)))
  have N0_h15 : xN h15 a 0 = a + 1 + 1 := by rw [(lo_h15 _ (oa8 (by decide))).2.2]; exact N0_h14
  have S10_h15 : VilAt h15 (a + 10) v00 := S10_h14.ag lo_h15.fs (unl (oaU (a := a) (B := 10) (s := 9) (c := 28) (by decide)))
  have N1_h15 : xN h15 a 1 = a + 10 + 1 := by rw [(lo_h15 _ (oa8 (by decide))).2.2]; exact N1_h14
  have S19_h15 : VilAt h15 (a + 19) v00 := S19_h14.ag lo_h15.fs (unl (oaU (a := a) (B := 19) (s := 9) (c := 28) (by decide)))
  have N2_h15 : xN h15 a 2 = a + 19 + 1 := by rw [(lo_h15 _ (oa8 (by decide))).2.2]; exact N2_h14
  have I3_h15 : xI h15 a 3 = nI 0 := by rw [(lo_h15 _ (oa8 (by decide))).1]; exact I3_h14
  have K_h15 : xK h15 = xK h ++ [5, 20, 20, 21, 21, 22, 22, 23, 22, 5, 20, 20, 21, 21, 22, 22, 23, 22, 5, 20, 20, 21, 21, 22, 22, 23, 22, 12, 24, 25, 22] := by rw [kk_h15, K_h14, List.append_assoc]; rfl
  have len_h15 : (xK h15).length = a + 32 := by rw [K_h15, List.length_append, hlen]; rfl
  have ha_h15 : (xK h15)[a + 28]? = some (4 + 8) := by rw [K_h15]; exact (getK hlen 27).trans rfl
  have hp_h15 : ∀ (j o k9 : Nat), ([(2, 1, 24), (2, 2, 25), (2, 3, 22)] : List Fd3)[j]? = some (2, o, k9) → xN h15 (a + 28) j = a + 28 + o + 1 ∧ (xK h15)[a + 28 + o]? = some k9 := fun j o k9 hj => by
    match j, hj with
    | 0, hj => cases hj; exact ⟨p0_h15, by rw [K_h15]; exact (getK hlen 28).trans rfl⟩
    | 1, hj => cases hj; exact ⟨p1_h15, by rw [K_h15]; exact (getK hlen 29).trans rfl⟩
    | 2, hj => cases hj; exact ⟨p2_h15, by rw [K_h15]; exact (getK hlen 30).trans rfl⟩
    | n + 3, hj => simp at hj
  refine r_retag (a := a + 28) (k := 4) (al := xK h) C E0 (by rw [hlen]; exact Nat.add_le_add_left (by decide) a) (by decide) ha_h15 rfl hp_h15 ⟨(show a ≠ _ from oa3 (by decide)), trivial⟩ ⟨(show a ≠ _ from oa3 (by decide)), trivial⟩ ?_
  have LO_h16 : Lo a h (rt h15 (a + 28) 4) := LO_h15
  have S1_h16 : VilAt (rt h15 (a + 28) 4) (a + 1) v00 := S1_h15
  have N0_h16 : xN (rt h15 (a + 28) 4) a 0 = a + 1 + 1 := N0_h15
  have S10_h16 : VilAt (rt h15 (a + 28) 4) (a + 10) v00 := S10_h15
  have N1_h16 : xN (rt h15 (a + 28) 4) a 1 = a + 10 + 1 := N1_h15
  have S19_h16 : VilAt (rt h15 (a + 28) 4) (a + 19) v00 := S19_h15
  have N2_h16 : xN (rt h15 (a + 28) 4) a 2 = a + 19 + 1 := N2_h15
  have I3_h16 : xI (rt h15 (a + 28) 4) a 3 = nI 0 := I3_h15
  have S28_h16 : ∀ i, i < 8 → xI (rt h15 (a + 28) 4) (a + 31) i = nI (fct i) := sp_h15
  have K_h16 : xK (rt h15 (a + 28) 4) = xK h ++ [5, 20, 20, 21, 21, 22, 22, 23, 22, 5, 20, 20, 21, 21, 22, 22, 23, 22, 5, 20, 20, 21, 21, 22, 22, 23, 22, 4, 24, 25, 22] := by show (xK h15).set _ _ = _; rw [K_h15]; exact (set_app (i := 27) (oaL hlen rfl)).trans rfl
  have NO_h16 : NOk (rt h15 (a + 28) 4) := NO_h15.mk8 (by decide) ha_h15
  generalize rt h15 (a + 28) 4 = h16 at LO_h16 S1_h16 N0_h16 S10_h16 N1_h16 S19_h16 N2_h16 I3_h16 S28_h16 K_h16 NO_h16 ⊢
  have len_h16 : (xK h16).length = a + 32 := by rw [K_h16, List.length_append, hlen]; rfl
  refine r_putNF (k := 14) (j := 4) (t := 0) C hI rfl rfl rfl (by decide) f_X6_29 rfl rfl (fun _ => rfl) (fun _ => rfl) (dx dX6_init 24 rfl) ?_
  have LO_h17 : Lo a h (sN h16 a 4 (a + 28 + 1)) := LO_h16.tr (Lo.sN (Nat.le_refl _))
  have S1_h17 : VilAt (sN h16 a 4 (a + 28 + 1)) (a + 1) v00 := S1_h16
  have N0_h17 : xN (sN h16 a 4 (a + 28 + 1)) a 0 = a + 1 + 1 := (sN_ne (by decide)).trans N0_h16
  have S10_h17 : VilAt (sN h16 a 4 (a + 28 + 1)) (a + 10) v00 := S10_h16
  have N1_h17 : xN (sN h16 a 4 (a + 28 + 1)) a 1 = a + 10 + 1 := (sN_ne (by decide)).trans N1_h16
  have S19_h17 : VilAt (sN h16 a 4 (a + 28 + 1)) (a + 19) v00 := S19_h16
  have N2_h17 : xN (sN h16 a 4 (a + 28 + 1)) a 2 = a + 19 + 1 := (sN_ne (by decide)).trans N2_h16
  have I3_h17 : xI (sN h16 a 4 (a + 28 + 1)) a 3 = nI 0 := I3_h16
  have S28_h17 : ∀ i, i < 8 → xI (sN h16 a 4 (a + 28 + 1)) (a + 31) i = nI (fct i) := S28_h16
  have K_h17 : xK (sN h16 a 4 (a + 28 + 1)) = xK h ++ [5, 20, 20, 21, 21, 22, 22, 23, 22, 5, 20, 20, 21, 21, 22, 22, 23, 22, 5, 20, 20, 21, 21, 22, 22, 23, 22, 4, 24, 25, 22] := K_h16
  have NO_h17 : NOk (sN h16 a 4 (a + 28 + 1)) := NO_h16.sN (by rw [len_h16]; exact oa6 (by decide))
  have N4_h17 : xN (sN h16 a 4 (a + 28 + 1)) a 4 = a + 28 + 1 := sN_at
  generalize sN h16 a 4 (a + 28 + 1) = h17 at LO_h17 S1_h17 N0_h17 S10_h17 N1_h17 S19_h17 N2_h17 I3_h17 S28_h17 K_h17 NO_h17 N4_h17 ⊢
  have len_h17 : (xK h17).length = a + 32 := by rw [K_h17, List.length_append, hlen]; rfl
  refine r_aload_n C (dx dX6_init 25 rfl) rfl ?_
  refine r_new (kk := 8) (C0 := RX0) (T := TX0) (N := 1) C (X.go (E := [8]) K_h17 (by decide) (by decide)) rfl rfl rfl (by decide) hfs0 List.prefix_rfl NO_h17 (by rw [len_h17]; exact oa4 hb (by decide)) cl_RX6_33 q_in0 q_ii0 (dx dX6_init 26 rfl) ?_
  rw [len_h17]
  have LO_h18 : Lo a h (nw h17 8) := LO_h17.tr (Lo.nw (by rw [len_h17]; exact Nat.le_add_right _ _))
  have S1_h18 : VilAt (nw h17 8) (a + 1) v00 := S1_h17.ag (Lo.nw (h := h17) (k := 8) (a := a + 32) (by rw [len_h17]; exact Nat.le_refl _)).fs (unl (oaU (a := a) (B := 1) (s := 9) (c := 32) (by decide)))
  have N0_h18 : xN (nw h17 8) a 0 = a + 1 + 1 := by rw [(nw_ne (h := h17) (k := 8) (b := a) (by rw [len_h17]; exact oa3 (by decide))).2.2]; exact N0_h17
  have S10_h18 : VilAt (nw h17 8) (a + 10) v00 := S10_h17.ag (Lo.nw (h := h17) (k := 8) (a := a + 32) (by rw [len_h17]; exact Nat.le_refl _)).fs (unl (oaU (a := a) (B := 10) (s := 9) (c := 32) (by decide)))
  have N1_h18 : xN (nw h17 8) a 1 = a + 10 + 1 := by rw [(nw_ne (h := h17) (k := 8) (b := a) (by rw [len_h17]; exact oa3 (by decide))).2.2]; exact N1_h17
  have S19_h18 : VilAt (nw h17 8) (a + 19) v00 := S19_h17.ag (Lo.nw (h := h17) (k := 8) (a := a + 32) (by rw [len_h17]; exact Nat.le_refl _)).fs (unl (oaU (a := a) (B := 19) (s := 9) (c := 32) (by decide)))
  have N2_h18 : xN (nw h17 8) a 2 = a + 19 + 1 := by rw [(nw_ne (h := h17) (k := 8) (b := a) (by rw [len_h17]; exact oa3 (by decide))).2.2]; exact N2_h17
  have I3_h18 : xI (nw h17 8) a 3 = nI 0 := by rw [(nw_ne (h := h17) (k := 8) (b := a) (by rw [len_h17]; exact oa3 (by decide))).1]; exact I3_h17
  have S28_h18 : ∀ i, i < 8 → xI (nw h17 8) (a + 31) i = nI (fct i) := fun i hi => by rw [((Lo.nw (h := h17) (k := 8) (a := a + 32) (by rw [len_h17]; exact Nat.le_refl _)) _ (Nat.add_lt_add_left (by decide) a)).1]; exact S28_h17 i hi
  have NO_h18 : NOk (nw h17 8) := NO_h17.nw
  have N4_h18 : xN (nw h17 8) a 4 = a + 28 + 1 := by rw [(nw_ne (h := h17) (k := 8) (b := a) (by rw [len_h17]; exact oa3 (by decide))).2.2]; exact N4_h17
  have K_h18 : xK (nw h17 8) = xK h ++ [5, 20, 20, 21, 21, 22, 22, 23, 22, 5, 20, 20, 21, 21, 22, 22, 23, 22, 5, 20, 20, 21, 21, 22, 22, 23, 22, 4, 24, 25, 22, 8] := by show xK h17 ++ _ = _; rw [K_h17, List.append_assoc]; rfl
  have Y1_h18 : xI (nw h17 8) (a + 32) = fun _ => 0 := by have q9 := nw_I (h := h17) (k := 8); rw [len_h17] at q9; exact q9
  have Y2_h18 : xL (nw h17 8) (a + 32) = fun _ => 0 := by have q9 := nw_L (h := h17) (k := 8); rw [len_h17] at q9; exact q9
  have Y3_h18 : xN (nw h17 8) (a + 32) = fun _ => 0 := by have q9 := nw_N (h := h17) (k := 8); rw [len_h17] at q9; exact q9
  generalize nw h17 8 = h18 at LO_h18 S1_h18 N0_h18 S10_h18 N1_h18 S19_h18 N2_h18 I3_h18 S28_h18 NO_h18 N4_h18 K_h18 Y1_h18 Y2_h18 Y3_h18 ⊢
  have len_h18 : (xK h18).length = a + 33 := by rw [K_h18, List.length_append, hlen]; rfl
  refine r_dupR C (dx dX6_init 27 rfl) ?_
  refine r_callIN (st := [vr 8 (a + 32), vr 14 a]) (i9 := 1) C (X.go (E := [22]) K_h18 (by decide) (by decide)) (c_X0_init (a := a + 32) len_h18 (oa9 hb (by decide)) NO_h18 Y1_h18 Y2_h18 Y3_h18) (by decide) (Nat.le_of_ble_eq_true rfl) (List.prefix_append _ _) List.prefix_rfl rfl rfl (Nat.le_of_ble_eq_true rfl) rfl q_im0 q_ii0 q_co0 rfl nh_RX0 q_pd0 (dx dX6_init 28 rfl) ?_
  rintro _ h19 ⟨rfl, NO_h19, lo_h19, p0_h19⟩ kk_h19
  have LO_h19 : Lo a h h19 := LO_h18.tr (lo_h19.mono (Nat.le_add_right _ _))
  have S1_h19 : VilAt h19 (a + 1) v00 := S1_h18.ag lo_h19.fs (unl (oaU (a := a) (B := 1) (s := 9) (c := 32) (by decide)))
  have N0_h19 : xN h19 a 0 = a + 1 + 1 := by rw [(lo_h19 _ (oa8 (by decide))).2.2]; exact N0_h18
  have S10_h19 : VilAt h19 (a + 10) v00 := S10_h18.ag lo_h19.fs (unl (oaU (a := a) (B := 10) (s := 9) (c := 32) (by decide)))
  have N1_h19 : xN h19 a 1 = a + 10 + 1 := by rw [(lo_h19 _ (oa8 (by decide))).2.2]; exact N1_h18
  have S19_h19 : VilAt h19 (a + 19) v00 := S19_h18.ag lo_h19.fs (unl (oaU (a := a) (B := 19) (s := 9) (c := 32) (by decide)))
  have N2_h19 : xN h19 a 2 = a + 19 + 1 := by rw [(lo_h19 _ (oa8 (by decide))).2.2]; exact N2_h18
  have I3_h19 : xI h19 a 3 = nI 0 := by rw [(lo_h19 _ (oa8 (by decide))).1]; exact I3_h18
  have S28_h19 : ∀ i, i < 8 → xI h19 (a + 31) i = nI (fct i) := fun i hi => by rw [(lo_h19 _ (Nat.add_lt_add_left (by decide) a)).1]; exact S28_h18 i hi
  have N4_h19 : xN h19 a 4 = a + 28 + 1 := by rw [(lo_h19 _ (oa8 (by decide))).2.2]; exact N4_h18
  have K_h19 : xK h19 = xK h ++ [5, 20, 20, 21, 21, 22, 22, 23, 22, 5, 20, 20, 21, 21, 22, 22, 23, 22, 5, 20, 20, 21, 21, 22, 22, 23, 22, 4, 24, 25, 22, 8, 22] := by rw [kk_h19, K_h18, List.append_assoc]; rfl
  have len_h19 : (xK h19).length = a + 34 := by rw [K_h19, List.length_append, hlen]; rfl
  have ha_h19 : (xK h19)[a + 32]? = some (0 + 8) := by rw [K_h19]; exact (getK hlen 31).trans rfl
  have hp_h19 : ∀ (j o k9 : Nat), ([(2, 1, 22)] : List Fd3)[j]? = some (2, o, k9) → xN h19 (a + 32) j = a + 32 + o + 1 ∧ (xK h19)[a + 32 + o]? = some k9 := fun j o k9 hj => by
    match j, hj with
    | 0, hj => cases hj; exact ⟨p0_h19, by rw [K_h19]; exact (getK hlen 32).trans rfl⟩
    | n + 1, hj => simp at hj
  refine r_retag (a := a + 32) (k := 0) (al := xK h) C E0 (by rw [hlen]; exact Nat.add_le_add_left (by decide) a) (by decide) ha_h19 rfl hp_h19 ⟨(show a ≠ _ from oa3 (by decide)), trivial⟩ ⟨(show a ≠ _ from oa3 (by decide)), trivial⟩ ?_
  have LO_h20 : Lo a h (rt h19 (a + 32) 0) := LO_h19
  have S1_h20 : VilAt (rt h19 (a + 32) 0) (a + 1) v00 := S1_h19
  have N0_h20 : xN (rt h19 (a + 32) 0) a 0 = a + 1 + 1 := N0_h19
  have S10_h20 : VilAt (rt h19 (a + 32) 0) (a + 10) v00 := S10_h19
  have N1_h20 : xN (rt h19 (a + 32) 0) a 1 = a + 10 + 1 := N1_h19
  have S19_h20 : VilAt (rt h19 (a + 32) 0) (a + 19) v00 := S19_h19
  have N2_h20 : xN (rt h19 (a + 32) 0) a 2 = a + 19 + 1 := N2_h19
  have I3_h20 : xI (rt h19 (a + 32) 0) a 3 = nI 0 := I3_h19
  have S28_h20 : ∀ i, i < 8 → xI (rt h19 (a + 32) 0) (a + 31) i = nI (fct i) := S28_h19
  have N4_h20 : xN (rt h19 (a + 32) 0) a 4 = a + 28 + 1 := N4_h19
  have K_h20 : xK (rt h19 (a + 32) 0) = xK h ++ [5, 20, 20, 21, 21, 22, 22, 23, 22, 5, 20, 20, 21, 21, 22, 22, 23, 22, 5, 20, 20, 21, 21, 22, 22, 23, 22, 4, 24, 25, 22, 0, 22] := by show (xK h19).set _ _ = _; rw [K_h19]; exact (set_app (i := 31) (oaL hlen rfl)).trans rfl
  have NO_h20 : NOk (rt h19 (a + 32) 0) := NO_h19.mk8 (by decide) ha_h19
  generalize rt h19 (a + 32) 0 = h20 at LO_h20 S1_h20 N0_h20 S10_h20 N1_h20 S19_h20 N2_h20 I3_h20 S28_h20 N4_h20 K_h20 NO_h20 ⊢
  have len_h20 : (xK h20).length = a + 34 := by rw [K_h20, List.length_append, hlen]; rfl
  refine r_putNF (k := 14) (j := 5) (t := 0) C hI rfl rfl rfl (by decide) f_X6_36 rfl rfl (fun _ => rfl) (fun _ => rfl) (dx dX6_init 29 rfl) ?_
  have LO_h21 : Lo a h (sN h20 a 5 (a + 32 + 1)) := LO_h20.tr (Lo.sN (Nat.le_refl _))
  have S1_h21 : VilAt (sN h20 a 5 (a + 32 + 1)) (a + 1) v00 := S1_h20
  have N0_h21 : xN (sN h20 a 5 (a + 32 + 1)) a 0 = a + 1 + 1 := (sN_ne (by decide)).trans N0_h20
  have S10_h21 : VilAt (sN h20 a 5 (a + 32 + 1)) (a + 10) v00 := S10_h20
  have N1_h21 : xN (sN h20 a 5 (a + 32 + 1)) a 1 = a + 10 + 1 := (sN_ne (by decide)).trans N1_h20
  have S19_h21 : VilAt (sN h20 a 5 (a + 32 + 1)) (a + 19) v00 := S19_h20
  have N2_h21 : xN (sN h20 a 5 (a + 32 + 1)) a 2 = a + 19 + 1 := (sN_ne (by decide)).trans N2_h20
  have I3_h21 : xI (sN h20 a 5 (a + 32 + 1)) a 3 = nI 0 := I3_h20
  have S28_h21 : ∀ i, i < 8 → xI (sN h20 a 5 (a + 32 + 1)) (a + 31) i = nI (fct i) := S28_h20
  have N4_h21 : xN (sN h20 a 5 (a + 32 + 1)) a 4 = a + 28 + 1 := (sN_ne (by decide)).trans N4_h20
  have K_h21 : xK (sN h20 a 5 (a + 32 + 1)) = xK h ++ [5, 20, 20, 21, 21, 22, 22, 23, 22, 5, 20, 20, 21, 21, 22, 22, 23, 22, 5, 20, 20, 21, 21, 22, 22, 23, 22, 4, 24, 25, 22, 0, 22] := K_h20
  have NO_h21 : NOk (sN h20 a 5 (a + 32 + 1)) := NO_h20.sN (by rw [len_h20]; exact oa6 (by decide))
  have N5_h21 : xN (sN h20 a 5 (a + 32 + 1)) a 5 = a + 32 + 1 := sN_at
  generalize sN h20 a 5 (a + 32 + 1) = h21 at LO_h21 S1_h21 N0_h21 S10_h21 N1_h21 S19_h21 N2_h21 I3_h21 S28_h21 N4_h21 K_h21 NO_h21 N5_h21 ⊢
  have len_h21 : (xK h21).length = a + 34 := by rw [K_h21, List.length_append, hlen]; rfl
  refine r_aload_n C (dx dX6_init 30 rfl) rfl ?_
  refine r_new (kk := 9) (C0 := RX1) (T := TX1) (N := 6) C (X.go (E := [9]) K_h21 (by decide) (by decide)) rfl rfl rfl (by decide) hfs1 List.prefix_rfl NO_h21 (by rw [len_h21]; exact oa4 hb (by decide)) cl_RX6_40 q_in1 q_ii1 (dx dX6_init 31 rfl) ?_
  rw [len_h21]
  have LO_h22 : Lo a h (nw h21 9) := LO_h21.tr (Lo.nw (by rw [len_h21]; exact Nat.le_add_right _ _))
  have S1_h22 : VilAt (nw h21 9) (a + 1) v00 := S1_h21.ag (Lo.nw (h := h21) (k := 9) (a := a + 34) (by rw [len_h21]; exact Nat.le_refl _)).fs (unl (oaU (a := a) (B := 1) (s := 9) (c := 34) (by decide)))
  have N0_h22 : xN (nw h21 9) a 0 = a + 1 + 1 := by rw [(nw_ne (h := h21) (k := 9) (b := a) (by rw [len_h21]; exact oa3 (by decide))).2.2]; exact N0_h21
  have S10_h22 : VilAt (nw h21 9) (a + 10) v00 := S10_h21.ag (Lo.nw (h := h21) (k := 9) (a := a + 34) (by rw [len_h21]; exact Nat.le_refl _)).fs (unl (oaU (a := a) (B := 10) (s := 9) (c := 34) (by decide)))
  have N1_h22 : xN (nw h21 9) a 1 = a + 10 + 1 := by rw [(nw_ne (h := h21) (k := 9) (b := a) (by rw [len_h21]; exact oa3 (by decide))).2.2]; exact N1_h21
  have S19_h22 : VilAt (nw h21 9) (a + 19) v00 := S19_h21.ag (Lo.nw (h := h21) (k := 9) (a := a + 34) (by rw [len_h21]; exact Nat.le_refl _)).fs (unl (oaU (a := a) (B := 19) (s := 9) (c := 34) (by decide)))
  have N2_h22 : xN (nw h21 9) a 2 = a + 19 + 1 := by rw [(nw_ne (h := h21) (k := 9) (b := a) (by rw [len_h21]; exact oa3 (by decide))).2.2]; exact N2_h21
  have I3_h22 : xI (nw h21 9) a 3 = nI 0 := by rw [(nw_ne (h := h21) (k := 9) (b := a) (by rw [len_h21]; exact oa3 (by decide))).1]; exact I3_h21
  have S28_h22 : ∀ i, i < 8 → xI (nw h21 9) (a + 31) i = nI (fct i) := fun i hi => by rw [((Lo.nw (h := h21) (k := 9) (a := a + 34) (by rw [len_h21]; exact Nat.le_refl _)) _ (Nat.add_lt_add_left (by decide) a)).1]; exact S28_h21 i hi
  have N4_h22 : xN (nw h21 9) a 4 = a + 28 + 1 := by rw [(nw_ne (h := h21) (k := 9) (b := a) (by rw [len_h21]; exact oa3 (by decide))).2.2]; exact N4_h21
  have NO_h22 : NOk (nw h21 9) := NO_h21.nw
  have N5_h22 : xN (nw h21 9) a 5 = a + 32 + 1 := by rw [(nw_ne (h := h21) (k := 9) (b := a) (by rw [len_h21]; exact oa3 (by decide))).2.2]; exact N5_h21
  have K_h22 : xK (nw h21 9) = xK h ++ [5, 20, 20, 21, 21, 22, 22, 23, 22, 5, 20, 20, 21, 21, 22, 22, 23, 22, 5, 20, 20, 21, 21, 22, 22, 23, 22, 4, 24, 25, 22, 0, 22, 9] := by show xK h21 ++ _ = _; rw [K_h21, List.append_assoc]; rfl
  have Y1_h22 : xI (nw h21 9) (a + 34) = fun _ => 0 := by have q9 := nw_I (h := h21) (k := 9); rw [len_h21] at q9; exact q9
  have Y2_h22 : xL (nw h21 9) (a + 34) = fun _ => 0 := by have q9 := nw_L (h := h21) (k := 9); rw [len_h21] at q9; exact q9
  have Y3_h22 : xN (nw h21 9) (a + 34) = fun _ => 0 := by have q9 := nw_N (h := h21) (k := 9); rw [len_h21] at q9; exact q9
  generalize nw h21 9 = h22 at LO_h22 S1_h22 N0_h22 S10_h22 N1_h22 S19_h22 N2_h22 I3_h22 S28_h22 N4_h22 NO_h22 N5_h22 K_h22 Y1_h22 Y2_h22 Y3_h22 ⊢
  have len_h22 : (xK h22).length = a + 35 := by rw [K_h22, List.length_append, hlen]; rfl
  refine r_dupR C (dx dX6_init 32 rfl) ?_
  refine r_callIN (st := [vr 9 (a + 34), vr 14 a]) (i9 := 2) C (X.go (E := [21, 21, 27, 32, 21, 21, 21, 21, 21, 21, 21, 28]) K_h22 (by decide) (by decide)) (c_X1_init (a := a + 34) len_h22 (oa9 hb (by decide)) NO_h22 Y1_h22 Y2_h22 Y3_h22) (by decide) (Nat.le_of_ble_eq_true rfl) (List.prefix_append _ _) List.prefix_rfl rfl rfl (Nat.le_of_ble_eq_true rfl) rfl q_im1 q_ii1 q_co1 rfl nh_RX1 q_pd1 (dx dX6_init 33 rfl) ?_
  rintro _ h23 ⟨rfl, NO_h23, lo_h23, p0_h23, p1_h23, p2_h23, p3_h23, p4_h23, sp_h23⟩ kk_h23
  have LO_h23 : Lo a h h23 := LO_h22.tr (lo_h23.mono (Nat.le_add_right _ _))
  have S1_h23 : VilAt h23 (a + 1) v00 := S1_h22.ag lo_h23.fs (unl (oaU (a := a) (B := 1) (s := 9) (c := 34) (by decide)))
  have N0_h23 : xN h23 a 0 = a + 1 + 1 := by rw [(lo_h23 _ (oa8 (by decide))).2.2]; exact N0_h22
  have S10_h23 : VilAt h23 (a + 10) v00 := S10_h22.ag lo_h23.fs (unl (oaU (a := a) (B := 10) (s := 9) (c := 34) (by decide)))
  have N1_h23 : xN h23 a 1 = a + 10 + 1 := by rw [(lo_h23 _ (oa8 (by decide))).2.2]; exact N1_h22
  have S19_h23 : VilAt h23 (a + 19) v00 := S19_h22.ag lo_h23.fs (unl (oaU (a := a) (B := 19) (s := 9) (c := 34) (by decide)))
  have N2_h23 : xN h23 a 2 = a + 19 + 1 := by rw [(lo_h23 _ (oa8 (by decide))).2.2]; exact N2_h22
  have I3_h23 : xI h23 a 3 = nI 0 := by rw [(lo_h23 _ (oa8 (by decide))).1]; exact I3_h22
  have S28_h23 : ∀ i, i < 8 → xI h23 (a + 31) i = nI (fct i) := fun i hi => by rw [(lo_h23 _ (Nat.add_lt_add_left (by decide) a)).1]; exact S28_h22 i hi
  have N4_h23 : xN h23 a 4 = a + 28 + 1 := by rw [(lo_h23 _ (oa8 (by decide))).2.2]; exact N4_h22
  have N5_h23 : xN h23 a 5 = a + 32 + 1 := by rw [(lo_h23 _ (oa8 (by decide))).2.2]; exact N5_h22
  have K_h23 : xK h23 = xK h ++ [5, 20, 20, 21, 21, 22, 22, 23, 22, 5, 20, 20, 21, 21, 22, 22, 23, 22, 5, 20, 20, 21, 21, 22, 22, 23, 22, 4, 24, 25, 22, 0, 22, 9, 21, 21, 27, 32, 21, 21, 21, 21, 21, 21, 21, 28] := by rw [kk_h23, K_h22, List.append_assoc]; rfl
  have len_h23 : (xK h23).length = a + 47 := by rw [K_h23, List.length_append, hlen]; rfl
  have ha_h23 : (xK h23)[a + 34]? = some (1 + 8) := by rw [K_h23]; exact (getK hlen 33).trans rfl
  have hp_h23 : ∀ (j o k9 : Nat), ([(2, 1, 21), (2, 2, 21), (2, 3, 27), (2, 4, 32), (2, 12, 28), (1, 0, 0)] : List Fd3)[j]? = some (2, o, k9) → xN h23 (a + 34) j = a + 34 + o + 1 ∧ (xK h23)[a + 34 + o]? = some k9 := fun j o k9 hj => by
    match j, hj with
    | 0, hj => cases hj; exact ⟨p0_h23, by rw [K_h23]; exact (getK hlen 34).trans rfl⟩
    | 1, hj => cases hj; exact ⟨p1_h23, by rw [K_h23]; exact (getK hlen 35).trans rfl⟩
    | 2, hj => cases hj; exact ⟨p2_h23, by rw [K_h23]; exact (getK hlen 36).trans rfl⟩
    | 3, hj => cases hj; exact ⟨p3_h23, by rw [K_h23]; exact (getK hlen 37).trans rfl⟩
    | 4, hj => cases hj; exact ⟨p4_h23, by rw [K_h23]; exact (getK hlen 45).trans rfl⟩
    | 5, hj => cases hj
    | n + 6, hj => simp at hj
  refine r_retag (a := a + 34) (k := 1) (al := xK h) C E0 (by rw [hlen]; exact Nat.add_le_add_left (by decide) a) (by decide) ha_h23 rfl hp_h23 ⟨(show a ≠ _ from oa3 (by decide)), trivial⟩ ⟨(show a ≠ _ from oa3 (by decide)), trivial⟩ ?_
  have LO_h24 : Lo a h (rt h23 (a + 34) 1) := LO_h23
  have S1_h24 : VilAt (rt h23 (a + 34) 1) (a + 1) v00 := S1_h23
  have N0_h24 : xN (rt h23 (a + 34) 1) a 0 = a + 1 + 1 := N0_h23
  have S10_h24 : VilAt (rt h23 (a + 34) 1) (a + 10) v00 := S10_h23
  have N1_h24 : xN (rt h23 (a + 34) 1) a 1 = a + 10 + 1 := N1_h23
  have S19_h24 : VilAt (rt h23 (a + 34) 1) (a + 19) v00 := S19_h23
  have N2_h24 : xN (rt h23 (a + 34) 1) a 2 = a + 19 + 1 := N2_h23
  have I3_h24 : xI (rt h23 (a + 34) 1) a 3 = nI 0 := I3_h23
  have S28_h24 : ∀ i, i < 8 → xI (rt h23 (a + 34) 1) (a + 31) i = nI (fct i) := S28_h23
  have N4_h24 : xN (rt h23 (a + 34) 1) a 4 = a + 28 + 1 := N4_h23
  have N5_h24 : xN (rt h23 (a + 34) 1) a 5 = a + 32 + 1 := N5_h23
  have S34_h24 : SInv (rt h23 (a + 34) 1) (a + 34) := sp_h23
  have K_h24 : xK (rt h23 (a + 34) 1) = xK h ++ [5, 20, 20, 21, 21, 22, 22, 23, 22, 5, 20, 20, 21, 21, 22, 22, 23, 22, 5, 20, 20, 21, 21, 22, 22, 23, 22, 4, 24, 25, 22, 0, 22, 1, 21, 21, 27, 32, 21, 21, 21, 21, 21, 21, 21, 28] := by show (xK h23).set _ _ = _; rw [K_h23]; exact (set_app (i := 33) (oaL hlen rfl)).trans rfl
  have NO_h24 : NOk (rt h23 (a + 34) 1) := NO_h23.mk8 (by decide) ha_h23
  generalize rt h23 (a + 34) 1 = h24 at LO_h24 S1_h24 N0_h24 S10_h24 N1_h24 S19_h24 N2_h24 I3_h24 S28_h24 N4_h24 N5_h24 S34_h24 K_h24 NO_h24 ⊢
  have len_h24 : (xK h24).length = a + 47 := by rw [K_h24, List.length_append, hlen]; rfl
  refine r_putNF (k := 14) (j := 6) (t := 0) C hI rfl rfl rfl (by decide) f_X6_43 rfl rfl (fun _ => rfl) (fun _ => rfl) (dx dX6_init 34 rfl) ?_
  have LO_h25 : Lo a h (sN h24 a 6 (a + 34 + 1)) := LO_h24.tr (Lo.sN (Nat.le_refl _))
  have S1_h25 : VilAt (sN h24 a 6 (a + 34 + 1)) (a + 1) v00 := S1_h24
  have N0_h25 : xN (sN h24 a 6 (a + 34 + 1)) a 0 = a + 1 + 1 := (sN_ne (by decide)).trans N0_h24
  have S10_h25 : VilAt (sN h24 a 6 (a + 34 + 1)) (a + 10) v00 := S10_h24
  have N1_h25 : xN (sN h24 a 6 (a + 34 + 1)) a 1 = a + 10 + 1 := (sN_ne (by decide)).trans N1_h24
  have S19_h25 : VilAt (sN h24 a 6 (a + 34 + 1)) (a + 19) v00 := S19_h24
  have N2_h25 : xN (sN h24 a 6 (a + 34 + 1)) a 2 = a + 19 + 1 := (sN_ne (by decide)).trans N2_h24
  have I3_h25 : xI (sN h24 a 6 (a + 34 + 1)) a 3 = nI 0 := I3_h24
  have S28_h25 : ∀ i, i < 8 → xI (sN h24 a 6 (a + 34 + 1)) (a + 31) i = nI (fct i) := S28_h24
  have N4_h25 : xN (sN h24 a 6 (a + 34 + 1)) a 4 = a + 28 + 1 := (sN_ne (by decide)).trans N4_h24
  have N5_h25 : xN (sN h24 a 6 (a + 34 + 1)) a 5 = a + 32 + 1 := (sN_ne (by decide)).trans N5_h24
  have S34_h25 : SInv (sN h24 a 6 (a + 34 + 1)) (a + 34) := S34_h24
  have K_h25 : xK (sN h24 a 6 (a + 34 + 1)) = xK h ++ [5, 20, 20, 21, 21, 22, 22, 23, 22, 5, 20, 20, 21, 21, 22, 22, 23, 22, 5, 20, 20, 21, 21, 22, 22, 23, 22, 4, 24, 25, 22, 0, 22, 1, 21, 21, 27, 32, 21, 21, 21, 21, 21, 21, 21, 28] := K_h24
  have NO_h25 : NOk (sN h24 a 6 (a + 34 + 1)) := NO_h24.sN (by rw [len_h24]; exact oa6 (by decide))
  have N6_h25 : xN (sN h24 a 6 (a + 34 + 1)) a 6 = a + 34 + 1 := sN_at
  generalize sN h24 a 6 (a + 34 + 1) = h25 at LO_h25 S1_h25 N0_h25 S10_h25 N1_h25 S19_h25 N2_h25 I3_h25 S28_h25 N4_h25 N5_h25 S34_h25 K_h25 NO_h25 N6_h25 ⊢
  have len_h25 : (xK h25).length = a + 47 := by rw [K_h25, List.length_append, hlen]; rfl
  refine r_aload_n C (dx dX6_init 35 rfl) rfl ?_
  refine r_new (kk := 11) (C0 := RX3) (T := TX3) (N := 5) C (X.go (E := [11]) K_h25 (by decide) (by decide)) rfl rfl rfl (by decide) hfs3 List.prefix_rfl NO_h25 (by rw [len_h25]; exact oa4 hb (by decide)) cl_RX6_47 q_in3 q_ii3 (dx dX6_init 36 rfl) ?_
  rw [len_h25]
  have LO_h26 : Lo a h (nw h25 11) := LO_h25.tr (Lo.nw (by rw [len_h25]; exact Nat.le_add_right _ _))
  have S1_h26 : VilAt (nw h25 11) (a + 1) v00 := S1_h25.ag (Lo.nw (h := h25) (k := 11) (a := a + 47) (by rw [len_h25]; exact Nat.le_refl _)).fs (unl (oaU (a := a) (B := 1) (s := 9) (c := 47) (by decide)))
  have N0_h26 : xN (nw h25 11) a 0 = a + 1 + 1 := by rw [(nw_ne (h := h25) (k := 11) (b := a) (by rw [len_h25]; exact oa3 (by decide))).2.2]; exact N0_h25
  have S10_h26 : VilAt (nw h25 11) (a + 10) v00 := S10_h25.ag (Lo.nw (h := h25) (k := 11) (a := a + 47) (by rw [len_h25]; exact Nat.le_refl _)).fs (unl (oaU (a := a) (B := 10) (s := 9) (c := 47) (by decide)))
  have N1_h26 : xN (nw h25 11) a 1 = a + 10 + 1 := by rw [(nw_ne (h := h25) (k := 11) (b := a) (by rw [len_h25]; exact oa3 (by decide))).2.2]; exact N1_h25
  have S19_h26 : VilAt (nw h25 11) (a + 19) v00 := S19_h25.ag (Lo.nw (h := h25) (k := 11) (a := a + 47) (by rw [len_h25]; exact Nat.le_refl _)).fs (unl (oaU (a := a) (B := 19) (s := 9) (c := 47) (by decide)))
  have N2_h26 : xN (nw h25 11) a 2 = a + 19 + 1 := by rw [(nw_ne (h := h25) (k := 11) (b := a) (by rw [len_h25]; exact oa3 (by decide))).2.2]; exact N2_h25
  have I3_h26 : xI (nw h25 11) a 3 = nI 0 := by rw [(nw_ne (h := h25) (k := 11) (b := a) (by rw [len_h25]; exact oa3 (by decide))).1]; exact I3_h25
  have S28_h26 : ∀ i, i < 8 → xI (nw h25 11) (a + 31) i = nI (fct i) := fun i hi => by rw [((Lo.nw (h := h25) (k := 11) (a := a + 47) (by rw [len_h25]; exact Nat.le_refl _)) _ (Nat.add_lt_add_left (by decide) a)).1]; exact S28_h25 i hi
  have N4_h26 : xN (nw h25 11) a 4 = a + 28 + 1 := by rw [(nw_ne (h := h25) (k := 11) (b := a) (by rw [len_h25]; exact oa3 (by decide))).2.2]; exact N4_h25
  have N5_h26 : xN (nw h25 11) a 5 = a + 32 + 1 := by rw [(nw_ne (h := h25) (k := 11) (b := a) (by rw [len_h25]; exact oa3 (by decide))).2.2]; exact N5_h25
  have S34_h26 : SInv (nw h25 11) (a + 34) := S34_h25.ag (Lo.nw (h := h25) (k := 11) (a := a + 47) (by rw [len_h25]; exact Nat.le_refl _)).fs (unl (oaU (a := a) (B := 34) (s := 13) (c := 47) (by decide)))
  have NO_h26 : NOk (nw h25 11) := NO_h25.nw
  have N6_h26 : xN (nw h25 11) a 6 = a + 34 + 1 := by rw [(nw_ne (h := h25) (k := 11) (b := a) (by rw [len_h25]; exact oa3 (by decide))).2.2]; exact N6_h25
  have K_h26 : xK (nw h25 11) = xK h ++ [5, 20, 20, 21, 21, 22, 22, 23, 22, 5, 20, 20, 21, 21, 22, 22, 23, 22, 5, 20, 20, 21, 21, 22, 22, 23, 22, 4, 24, 25, 22, 0, 22, 1, 21, 21, 27, 32, 21, 21, 21, 21, 21, 21, 21, 28, 11] := by show xK h25 ++ _ = _; rw [K_h25, List.append_assoc]; rfl
  have Y1_h26 : xI (nw h25 11) (a + 47) = fun _ => 0 := by have q9 := nw_I (h := h25) (k := 11); rw [len_h25] at q9; exact q9
  have Y2_h26 : xL (nw h25 11) (a + 47) = fun _ => 0 := by have q9 := nw_L (h := h25) (k := 11); rw [len_h25] at q9; exact q9
  have Y3_h26 : xN (nw h25 11) (a + 47) = fun _ => 0 := by have q9 := nw_N (h := h25) (k := 11); rw [len_h25] at q9; exact q9
  generalize nw h25 11 = h26 at LO_h26 S1_h26 N0_h26 S10_h26 N1_h26 S19_h26 N2_h26 I3_h26 S28_h26 N4_h26 N5_h26 S34_h26 NO_h26 N6_h26 K_h26 Y1_h26 Y2_h26 Y3_h26 ⊢
  have len_h26 : (xK h26).length = a + 48 := by rw [K_h26, List.length_append, hlen]; rfl
  refine r_dupR C (dx dX6_init 37 rfl) ?_
  refine r_callIN (st := [vr 11 (a + 47), vr 14 a]) (i9 := 3) C (X.go (E := [29]) K_h26 (by decide) (by decide)) (c_X3_init (a := a + 47) len_h26 (oa9 hb (by decide)) NO_h26 Y1_h26 Y2_h26 Y3_h26) (by decide) (Nat.le_of_ble_eq_true rfl) (List.prefix_append _ _) List.prefix_rfl rfl rfl (Nat.le_of_ble_eq_true rfl) rfl q_im3 q_ii3 q_co3 rfl nh_RX3 q_pd3 (dx dX6_init 38 rfl) ?_
  rintro _ h27 ⟨rfl, NO_h27, lo_h27, p0_h27, sp_h27⟩ kk_h27
  have LO_h27 : Lo a h h27 := LO_h26.tr (lo_h27.mono (Nat.le_add_right _ _))
  have S1_h27 : VilAt h27 (a + 1) v00 := S1_h26.ag lo_h27.fs (unl (oaU (a := a) (B := 1) (s := 9) (c := 47) (by decide)))
  have N0_h27 : xN h27 a 0 = a + 1 + 1 := by rw [(lo_h27 _ (oa8 (by decide))).2.2]; exact N0_h26
  have S10_h27 : VilAt h27 (a + 10) v00 := S10_h26.ag lo_h27.fs (unl (oaU (a := a) (B := 10) (s := 9) (c := 47) (by decide)))
  have N1_h27 : xN h27 a 1 = a + 10 + 1 := by rw [(lo_h27 _ (oa8 (by decide))).2.2]; exact N1_h26
  have S19_h27 : VilAt h27 (a + 19) v00 := S19_h26.ag lo_h27.fs (unl (oaU (a := a) (B := 19) (s := 9) (c := 47) (by decide)))
  have N2_h27 : xN h27 a 2 = a + 19 + 1 := by rw [(lo_h27 _ (oa8 (by decide))).2.2]; exact N2_h26
  have I3_h27 : xI h27 a 3 = nI 0 := by rw [(lo_h27 _ (oa8 (by decide))).1]; exact I3_h26
  have S28_h27 : ∀ i, i < 8 → xI h27 (a + 31) i = nI (fct i) := fun i hi => by rw [(lo_h27 _ (Nat.add_lt_add_left (by decide) a)).1]; exact S28_h26 i hi
  have N4_h27 : xN h27 a 4 = a + 28 + 1 := by rw [(lo_h27 _ (oa8 (by decide))).2.2]; exact N4_h26
  have N5_h27 : xN h27 a 5 = a + 32 + 1 := by rw [(lo_h27 _ (oa8 (by decide))).2.2]; exact N5_h26
  have S34_h27 : SInv h27 (a + 34) := S34_h26.ag lo_h27.fs (unl (oaU (a := a) (B := 34) (s := 13) (c := 47) (by decide)))
  have N6_h27 : xN h27 a 6 = a + 34 + 1 := by rw [(lo_h27 _ (oa8 (by decide))).2.2]; exact N6_h26
  have K_h27 : xK h27 = xK h ++ [5, 20, 20, 21, 21, 22, 22, 23, 22, 5, 20, 20, 21, 21, 22, 22, 23, 22, 5, 20, 20, 21, 21, 22, 22, 23, 22, 4, 24, 25, 22, 0, 22, 1, 21, 21, 27, 32, 21, 21, 21, 21, 21, 21, 21, 28, 11, 29] := by rw [kk_h27, K_h26, List.append_assoc]; rfl
  have len_h27 : (xK h27).length = a + 49 := by rw [K_h27, List.length_append, hlen]; rfl
  have ha_h27 : (xK h27)[a + 47]? = some (3 + 8) := by rw [K_h27]; exact (getK hlen 46).trans rfl
  have hp_h27 : ∀ (j o k9 : Nat), ([(2, 1, 29), (0, 0, 0), (0, 0, 0), (0, 0, 0), (0, 0, 0)] : List Fd3)[j]? = some (2, o, k9) → xN h27 (a + 47) j = a + 47 + o + 1 ∧ (xK h27)[a + 47 + o]? = some k9 := fun j o k9 hj => by
    match j, hj with
    | 0, hj => cases hj; exact ⟨p0_h27, by rw [K_h27]; exact (getK hlen 47).trans rfl⟩
    | 1, hj => cases hj
    | 2, hj => cases hj
    | 3, hj => cases hj
    | 4, hj => cases hj
    | n + 5, hj => simp at hj
  refine r_retag (a := a + 47) (k := 3) (al := xK h) C E0 (by rw [hlen]; exact Nat.add_le_add_left (by decide) a) (by decide) ha_h27 rfl hp_h27 ⟨(show a ≠ _ from oa3 (by decide)), trivial⟩ ⟨(show a ≠ _ from oa3 (by decide)), trivial⟩ ?_
  have LO_h28 : Lo a h (rt h27 (a + 47) 3) := LO_h27
  have S1_h28 : VilAt (rt h27 (a + 47) 3) (a + 1) v00 := S1_h27
  have N0_h28 : xN (rt h27 (a + 47) 3) a 0 = a + 1 + 1 := N0_h27
  have S10_h28 : VilAt (rt h27 (a + 47) 3) (a + 10) v00 := S10_h27
  have N1_h28 : xN (rt h27 (a + 47) 3) a 1 = a + 10 + 1 := N1_h27
  have S19_h28 : VilAt (rt h27 (a + 47) 3) (a + 19) v00 := S19_h27
  have N2_h28 : xN (rt h27 (a + 47) 3) a 2 = a + 19 + 1 := N2_h27
  have I3_h28 : xI (rt h27 (a + 47) 3) a 3 = nI 0 := I3_h27
  have S28_h28 : ∀ i, i < 8 → xI (rt h27 (a + 47) 3) (a + 31) i = nI (fct i) := S28_h27
  have N4_h28 : xN (rt h27 (a + 47) 3) a 4 = a + 28 + 1 := N4_h27
  have N5_h28 : xN (rt h27 (a + 47) 3) a 5 = a + 32 + 1 := N5_h27
  have S34_h28 : SInv (rt h27 (a + 47) 3) (a + 34) := S34_h27
  have N6_h28 : xN (rt h27 (a + 47) 3) a 6 = a + 34 + 1 := N6_h27
  have S47_h28 : TapAt (rt h27 (a + 47) 3) (a + 47) (fun _ => 0) 0 := sp_h27
  have K_h28 : xK (rt h27 (a + 47) 3) = xK h ++ [5, 20, 20, 21, 21, 22, 22, 23, 22, 5, 20, 20, 21, 21, 22, 22, 23, 22, 5, 20, 20, 21, 21, 22, 22, 23, 22, 4, 24, 25, 22, 0, 22, 1, 21, 21, 27, 32, 21, 21, 21, 21, 21, 21, 21, 28, 3, 29] := by show (xK h27).set _ _ = _; rw [K_h27]; exact (set_app (i := 46) (oaL hlen rfl)).trans rfl
  have NO_h28 : NOk (rt h27 (a + 47) 3) := NO_h27.mk8 (by decide) ha_h27
  generalize rt h27 (a + 47) 3 = h28 at LO_h28 S1_h28 N0_h28 S10_h28 N1_h28 S19_h28 N2_h28 I3_h28 S28_h28 N4_h28 N5_h28 S34_h28 N6_h28 S47_h28 K_h28 NO_h28 ⊢
  have len_h28 : (xK h28).length = a + 49 := by rw [K_h28, List.length_append, hlen]; rfl
  refine r_putNF (k := 14) (j := 7) (t := 0) C hI rfl rfl rfl (by decide) f_X6_50 rfl rfl (fun _ => rfl) (fun _ => rfl) (dx dX6_init 39 rfl) ?_
  have LO_h29 : Lo a h (sN h28 a 7 (a + 47 + 1)) := LO_h28.tr (Lo.sN (Nat.le_refl _))
  have S1_h29 : VilAt (sN h28 a 7 (a + 47 + 1)) (a + 1) v00 := S1_h28
  have N0_h29 : xN (sN h28 a 7 (a + 47 + 1)) a 0 = a + 1 + 1 := (sN_ne (by decide)).trans N0_h28
  have S10_h29 : VilAt (sN h28 a 7 (a + 47 + 1)) (a + 10) v00 := S10_h28
  have N1_h29 : xN (sN h28 a 7 (a + 47 + 1)) a 1 = a + 10 + 1 := (sN_ne (by decide)).trans N1_h28
  have S19_h29 : VilAt (sN h28 a 7 (a + 47 + 1)) (a + 19) v00 := S19_h28
  have N2_h29 : xN (sN h28 a 7 (a + 47 + 1)) a 2 = a + 19 + 1 := (sN_ne (by decide)).trans N2_h28
  have I3_h29 : xI (sN h28 a 7 (a + 47 + 1)) a 3 = nI 0 := I3_h28
  have S28_h29 : ∀ i, i < 8 → xI (sN h28 a 7 (a + 47 + 1)) (a + 31) i = nI (fct i) := S28_h28
  have N4_h29 : xN (sN h28 a 7 (a + 47 + 1)) a 4 = a + 28 + 1 := (sN_ne (by decide)).trans N4_h28
  have N5_h29 : xN (sN h28 a 7 (a + 47 + 1)) a 5 = a + 32 + 1 := (sN_ne (by decide)).trans N5_h28
  have S34_h29 : SInv (sN h28 a 7 (a + 47 + 1)) (a + 34) := S34_h28
  have N6_h29 : xN (sN h28 a 7 (a + 47 + 1)) a 6 = a + 34 + 1 := (sN_ne (by decide)).trans N6_h28
  have S47_h29 : TapAt (sN h28 a 7 (a + 47 + 1)) (a + 47) (fun _ => 0) 0 := S47_h28
  have K_h29 : xK (sN h28 a 7 (a + 47 + 1)) = xK h ++ [5, 20, 20, 21, 21, 22, 22, 23, 22, 5, 20, 20, 21, 21, 22, 22, 23, 22, 5, 20, 20, 21, 21, 22, 22, 23, 22, 4, 24, 25, 22, 0, 22, 1, 21, 21, 27, 32, 21, 21, 21, 21, 21, 21, 21, 28, 3, 29] := K_h28
  have NO_h29 : NOk (sN h28 a 7 (a + 47 + 1)) := NO_h28.sN (by rw [len_h28]; exact oa6 (by decide))
  have N7_h29 : xN (sN h28 a 7 (a + 47 + 1)) a 7 = a + 47 + 1 := sN_at
  generalize sN h28 a 7 (a + 47 + 1) = h29 at LO_h29 S1_h29 N0_h29 S10_h29 N1_h29 S19_h29 N2_h29 I3_h29 S28_h29 N4_h29 N5_h29 S34_h29 N6_h29 S47_h29 K_h29 NO_h29 N7_h29 ⊢
  have len_h29 : (xK h29).length = a + 49 := by rw [K_h29, List.length_append, hlen]; rfl
  refine r_aload_n C (dx dX6_init 40 rfl) rfl ?_
  refine r_new (kk := 10) (C0 := RX2) (T := TX2) (N := 4) C (X.go (E := [10]) K_h29 (by decide) (by decide)) rfl rfl rfl (by decide) hfs2 List.prefix_rfl NO_h29 (by rw [len_h29]; exact oa4 hb (by decide)) cl_RX6_54 q_in2 q_ii2 (dx dX6_init 41 rfl) ?_
  rw [len_h29]
  have LO_h30 : Lo a h (nw h29 10) := LO_h29.tr (Lo.nw (by rw [len_h29]; exact Nat.le_add_right _ _))
  have S1_h30 : VilAt (nw h29 10) (a + 1) v00 := S1_h29.ag (Lo.nw (h := h29) (k := 10) (a := a + 49) (by rw [len_h29]; exact Nat.le_refl _)).fs (unl (oaU (a := a) (B := 1) (s := 9) (c := 49) (by decide)))
  have N0_h30 : xN (nw h29 10) a 0 = a + 1 + 1 := by rw [(nw_ne (h := h29) (k := 10) (b := a) (by rw [len_h29]; exact oa3 (by decide))).2.2]; exact N0_h29
  have S10_h30 : VilAt (nw h29 10) (a + 10) v00 := S10_h29.ag (Lo.nw (h := h29) (k := 10) (a := a + 49) (by rw [len_h29]; exact Nat.le_refl _)).fs (unl (oaU (a := a) (B := 10) (s := 9) (c := 49) (by decide)))
  have N1_h30 : xN (nw h29 10) a 1 = a + 10 + 1 := by rw [(nw_ne (h := h29) (k := 10) (b := a) (by rw [len_h29]; exact oa3 (by decide))).2.2]; exact N1_h29
  have S19_h30 : VilAt (nw h29 10) (a + 19) v00 := S19_h29.ag (Lo.nw (h := h29) (k := 10) (a := a + 49) (by rw [len_h29]; exact Nat.le_refl _)).fs (unl (oaU (a := a) (B := 19) (s := 9) (c := 49) (by decide)))
  have N2_h30 : xN (nw h29 10) a 2 = a + 19 + 1 := by rw [(nw_ne (h := h29) (k := 10) (b := a) (by rw [len_h29]; exact oa3 (by decide))).2.2]; exact N2_h29
  have I3_h30 : xI (nw h29 10) a 3 = nI 0 := by rw [(nw_ne (h := h29) (k := 10) (b := a) (by rw [len_h29]; exact oa3 (by decide))).1]; exact I3_h29
  have S28_h30 : ∀ i, i < 8 → xI (nw h29 10) (a + 31) i = nI (fct i) := fun i hi => by rw [((Lo.nw (h := h29) (k := 10) (a := a + 49) (by rw [len_h29]; exact Nat.le_refl _)) _ (Nat.add_lt_add_left (by decide) a)).1]; exact S28_h29 i hi
  have N4_h30 : xN (nw h29 10) a 4 = a + 28 + 1 := by rw [(nw_ne (h := h29) (k := 10) (b := a) (by rw [len_h29]; exact oa3 (by decide))).2.2]; exact N4_h29
  have N5_h30 : xN (nw h29 10) a 5 = a + 32 + 1 := by rw [(nw_ne (h := h29) (k := 10) (b := a) (by rw [len_h29]; exact oa3 (by decide))).2.2]; exact N5_h29
  have S34_h30 : SInv (nw h29 10) (a + 34) := S34_h29.ag (Lo.nw (h := h29) (k := 10) (a := a + 49) (by rw [len_h29]; exact Nat.le_refl _)).fs (unl (oaU (a := a) (B := 34) (s := 13) (c := 49) (by decide)))
  have N6_h30 : xN (nw h29 10) a 6 = a + 34 + 1 := by rw [(nw_ne (h := h29) (k := 10) (b := a) (by rw [len_h29]; exact oa3 (by decide))).2.2]; exact N6_h29
  have S47_h30 : TapAt (nw h29 10) (a + 47) (fun _ => 0) 0 := S47_h29.ag (Lo.nw (h := h29) (k := 10) (a := a + 49) (by rw [len_h29]; exact Nat.le_refl _)).fs (unl (oaU (a := a) (B := 47) (s := 2) (c := 49) (by decide)))
  have NO_h30 : NOk (nw h29 10) := NO_h29.nw
  have N7_h30 : xN (nw h29 10) a 7 = a + 47 + 1 := by rw [(nw_ne (h := h29) (k := 10) (b := a) (by rw [len_h29]; exact oa3 (by decide))).2.2]; exact N7_h29
  have K_h30 : xK (nw h29 10) = xK h ++ [5, 20, 20, 21, 21, 22, 22, 23, 22, 5, 20, 20, 21, 21, 22, 22, 23, 22, 5, 20, 20, 21, 21, 22, 22, 23, 22, 4, 24, 25, 22, 0, 22, 1, 21, 21, 27, 32, 21, 21, 21, 21, 21, 21, 21, 28, 3, 29, 10] := by show xK h29 ++ _ = _; rw [K_h29, List.append_assoc]; rfl
  have Y1_h30 : xI (nw h29 10) (a + 49) = fun _ => 0 := by have q9 := nw_I (h := h29) (k := 10); rw [len_h29] at q9; exact q9
  have Y2_h30 : xL (nw h29 10) (a + 49) = fun _ => 0 := by have q9 := nw_L (h := h29) (k := 10); rw [len_h29] at q9; exact q9
  have Y3_h30 : xN (nw h29 10) (a + 49) = fun _ => 0 := by have q9 := nw_N (h := h29) (k := 10); rw [len_h29] at q9; exact q9
  generalize nw h29 10 = h30 at LO_h30 S1_h30 N0_h30 S10_h30 N1_h30 S19_h30 N2_h30 I3_h30 S28_h30 N4_h30 N5_h30 S34_h30 N6_h30 S47_h30 NO_h30 N7_h30 K_h30 Y1_h30 Y2_h30 Y3_h30 ⊢
  have len_h30 : (xK h30).length = a + 50 := by rw [K_h30, List.length_append, hlen]; rfl
  refine r_dupR C (dx dX6_init 42 rfl) ?_
  refine r_callI (st := [vr 10 (a + 49), vr 14 a]) C (X.go (E := [22, 22, 33, 31, 31, 31, 31, 31, 31, 31, 31, 22]) K_h30 (by decide) (by decide)) (c_X2_init (a := a + 49) len_h30 (oa9 hb (by decide)) NO_h30 Y1_h30 Y2_h30 Y3_h30) (by decide) (Nat.le_of_ble_eq_true rfl) (List.prefix_append _ _) List.prefix_rfl rfl rfl (Nat.le_of_ble_eq_true rfl) l_X6_56 q_im2 q_ii2 q_co2 rfl nh_RX2 q_pd2 (dx dX6_init 43 rfl) ?_
  rintro _ h31 ⟨rfl, NO_h31, lo_h31, p0_h31, p1_h31, p2_h31, p3_h31, sp_h31⟩ kk_h31
  have LO_h31 : Lo a h h31 := LO_h30.tr (lo_h31.mono (Nat.le_add_right _ _))
  have S1_h31 : VilAt h31 (a + 1) v00 := S1_h30.ag lo_h31.fs (unl (oaU (a := a) (B := 1) (s := 9) (c := 49) (by decide)))
  have N0_h31 : xN h31 a 0 = a + 1 + 1 := by rw [(lo_h31 _ (oa8 (by decide))).2.2]; exact N0_h30
  have S10_h31 : VilAt h31 (a + 10) v00 := S10_h30.ag lo_h31.fs (unl (oaU (a := a) (B := 10) (s := 9) (c := 49) (by decide)))
  have N1_h31 : xN h31 a 1 = a + 10 + 1 := by rw [(lo_h31 _ (oa8 (by decide))).2.2]; exact N1_h30
  have S19_h31 : VilAt h31 (a + 19) v00 := S19_h30.ag lo_h31.fs (unl (oaU (a := a) (B := 19) (s := 9) (c := 49) (by decide)))
  have N2_h31 : xN h31 a 2 = a + 19 + 1 := by rw [(lo_h31 _ (oa8 (by decide))).2.2]; exact N2_h30
  have I3_h31 : xI h31 a 3 = nI 0 := by rw [(lo_h31 _ (oa8 (by decide))).1]; exact I3_h30
  have S28_h31 : ∀ i, i < 8 → xI h31 (a + 31) i = nI (fct i) := fun i hi => by rw [(lo_h31 _ (Nat.add_lt_add_left (by decide) a)).1]; exact S28_h30 i hi
  have N4_h31 : xN h31 a 4 = a + 28 + 1 := by rw [(lo_h31 _ (oa8 (by decide))).2.2]; exact N4_h30
  have N5_h31 : xN h31 a 5 = a + 32 + 1 := by rw [(lo_h31 _ (oa8 (by decide))).2.2]; exact N5_h30
  have S34_h31 : SInv h31 (a + 34) := S34_h30.ag lo_h31.fs (unl (oaU (a := a) (B := 34) (s := 13) (c := 49) (by decide)))
  have N6_h31 : xN h31 a 6 = a + 34 + 1 := by rw [(lo_h31 _ (oa8 (by decide))).2.2]; exact N6_h30
  have S47_h31 : TapAt h31 (a + 47) (fun _ => 0) 0 := S47_h30.ag lo_h31.fs (unl (oaU (a := a) (B := 47) (s := 2) (c := 49) (by decide)))
  have N7_h31 : xN h31 a 7 = a + 47 + 1 := by rw [(lo_h31 _ (oa8 (by decide))).2.2]; exact N7_h30
  have K_h31 : xK h31 = xK h ++ [5, 20, 20, 21, 21, 22, 22, 23, 22, 5, 20, 20, 21, 21, 22, 22, 23, 22, 5, 20, 20, 21, 21, 22, 22, 23, 22, 4, 24, 25, 22, 0, 22, 1, 21, 21, 27, 32, 21, 21, 21, 21, 21, 21, 21, 28, 3, 29, 10, 22, 22, 33, 31, 31, 31, 31, 31, 31, 31, 31, 22] := by rw [kk_h31, K_h30, List.append_assoc]; rfl
  have len_h31 : (xK h31).length = a + 62 := by rw [K_h31, List.length_append, hlen]; rfl
  have ha_h31 : (xK h31)[a + 49]? = some (2 + 8) := by rw [K_h31]; exact (getK hlen 48).trans rfl
  have hp_h31 : ∀ (j o k9 : Nat), ([(2, 1, 22), (2, 2, 22), (2, 3, 33), (2, 12, 22)] : List Fd3)[j]? = some (2, o, k9) → xN h31 (a + 49) j = a + 49 + o + 1 ∧ (xK h31)[a + 49 + o]? = some k9 := fun j o k9 hj => by
    match j, hj with
    | 0, hj => cases hj; exact ⟨p0_h31, by rw [K_h31]; exact (getK hlen 49).trans rfl⟩
    | 1, hj => cases hj; exact ⟨p1_h31, by rw [K_h31]; exact (getK hlen 50).trans rfl⟩
    | 2, hj => cases hj; exact ⟨p2_h31, by rw [K_h31]; exact (getK hlen 51).trans rfl⟩
    | 3, hj => cases hj; exact ⟨p3_h31, by rw [K_h31]; exact (getK hlen 60).trans rfl⟩
    | n + 4, hj => simp at hj
  refine r_retag (a := a + 49) (k := 2) (al := xK h) C E0 (by rw [hlen]; exact Nat.add_le_add_left (by decide) a) (by decide) ha_h31 rfl hp_h31 ⟨(show a ≠ _ from oa3 (by decide)), trivial⟩ ⟨(show a ≠ _ from oa3 (by decide)), trivial⟩ ?_
  have LO_h32 : Lo a h (rt h31 (a + 49) 2) := LO_h31
  have S1_h32 : VilAt (rt h31 (a + 49) 2) (a + 1) v00 := S1_h31
  have N0_h32 : xN (rt h31 (a + 49) 2) a 0 = a + 1 + 1 := N0_h31
  have S10_h32 : VilAt (rt h31 (a + 49) 2) (a + 10) v00 := S10_h31
  have N1_h32 : xN (rt h31 (a + 49) 2) a 1 = a + 10 + 1 := N1_h31
  have S19_h32 : VilAt (rt h31 (a + 49) 2) (a + 19) v00 := S19_h31
  have N2_h32 : xN (rt h31 (a + 49) 2) a 2 = a + 19 + 1 := N2_h31
  have I3_h32 : xI (rt h31 (a + 49) 2) a 3 = nI 0 := I3_h31
  have S28_h32 : ∀ i, i < 8 → xI (rt h31 (a + 49) 2) (a + 31) i = nI (fct i) := S28_h31
  have N4_h32 : xN (rt h31 (a + 49) 2) a 4 = a + 28 + 1 := N4_h31
  have N5_h32 : xN (rt h31 (a + 49) 2) a 5 = a + 32 + 1 := N5_h31
  have S34_h32 : SInv (rt h31 (a + 49) 2) (a + 34) := S34_h31
  have N6_h32 : xN (rt h31 (a + 49) 2) a 6 = a + 34 + 1 := N6_h31
  have S47_h32 : TapAt (rt h31 (a + 49) 2) (a + 47) (fun _ => 0) 0 := S47_h31
  have N7_h32 : xN (rt h31 (a + 49) 2) a 7 = a + 47 + 1 := N7_h31
  have S49_h32 : ShAt (rt h31 (a + 49) 2) (a + 49) g00 := sp_h31
  have K_h32 : xK (rt h31 (a + 49) 2) = xK h ++ [5, 20, 20, 21, 21, 22, 22, 23, 22, 5, 20, 20, 21, 21, 22, 22, 23, 22, 5, 20, 20, 21, 21, 22, 22, 23, 22, 4, 24, 25, 22, 0, 22, 1, 21, 21, 27, 32, 21, 21, 21, 21, 21, 21, 21, 28, 3, 29, 2, 22, 22, 33, 31, 31, 31, 31, 31, 31, 31, 31, 22] := by show (xK h31).set _ _ = _; rw [K_h31]; exact (set_app (i := 48) (oaL hlen rfl)).trans rfl
  have NO_h32 : NOk (rt h31 (a + 49) 2) := NO_h31.mk8 (by decide) ha_h31
  generalize rt h31 (a + 49) 2 = h32 at LO_h32 S1_h32 N0_h32 S10_h32 N1_h32 S19_h32 N2_h32 I3_h32 S28_h32 N4_h32 N5_h32 S34_h32 N6_h32 S47_h32 N7_h32 S49_h32 K_h32 NO_h32 ⊢
  have len_h32 : (xK h32).length = a + 62 := by rw [K_h32, List.length_append, hlen]; rfl
  refine r_putNF (k := 14) (j := 8) (t := 0) C hI rfl rfl rfl (by decide) f_X6_57 rfl rfl (fun _ => rfl) (fun _ => rfl) (dx dX6_init 44 rfl) ?_
  have LO_h33 : Lo a h (sN h32 a 8 (a + 49 + 1)) := LO_h32.tr (Lo.sN (Nat.le_refl _))
  have S1_h33 : VilAt (sN h32 a 8 (a + 49 + 1)) (a + 1) v00 := S1_h32
  have N0_h33 : xN (sN h32 a 8 (a + 49 + 1)) a 0 = a + 1 + 1 := (sN_ne (by decide)).trans N0_h32
  have S10_h33 : VilAt (sN h32 a 8 (a + 49 + 1)) (a + 10) v00 := S10_h32
  have N1_h33 : xN (sN h32 a 8 (a + 49 + 1)) a 1 = a + 10 + 1 := (sN_ne (by decide)).trans N1_h32
  have S19_h33 : VilAt (sN h32 a 8 (a + 49 + 1)) (a + 19) v00 := S19_h32
  have N2_h33 : xN (sN h32 a 8 (a + 49 + 1)) a 2 = a + 19 + 1 := (sN_ne (by decide)).trans N2_h32
  have I3_h33 : xI (sN h32 a 8 (a + 49 + 1)) a 3 = nI 0 := I3_h32
  have S28_h33 : ∀ i, i < 8 → xI (sN h32 a 8 (a + 49 + 1)) (a + 31) i = nI (fct i) := S28_h32
  have N4_h33 : xN (sN h32 a 8 (a + 49 + 1)) a 4 = a + 28 + 1 := (sN_ne (by decide)).trans N4_h32
  have N5_h33 : xN (sN h32 a 8 (a + 49 + 1)) a 5 = a + 32 + 1 := (sN_ne (by decide)).trans N5_h32
  have S34_h33 : SInv (sN h32 a 8 (a + 49 + 1)) (a + 34) := S34_h32
  have N6_h33 : xN (sN h32 a 8 (a + 49 + 1)) a 6 = a + 34 + 1 := (sN_ne (by decide)).trans N6_h32
  have S47_h33 : TapAt (sN h32 a 8 (a + 49 + 1)) (a + 47) (fun _ => 0) 0 := S47_h32
  have N7_h33 : xN (sN h32 a 8 (a + 49 + 1)) a 7 = a + 47 + 1 := (sN_ne (by decide)).trans N7_h32
  have S49_h33 : ShAt (sN h32 a 8 (a + 49 + 1)) (a + 49) g00 := S49_h32
  have K_h33 : xK (sN h32 a 8 (a + 49 + 1)) = xK h ++ [5, 20, 20, 21, 21, 22, 22, 23, 22, 5, 20, 20, 21, 21, 22, 22, 23, 22, 5, 20, 20, 21, 21, 22, 22, 23, 22, 4, 24, 25, 22, 0, 22, 1, 21, 21, 27, 32, 21, 21, 21, 21, 21, 21, 21, 28, 3, 29, 2, 22, 22, 33, 31, 31, 31, 31, 31, 31, 31, 31, 22] := K_h32
  have NO_h33 : NOk (sN h32 a 8 (a + 49 + 1)) := NO_h32.sN (by rw [len_h32]; exact oa6 (by decide))
  have N8_h33 : xN (sN h32 a 8 (a + 49 + 1)) a 8 = a + 49 + 1 := sN_at
  generalize sN h32 a 8 (a + 49 + 1) = h33 at LO_h33 S1_h33 N0_h33 S10_h33 N1_h33 S19_h33 N2_h33 I3_h33 S28_h33 N4_h33 N5_h33 S34_h33 N6_h33 S47_h33 N7_h33 S49_h33 K_h33 NO_h33 N8_h33 ⊢
  have len_h33 : (xK h33).length = a + 62 := by rw [K_h33, List.length_append, hlen]; rfl
  refine r_aload_n C (dx dX6_init 45 rfl) rfl ?_
  refine r_iconst (v := nI 5) C (dx dX6_init 46 rfl) rfl ?_
  refine r_newa (kk := 26) (t := 0) (n := 5) (ty := .int) (S := "[" ++ (.int : FieldType).toString) (a0 := (5, .inl (fun _ => 0))) C (X.go (E := [26]) K_h33 (by decide) (by decide)) rfl rfl (by decide) List.prefix_rfl NO_h33 (by rw [len_h33]; exact oa4 hb (by decide)) rfl q_ac_int (fun _ => rfl) (fun _ _ q => q) (fun _ => rfl) (fun dA f h9 a9 e1 e2 => by rw [ent_arr (q := (0, 5, 0)) rfl rfl]; simp [entA, e1, e2]) (by decide) (by decide) (dx dX6_init 47 rfl) ?_
  rw [len_h33]
  have LO_h34 : Lo a h (nw h33 26) := LO_h33.tr (Lo.nw (by rw [len_h33]; exact Nat.le_add_right _ _))
  have S1_h34 : VilAt (nw h33 26) (a + 1) v00 := S1_h33.ag (Lo.nw (h := h33) (k := 26) (a := a + 62) (by rw [len_h33]; exact Nat.le_refl _)).fs (unl (oaU (a := a) (B := 1) (s := 9) (c := 62) (by decide)))
  have N0_h34 : xN (nw h33 26) a 0 = a + 1 + 1 := by rw [(nw_ne (h := h33) (k := 26) (b := a) (by rw [len_h33]; exact oa3 (by decide))).2.2]; exact N0_h33
  have S10_h34 : VilAt (nw h33 26) (a + 10) v00 := S10_h33.ag (Lo.nw (h := h33) (k := 26) (a := a + 62) (by rw [len_h33]; exact Nat.le_refl _)).fs (unl (oaU (a := a) (B := 10) (s := 9) (c := 62) (by decide)))
  have N1_h34 : xN (nw h33 26) a 1 = a + 10 + 1 := by rw [(nw_ne (h := h33) (k := 26) (b := a) (by rw [len_h33]; exact oa3 (by decide))).2.2]; exact N1_h33
  have S19_h34 : VilAt (nw h33 26) (a + 19) v00 := S19_h33.ag (Lo.nw (h := h33) (k := 26) (a := a + 62) (by rw [len_h33]; exact Nat.le_refl _)).fs (unl (oaU (a := a) (B := 19) (s := 9) (c := 62) (by decide)))
  have N2_h34 : xN (nw h33 26) a 2 = a + 19 + 1 := by rw [(nw_ne (h := h33) (k := 26) (b := a) (by rw [len_h33]; exact oa3 (by decide))).2.2]; exact N2_h33
  have I3_h34 : xI (nw h33 26) a 3 = nI 0 := by rw [(nw_ne (h := h33) (k := 26) (b := a) (by rw [len_h33]; exact oa3 (by decide))).1]; exact I3_h33
  have S28_h34 : ∀ i, i < 8 → xI (nw h33 26) (a + 31) i = nI (fct i) := fun i hi => by rw [((Lo.nw (h := h33) (k := 26) (a := a + 62) (by rw [len_h33]; exact Nat.le_refl _)) _ (Nat.add_lt_add_left (by decide) a)).1]; exact S28_h33 i hi
  have N4_h34 : xN (nw h33 26) a 4 = a + 28 + 1 := by rw [(nw_ne (h := h33) (k := 26) (b := a) (by rw [len_h33]; exact oa3 (by decide))).2.2]; exact N4_h33
  have N5_h34 : xN (nw h33 26) a 5 = a + 32 + 1 := by rw [(nw_ne (h := h33) (k := 26) (b := a) (by rw [len_h33]; exact oa3 (by decide))).2.2]; exact N5_h33
  have S34_h34 : SInv (nw h33 26) (a + 34) := S34_h33.ag (Lo.nw (h := h33) (k := 26) (a := a + 62) (by rw [len_h33]; exact Nat.le_refl _)).fs (unl (oaU (a := a) (B := 34) (s := 13) (c := 62) (by decide)))
  have N6_h34 : xN (nw h33 26) a 6 = a + 34 + 1 := by rw [(nw_ne (h := h33) (k := 26) (b := a) (by rw [len_h33]; exact oa3 (by decide))).2.2]; exact N6_h33
  have S47_h34 : TapAt (nw h33 26) (a + 47) (fun _ => 0) 0 := S47_h33.ag (Lo.nw (h := h33) (k := 26) (a := a + 62) (by rw [len_h33]; exact Nat.le_refl _)).fs (unl (oaU (a := a) (B := 47) (s := 2) (c := 62) (by decide)))
  have N7_h34 : xN (nw h33 26) a 7 = a + 47 + 1 := by rw [(nw_ne (h := h33) (k := 26) (b := a) (by rw [len_h33]; exact oa3 (by decide))).2.2]; exact N7_h33
  have S49_h34 : ShAt (nw h33 26) (a + 49) g00 := S49_h33.ag (Lo.nw (h := h33) (k := 26) (a := a + 62) (by rw [len_h33]; exact Nat.le_refl _)).fs (unl (oaU (a := a) (B := 49) (s := 13) (c := 62) (by decide)))
  have NO_h34 : NOk (nw h33 26) := NO_h33.nw
  have N8_h34 : xN (nw h33 26) a 8 = a + 49 + 1 := by rw [(nw_ne (h := h33) (k := 26) (b := a) (by rw [len_h33]; exact oa3 (by decide))).2.2]; exact N8_h33
  have K_h34 : xK (nw h33 26) = xK h ++ [5, 20, 20, 21, 21, 22, 22, 23, 22, 5, 20, 20, 21, 21, 22, 22, 23, 22, 5, 20, 20, 21, 21, 22, 22, 23, 22, 4, 24, 25, 22, 0, 22, 1, 21, 21, 27, 32, 21, 21, 21, 21, 21, 21, 21, 28, 3, 29, 2, 22, 22, 33, 31, 31, 31, 31, 31, 31, 31, 31, 22, 26] := by show xK h33 ++ _ = _; rw [K_h33, List.append_assoc]; rfl
  have Z62_h34 : xI (nw h33 26) (a + 62) = fun _ => 0 := by have q9 := nw_I (h := h33) (k := 26); rw [len_h33] at q9; exact q9
  generalize nw h33 26 = h34 at LO_h34 S1_h34 N0_h34 S10_h34 N1_h34 S19_h34 N2_h34 I3_h34 S28_h34 N4_h34 N5_h34 S34_h34 N6_h34 S47_h34 N7_h34 S49_h34 NO_h34 N8_h34 K_h34 Z62_h34 ⊢
  have len_h34 : (xK h34).length = a + 63 := by rw [K_h34, List.length_append, hlen]; rfl
  refine r_putNF (k := 14) (j := 9) (t := 0) C hI rfl rfl rfl (by decide) f_X6_61 rfl rfl (fun _ => rfl) (fun _ => rfl) (dx dX6_init 48 rfl) ?_
  have LO_h35 : Lo a h (sN h34 a 9 (a + 62 + 1)) := LO_h34.tr (Lo.sN (Nat.le_refl _))
  have S1_h35 : VilAt (sN h34 a 9 (a + 62 + 1)) (a + 1) v00 := S1_h34
  have N0_h35 : xN (sN h34 a 9 (a + 62 + 1)) a 0 = a + 1 + 1 := (sN_ne (by decide)).trans N0_h34
  have S10_h35 : VilAt (sN h34 a 9 (a + 62 + 1)) (a + 10) v00 := S10_h34
  have N1_h35 : xN (sN h34 a 9 (a + 62 + 1)) a 1 = a + 10 + 1 := (sN_ne (by decide)).trans N1_h34
  have S19_h35 : VilAt (sN h34 a 9 (a + 62 + 1)) (a + 19) v00 := S19_h34
  have N2_h35 : xN (sN h34 a 9 (a + 62 + 1)) a 2 = a + 19 + 1 := (sN_ne (by decide)).trans N2_h34
  have I3_h35 : xI (sN h34 a 9 (a + 62 + 1)) a 3 = nI 0 := I3_h34
  have S28_h35 : ∀ i, i < 8 → xI (sN h34 a 9 (a + 62 + 1)) (a + 31) i = nI (fct i) := S28_h34
  have N4_h35 : xN (sN h34 a 9 (a + 62 + 1)) a 4 = a + 28 + 1 := (sN_ne (by decide)).trans N4_h34
  have N5_h35 : xN (sN h34 a 9 (a + 62 + 1)) a 5 = a + 32 + 1 := (sN_ne (by decide)).trans N5_h34
  have S34_h35 : SInv (sN h34 a 9 (a + 62 + 1)) (a + 34) := S34_h34
  have N6_h35 : xN (sN h34 a 9 (a + 62 + 1)) a 6 = a + 34 + 1 := (sN_ne (by decide)).trans N6_h34
  have S47_h35 : TapAt (sN h34 a 9 (a + 62 + 1)) (a + 47) (fun _ => 0) 0 := S47_h34
  have N7_h35 : xN (sN h34 a 9 (a + 62 + 1)) a 7 = a + 47 + 1 := (sN_ne (by decide)).trans N7_h34
  have S49_h35 : ShAt (sN h34 a 9 (a + 62 + 1)) (a + 49) g00 := S49_h34
  have NO_h35 : NOk (sN h34 a 9 (a + 62 + 1)) := NO_h34.sN (by rw [len_h34]; exact oa6 (by decide))
  have N8_h35 : xN (sN h34 a 9 (a + 62 + 1)) a 8 = a + 49 + 1 := (sN_ne (by decide)).trans N8_h34
  have K_h35 : xK (sN h34 a 9 (a + 62 + 1)) = xK h ++ [5, 20, 20, 21, 21, 22, 22, 23, 22, 5, 20, 20, 21, 21, 22, 22, 23, 22, 5, 20, 20, 21, 21, 22, 22, 23, 22, 4, 24, 25, 22, 0, 22, 1, 21, 21, 27, 32, 21, 21, 21, 21, 21, 21, 21, 28, 3, 29, 2, 22, 22, 33, 31, 31, 31, 31, 31, 31, 31, 31, 22, 26] := K_h34
  have Z62_h35 : xI (sN h34 a 9 (a + 62 + 1)) (a + 62) = fun _ => 0 := Z62_h34
  have N9_h35 : xN (sN h34 a 9 (a + 62 + 1)) a 9 = a + 62 + 1 := sN_at
  generalize sN h34 a 9 (a + 62 + 1) = h35 at LO_h35 S1_h35 N0_h35 S10_h35 N1_h35 S19_h35 N2_h35 I3_h35 S28_h35 N4_h35 N5_h35 S34_h35 N6_h35 S47_h35 N7_h35 S49_h35 NO_h35 N8_h35 K_h35 Z62_h35 N9_h35 ⊢
  have len_h35 : (xK h35).length = a + 63 := by rw [K_h35, List.length_append, hlen]; rfl
  refine r_aload_n C (dx dX6_init 49 rfl) rfl ?_
  refine r_iconst (v := nI 0) C (dx dX6_init 50 rfl) rfl ?_
  refine r_putI (k := 14) (j := 10) (T := TX6) C rfl rfl rfl (by decide) f_X6_65 rfl rfl rfl (dx dX6_init 51 rfl) ?_
  have LO_h36 : Lo a h (sI h35 a 10 (nI 0)) := LO_h35.tr (Lo.sI (Nat.le_refl _))
  have S1_h36 : VilAt (sI h35 a 10 (nI 0)) (a + 1) v00 := S1_h35.ag Fs.a (una (oaV (a := a) (B := 1) (s := 0) (by decide)))
  have N0_h36 : xN (sI h35 a 10 (nI 0)) a 0 = a + 1 + 1 := N0_h35
  have S10_h36 : VilAt (sI h35 a 10 (nI 0)) (a + 10) v00 := S10_h35.ag Fs.a (una (oaV (a := a) (B := 10) (s := 0) (by decide)))
  have N1_h36 : xN (sI h35 a 10 (nI 0)) a 1 = a + 10 + 1 := N1_h35
  have S19_h36 : VilAt (sI h35 a 10 (nI 0)) (a + 19) v00 := S19_h35.ag Fs.a (una (oaV (a := a) (B := 19) (s := 0) (by decide)))
  have N2_h36 : xN (sI h35 a 10 (nI 0)) a 2 = a + 19 + 1 := N2_h35
  have I3_h36 : xI (sI h35 a 10 (nI 0)) a 3 = nI 0 := by rw [sI_at, if_neg (by decide)]; exact I3_h35
  have S28_h36 : ∀ i, i < 8 → xI (sI h35 a 10 (nI 0)) (a + 31) i = nI (fct i) := fun i hi => by rw [sI_ne (oa7 (by decide))]; exact S28_h35 i hi
  have N4_h36 : xN (sI h35 a 10 (nI 0)) a 4 = a + 28 + 1 := N4_h35
  have N5_h36 : xN (sI h35 a 10 (nI 0)) a 5 = a + 32 + 1 := N5_h35
  have S34_h36 : SInv (sI h35 a 10 (nI 0)) (a + 34) := S34_h35.ag Fs.a (una (oaV (a := a) (B := 34) (s := 5) (by decide)))
  have N6_h36 : xN (sI h35 a 10 (nI 0)) a 6 = a + 34 + 1 := N6_h35
  have S47_h36 : TapAt (sI h35 a 10 (nI 0)) (a + 47) (fun _ => 0) 0 := S47_h35.ag Fs.a (una (oaV (a := a) (B := 47) (s := 0) (by decide)))
  have N7_h36 : xN (sI h35 a 10 (nI 0)) a 7 = a + 47 + 1 := N7_h35
  have S49_h36 : ShAt (sI h35 a 10 (nI 0)) (a + 49) g00 := S49_h35.ag Fs.a (una (oaV (a := a) (B := 49) (s := 1) (by decide)))
  have NO_h36 : NOk (sI h35 a 10 (nI 0)) := NO_h35
  have N8_h36 : xN (sI h35 a 10 (nI 0)) a 8 = a + 49 + 1 := N8_h35
  have K_h36 : xK (sI h35 a 10 (nI 0)) = xK h ++ [5, 20, 20, 21, 21, 22, 22, 23, 22, 5, 20, 20, 21, 21, 22, 22, 23, 22, 5, 20, 20, 21, 21, 22, 22, 23, 22, 4, 24, 25, 22, 0, 22, 1, 21, 21, 27, 32, 21, 21, 21, 21, 21, 21, 21, 28, 3, 29, 2, 22, 22, 33, 31, 31, 31, 31, 31, 31, 31, 31, 22, 26] := K_h35
  have Z62_h36 : xI (sI h35 a 10 (nI 0)) (a + 62) = fun _ => 0 := by funext i; rw [sI_ne (oa7 (by decide))]; exact congrFun Z62_h35 i
  have N9_h36 : xN (sI h35 a 10 (nI 0)) a 9 = a + 62 + 1 := N9_h35
  have I10_h36 : xI (sI h35 a 10 (nI 0)) a 10 = nI 0 := by rw [sI_at, if_pos rfl]
  generalize sI h35 a 10 (nI 0) = h36 at LO_h36 S1_h36 N0_h36 S10_h36 N1_h36 S19_h36 N2_h36 I3_h36 S28_h36 N4_h36 N5_h36 S34_h36 N6_h36 S47_h36 N7_h36 S49_h36 NO_h36 N8_h36 K_h36 Z62_h36 N9_h36 I10_h36 ⊢
  have len_h36 : (xK h36).length = a + 63 := by rw [K_h36, List.length_append, hlen]; rfl
  refine r_aload_n C (dx dX6_init 52 rfl) rfl ?_
  refine r_iconst (v := nI 0) C (dx dX6_init 53 rfl) rfl ?_
  refine r_putI (k := 14) (j := 11) (T := TX6) C rfl rfl rfl (by decide) f_X6_69 rfl rfl rfl (dx dX6_init 54 rfl) ?_
  have LO_h37 : Lo a h (sI h36 a 11 (nI 0)) := LO_h36.tr (Lo.sI (Nat.le_refl _))
  have S1_h37 : VilAt (sI h36 a 11 (nI 0)) (a + 1) v00 := S1_h36.ag Fs.a (una (oaV (a := a) (B := 1) (s := 0) (by decide)))
  have N0_h37 : xN (sI h36 a 11 (nI 0)) a 0 = a + 1 + 1 := N0_h36
  have S10_h37 : VilAt (sI h36 a 11 (nI 0)) (a + 10) v00 := S10_h36.ag Fs.a (una (oaV (a := a) (B := 10) (s := 0) (by decide)))
  have N1_h37 : xN (sI h36 a 11 (nI 0)) a 1 = a + 10 + 1 := N1_h36
  have S19_h37 : VilAt (sI h36 a 11 (nI 0)) (a + 19) v00 := S19_h36.ag Fs.a (una (oaV (a := a) (B := 19) (s := 0) (by decide)))
  have N2_h37 : xN (sI h36 a 11 (nI 0)) a 2 = a + 19 + 1 := N2_h36
  have I3_h37 : xI (sI h36 a 11 (nI 0)) a 3 = nI 0 := by rw [sI_at, if_neg (by decide)]; exact I3_h36
  have S28_h37 : ∀ i, i < 8 → xI (sI h36 a 11 (nI 0)) (a + 31) i = nI (fct i) := fun i hi => by rw [sI_ne (oa7 (by decide))]; exact S28_h36 i hi
  have N4_h37 : xN (sI h36 a 11 (nI 0)) a 4 = a + 28 + 1 := N4_h36
  have N5_h37 : xN (sI h36 a 11 (nI 0)) a 5 = a + 32 + 1 := N5_h36
  have S34_h37 : SInv (sI h36 a 11 (nI 0)) (a + 34) := S34_h36.ag Fs.a (una (oaV (a := a) (B := 34) (s := 5) (by decide)))
  have N6_h37 : xN (sI h36 a 11 (nI 0)) a 6 = a + 34 + 1 := N6_h36
  have S47_h37 : TapAt (sI h36 a 11 (nI 0)) (a + 47) (fun _ => 0) 0 := S47_h36.ag Fs.a (una (oaV (a := a) (B := 47) (s := 0) (by decide)))
  have N7_h37 : xN (sI h36 a 11 (nI 0)) a 7 = a + 47 + 1 := N7_h36
  have S49_h37 : ShAt (sI h36 a 11 (nI 0)) (a + 49) g00 := S49_h36.ag Fs.a (una (oaV (a := a) (B := 49) (s := 1) (by decide)))
  have NO_h37 : NOk (sI h36 a 11 (nI 0)) := NO_h36
  have N8_h37 : xN (sI h36 a 11 (nI 0)) a 8 = a + 49 + 1 := N8_h36
  have K_h37 : xK (sI h36 a 11 (nI 0)) = xK h ++ [5, 20, 20, 21, 21, 22, 22, 23, 22, 5, 20, 20, 21, 21, 22, 22, 23, 22, 5, 20, 20, 21, 21, 22, 22, 23, 22, 4, 24, 25, 22, 0, 22, 1, 21, 21, 27, 32, 21, 21, 21, 21, 21, 21, 21, 28, 3, 29, 2, 22, 22, 33, 31, 31, 31, 31, 31, 31, 31, 31, 22, 26] := K_h36
  have Z62_h37 : xI (sI h36 a 11 (nI 0)) (a + 62) = fun _ => 0 := by funext i; rw [sI_ne (oa7 (by decide))]; exact congrFun Z62_h36 i
  have N9_h37 : xN (sI h36 a 11 (nI 0)) a 9 = a + 62 + 1 := N9_h36
  have I10_h37 : xI (sI h36 a 11 (nI 0)) a 10 = nI 0 := by rw [sI_at, if_neg (by decide)]; exact I10_h36
  have I11_h37 : xI (sI h36 a 11 (nI 0)) a 11 = nI 0 := by rw [sI_at, if_pos rfl]
  generalize sI h36 a 11 (nI 0) = h37 at LO_h37 S1_h37 N0_h37 S10_h37 N1_h37 S19_h37 N2_h37 I3_h37 S28_h37 N4_h37 N5_h37 S34_h37 N6_h37 S47_h37 N7_h37 S49_h37 NO_h37 N8_h37 K_h37 Z62_h37 N9_h37 I10_h37 I11_h37 ⊢
  have len_h37 : (xK h37).length = a + 63 := by rw [K_h37, List.length_append, hlen]; rfl
  exact F.2.2.1 _ _ _ rfl (dx dX6_init 55 rfl) K_h37 ⟨rfl, NO_h37, LO_h37, N0_h37, N1_h37, N2_h37, N4_h37, N5_h37, N6_h37, N7_h37, N8_h37, N9_h37, S1_h37, S10_h37, S19_h37, S28_h37, S34_h37, S47_h37, S49_h37, I3_h37, I10_h37, I11_h37, (fun i => congrFun Z62_h37 i)⟩

