/-! PART 41: the law: its loop, its beginning -/
def tL_h : List (Nat × Instr × Nat) := [(0, .new 7, 3), (3, .dup, 1), (4, .invokespecial 9, 3), (7, .astore_n 1, 1), (8, .new 10, 3), (11, .dup, 1), (12, .invokespecial 12, 3), (15, .astore_n 2, 1), (16, .iconst 0, 1), (17, .istore_n 3, 1), (18, .iload_n 3, 1), (19, .aload_n 0, 1), (20, .arraylength, 1), (21, .bipush 6, 2), (23, .isub, 1), (24, .if_icmp .gt 1744, 3), (27, .aload_n 0, 1), (28, .iload_n 3, 1), (29, .iaload, 1), (30, .bipush 63, 2), (32, .iand, 1), (33, .tableswitch 1729 0 53 #[231, 274, 347, 410, 444, 467, 510, 543, 556, 589, 622, 655, 704, 763, 796, 809, 822, 855, 888, 921, 944, 977, 1020, 1044, 1078, 1092, 1125, 1138, 1161, 1185, 1198, 1221, 1235, 1258, 1271, 1284, 1297, 1310, 1344, 1383, 1406, 1429, 1452, 1465, 1478, 1491, 1524, 1558, 1601, 1634, 1657, 1680, 1693, 1706], 231)]
theorem dL_h : dec_ok code tL_h = true := by decide +kernel
def tL_e : List (Nat × Instr × Nat) := [(1762, .iinc 3 6, 3), (1765, .goto (-1747), 3), (1768, .iconst 1, 1), (1769, .ireturn, 1)]
theorem dL_e : dec_ok code tL_e = true := by decide +kernel
set_option maxHeartbeats 4000000 in
theorem law_step {l : Launch} {G : Gt} {b L i : Nat} {xs : Nat → Int32} {h : Hp} (C : Cx G code 4 RL) (X : Rmx l G 2048 (AL P63 true true)) (S : SLw G b L xs) (hL : L ≤ 6) (inv : Lv h) (fr : i = 0 → St h) (hi0 : i ≤ 5000) (E : ∀ (pc : Nat) (ls : List (Nat × V)) (h' : Hp), decode code pc = .ok (.ireturn, 1) → xK h' <+: AL P63 true true → Rr G pc ls [vi 1] h') (kk : i + 6 ≤ L → ∀ h', Lv h' → Rr G 18 [(0, vt 9000), (1, vr 6 0), (2, vr 7 63), (3, vi (nI (i + 6)))] [] h') : Rr G 18 [(0, vt 9000), (1, vr 6 0), (2, vr 7 63), (3, vi (nI i))] [] h := by
  refine r_iload_n C (dx dL_h 10 rfl) rfl ?_
  refine r_aload_nT C (dx dL_h 11 rfl) rfl ?_
  refine r_slen C S (dx dL_h 12 rfl) ?_
  refine r_bipush (v := nI 6) C (dx dL_h 13 rfl) rfl ?_
  refine r_isub C (dx dL_h 14 rfl) ?_
  refine r_icmp_gt (tgt := 1768) C (dx dL_h 15 rfl) (by decide) (fun c1 => ?_) (fun c1 => ?_)
  · obtain ⟨v, u, w, g, B, Bt, z, κ, τ, o, hg, M, y, byt, ok, okw⟩ := inv
    refine r_iconst (v := 1) C (dx dL_e 2 rfl) rfl ?_
    exact E _ _ _ (dx dL_e 3 rfl) (by rw [M.al]; exact ALall)
  · have hi := sc6 (by omega) (by omega) c1
    have k9 : ∀ h', Lv h' → Rr G 1762 [(0, vt 9000), (1, vr 6 0), (2, vr 7 63), (3, vi (nI i))] [] h' := fun h' v' => by
      refine rn_iinc (a := i) (k := 6) (ls' := [(0, vt 9000), (1, vr 6 0), (2, vr 7 63), (3, vi (nI (i + 6)))]) C (dx dL_e 0 rfl) rfl rfl (by decide) [1, 2, 3, 0] rfl ?_
      refine r_goto (tgt := 18) C (dx dL_e 1 rfl) (by decide) ?_
      exact kk hi h' v'
    refine r_aload_nT C (dx dL_h 16 rfl) rfl ?_
    refine r_iload_n C (dx dL_h 17 rfl) rfl ?_
    refine r_sld C S (by omega) (by omega) (dx dL_h 18 rfl) ?_
    refine r_bipush (v := nI 63) C (dx dL_h 19 rfl) rfl ?_
    refine r_iand C (dx dL_h 20 rfl) ?_
    obtain ⟨j, hj, ej⟩ := and63 (xs i)
    rw [ej]
    match j, hj with
    | 0, _ => exact r_tabIn (off := 231) (tgt := 264) C (dx dL_h 21 rfl) (by decide) (by decide) (by decide) (by decide) (law_c0 C X S hL hi inv k9)
    | 1, _ => exact r_tabIn (off := 274) (tgt := 307) C (dx dL_h 21 rfl) (by decide) (by decide) (by decide) (by decide) (law_c1 C X S hL hi inv k9)
    | 2, _ => exact r_tabIn (off := 347) (tgt := 380) C (dx dL_h 21 rfl) (by decide) (by decide) (by decide) (by decide) (law_c2 C X S hL hi inv k9)
    | 3, _ => exact r_tabIn (off := 410) (tgt := 443) C (dx dL_h 21 rfl) (by decide) (by decide) (by decide) (by decide) (law_c3 C X S hL hi inv k9)
    | 4, _ => exact r_tabIn (off := 444) (tgt := 477) C (dx dL_h 21 rfl) (by decide) (by decide) (by decide) (by decide) (law_c4 C X S hL hi inv k9)
    | 5, _ => exact r_tabIn (off := 467) (tgt := 500) C (dx dL_h 21 rfl) (by decide) (by decide) (by decide) (by decide) (law_c5 C X S hL hi inv k9)
    | 6, _ => exact r_tabIn (off := 510) (tgt := 543) C (dx dL_h 21 rfl) (by decide) (by decide) (by decide) (by decide) (law_c6 C X S hL hi inv k9)
    | 7, _ => exact r_tabIn (off := 543) (tgt := 576) C (dx dL_h 21 rfl) (by decide) (by decide) (by decide) (by decide) (law_c7 C X S hL hi inv k9)
    | 8, _ => exact r_tabIn (off := 556) (tgt := 589) C (dx dL_h 21 rfl) (by decide) (by decide) (by decide) (by decide) (law_c8 C X S hL hi inv k9)
    | 9, _ => exact r_tabIn (off := 589) (tgt := 622) C (dx dL_h 21 rfl) (by decide) (by decide) (by decide) (by decide) (law_c9 C X S hL hi inv k9)
    | 10, _ => exact r_tabIn (off := 622) (tgt := 655) C (dx dL_h 21 rfl) (by decide) (by decide) (by decide) (by decide) (law_c10 C X S hL hi inv k9)
    | 11, _ => exact r_tabIn (off := 655) (tgt := 688) C (dx dL_h 21 rfl) (by decide) (by decide) (by decide) (by decide) (law_c11 C X S hL hi inv k9)
    | 12, _ => exact r_tabIn (off := 704) (tgt := 737) C (dx dL_h 21 rfl) (by decide) (by decide) (by decide) (by decide) (law_c12 C X S hL hi inv k9)
    | 13, _ => exact r_tabIn (off := 763) (tgt := 796) C (dx dL_h 21 rfl) (by decide) (by decide) (by decide) (by decide) (law_c13 C X S hL hi inv k9)
    | 14, _ => exact r_tabIn (off := 796) (tgt := 829) C (dx dL_h 21 rfl) (by decide) (by decide) (by decide) (by decide) (law_c14 C X S hL hi inv k9)
    | 15, _ => exact r_tabIn (off := 809) (tgt := 842) C (dx dL_h 21 rfl) (by decide) (by decide) (by decide) (by decide) (law_c15 C X S hL hi inv k9)
    | 16, _ => exact r_tabIn (off := 822) (tgt := 855) C (dx dL_h 21 rfl) (by decide) (by decide) (by decide) (by decide) (law_c16 C X S hL hi inv k9)
    | 17, _ => exact r_tabIn (off := 855) (tgt := 888) C (dx dL_h 21 rfl) (by decide) (by decide) (by decide) (by decide) (law_c17 C X S hL hi inv k9)
    | 18, _ => exact r_tabIn (off := 888) (tgt := 921) C (dx dL_h 21 rfl) (by decide) (by decide) (by decide) (by decide) (law_c18 C X S hL hi inv k9)
    | 19, _ => exact r_tabIn (off := 921) (tgt := 954) C (dx dL_h 21 rfl) (by decide) (by decide) (by decide) (by decide) (law_c19 C X S hL hi inv k9)
    | 20, _ => exact r_tabIn (off := 944) (tgt := 977) C (dx dL_h 21 rfl) (by decide) (by decide) (by decide) (by decide) (law_c20 C X S hL hi inv k9)
    | 21, _ => exact r_tabIn (off := 977) (tgt := 1010) C (dx dL_h 21 rfl) (by decide) (by decide) (by decide) (by decide) (law_c21 C X S hL hi inv k9)
    | 22, _ => exact r_tabIn (off := 1020) (tgt := 1053) C (dx dL_h 21 rfl) (by decide) (by decide) (by decide) (by decide) (law_c22 C X S hL hi inv k9)
    | 23, _ => exact r_tabIn (off := 1044) (tgt := 1077) C (dx dL_h 21 rfl) (by decide) (by decide) (by decide) (by decide) (law_c23 C X S hL hi inv k9)
    | 24, _ => exact r_tabIn (off := 1078) (tgt := 1111) C (dx dL_h 21 rfl) (by decide) (by decide) (by decide) (by decide) (law_c24 C X S hL hi inv k9)
    | 25, _ => exact r_tabIn (off := 1092) (tgt := 1125) C (dx dL_h 21 rfl) (by decide) (by decide) (by decide) (by decide) (law_c25 C X S hL hi inv k9)
    | 26, _ => exact r_tabIn (off := 1125) (tgt := 1158) C (dx dL_h 21 rfl) (by decide) (by decide) (by decide) (by decide) (law_c26 C X S hL hi inv k9)
    | 27, _ => exact r_tabIn (off := 1138) (tgt := 1171) C (dx dL_h 21 rfl) (by decide) (by decide) (by decide) (by decide) (law_c27 C X S hL hi inv k9)
    | 28, _ => exact r_tabIn (off := 1161) (tgt := 1194) C (dx dL_h 21 rfl) (by decide) (by decide) (by decide) (by decide) (law_c28 C X S hL hi inv k9)
    | 29, _ => exact r_tabIn (off := 1185) (tgt := 1218) C (dx dL_h 21 rfl) (by decide) (by decide) (by decide) (by decide) (law_c29 C X S hL hi inv k9)
    | 30, _ => exact r_tabIn (off := 1198) (tgt := 1231) C (dx dL_h 21 rfl) (by decide) (by decide) (by decide) (by decide) (law_c30 C X S hL hi inv k9)
    | 31, _ => exact r_tabIn (off := 1221) (tgt := 1254) C (dx dL_h 21 rfl) (by decide) (by decide) (by decide) (by decide) (law_c31 C X S hL hi inv k9)
    | 32, _ => exact r_tabIn (off := 1235) (tgt := 1268) C (dx dL_h 21 rfl) (by decide) (by decide) (by decide) (by decide) (law_c32 C X S hL hi inv k9)
    | 33, _ => exact r_tabIn (off := 1258) (tgt := 1291) C (dx dL_h 21 rfl) (by decide) (by decide) (by decide) (by decide) (law_c33 C X S hL hi inv k9)
    | 34, _ => exact r_tabIn (off := 1271) (tgt := 1304) C (dx dL_h 21 rfl) (by decide) (by decide) (by decide) (by decide) (law_c34 C X S hL hi inv k9)
    | 35, _ => exact r_tabIn (off := 1284) (tgt := 1317) C (dx dL_h 21 rfl) (by decide) (by decide) (by decide) (by decide) (law_c35 C X S hL hi inv k9)
    | 36, _ => exact r_tabIn (off := 1297) (tgt := 1330) C (dx dL_h 21 rfl) (by decide) (by decide) (by decide) (by decide) (law_c36 C X S hL hi inv k9)
    | 37, _ => exact r_tabIn (off := 1310) (tgt := 1343) C (dx dL_h 21 rfl) (by decide) (by decide) (by decide) (by decide) (law_c37 C X S hL hi inv k9)
    | 38, _ => exact r_tabIn (off := 1344) (tgt := 1377) C (dx dL_h 21 rfl) (by decide) (by decide) (by decide) (by decide) (law_c38 C X S hL hi inv k9)
    | 39, _ => exact r_tabIn (off := 1383) (tgt := 1416) C (dx dL_h 21 rfl) (by decide) (by decide) (by decide) (by decide) (law_c39 C X S hL hi inv k9)
    | 40, _ => exact r_tabIn (off := 1406) (tgt := 1439) C (dx dL_h 21 rfl) (by decide) (by decide) (by decide) (by decide) (law_c40 C X S hL hi inv k9)
    | 41, _ => exact r_tabIn (off := 1429) (tgt := 1462) C (dx dL_h 21 rfl) (by decide) (by decide) (by decide) (by decide) (law_c41 C X S hL hi inv k9)
    | 42, _ => exact r_tabIn (off := 1452) (tgt := 1485) C (dx dL_h 21 rfl) (by decide) (by decide) (by decide) (by decide) (law_c42 C X S hL hi inv k9)
    | 43, _ => exact r_tabIn (off := 1465) (tgt := 1498) C (dx dL_h 21 rfl) (by decide) (by decide) (by decide) (by decide) (law_c43 C X S hL hi inv k9)
    | 44, _ => exact r_tabIn (off := 1478) (tgt := 1511) C (dx dL_h 21 rfl) (by decide) (by decide) (by decide) (by decide) (law_c44 C X S hL hi inv k9)
    | 45, _ => exact r_tabIn (off := 1491) (tgt := 1524) C (dx dL_h 21 rfl) (by decide) (by decide) (by decide) (by decide) (law_c45 C X S hL hi inv k9)
    | 46, _ => exact r_tabIn (off := 1524) (tgt := 1557) C (dx dL_h 21 rfl) (by decide) (by decide) (by decide) (by decide) (law_c46 C X S hL hi inv k9)
    | 47, _ => exact r_tabIn (off := 1558) (tgt := 1591) C (dx dL_h 21 rfl) (by decide) (by decide) (by decide) (by decide) (law_c47 C X S hL hi inv k9)
    | 48, _ => exact r_tabIn (off := 1601) (tgt := 1634) C (dx dL_h 21 rfl) (by decide) (by decide) (by decide) (by decide) (law_c48 C X S hL hi inv k9)
    | 49, _ => exact r_tabIn (off := 1634) (tgt := 1667) C (dx dL_h 21 rfl) (by decide) (by decide) (by decide) (by decide) (law_c49 C X S hL hi inv k9)
    | 50, _ => exact r_tabIn (off := 1657) (tgt := 1690) C (dx dL_h 21 rfl) (by decide) (by decide) (by decide) (by decide) (law_c50 C X S hL hi inv k9)
    | 51, _ => exact r_tabIn (off := 1680) (tgt := 1713) C (dx dL_h 21 rfl) (by decide) (by decide) (by decide) (by decide) (law_c51 C X S hL hi inv k9)
    | 52, _ => exact r_tabIn (off := 1693) (tgt := 1726) C (dx dL_h 21 rfl) (by decide) (by decide) (by decide) (by decide) (law_c52 C X S hL hi inv k9)
    | 53, _ => exact r_tabIn (off := 1706) (tgt := 1739) C (dx dL_h 21 rfl) (by decide) (by decide) (by decide) (by decide) (law_c53 C X S hL hi (fr (by omega)) k9)
    | j + 54, hj => exact r_tabOut (tgt := 1762) C (dx dL_h 21 rfl) (Or.inr (by rw [nI_toInt (by omega)]; omega)) (by decide) (k9 _ inv)
set_option maxHeartbeats 4000000 in
theorem law_loop {l : Launch} {G : Gt} {b L : Nat} {xs : Nat → Int32} (C : Cx G code 4 RL) (X : Rmx l G 2048 (AL P63 true true)) (S : SLw G b L xs) (hL : L ≤ 6) (E : ∀ (pc : Nat) (ls : List (Nat × V)) (h' : Hp), decode code pc = .ok (.ireturn, 1) → xK h' <+: AL P63 true true → Rr G pc ls [vi 1] h') : ∀ (n i : Nat) (h : Hp), L + 6 ≤ i + n → i ≤ L + 6 → Lv h → (i = 0 → St h) → Rr G 18 [(0, vt 9000), (1, vr 6 0), (2, vr 7 63), (3, vi (nI i))] [] h := by
  intro n
  induction n with
  | zero => exact fun i h h1 h2 inv fr => law_step C X S hL inv fr (by omega) E (fun q => absurd q (by omega))
  | succ n ih => exact fun i h h1 h2 inv fr => law_step C X S hL inv fr (by omega) E (fun q h' v' => ih (i + 6) h' (by omega) (by omega) v' (fun q => absurd q (by omega)))
def h00 : Hp := (fun _ _ => 0, fun _ _ => 0, fun _ _ => 0, [])
set_option maxHeartbeats 4000000 in
theorem law_new {l : Launch} {G : Gt} (C : Cx G code 4 RL) (E0 : Al0 G []) (X : Rmx l G 2048 (AL P63 true true)) (kk : ∀ h', Lv h' → St h' → Rr G 18 [(0, vt 9000), (1, vr 6 0), (2, vr 7 63), (3, vi (nI 0))] [] h') : Rr G 0 [(0, vt 9000)] [] h00 := by
  have X0 : Rmx l G 2048 (xK h00 ++ AL P63 true true) := X
  have nok : NOk h00 := fun a k L j t o k' ha => by have q : ([] : List Nat)[a]? = some k := ha; simp at q
  refine r_new (kk := 14) (C0 := RX6) (T := TX6) (N := 12) C (X0.go (M := []) (E := [14]) rfl (by decide +kernel) (by decide +kernel)) rfl rfl rfl (by decide) hfs6 List.prefix_rfl nok (by decide) cl_RL_7 q_in6 q_ii6 (dx dL_h 0 rfl) ?_
  show Rr G 3 [(0, vt 9000)] [vr 14 0] (nw h00 14)
  have K1 : xK (nw h00 14) = xK h00 ++ [14] := rfl
  have no1 := nok.nw (k := 14)
  generalize nw h00 14 = h1 at K1 no1 ⊢
  have len1 : (xK h1).length = 0 + 1 := by rw [K1]; rfl
  refine r_dupR C (dx dL_h 1 rfl) ?_
  refine r_callI (st := [vr 14 0]) C (X0.go (M := [14]) (E := [5, 20, 20, 21, 21, 22, 22, 23, 22, 5, 20, 20, 21, 21, 22, 22, 23, 22, 5, 20, 20, 21, 21, 22, 22, 23, 22, 4, 24, 25, 22, 0, 22, 1, 21, 21, 27, 32, 21, 21, 21, 21, 21, 21, 21, 28, 3, 29, 2, 22, 22, 33, 31, 31, 31, 31, 31, 31, 31, 31, 22, 26]) K1 (by decide +kernel) (by decide +kernel)) (c_X6_init (a := 0) len1 (by decide) no1) (by decide) (Nat.le_of_ble_eq_true rfl) (List.prefix_append _ _) List.prefix_rfl rfl rfl (Nat.le_of_ble_eq_true rfl) l_L_9 q_im6 q_ii6 q_co6 rfl nh_RX6 q_pd6 (dx dL_h 2 rfl) ?_
  rintro _ h2 ⟨rfl, no2, lo2, p0, p1, p2, p4, p5, p6, p7, p8, p9, w1, w2, w3, w4, w5, w6, w7, w8, d10, d11, dr⟩ kk2
  have K2 : xK h2 = 14 :: [5, 20, 20, 21, 21, 22, 22, 23, 22, 5, 20, 20, 21, 21, 22, 22, 23, 22, 5, 20, 20, 21, 21, 22, 22, 23, 22, 4, 24, 25, 22, 0, 22, 1, 21, 21, 27, 32, 21, 21, 21, 21, 21, 21, 21, 28, 3, 29, 2, 22, 22, 33, 31, 31, 31, 31, 31, 31, 31, 31, 22, 26] := by rw [kk2, K1]; rfl
  have ha2 : (xK h2)[0]? = some (6 + 8) := by rw [K2]; rfl
  have hp2 : ∀ (j o k9 : Nat), ([(2, 1, 5), (2, 10, 5), (2, 19, 5), (0, 0, 0), (2, 28, 4), (2, 32, 0), (2, 34, 1), (2, 47, 3), (2, 49, 2), (2, 62, 26), (0, 0, 0), (0, 0, 0)] : List Fd3)[j]? = some (2, o, k9) → xN h2 0 j = 0 + o + 1 ∧ (xK h2)[0 + o]? = some k9 := fun j o k9 hj => by
    match j, hj with
    | 0, hj => cases hj; exact ⟨p0, by rw [K2]; rfl⟩
    | 1, hj => cases hj; exact ⟨p1, by rw [K2]; rfl⟩
    | 2, hj => cases hj; exact ⟨p2, by rw [K2]; rfl⟩
    | 3, hj => cases hj
    | 4, hj => cases hj; exact ⟨p4, by rw [K2]; rfl⟩
    | 5, hj => cases hj; exact ⟨p5, by rw [K2]; rfl⟩
    | 6, hj => cases hj; exact ⟨p6, by rw [K2]; rfl⟩
    | 7, hj => cases hj; exact ⟨p7, by rw [K2]; rfl⟩
    | 8, hj => cases hj; exact ⟨p8, by rw [K2]; rfl⟩
    | 9, hj => cases hj; exact ⟨p9, by rw [K2]; rfl⟩
    | 10, hj => cases hj
    | 11, hj => cases hj
    | n + 12, hj => simp at hj
  refine r_retag (a := 0) (k := 6) (al := []) C E0 (Nat.zero_le _) (by decide) ha2 rfl hp2 ⟨trivial, trivial⟩ trivial ?_
  have K3 : xK (rt h2 0 6) = xK h00 ++ P63 := by show (xK h2).set _ _ = _; rw [K2]; rfl
  have no3 : NOk (rt h2 0 6) := no2.mk8 (by decide) ha2
  have o3 : Ow (rt h2 0 6) v00 v00 v00 g00 (fun _ => 0) 0 (b2i false) := ⟨w1, w2, w3, w4, w5, w6, w7, w8⟩
  have d10a : xI (rt h2 0 6) 0 10 = 0 := d10
  have d11a : xI (rt h2 0 6) 0 11 = 0 := d11
  have dra : ∀ i, xI (rt h2 0 6) 62 i = 0 := dr
  generalize rt h2 0 6 = h3 at K3 no3 o3 d10a d11a dra ⊢
  have len3 : (xK h3).length = 63 := by rw [K3]; rfl
  refine r_astore_n (ls' := [(0, vt 9000), (1, vr 6 0)]) C (dx dL_h 3 rfl) (by decide) [1, 0] rfl ?_
  refine r_new (kk := 15) (C0 := RX7) (T := TX7) (N := 32) C (X0.go (M := P63) (E := [15]) K3 (by decide +kernel) (by decide +kernel)) rfl rfl rfl (by decide) hfs7 List.prefix_rfl no3 (by rw [len3]; decide) cl_RL_10 q_in7 q_ii7 (dx dL_h 4 rfl) ?_
  rw [len3]
  have K4 : xK (nw h3 15) = xK h00 ++ (P63 ++ [15]) := by show xK h3 ++ [15] = _; rw [K3, List.append_assoc]
  have no4 := no3.nw (k := 15)
  have Y1 : xI (nw h3 15) 63 = fun _ => 0 := by have q9 := nw_I (h := h3) (k := 15); rw [len3] at q9; exact q9
  have Y2 : xL (nw h3 15) 63 = fun _ => 0 := by have q9 := nw_L (h := h3) (k := 15); rw [len3] at q9; exact q9
  have Y3 : xN (nw h3 15) 63 = fun _ => 0 := by have q9 := nw_N (h := h3) (k := 15); rw [len3] at q9; exact q9
  have o4 := o3.lo (Lo.nw (h := h3) (k := 15) (Nat.le_of_eq len3.symm))
  have lo4 : Lo 63 h3 (nw h3 15) := Lo.nw (h := h3) (k := 15) (Nat.le_of_eq len3.symm)
  generalize nw h3 15 = h4 at K4 no4 Y1 Y2 Y3 o4 lo4 ⊢
  have len4 : (xK h4).length = 63 + 1 := by rw [K4]; rfl
  refine r_dupR C (dx dL_h 5 rfl) ?_
  refine r_callI (st := [vr 15 63]) C (X0.go (M := P63 ++ [15]) (E := [22, 22, 22, 33, 31, 31, 31, 31, 31, 31, 31, 31, 31, 22, 22, 30, 22, 20, 20, 21, 21, 34, 27, 27, 27, 27, 27, 27, 27, 27, 20]) K4 (by decide +kernel) (by decide +kernel)) (c_X7_init (a := 63) len4 (by decide) no4 Y1 Y2 Y3) (by decide) (Nat.le_of_ble_eq_true rfl) (List.prefix_append _ _) List.prefix_rfl rfl rfl (Nat.le_of_ble_eq_true rfl) l_L_12 q_im7 q_ii7 q_co7 rfl nh_RX7 q_pd7 (dx dL_h 6 rfl) ?_
  rintro _ h5 ⟨rfl, no5, lo5, p0, p1, p2, p3, p4, p5, p6, p7, p9, p11, p12, p14, p15, p17, p30, m5, ms5, z5, n21, n22, e18, e19, e80, e64⟩ kk5
  have K5 : xK h5 = P63 ++ (15 :: [22, 22, 22, 33, 31, 31, 31, 31, 31, 31, 31, 31, 31, 22, 22, 30, 22, 20, 20, 21, 21, 34, 27, 27, 27, 27, 27, 27, 27, 27, 20]) := by rw [kk5, K4]; show (P63 ++ [15]) ++ _ = _; rw [List.append_assoc]; rfl
  have ha5 : (xK h5)[63]? = some (7 + 8) := by rw [K5]; rfl
  have hp5 : ∀ (j o k9 : Nat), ([(2, 1, 22), (2, 2, 22), (2, 3, 22), (2, 4, 33), (2, 13, 31), (2, 14, 22), (2, 15, 22), (2, 16, 30), (0, 0, 0), (2, 17, 22), (0, 0, 0), (2, 18, 20), (2, 19, 20), (0, 0, 0), (2, 20, 21), (2, 21, 21), (0, 0, 0), (2, 22, 34), (0, 0, 0), (0, 0, 0), (0, 0, 0), (3, 0, 7), (3, 0, 7), (0, 0, 0), (0, 0, 0), (0, 0, 0), (1, 0, 0), (0, 0, 0), (0, 0, 0), (0, 0, 0), (2, 31, 20), (1, 0, 0)] : List Fd3)[j]? = some (2, o, k9) → xN h5 63 j = 63 + o + 1 ∧ (xK h5)[63 + o]? = some k9 := fun j o k9 hj => by
    match j, hj with
    | 0, hj => cases hj; exact ⟨p0, by rw [K5]; rfl⟩
    | 1, hj => cases hj; exact ⟨p1, by rw [K5]; rfl⟩
    | 2, hj => cases hj; exact ⟨p2, by rw [K5]; rfl⟩
    | 3, hj => cases hj; exact ⟨p3, by rw [K5]; rfl⟩
    | 4, hj => cases hj; exact ⟨p4, by rw [K5]; rfl⟩
    | 5, hj => cases hj; exact ⟨p5, by rw [K5]; rfl⟩
    | 6, hj => cases hj; exact ⟨p6, by rw [K5]; rfl⟩
    | 7, hj => cases hj; exact ⟨p7, by rw [K5]; rfl⟩
    | 8, hj => cases hj
    | 9, hj => cases hj; exact ⟨p9, by rw [K5]; rfl⟩
    | 10, hj => cases hj
    | 11, hj => cases hj; exact ⟨p11, by rw [K5]; rfl⟩
    | 12, hj => cases hj; exact ⟨p12, by rw [K5]; rfl⟩
    | 13, hj => cases hj
    | 14, hj => cases hj; exact ⟨p14, by rw [K5]; rfl⟩
    | 15, hj => cases hj; exact ⟨p15, by rw [K5]; rfl⟩
    | 16, hj => cases hj
    | 17, hj => cases hj; exact ⟨p17, by rw [K5]; rfl⟩
    | 18, hj => cases hj
    | 19, hj => cases hj
    | 20, hj => cases hj
    | 21, hj => cases hj
    | 22, hj => cases hj
    | 23, hj => cases hj
    | 24, hj => cases hj
    | 25, hj => cases hj
    | 26, hj => cases hj
    | 27, hj => cases hj
    | 28, hj => cases hj
    | 29, hj => cases hj
    | 30, hj => cases hj; exact ⟨p30, by rw [K5]; rfl⟩
    | 31, hj => cases hj
    | n + 32, hj => simp at hj
  refine r_retag (a := 63) (k := 7) (al := []) C E0 (Nat.zero_le _) (by decide) ha5 rfl hp5 ⟨trivial, (show (0 : Nat) ≠ 63 by decide), trivial⟩ trivial ?_
  have K6 : xK (rt h5 63 7) = AL P63 false false := by show (xK h5).set _ _ = _; rw [K5]; rfl
  have no6 : NOk (rt h5 63 7) := no5.mk8 (by decide) ha5
  have o6 : Ow (rt h5 63 7) v00 v00 v00 g00 (fun _ => 0) 0 (b2i false) := o4.lo lo5
  have M6 : Md (rt h5 63 7) P63 63 v00 g00 0 false false := ⟨m5, ms5, z5, by decide, no6, rfl, by decide, K6, ⟨fun _ => rfl, fun _ => n21⟩, ⟨fun _ => rfl, fun _ => n22⟩, Or.inl n21, Or.inl n22, fun _ => n21⟩
  have d10b : xI (rt h5 63 7) 0 10 = 0 := by show xI h5 0 10 = 0; rw [(lo5 0 (by decide)).1, (lo4 0 (by decide)).1]; exact d10a
  have d11b : xI (rt h5 63 7) 0 11 = 0 := by show xI h5 0 11 = 0; rw [(lo5 0 (by decide)).1, (lo4 0 (by decide)).1]; exact d11a
  have drb : ∀ i, xI (rt h5 63 7) 62 i = 0 := fun i => by show xI h5 62 i = 0; rw [(lo5 62 (by decide)).1, (lo4 62 (by decide)).1]; exact dra i
  have e18b : xI (rt h5 63 7) 63 18 = 0 := e18
  have e19b : xI (rt h5 63 7) 63 19 = 0 := e19
  have e80b : ∀ i, xI (rt h5 63 7) (63 + 17) i = 0 := e80
  have e64b : ∀ i, xI (rt h5 63 7) (63 + 1) i = 0 := e64
  generalize rt h5 63 7 = h6 at o6 M6 d10b d11b drb e18b e19b e80b e64b ⊢
  refine r_astore_n (ls' := [(0, vt 9000), (1, vr 6 0), (2, vr 7 63)]) C (dx dL_h 7 rfl) (by decide) [1, 2, 0] rfl ?_
  refine r_iconst (v := nI 0) C (dx dL_h 8 rfl) rfl ?_
  refine r_istore_n (ls' := [(0, vt 9000), (1, vr 6 0), (2, vr 7 63), (3, vi (nI 0))]) C (dx dL_h 9 rfl) (by decide) [1, 2, 3, 0] rfl ?_
  have gk : GOk g00 := ⟨fun s hs => by show inR (0 : Int32) 41 = true; decide, fun s hs => Or.inl rfl⟩
  have y6 : XT h6 63 false v00 (xI h6 (63 + 16)) := ⟨fun _ _ => rfl, fun q => absurd q (by decide)⟩
  exact kk h6 ⟨_, _, _, _, _, _, _, _, _, o6, gk, M6, y6, (fun i hi => absurd hi (Nat.not_lt_zero i)), ok_00, (fun q => absurd q (by decide))⟩ ⟨⟨_, o6⟩, d10b, d11b, drb, M6, ⟨_, y6⟩, e18b, e19b, e80b, e64b⟩

