/-! PART 40: the law: its calls, one by one -/
abbrev cL_law : ByteArray := code
def tL_0 : List (Nat × Instr × Nat) := [(264, .aload_n 1, 1), (265, .aload_n 0, 1), (266, .iload_n 3, 1), (267, .iconst 1, 1), (268, .iadd, 1), (269, .iaload, 1), (270, .aload_n 0, 1), (271, .iload_n 3, 1), (272, .iconst 2, 1), (273, .iadd, 1), (274, .iaload, 1), (275, .aload_n 0, 1), (276, .iload_n 3, 1), (277, .iconst 3, 1), (278, .iadd, 1), (279, .iaload, 1), (280, .invokevirtual 13, 3), (283, .aload_n 2, 1), (284, .aload_n 0, 1), (285, .iload_n 3, 1), (286, .iconst 1, 1), (287, .iadd, 1), (288, .iaload, 1), (289, .aload_n 0, 1), (290, .iload_n 3, 1), (291, .iconst 2, 1), (292, .iadd, 1), (293, .iaload, 1), (294, .aload_n 0, 1), (295, .iload_n 3, 1), (296, .iconst 3, 1), (297, .iadd, 1), (298, .iaload, 1), (299, .invokevirtual 17, 3), (302, .if_icmp .eq 1460, 3), (305, .iconst 0, 1), (306, .ireturn, 1)]
theorem dL_0 : dec_ok code tL_0 = true := by decide +kernel
set_option maxHeartbeats 4000000 in
theorem law_c0 {l : Launch} {G : Gt} {b L i : Nat} {xs : Nat → Int32} {h : Hp} (C : Cx G code 4 RL) (X : Rmx l G 2048 (AL P63 true true)) (S : SLw G b L xs) (hL : L ≤ 6) (hi : i + 6 ≤ L) (inv : Lv h) (kk : ∀ h', Lv h' → Rr G 1762 [(0, vt 9000), (1, vr 6 0), (2, vr 7 63), (3, vi (nI i))] [] h') : Rr G 264 [(0, vt 9000), (1, vr 6 0), (2, vr 7 63), (3, vi (nI i))] [] h := by
  obtain ⟨v, u, w, g, B, Bt, z, κ, τ, o, hg, M, y, byt, ok, okw⟩ := inv
  refine r_aload_n C (dx dL_0 0 rfl) rfl ?_
  refine r_aload_nT C (dx dL_0 1 rfl) rfl ?_
  refine r_iload_n C (dx dL_0 2 rfl) rfl ?_
  refine r_iconst (v := nI 1) C (dx dL_0 3 rfl) rfl ?_
  refine rn_iadd (a := i) (b := 1) C (dx dL_0 4 rfl) ?_
  refine r_sld C S (by omega) (by omega) (dx dL_0 5 rfl) ?_
  refine r_aload_nT C (dx dL_0 6 rfl) rfl ?_
  refine r_iload_n C (dx dL_0 7 rfl) rfl ?_
  refine r_iconst (v := nI 2) C (dx dL_0 8 rfl) rfl ?_
  refine rn_iadd (a := i) (b := 2) C (dx dL_0 9 rfl) ?_
  refine r_sld C S (by omega) (by omega) (dx dL_0 10 rfl) ?_
  refine r_aload_nT C (dx dL_0 11 rfl) rfl ?_
  refine r_iload_n C (dx dL_0 12 rfl) rfl ?_
  refine r_iconst (v := nI 3) C (dx dL_0 13 rfl) rfl ?_
  refine rn_iadd (a := i) (b := 3) C (dx dL_0 14 rfl) ?_
  refine r_sld C S (by omega) (by omega) (dx dL_0 15 rfl) ?_
  refine r_cv (as := [vi (xs (i + 1)), vi (xs (i + 2)), vi (xs (i + 3))]) (st := []) C X I_X6_row l_L_13 (x_row o hg (xs (i + 1)) (xs (i + 2)) (xs (i + 3))) (by decide) (Nat.le_of_ble_eq_true rfl) List.prefix_rfl (by rw [M.al]; exact ALall) rfl rfl (Nat.le_of_ble_eq_true rfl) rfl (dx dL_0 16 rfl) ?_
  rintro _ h1 ⟨rfl, ⟨uh1, oh1⟩, fh1⟩ kh1
  have Mh1 := M.fr9 fh1 kh1
  have yh1 := y.fr9 M fh1
  refine r_aload_n C (dx dL_0 17 rfl) rfl ?_
  refine r_aload_nT C (dx dL_0 18 rfl) rfl ?_
  refine r_iload_n C (dx dL_0 19 rfl) rfl ?_
  refine r_iconst (v := nI 1) C (dx dL_0 20 rfl) rfl ?_
  refine rn_iadd (a := i) (b := 1) C (dx dL_0 21 rfl) ?_
  refine r_sld C S (by omega) (by omega) (dx dL_0 22 rfl) ?_
  refine r_aload_nT C (dx dL_0 23 rfl) rfl ?_
  refine r_iload_n C (dx dL_0 24 rfl) rfl ?_
  refine r_iconst (v := nI 2) C (dx dL_0 25 rfl) rfl ?_
  refine rn_iadd (a := i) (b := 2) C (dx dL_0 26 rfl) ?_
  refine r_sld C S (by omega) (by omega) (dx dL_0 27 rfl) ?_
  refine r_aload_nT C (dx dL_0 28 rfl) rfl ?_
  refine r_iload_n C (dx dL_0 29 rfl) rfl ?_
  refine r_iconst (v := nI 3) C (dx dL_0 30 rfl) rfl ?_
  refine rn_iadd (a := i) (b := 3) C (dx dL_0 31 rfl) ?_
  refine r_sld C S (by omega) (by omega) (dx dL_0 32 rfl) ?_
  obtain ⟨τh2, ph2, ch2⟩ := y7_row (l := l) Mh1 yh1 ok (xs (i + 1)) (xs (i + 2)) (xs (i + 3))
  refine r_cv (as := [vi (xs (i + 1)), vi (xs (i + 2)), vi (xs (i + 3))]) (st := [_]) C X I_X7_row l_L_17 ch2 (by decide) (Nat.le_of_ble_eq_true rfl) ph2 ALall rfl rfl (Nat.le_of_ble_eq_true rfl) rfl (dx dL_0 33 rfl) ?_
  rintro _ h2 ⟨rfl, Mh2, lh2, yh2⟩ kh2
  have oh2 := oh1.lo lh2
  refine r_icmp_eq (tgt := 1762) C (dx dL_0 34 rfl) (by decide) (fun _ => ?_) (fun c3 => absurd (by first | rfl | exact (vl_tie byt _).1) c3)
  exact kk h2 ⟨_, _, _, _, _, _, _, _, _, oh2, hg.row _ _ _, Mh2, yh2, byt, ok, okw⟩
def tL_1 : List (Nat × Instr × Nat) := [(307, .aload_n 1, 1), (308, .aload_n 0, 1), (309, .iload_n 3, 1), (310, .iconst 1, 1), (311, .iadd, 1), (312, .iaload, 1), (313, .aload_n 0, 1), (314, .iload_n 3, 1), (315, .iconst 2, 1), (316, .iadd, 1), (317, .iaload, 1), (318, .aload_n 0, 1), (319, .iload_n 3, 1), (320, .iconst 3, 1), (321, .iadd, 1), (322, .iaload, 1), (323, .i2l, 1), (324, .bipush 32, 2), (326, .lshl, 1), (327, .aload_n 0, 1), (328, .iload_n 3, 1), (329, .iconst 4, 1), (330, .iadd, 1), (331, .iaload, 1), (332, .i2l, 1), (333, .ldc2_w 18, 3), (336, .land, 1), (337, .lor, 1), (338, .invokevirtual 20, 3), (341, .aload_n 2, 1), (342, .aload_n 0, 1), (343, .iload_n 3, 1), (344, .iconst 1, 1), (345, .iadd, 1), (346, .iaload, 1), (347, .aload_n 0, 1), (348, .iload_n 3, 1), (349, .iconst 2, 1), (350, .iadd, 1), (351, .iaload, 1), (352, .aload_n 0, 1), (353, .iload_n 3, 1), (354, .iconst 3, 1), (355, .iadd, 1), (356, .iaload, 1), (357, .i2l, 1), (358, .bipush 32, 2), (360, .lshl, 1), (361, .aload_n 0, 1), (362, .iload_n 3, 1), (363, .iconst 4, 1), (364, .iadd, 1), (365, .iaload, 1), (366, .i2l, 1), (367, .ldc2_w 18, 3), (370, .land, 1), (371, .lor, 1), (372, .invokevirtual 24, 3), (375, .if_icmp .eq 1387, 3), (378, .iconst 0, 1), (379, .ireturn, 1)]
theorem dL_1 : dec_ok code tL_1 = true := by decide +kernel
set_option maxHeartbeats 4000000 in
theorem law_c1 {l : Launch} {G : Gt} {b L i : Nat} {xs : Nat → Int32} {h : Hp} (C : Cx G code 4 RL) (X : Rmx l G 2048 (AL P63 true true)) (S : SLw G b L xs) (hL : L ≤ 6) (hi : i + 6 ≤ L) (inv : Lv h) (kk : ∀ h', Lv h' → Rr G 1762 [(0, vt 9000), (1, vr 6 0), (2, vr 7 63), (3, vi (nI i))] [] h') : Rr G 307 [(0, vt 9000), (1, vr 6 0), (2, vr 7 63), (3, vi (nI i))] [] h := by
  obtain ⟨v, u, w, g, B, Bt, z, κ, τ, o, hg, M, y, byt, ok, okw⟩ := inv
  refine r_aload_n C (dx dL_1 0 rfl) rfl ?_
  refine r_aload_nT C (dx dL_1 1 rfl) rfl ?_
  refine r_iload_n C (dx dL_1 2 rfl) rfl ?_
  refine r_iconst (v := nI 1) C (dx dL_1 3 rfl) rfl ?_
  refine rn_iadd (a := i) (b := 1) C (dx dL_1 4 rfl) ?_
  refine r_sld C S (by omega) (by omega) (dx dL_1 5 rfl) ?_
  refine r_aload_nT C (dx dL_1 6 rfl) rfl ?_
  refine r_iload_n C (dx dL_1 7 rfl) rfl ?_
  refine r_iconst (v := nI 2) C (dx dL_1 8 rfl) rfl ?_
  refine rn_iadd (a := i) (b := 2) C (dx dL_1 9 rfl) ?_
  refine r_sld C S (by omega) (by omega) (dx dL_1 10 rfl) ?_
  refine r_aload_nT C (dx dL_1 11 rfl) rfl ?_
  refine r_iload_n C (dx dL_1 12 rfl) rfl ?_
  refine r_iconst (v := nI 3) C (dx dL_1 13 rfl) rfl ?_
  refine rn_iadd (a := i) (b := 3) C (dx dL_1 14 rfl) ?_
  refine r_sld C S (by omega) (by omega) (dx dL_1 15 rfl) ?_
  refine r_i2l C (dx dL_1 16 rfl) ?_
  refine r_bipush (v := nI 32) C (dx dL_1 17 rfl) rfl ?_
  refine r_lshl C (dx dL_1 18 rfl) ?_
  refine r_aload_nT C (dx dL_1 19 rfl) rfl ?_
  refine r_iload_n C (dx dL_1 20 rfl) rfl ?_
  refine r_iconst (v := nI 4) C (dx dL_1 21 rfl) rfl ?_
  refine rn_iadd (a := i) (b := 4) C (dx dL_1 22 rfl) ?_
  refine r_sld C S (by omega) (by omega) (dx dL_1 23 rfl) ?_
  refine r_i2l C (dx dL_1 24 rfl) ?_
  refine r_ldc2 C n_L_18 (dx dL_1 25 rfl) ?_
  refine r_land C (dx dL_1 26 rfl) ?_
  refine r_lor C (dx dL_1 27 rfl) ?_
  refine r_cv (as := [vi (xs (i + 1)), vi (xs (i + 2)), vl ((((xs (i + 3)).toInt64) <<< ((nI 32).toInt64 &&& 63)) ||| (((xs (i + 4)).toInt64) &&& 4294967295))]) (st := []) C X I_X6_set l_L_20 (x_set o hg (xs (i + 1)) (xs (i + 2)) ((((xs (i + 3)).toInt64) <<< ((nI 32).toInt64 &&& 63)) ||| (((xs (i + 4)).toInt64) &&& 4294967295))) (by decide) (Nat.le_of_ble_eq_true rfl) List.prefix_rfl (by rw [M.al]; exact ALall) rfl rfl (Nat.le_of_ble_eq_true rfl) rfl (dx dL_1 28 rfl) ?_
  rintro _ h1 ⟨rfl, ⟨uh1, oh1⟩, fh1⟩ kh1
  have Mh1 := M.fr9 fh1 kh1
  have yh1 := y.fr9 M fh1
  refine r_aload_n C (dx dL_1 29 rfl) rfl ?_
  refine r_aload_nT C (dx dL_1 30 rfl) rfl ?_
  refine r_iload_n C (dx dL_1 31 rfl) rfl ?_
  refine r_iconst (v := nI 1) C (dx dL_1 32 rfl) rfl ?_
  refine rn_iadd (a := i) (b := 1) C (dx dL_1 33 rfl) ?_
  refine r_sld C S (by omega) (by omega) (dx dL_1 34 rfl) ?_
  refine r_aload_nT C (dx dL_1 35 rfl) rfl ?_
  refine r_iload_n C (dx dL_1 36 rfl) rfl ?_
  refine r_iconst (v := nI 2) C (dx dL_1 37 rfl) rfl ?_
  refine rn_iadd (a := i) (b := 2) C (dx dL_1 38 rfl) ?_
  refine r_sld C S (by omega) (by omega) (dx dL_1 39 rfl) ?_
  refine r_aload_nT C (dx dL_1 40 rfl) rfl ?_
  refine r_iload_n C (dx dL_1 41 rfl) rfl ?_
  refine r_iconst (v := nI 3) C (dx dL_1 42 rfl) rfl ?_
  refine rn_iadd (a := i) (b := 3) C (dx dL_1 43 rfl) ?_
  refine r_sld C S (by omega) (by omega) (dx dL_1 44 rfl) ?_
  refine r_i2l C (dx dL_1 45 rfl) ?_
  refine r_bipush (v := nI 32) C (dx dL_1 46 rfl) rfl ?_
  refine r_lshl C (dx dL_1 47 rfl) ?_
  refine r_aload_nT C (dx dL_1 48 rfl) rfl ?_
  refine r_iload_n C (dx dL_1 49 rfl) rfl ?_
  refine r_iconst (v := nI 4) C (dx dL_1 50 rfl) rfl ?_
  refine rn_iadd (a := i) (b := 4) C (dx dL_1 51 rfl) ?_
  refine r_sld C S (by omega) (by omega) (dx dL_1 52 rfl) ?_
  refine r_i2l C (dx dL_1 53 rfl) ?_
  refine r_ldc2 C n_L_18 (dx dL_1 54 rfl) ?_
  refine r_land C (dx dL_1 55 rfl) ?_
  refine r_lor C (dx dL_1 56 rfl) ?_
  obtain ⟨τh2, ph2, ch2⟩ := y7_set (l := l) Mh1 yh1 ok (xs (i + 1)) (xs (i + 2)) ((((xs (i + 3)).toInt64) <<< ((nI 32).toInt64 &&& 63)) ||| (((xs (i + 4)).toInt64) &&& 4294967295))
  refine r_cv (as := [vi (xs (i + 1)), vi (xs (i + 2)), vl ((((xs (i + 3)).toInt64) <<< ((nI 32).toInt64 &&& 63)) ||| (((xs (i + 4)).toInt64) &&& 4294967295))]) (st := [_]) C X I_X7_set l_L_24 ch2 (by decide) (Nat.le_of_ble_eq_true rfl) ph2 ALall rfl rfl (Nat.le_of_ble_eq_true rfl) rfl (dx dL_1 57 rfl) ?_
  rintro _ h2 ⟨rfl, Mh2, lh2, yh2⟩ kh2
  have oh2 := oh1.lo lh2
  refine r_icmp_eq (tgt := 1762) C (dx dL_1 58 rfl) (by decide) (fun _ => ?_) (fun c3 => absurd (by first | rfl | exact (vl_tie byt _).1) c3)
  exact kk h2 ⟨_, _, _, _, _, _, _, _, _, oh2, hg.set _ _ _, Mh2, yh2, byt, ok, okw⟩
def tL_2 : List (Nat × Instr × Nat) := [(380, .aload_n 1, 1), (381, .aload_n 0, 1), (382, .iload_n 3, 1), (383, .iconst 1, 1), (384, .iadd, 1), (385, .iaload, 1), (386, .aload_n 0, 1), (387, .iload_n 3, 1), (388, .iconst 2, 1), (389, .iadd, 1), (390, .iaload, 1), (391, .aload_n 0, 1), (392, .iload_n 3, 1), (393, .iconst 3, 1), (394, .iadd, 1), (395, .iaload, 1), (396, .aload_n 0, 1), (397, .iload_n 3, 1), (398, .iconst 4, 1), (399, .iadd, 1), (400, .iaload, 1), (401, .aload_n 0, 1), (402, .iload_n 3, 1), (403, .iconst 5, 1), (404, .iadd, 1), (405, .iaload, 1), (406, .invokevirtual 25, 3), (409, .aload_n 2, 1), (410, .aload_n 0, 1), (411, .iload_n 3, 1), (412, .iconst 1, 1), (413, .iadd, 1), (414, .iaload, 1), (415, .aload_n 0, 1), (416, .iload_n 3, 1), (417, .iconst 2, 1), (418, .iadd, 1), (419, .iaload, 1), (420, .aload_n 0, 1), (421, .iload_n 3, 1), (422, .iconst 3, 1), (423, .iadd, 1), (424, .iaload, 1), (425, .aload_n 0, 1), (426, .iload_n 3, 1), (427, .iconst 4, 1), (428, .iadd, 1), (429, .iaload, 1), (430, .aload_n 0, 1), (431, .iload_n 3, 1), (432, .iconst 5, 1), (433, .iadd, 1), (434, .iaload, 1), (435, .invokevirtual 29, 3), (438, .if_icmp .eq 1324, 3), (441, .iconst 0, 1), (442, .ireturn, 1)]
theorem dL_2 : dec_ok code tL_2 = true := by decide +kernel
set_option maxHeartbeats 4000000 in
theorem law_c2 {l : Launch} {G : Gt} {b L i : Nat} {xs : Nat → Int32} {h : Hp} (C : Cx G code 4 RL) (X : Rmx l G 2048 (AL P63 true true)) (S : SLw G b L xs) (hL : L ≤ 6) (hi : i + 6 ≤ L) (inv : Lv h) (kk : ∀ h', Lv h' → Rr G 1762 [(0, vt 9000), (1, vr 6 0), (2, vr 7 63), (3, vi (nI i))] [] h') : Rr G 380 [(0, vt 9000), (1, vr 6 0), (2, vr 7 63), (3, vi (nI i))] [] h := by
  obtain ⟨v, u, w, g, B, Bt, z, κ, τ, o, hg, M, y, byt, ok, okw⟩ := inv
  refine r_aload_n C (dx dL_2 0 rfl) rfl ?_
  refine r_aload_nT C (dx dL_2 1 rfl) rfl ?_
  refine r_iload_n C (dx dL_2 2 rfl) rfl ?_
  refine r_iconst (v := nI 1) C (dx dL_2 3 rfl) rfl ?_
  refine rn_iadd (a := i) (b := 1) C (dx dL_2 4 rfl) ?_
  refine r_sld C S (by omega) (by omega) (dx dL_2 5 rfl) ?_
  refine r_aload_nT C (dx dL_2 6 rfl) rfl ?_
  refine r_iload_n C (dx dL_2 7 rfl) rfl ?_
  refine r_iconst (v := nI 2) C (dx dL_2 8 rfl) rfl ?_
  refine rn_iadd (a := i) (b := 2) C (dx dL_2 9 rfl) ?_
  refine r_sld C S (by omega) (by omega) (dx dL_2 10 rfl) ?_
  refine r_aload_nT C (dx dL_2 11 rfl) rfl ?_
  refine r_iload_n C (dx dL_2 12 rfl) rfl ?_
  refine r_iconst (v := nI 3) C (dx dL_2 13 rfl) rfl ?_
  refine rn_iadd (a := i) (b := 3) C (dx dL_2 14 rfl) ?_
  refine r_sld C S (by omega) (by omega) (dx dL_2 15 rfl) ?_
  refine r_aload_nT C (dx dL_2 16 rfl) rfl ?_
  refine r_iload_n C (dx dL_2 17 rfl) rfl ?_
  refine r_iconst (v := nI 4) C (dx dL_2 18 rfl) rfl ?_
  refine rn_iadd (a := i) (b := 4) C (dx dL_2 19 rfl) ?_
  refine r_sld C S (by omega) (by omega) (dx dL_2 20 rfl) ?_
  refine r_aload_nT C (dx dL_2 21 rfl) rfl ?_
  refine r_iload_n C (dx dL_2 22 rfl) rfl ?_
  refine r_iconst (v := nI 5) C (dx dL_2 23 rfl) rfl ?_
  refine rn_iadd (a := i) (b := 5) C (dx dL_2 24 rfl) ?_
  refine r_sld C S (by omega) (by omega) (dx dL_2 25 rfl) ?_
  refine r_cv (as := [vi (xs (i + 1)), vi (xs (i + 2)), vi (xs (i + 3)), vi (xs (i + 4)), vi (xs (i + 5))]) (st := []) C X I_X6_copy l_L_25 (x_copy o hg (xs (i + 1)) (xs (i + 2)) (xs (i + 3)) (xs (i + 4)) (xs (i + 5))) (by decide) (Nat.le_of_ble_eq_true rfl) List.prefix_rfl (by rw [M.al]; exact ALall) rfl rfl (Nat.le_of_ble_eq_true rfl) rfl (dx dL_2 26 rfl) ?_
  rintro _ h1 ⟨rfl, ⟨uh1, oh1⟩, fh1⟩ kh1
  have Mh1 := M.fr9 fh1 kh1
  have yh1 := y.fr9 M fh1
  refine r_aload_n C (dx dL_2 27 rfl) rfl ?_
  refine r_aload_nT C (dx dL_2 28 rfl) rfl ?_
  refine r_iload_n C (dx dL_2 29 rfl) rfl ?_
  refine r_iconst (v := nI 1) C (dx dL_2 30 rfl) rfl ?_
  refine rn_iadd (a := i) (b := 1) C (dx dL_2 31 rfl) ?_
  refine r_sld C S (by omega) (by omega) (dx dL_2 32 rfl) ?_
  refine r_aload_nT C (dx dL_2 33 rfl) rfl ?_
  refine r_iload_n C (dx dL_2 34 rfl) rfl ?_
  refine r_iconst (v := nI 2) C (dx dL_2 35 rfl) rfl ?_
  refine rn_iadd (a := i) (b := 2) C (dx dL_2 36 rfl) ?_
  refine r_sld C S (by omega) (by omega) (dx dL_2 37 rfl) ?_
  refine r_aload_nT C (dx dL_2 38 rfl) rfl ?_
  refine r_iload_n C (dx dL_2 39 rfl) rfl ?_
  refine r_iconst (v := nI 3) C (dx dL_2 40 rfl) rfl ?_
  refine rn_iadd (a := i) (b := 3) C (dx dL_2 41 rfl) ?_
  refine r_sld C S (by omega) (by omega) (dx dL_2 42 rfl) ?_
  refine r_aload_nT C (dx dL_2 43 rfl) rfl ?_
  refine r_iload_n C (dx dL_2 44 rfl) rfl ?_
  refine r_iconst (v := nI 4) C (dx dL_2 45 rfl) rfl ?_
  refine rn_iadd (a := i) (b := 4) C (dx dL_2 46 rfl) ?_
  refine r_sld C S (by omega) (by omega) (dx dL_2 47 rfl) ?_
  refine r_aload_nT C (dx dL_2 48 rfl) rfl ?_
  refine r_iload_n C (dx dL_2 49 rfl) rfl ?_
  refine r_iconst (v := nI 5) C (dx dL_2 50 rfl) rfl ?_
  refine rn_iadd (a := i) (b := 5) C (dx dL_2 51 rfl) ?_
  refine r_sld C S (by omega) (by omega) (dx dL_2 52 rfl) ?_
  obtain ⟨τh2, ph2, ch2⟩ := y7_copy (l := l) Mh1 yh1 ok (xs (i + 1)) (xs (i + 2)) (xs (i + 3)) (xs (i + 4)) (xs (i + 5))
  refine r_cv (as := [vi (xs (i + 1)), vi (xs (i + 2)), vi (xs (i + 3)), vi (xs (i + 4)), vi (xs (i + 5))]) (st := [_]) C X I_X7_copy l_L_29 ch2 (by decide) (Nat.le_of_ble_eq_true rfl) ph2 ALall rfl rfl (Nat.le_of_ble_eq_true rfl) rfl (dx dL_2 53 rfl) ?_
  rintro _ h2 ⟨rfl, Mh2, lh2, yh2⟩ kh2
  have oh2 := oh1.lo lh2
  refine r_icmp_eq (tgt := 1762) C (dx dL_2 54 rfl) (by decide) (fun _ => ?_) (fun c3 => absurd (by first | rfl | exact (vl_tie byt _).1) c3)
  exact kk h2 ⟨_, _, _, _, _, _, _, _, _, oh2, hg.cop _ _ _ _ _, Mh2, yh2, byt, ok, okw⟩
def tL_3 : List (Nat × Instr × Nat) := [(443, .aload_n 1, 1), (444, .aload_n 0, 1), (445, .iload_n 3, 1), (446, .iconst 1, 1), (447, .iadd, 1), (448, .iaload, 1), (449, .aload_n 0, 1), (450, .iload_n 3, 1), (451, .iconst 2, 1), (452, .iadd, 1), (453, .iaload, 1), (454, .invokevirtual 30, 3), (457, .aload_n 2, 1), (458, .aload_n 0, 1), (459, .iload_n 3, 1), (460, .iconst 1, 1), (461, .iadd, 1), (462, .iaload, 1), (463, .aload_n 0, 1), (464, .iload_n 3, 1), (465, .iconst 2, 1), (466, .iadd, 1), (467, .iaload, 1), (468, .invokevirtual 34, 3), (471, .lcmp, 1), (472, .ifCond .eq 1290, 3), (475, .iconst 0, 1), (476, .ireturn, 1)]
theorem dL_3 : dec_ok code tL_3 = true := by decide +kernel
set_option maxHeartbeats 4000000 in
theorem law_c3 {l : Launch} {G : Gt} {b L i : Nat} {xs : Nat → Int32} {h : Hp} (C : Cx G code 4 RL) (X : Rmx l G 2048 (AL P63 true true)) (S : SLw G b L xs) (hL : L ≤ 6) (hi : i + 6 ≤ L) (inv : Lv h) (kk : ∀ h', Lv h' → Rr G 1762 [(0, vt 9000), (1, vr 6 0), (2, vr 7 63), (3, vi (nI i))] [] h') : Rr G 443 [(0, vt 9000), (1, vr 6 0), (2, vr 7 63), (3, vi (nI i))] [] h := by
  obtain ⟨v, u, w, g, B, Bt, z, κ, τ, o, hg, M, y, byt, ok, okw⟩ := inv
  refine r_aload_n C (dx dL_3 0 rfl) rfl ?_
  refine r_aload_nT C (dx dL_3 1 rfl) rfl ?_
  refine r_iload_n C (dx dL_3 2 rfl) rfl ?_
  refine r_iconst (v := nI 1) C (dx dL_3 3 rfl) rfl ?_
  refine rn_iadd (a := i) (b := 1) C (dx dL_3 4 rfl) ?_
  refine r_sld C S (by omega) (by omega) (dx dL_3 5 rfl) ?_
  refine r_aload_nT C (dx dL_3 6 rfl) rfl ?_
  refine r_iload_n C (dx dL_3 7 rfl) rfl ?_
  refine r_iconst (v := nI 2) C (dx dL_3 8 rfl) rfl ?_
  refine rn_iadd (a := i) (b := 2) C (dx dL_3 9 rfl) ?_
  refine r_sld C S (by omega) (by omega) (dx dL_3 10 rfl) ?_
  refine r_cv (as := [vi (xs (i + 1)), vi (xs (i + 2))]) (st := []) C X I_X6_element l_L_30 (x_element o hg (xs (i + 1)) (xs (i + 2))) (by decide) (Nat.le_of_ble_eq_true rfl) List.prefix_rfl (by rw [M.al]; exact ALall) rfl rfl (Nat.le_of_ble_eq_true rfl) rfl (dx dL_3 11 rfl) ?_
  rintro _ h1 ⟨rfl, ⟨uh1, oh1⟩, fh1⟩ kh1
  have Mh1 := M.fr9 fh1 kh1
  have yh1 := y.fr9 M fh1
  refine r_aload_n C (dx dL_3 12 rfl) rfl ?_
  refine r_aload_nT C (dx dL_3 13 rfl) rfl ?_
  refine r_iload_n C (dx dL_3 14 rfl) rfl ?_
  refine r_iconst (v := nI 1) C (dx dL_3 15 rfl) rfl ?_
  refine rn_iadd (a := i) (b := 1) C (dx dL_3 16 rfl) ?_
  refine r_sld C S (by omega) (by omega) (dx dL_3 17 rfl) ?_
  refine r_aload_nT C (dx dL_3 18 rfl) rfl ?_
  refine r_iload_n C (dx dL_3 19 rfl) rfl ?_
  refine r_iconst (v := nI 2) C (dx dL_3 20 rfl) rfl ?_
  refine rn_iadd (a := i) (b := 2) C (dx dL_3 21 rfl) ?_
  refine r_sld C S (by omega) (by omega) (dx dL_3 22 rfl) ?_
  obtain ⟨τh2, ph2, ch2⟩ := y7_element (l := l) Mh1 yh1 ok (xs (i + 1)) (xs (i + 2))
  refine r_cv (as := [vi (xs (i + 1)), vi (xs (i + 2))]) (st := [_]) C X I_X7_element l_L_34 ch2 (by decide) (Nat.le_of_ble_eq_true rfl) ph2 ALall rfl rfl (Nat.le_of_ble_eq_true rfl) rfl (dx dL_3 23 rfl) ?_
  rintro _ h2 ⟨rfl, Mh2, lh2, yh2⟩ kh2
  have oh2 := oh1.lo lh2
  refine r_lcmp C (dx dL_3 24 rfl) ?_
  refine r_if_eq (tgt := 1762) C (dx dL_3 25 rfl) (by decide) (fun _ => ?_) (fun c3 => absurd ((lg_cmp_eq _ _).mpr rfl) c3)
  exact kk h2 ⟨_, _, _, _, _, _, _, _, _, oh2, hg, Mh2, yh2, byt, ok, okw⟩
def tL_4 : List (Nat × Instr × Nat) := [(477, .aload_n 1, 1), (478, .aload_n 0, 1), (479, .iload_n 3, 1), (480, .iconst 1, 1), (481, .iadd, 1), (482, .iaload, 1), (483, .invokevirtual 35, 3), (486, .aload_n 2, 1), (487, .aload_n 0, 1), (488, .iload_n 3, 1), (489, .iconst 1, 1), (490, .iadd, 1), (491, .iaload, 1), (492, .invokevirtual 39, 3), (495, .if_icmp .eq 1267, 3), (498, .iconst 0, 1), (499, .ireturn, 1)]
theorem dL_4 : dec_ok code tL_4 = true := by decide +kernel
set_option maxHeartbeats 4000000 in
theorem law_c4 {l : Launch} {G : Gt} {b L i : Nat} {xs : Nat → Int32} {h : Hp} (C : Cx G code 4 RL) (X : Rmx l G 2048 (AL P63 true true)) (S : SLw G b L xs) (hL : L ≤ 6) (hi : i + 6 ≤ L) (inv : Lv h) (kk : ∀ h', Lv h' → Rr G 1762 [(0, vt 9000), (1, vr 6 0), (2, vr 7 63), (3, vi (nI i))] [] h') : Rr G 477 [(0, vt 9000), (1, vr 6 0), (2, vr 7 63), (3, vi (nI i))] [] h := by
  obtain ⟨v, u, w, g, B, Bt, z, κ, τ, o, hg, M, y, byt, ok, okw⟩ := inv
  refine r_aload_n C (dx dL_4 0 rfl) rfl ?_
  refine r_aload_nT C (dx dL_4 1 rfl) rfl ?_
  refine r_iload_n C (dx dL_4 2 rfl) rfl ?_
  refine r_iconst (v := nI 1) C (dx dL_4 3 rfl) rfl ?_
  refine rn_iadd (a := i) (b := 1) C (dx dL_4 4 rfl) ?_
  refine r_sld C S (by omega) (by omega) (dx dL_4 5 rfl) ?_
  refine r_cv (as := [vi (xs (i + 1))]) (st := []) C X I_X6_holds l_L_35 (x_holds o hg (xs (i + 1))) (by decide) (Nat.le_of_ble_eq_true rfl) List.prefix_rfl (by rw [M.al]; exact ALall) rfl rfl (Nat.le_of_ble_eq_true rfl) rfl (dx dL_4 6 rfl) ?_
  rintro _ h1 ⟨rfl, ⟨uh1, oh1⟩, fh1⟩ kh1
  have Mh1 := M.fr9 fh1 kh1
  have yh1 := y.fr9 M fh1
  refine r_aload_n C (dx dL_4 7 rfl) rfl ?_
  refine r_aload_nT C (dx dL_4 8 rfl) rfl ?_
  refine r_iload_n C (dx dL_4 9 rfl) rfl ?_
  refine r_iconst (v := nI 1) C (dx dL_4 10 rfl) rfl ?_
  refine rn_iadd (a := i) (b := 1) C (dx dL_4 11 rfl) ?_
  refine r_sld C S (by omega) (by omega) (dx dL_4 12 rfl) ?_
  obtain ⟨τh2, ph2, ch2⟩ := y7_holds (l := l) Mh1 yh1 ok (xs (i + 1))
  refine r_cv (as := [vi (xs (i + 1))]) (st := [_]) C X I_X7_holds l_L_39 ch2 (by decide) (Nat.le_of_ble_eq_true rfl) ph2 ALall rfl rfl (Nat.le_of_ble_eq_true rfl) rfl (dx dL_4 13 rfl) ?_
  rintro _ h2 ⟨rfl, Mh2, lh2, yh2⟩ kh2
  have oh2 := oh1.lo lh2
  refine r_icmp_eq (tgt := 1762) C (dx dL_4 14 rfl) (by decide) (fun _ => ?_) (fun c3 => absurd (by first | rfl | exact (vl_tie byt _).1) c3)
  exact kk h2 ⟨_, _, _, _, _, _, _, _, _, oh2, hg, Mh2, yh2, byt, ok, okw⟩
def tL_5 : List (Nat × Instr × Nat) := [(500, .aload_n 1, 1), (501, .aload_n 0, 1), (502, .iload_n 3, 1), (503, .iconst 1, 1), (504, .iadd, 1), (505, .iaload, 1), (506, .aload_n 0, 1), (507, .iload_n 3, 1), (508, .iconst 2, 1), (509, .iadd, 1), (510, .iaload, 1), (511, .aload_n 0, 1), (512, .iload_n 3, 1), (513, .iconst 3, 1), (514, .iadd, 1), (515, .iaload, 1), (516, .invokevirtual 40, 3), (519, .aload_n 2, 1), (520, .aload_n 0, 1), (521, .iload_n 3, 1), (522, .iconst 1, 1), (523, .iadd, 1), (524, .iaload, 1), (525, .aload_n 0, 1), (526, .iload_n 3, 1), (527, .iconst 2, 1), (528, .iadd, 1), (529, .iaload, 1), (530, .aload_n 0, 1), (531, .iload_n 3, 1), (532, .iconst 3, 1), (533, .iadd, 1), (534, .iaload, 1), (535, .invokevirtual 43, 3), (538, .if_icmp .eq 1224, 3), (541, .iconst 0, 1), (542, .ireturn, 1)]
theorem dL_5 : dec_ok code tL_5 = true := by decide +kernel
set_option maxHeartbeats 4000000 in
theorem law_c5 {l : Launch} {G : Gt} {b L i : Nat} {xs : Nat → Int32} {h : Hp} (C : Cx G code 4 RL) (X : Rmx l G 2048 (AL P63 true true)) (S : SLw G b L xs) (hL : L ≤ 6) (hi : i + 6 ≤ L) (inv : Lv h) (kk : ∀ h', Lv h' → Rr G 1762 [(0, vt 9000), (1, vr 6 0), (2, vr 7 63), (3, vi (nI i))] [] h') : Rr G 500 [(0, vt 9000), (1, vr 6 0), (2, vr 7 63), (3, vi (nI i))] [] h := by
  obtain ⟨v, u, w, g, B, Bt, z, κ, τ, o, hg, M, y, byt, ok, okw⟩ := inv
  refine r_aload_n C (dx dL_5 0 rfl) rfl ?_
  refine r_aload_nT C (dx dL_5 1 rfl) rfl ?_
  refine r_iload_n C (dx dL_5 2 rfl) rfl ?_
  refine r_iconst (v := nI 1) C (dx dL_5 3 rfl) rfl ?_
  refine rn_iadd (a := i) (b := 1) C (dx dL_5 4 rfl) ?_
  refine r_sld C S (by omega) (by omega) (dx dL_5 5 rfl) ?_
  refine r_aload_nT C (dx dL_5 6 rfl) rfl ?_
  refine r_iload_n C (dx dL_5 7 rfl) rfl ?_
  refine r_iconst (v := nI 2) C (dx dL_5 8 rfl) rfl ?_
  refine rn_iadd (a := i) (b := 2) C (dx dL_5 9 rfl) ?_
  refine r_sld C S (by omega) (by omega) (dx dL_5 10 rfl) ?_
  refine r_aload_nT C (dx dL_5 11 rfl) rfl ?_
  refine r_iload_n C (dx dL_5 12 rfl) rfl ?_
  refine r_iconst (v := nI 3) C (dx dL_5 13 rfl) rfl ?_
  refine rn_iadd (a := i) (b := 3) C (dx dL_5 14 rfl) ?_
  refine r_sld C S (by omega) (by omega) (dx dL_5 15 rfl) ?_
  refine r_cv (as := [vi (xs (i + 1)), vi (xs (i + 2)), vi (xs (i + 3))]) (st := []) C X I_X6_holding l_L_40 (x_holding o hg (xs (i + 1)) (xs (i + 2)) (xs (i + 3))) (by decide) (Nat.le_of_ble_eq_true rfl) List.prefix_rfl (by rw [M.al]; exact ALall) rfl rfl (Nat.le_of_ble_eq_true rfl) rfl (dx dL_5 16 rfl) ?_
  rintro _ h1 ⟨rfl, ⟨uh1, oh1⟩, fh1⟩ kh1
  have Mh1 := M.fr9 fh1 kh1
  have yh1 := y.fr9 M fh1
  refine r_aload_n C (dx dL_5 17 rfl) rfl ?_
  refine r_aload_nT C (dx dL_5 18 rfl) rfl ?_
  refine r_iload_n C (dx dL_5 19 rfl) rfl ?_
  refine r_iconst (v := nI 1) C (dx dL_5 20 rfl) rfl ?_
  refine rn_iadd (a := i) (b := 1) C (dx dL_5 21 rfl) ?_
  refine r_sld C S (by omega) (by omega) (dx dL_5 22 rfl) ?_
  refine r_aload_nT C (dx dL_5 23 rfl) rfl ?_
  refine r_iload_n C (dx dL_5 24 rfl) rfl ?_
  refine r_iconst (v := nI 2) C (dx dL_5 25 rfl) rfl ?_
  refine rn_iadd (a := i) (b := 2) C (dx dL_5 26 rfl) ?_
  refine r_sld C S (by omega) (by omega) (dx dL_5 27 rfl) ?_
  refine r_aload_nT C (dx dL_5 28 rfl) rfl ?_
  refine r_iload_n C (dx dL_5 29 rfl) rfl ?_
  refine r_iconst (v := nI 3) C (dx dL_5 30 rfl) rfl ?_
  refine rn_iadd (a := i) (b := 3) C (dx dL_5 31 rfl) ?_
  refine r_sld C S (by omega) (by omega) (dx dL_5 32 rfl) ?_
  obtain ⟨τh2, ph2, ch2⟩ := y7_holding (l := l) Mh1 yh1 ok (xs (i + 1)) (xs (i + 2)) (xs (i + 3))
  refine r_cv (as := [vi (xs (i + 1)), vi (xs (i + 2)), vi (xs (i + 3))]) (st := [_]) C X I_X7_holding l_L_43 ch2 (by decide) (Nat.le_of_ble_eq_true rfl) ph2 ALall rfl rfl (Nat.le_of_ble_eq_true rfl) rfl (dx dL_5 33 rfl) ?_
  rintro _ h2 ⟨rfl, Mh2, lh2, yh2⟩ kh2
  have oh2 := oh1.lo lh2
  refine r_icmp_eq (tgt := 1762) C (dx dL_5 34 rfl) (by decide) (fun _ => ?_) (fun c3 => absurd (by first | rfl | exact (vl_tie byt _).1) c3)
  exact kk h2 ⟨_, _, _, _, _, _, _, _, _, oh2, hg.hld _ _ _, Mh2, yh2, byt, ok, okw⟩
def tL_6 : List (Nat × Instr × Nat) := [(543, .aload_n 1, 1), (544, .aload_n 0, 1), (545, .iload_n 3, 1), (546, .iconst 1, 1), (547, .iadd, 1), (548, .iaload, 1), (549, .aload_n 0, 1), (550, .iload_n 3, 1), (551, .iconst 2, 1), (552, .iadd, 1), (553, .iaload, 1), (554, .invokevirtual 44, 3), (557, .aload_n 2, 1), (558, .aload_n 0, 1), (559, .iload_n 3, 1), (560, .iconst 1, 1), (561, .iadd, 1), (562, .iaload, 1), (563, .aload_n 0, 1), (564, .iload_n 3, 1), (565, .iconst 2, 1), (566, .iadd, 1), (567, .iaload, 1), (568, .invokevirtual 48, 3), (571, .if_icmp .eq 1191, 3), (574, .iconst 0, 1), (575, .ireturn, 1)]
theorem dL_6 : dec_ok code tL_6 = true := by decide +kernel
set_option maxHeartbeats 4000000 in
theorem law_c6 {l : Launch} {G : Gt} {b L i : Nat} {xs : Nat → Int32} {h : Hp} (C : Cx G code 4 RL) (X : Rmx l G 2048 (AL P63 true true)) (S : SLw G b L xs) (hL : L ≤ 6) (hi : i + 6 ≤ L) (inv : Lv h) (kk : ∀ h', Lv h' → Rr G 1762 [(0, vt 9000), (1, vr 6 0), (2, vr 7 63), (3, vi (nI i))] [] h') : Rr G 543 [(0, vt 9000), (1, vr 6 0), (2, vr 7 63), (3, vi (nI i))] [] h := by
  obtain ⟨v, u, w, g, B, Bt, z, κ, τ, o, hg, M, y, byt, ok, okw⟩ := inv
  refine r_aload_n C (dx dL_6 0 rfl) rfl ?_
  refine r_aload_nT C (dx dL_6 1 rfl) rfl ?_
  refine r_iload_n C (dx dL_6 2 rfl) rfl ?_
  refine r_iconst (v := nI 1) C (dx dL_6 3 rfl) rfl ?_
  refine rn_iadd (a := i) (b := 1) C (dx dL_6 4 rfl) ?_
  refine r_sld C S (by omega) (by omega) (dx dL_6 5 rfl) ?_
  refine r_aload_nT C (dx dL_6 6 rfl) rfl ?_
  refine r_iload_n C (dx dL_6 7 rfl) rfl ?_
  refine r_iconst (v := nI 2) C (dx dL_6 8 rfl) rfl ?_
  refine rn_iadd (a := i) (b := 2) C (dx dL_6 9 rfl) ?_
  refine r_sld C S (by omega) (by omega) (dx dL_6 10 rfl) ?_
  refine r_cv (as := [vi (xs (i + 1)), vi (xs (i + 2))]) (st := []) C X I_X6_says l_L_44 (x2_says o hg ok (xs (i + 1)) (xs (i + 2))) (by decide) (Nat.le_of_ble_eq_true rfl) List.prefix_rfl (by rw [M.al]; exact ALall) rfl rfl (Nat.le_of_ble_eq_true rfl) rfl (dx dL_6 11 rfl) ?_
  rintro _ h1 ⟨rfl, ⟨uh1, oh1⟩, fh1⟩ kh1
  have Mh1 := M.fr9 fh1 kh1
  have yh1 := y.fr9 M fh1
  refine r_aload_n C (dx dL_6 12 rfl) rfl ?_
  refine r_aload_nT C (dx dL_6 13 rfl) rfl ?_
  refine r_iload_n C (dx dL_6 14 rfl) rfl ?_
  refine r_iconst (v := nI 1) C (dx dL_6 15 rfl) rfl ?_
  refine rn_iadd (a := i) (b := 1) C (dx dL_6 16 rfl) ?_
  refine r_sld C S (by omega) (by omega) (dx dL_6 17 rfl) ?_
  refine r_aload_nT C (dx dL_6 18 rfl) rfl ?_
  refine r_iload_n C (dx dL_6 19 rfl) rfl ?_
  refine r_iconst (v := nI 2) C (dx dL_6 20 rfl) rfl ?_
  refine rn_iadd (a := i) (b := 2) C (dx dL_6 21 rfl) ?_
  refine r_sld C S (by omega) (by omega) (dx dL_6 22 rfl) ?_
  obtain ⟨τh2, ph2, ch2⟩ := z7_says (l := l) Mh1 yh1 ok (xs (i + 1)) (xs (i + 2))
  refine r_cv (as := [vi (xs (i + 1)), vi (xs (i + 2))]) (st := [_]) C X I_X7_says l_L_48 ch2 (by decide) (Nat.le_of_ble_eq_true rfl) ph2 ALall rfl rfl (Nat.le_of_ble_eq_true rfl) rfl (dx dL_6 23 rfl) ?_
  rintro _ h2 ⟨rfl, Mh2, lh2, yh2⟩ kh2
  have oh2 := oh1.lo lh2
  refine r_icmp_eq (tgt := 1762) C (dx dL_6 24 rfl) (by decide) (fun _ => ?_) (fun c3 => absurd (by first | rfl | exact (vl_tie byt _).1) c3)
  exact kk h2 ⟨_, _, _, _, _, _, _, _, _, oh2, hg, Mh2, yh2, byt, ok, okw⟩
def tL_7 : List (Nat × Instr × Nat) := [(576, .aload_n 1, 1), (577, .invokevirtual 49, 3), (580, .aload_n 2, 1), (581, .invokevirtual 53, 3), (584, .if_icmp .eq 1178, 3), (587, .iconst 0, 1), (588, .ireturn, 1)]
theorem dL_7 : dec_ok code tL_7 = true := by decide +kernel
set_option maxHeartbeats 4000000 in
theorem law_c7 {l : Launch} {G : Gt} {b L i : Nat} {xs : Nat → Int32} {h : Hp} (C : Cx G code 4 RL) (X : Rmx l G 2048 (AL P63 true true)) (S : SLw G b L xs) (hL : L ≤ 6) (hi : i + 6 ≤ L) (inv : Lv h) (kk : ∀ h', Lv h' → Rr G 1762 [(0, vt 9000), (1, vr 6 0), (2, vr 7 63), (3, vi (nI i))] [] h') : Rr G 576 [(0, vt 9000), (1, vr 6 0), (2, vr 7 63), (3, vi (nI i))] [] h := by
  obtain ⟨v, u, w, g, B, Bt, z, κ, τ, o, hg, M, y, byt, ok, okw⟩ := inv
  refine r_aload_n C (dx dL_7 0 rfl) rfl ?_
  refine r_cv (as := []) (st := []) C X I_X6_part l_L_49 (x_part o hg ) (by decide) (Nat.le_of_ble_eq_true rfl) List.prefix_rfl (by rw [M.al]; exact ALall) rfl rfl (Nat.le_of_ble_eq_true rfl) rfl (dx dL_7 1 rfl) ?_
  rintro _ h1 ⟨rfl, ⟨uh1, oh1⟩, fh1⟩ kh1
  have Mh1 := M.fr9 fh1 kh1
  have yh1 := y.fr9 M fh1
  refine r_aload_n C (dx dL_7 2 rfl) rfl ?_
  obtain ⟨τh2, ph2, ch2⟩ := y7_part (l := l) Mh1 yh1 ok 
  refine r_cv (as := []) (st := [_]) C X I_X7_part l_L_53 ch2 (by decide) (Nat.le_of_ble_eq_true rfl) ph2 ALall rfl rfl (Nat.le_of_ble_eq_true rfl) rfl (dx dL_7 3 rfl) ?_
  rintro _ h2 ⟨rfl, Mh2, lh2, yh2⟩ kh2
  have oh2 := oh1.lo lh2
  refine r_icmp_eq (tgt := 1762) C (dx dL_7 4 rfl) (by decide) (fun _ => ?_) (fun c3 => absurd (by first | rfl | exact (vl_tie byt _).1) c3)
  exact kk h2 ⟨_, _, _, _, _, _, _, _, _, oh2, hg, Mh2, yh2, byt, (ok_partV ok), okw⟩
def tL_8 : List (Nat × Instr × Nat) := [(589, .aload_n 1, 1), (590, .aload_n 0, 1), (591, .iload_n 3, 1), (592, .iconst 1, 1), (593, .iadd, 1), (594, .iaload, 1), (595, .aload_n 0, 1), (596, .iload_n 3, 1), (597, .iconst 2, 1), (598, .iadd, 1), (599, .iaload, 1), (600, .invokevirtual 54, 3), (603, .aload_n 2, 1), (604, .aload_n 0, 1), (605, .iload_n 3, 1), (606, .iconst 1, 1), (607, .iadd, 1), (608, .iaload, 1), (609, .aload_n 0, 1), (610, .iload_n 3, 1), (611, .iconst 2, 1), (612, .iadd, 1), (613, .iaload, 1), (614, .invokevirtual 57, 3), (617, .if_icmp .eq 1145, 3), (620, .iconst 0, 1), (621, .ireturn, 1)]
theorem dL_8 : dec_ok code tL_8 = true := by decide +kernel
set_option maxHeartbeats 4000000 in
theorem law_c8 {l : Launch} {G : Gt} {b L i : Nat} {xs : Nat → Int32} {h : Hp} (C : Cx G code 4 RL) (X : Rmx l G 2048 (AL P63 true true)) (S : SLw G b L xs) (hL : L ≤ 6) (hi : i + 6 ≤ L) (inv : Lv h) (kk : ∀ h', Lv h' → Rr G 1762 [(0, vt 9000), (1, vr 6 0), (2, vr 7 63), (3, vi (nI i))] [] h') : Rr G 589 [(0, vt 9000), (1, vr 6 0), (2, vr 7 63), (3, vi (nI i))] [] h := by
  obtain ⟨v, u, w, g, B, Bt, z, κ, τ, o, hg, M, y, byt, ok, okw⟩ := inv
  refine r_aload_n C (dx dL_8 0 rfl) rfl ?_
  refine r_aload_nT C (dx dL_8 1 rfl) rfl ?_
  refine r_iload_n C (dx dL_8 2 rfl) rfl ?_
  refine r_iconst (v := nI 1) C (dx dL_8 3 rfl) rfl ?_
  refine rn_iadd (a := i) (b := 1) C (dx dL_8 4 rfl) ?_
  refine r_sld C S (by omega) (by omega) (dx dL_8 5 rfl) ?_
  refine r_aload_nT C (dx dL_8 6 rfl) rfl ?_
  refine r_iload_n C (dx dL_8 7 rfl) rfl ?_
  refine r_iconst (v := nI 2) C (dx dL_8 8 rfl) rfl ?_
  refine rn_iadd (a := i) (b := 2) C (dx dL_8 9 rfl) ?_
  refine r_sld C S (by omega) (by omega) (dx dL_8 10 rfl) ?_
  refine r_cv (as := [vi (xs (i + 1)), vi (xs (i + 2))]) (st := []) C X I_X6_machine l_L_54 (x_machine o hg (xs (i + 1)) (xs (i + 2))) (by decide) (Nat.le_of_ble_eq_true rfl) List.prefix_rfl (by rw [M.al]; exact ALall) rfl rfl (Nat.le_of_ble_eq_true rfl) rfl (dx dL_8 11 rfl) ?_
  rintro _ h1 ⟨rfl, ⟨uh1, oh1⟩, fh1⟩ kh1
  have Mh1 := M.fr9 fh1 kh1
  have yh1 := y.fr9 M fh1
  refine r_aload_n C (dx dL_8 12 rfl) rfl ?_
  refine r_aload_nT C (dx dL_8 13 rfl) rfl ?_
  refine r_iload_n C (dx dL_8 14 rfl) rfl ?_
  refine r_iconst (v := nI 1) C (dx dL_8 15 rfl) rfl ?_
  refine rn_iadd (a := i) (b := 1) C (dx dL_8 16 rfl) ?_
  refine r_sld C S (by omega) (by omega) (dx dL_8 17 rfl) ?_
  refine r_aload_nT C (dx dL_8 18 rfl) rfl ?_
  refine r_iload_n C (dx dL_8 19 rfl) rfl ?_
  refine r_iconst (v := nI 2) C (dx dL_8 20 rfl) rfl ?_
  refine rn_iadd (a := i) (b := 2) C (dx dL_8 21 rfl) ?_
  refine r_sld C S (by omega) (by omega) (dx dL_8 22 rfl) ?_
  obtain ⟨τh2, ph2, ch2⟩ := y7_machine (l := l) Mh1 yh1 ok (xs (i + 1)) (xs (i + 2))
  refine r_cv (as := [vi (xs (i + 1)), vi (xs (i + 2))]) (st := [_]) C X I_X7_machine l_L_57 ch2 (by decide) (Nat.le_of_ble_eq_true rfl) ph2 ALall rfl rfl (Nat.le_of_ble_eq_true rfl) rfl (dx dL_8 23 rfl) ?_
  rintro _ h2 ⟨rfl, Mh2, lh2, yh2⟩ kh2
  have oh2 := oh1.lo lh2
  refine r_icmp_eq (tgt := 1762) C (dx dL_8 24 rfl) (by decide) (fun _ => ?_) (fun c3 => absurd (by first | rfl | exact (vl_tie byt _).1) c3)
  exact kk h2 ⟨_, _, _, _, _, _, _, _, _, oh2, hg, Mh2, yh2, byt, (ok_machV ok _ _), okw⟩
def tL_9 : List (Nat × Instr × Nat) := [(622, .aload_n 1, 1), (623, .aload_n 0, 1), (624, .iload_n 3, 1), (625, .iconst 1, 1), (626, .iadd, 1), (627, .iaload, 1), (628, .aload_n 0, 1), (629, .iload_n 3, 1), (630, .iconst 2, 1), (631, .iadd, 1), (632, .iaload, 1), (633, .invokevirtual 58, 3), (636, .aload_n 2, 1), (637, .aload_n 0, 1), (638, .iload_n 3, 1), (639, .iconst 1, 1), (640, .iadd, 1), (641, .iaload, 1), (642, .aload_n 0, 1), (643, .iload_n 3, 1), (644, .iconst 2, 1), (645, .iadd, 1), (646, .iaload, 1), (647, .invokevirtual 61, 3), (650, .if_icmp .eq 1112, 3), (653, .iconst 0, 1), (654, .ireturn, 1)]
theorem dL_9 : dec_ok code tL_9 = true := by decide +kernel
set_option maxHeartbeats 4000000 in
theorem law_c9 {l : Launch} {G : Gt} {b L i : Nat} {xs : Nat → Int32} {h : Hp} (C : Cx G code 4 RL) (X : Rmx l G 2048 (AL P63 true true)) (S : SLw G b L xs) (hL : L ≤ 6) (hi : i + 6 ≤ L) (inv : Lv h) (kk : ∀ h', Lv h' → Rr G 1762 [(0, vt 9000), (1, vr 6 0), (2, vr 7 63), (3, vi (nI i))] [] h') : Rr G 622 [(0, vt 9000), (1, vr 6 0), (2, vr 7 63), (3, vi (nI i))] [] h := by
  obtain ⟨v, u, w, g, B, Bt, z, κ, τ, o, hg, M, y, byt, ok, okw⟩ := inv
  refine r_aload_n C (dx dL_9 0 rfl) rfl ?_
  refine r_aload_nT C (dx dL_9 1 rfl) rfl ?_
  refine r_iload_n C (dx dL_9 2 rfl) rfl ?_
  refine r_iconst (v := nI 1) C (dx dL_9 3 rfl) rfl ?_
  refine rn_iadd (a := i) (b := 1) C (dx dL_9 4 rfl) ?_
  refine r_sld C S (by omega) (by omega) (dx dL_9 5 rfl) ?_
  refine r_aload_nT C (dx dL_9 6 rfl) rfl ?_
  refine r_iload_n C (dx dL_9 7 rfl) rfl ?_
  refine r_iconst (v := nI 2) C (dx dL_9 8 rfl) rfl ?_
  refine rn_iadd (a := i) (b := 2) C (dx dL_9 9 rfl) ?_
  refine r_sld C S (by omega) (by omega) (dx dL_9 10 rfl) ?_
  refine r_cv (as := [vi (xs (i + 1)), vi (xs (i + 2))]) (st := []) C X I_X6_one l_L_58 (x_one o hg (xs (i + 1)) (xs (i + 2))) (by decide) (Nat.le_of_ble_eq_true rfl) List.prefix_rfl (by rw [M.al]; exact ALall) rfl rfl (Nat.le_of_ble_eq_true rfl) rfl (dx dL_9 11 rfl) ?_
  rintro _ h1 ⟨rfl, ⟨uh1, oh1⟩, fh1⟩ kh1
  have Mh1 := M.fr9 fh1 kh1
  have yh1 := y.fr9 M fh1
  refine r_aload_n C (dx dL_9 12 rfl) rfl ?_
  refine r_aload_nT C (dx dL_9 13 rfl) rfl ?_
  refine r_iload_n C (dx dL_9 14 rfl) rfl ?_
  refine r_iconst (v := nI 1) C (dx dL_9 15 rfl) rfl ?_
  refine rn_iadd (a := i) (b := 1) C (dx dL_9 16 rfl) ?_
  refine r_sld C S (by omega) (by omega) (dx dL_9 17 rfl) ?_
  refine r_aload_nT C (dx dL_9 18 rfl) rfl ?_
  refine r_iload_n C (dx dL_9 19 rfl) rfl ?_
  refine r_iconst (v := nI 2) C (dx dL_9 20 rfl) rfl ?_
  refine rn_iadd (a := i) (b := 2) C (dx dL_9 21 rfl) ?_
  refine r_sld C S (by omega) (by omega) (dx dL_9 22 rfl) ?_
  obtain ⟨τh2, ph2, ch2⟩ := y7_one (l := l) Mh1 yh1 ok (xs (i + 1)) (xs (i + 2))
  refine r_cv (as := [vi (xs (i + 1)), vi (xs (i + 2))]) (st := [_]) C X I_X7_one l_L_61 ch2 (by decide) (Nat.le_of_ble_eq_true rfl) ph2 ALall rfl rfl (Nat.le_of_ble_eq_true rfl) rfl (dx dL_9 23 rfl) ?_
  rintro _ h2 ⟨rfl, Mh2, lh2, yh2⟩ kh2
  have oh2 := oh1.lo lh2
  refine r_icmp_eq (tgt := 1762) C (dx dL_9 24 rfl) (by decide) (fun _ => ?_) (fun c3 => absurd (by first | rfl | exact (vl_tie byt _).1) c3)
  exact kk h2 ⟨_, _, _, _, _, _, _, _, _, oh2, hg, Mh2, yh2, byt, (ok_oneV ok _ _), okw⟩
def tL_10 : List (Nat × Instr × Nat) := [(655, .aload_n 1, 1), (656, .aload_n 0, 1), (657, .iload_n 3, 1), (658, .iconst 1, 1), (659, .iadd, 1), (660, .iaload, 1), (661, .aload_n 0, 1), (662, .iload_n 3, 1), (663, .iconst 2, 1), (664, .iadd, 1), (665, .iaload, 1), (666, .invokevirtual 62, 3), (669, .aload_n 2, 1), (670, .aload_n 0, 1), (671, .iload_n 3, 1), (672, .iconst 1, 1), (673, .iadd, 1), (674, .iaload, 1), (675, .aload_n 0, 1), (676, .iload_n 3, 1), (677, .iconst 2, 1), (678, .iadd, 1), (679, .iaload, 1), (680, .invokevirtual 65, 3), (683, .if_icmp .eq 1079, 3), (686, .iconst 0, 1), (687, .ireturn, 1)]
theorem dL_10 : dec_ok code tL_10 = true := by decide +kernel
set_option maxHeartbeats 4000000 in
theorem law_c10 {l : Launch} {G : Gt} {b L i : Nat} {xs : Nat → Int32} {h : Hp} (C : Cx G code 4 RL) (X : Rmx l G 2048 (AL P63 true true)) (S : SLw G b L xs) (hL : L ≤ 6) (hi : i + 6 ≤ L) (inv : Lv h) (kk : ∀ h', Lv h' → Rr G 1762 [(0, vt 9000), (1, vr 6 0), (2, vr 7 63), (3, vi (nI i))] [] h') : Rr G 655 [(0, vt 9000), (1, vr 6 0), (2, vr 7 63), (3, vi (nI i))] [] h := by
  obtain ⟨v, u, w, g, B, Bt, z, κ, τ, o, hg, M, y, byt, ok, okw⟩ := inv
  refine r_aload_n C (dx dL_10 0 rfl) rfl ?_
  refine r_aload_nT C (dx dL_10 1 rfl) rfl ?_
  refine r_iload_n C (dx dL_10 2 rfl) rfl ?_
  refine r_iconst (v := nI 1) C (dx dL_10 3 rfl) rfl ?_
  refine rn_iadd (a := i) (b := 1) C (dx dL_10 4 rfl) ?_
  refine r_sld C S (by omega) (by omega) (dx dL_10 5 rfl) ?_
  refine r_aload_nT C (dx dL_10 6 rfl) rfl ?_
  refine r_iload_n C (dx dL_10 7 rfl) rfl ?_
  refine r_iconst (v := nI 2) C (dx dL_10 8 rfl) rfl ?_
  refine rn_iadd (a := i) (b := 2) C (dx dL_10 9 rfl) ?_
  refine r_sld C S (by omega) (by omega) (dx dL_10 10 rfl) ?_
  refine r_cv (as := [vi (xs (i + 1)), vi (xs (i + 2))]) (st := []) C X I_X6_away l_L_62 (x_away o hg (xs (i + 1)) (xs (i + 2))) (by decide) (Nat.le_of_ble_eq_true rfl) List.prefix_rfl (by rw [M.al]; exact ALall) rfl rfl (Nat.le_of_ble_eq_true rfl) rfl (dx dL_10 11 rfl) ?_
  rintro _ h1 ⟨rfl, ⟨uh1, oh1⟩, fh1⟩ kh1
  have Mh1 := M.fr9 fh1 kh1
  have yh1 := y.fr9 M fh1
  refine r_aload_n C (dx dL_10 12 rfl) rfl ?_
  refine r_aload_nT C (dx dL_10 13 rfl) rfl ?_
  refine r_iload_n C (dx dL_10 14 rfl) rfl ?_
  refine r_iconst (v := nI 1) C (dx dL_10 15 rfl) rfl ?_
  refine rn_iadd (a := i) (b := 1) C (dx dL_10 16 rfl) ?_
  refine r_sld C S (by omega) (by omega) (dx dL_10 17 rfl) ?_
  refine r_aload_nT C (dx dL_10 18 rfl) rfl ?_
  refine r_iload_n C (dx dL_10 19 rfl) rfl ?_
  refine r_iconst (v := nI 2) C (dx dL_10 20 rfl) rfl ?_
  refine rn_iadd (a := i) (b := 2) C (dx dL_10 21 rfl) ?_
  refine r_sld C S (by omega) (by omega) (dx dL_10 22 rfl) ?_
  obtain ⟨τh2, ph2, ch2⟩ := y7_away (l := l) Mh1 yh1 ok (xs (i + 1)) (xs (i + 2))
  refine r_cv (as := [vi (xs (i + 1)), vi (xs (i + 2))]) (st := [_]) C X I_X7_away l_L_65 ch2 (by decide) (Nat.le_of_ble_eq_true rfl) ph2 ALall rfl rfl (Nat.le_of_ble_eq_true rfl) rfl (dx dL_10 23 rfl) ?_
  rintro _ h2 ⟨rfl, Mh2, lh2, yh2⟩ kh2
  have oh2 := oh1.lo lh2
  refine r_icmp_eq (tgt := 1762) C (dx dL_10 24 rfl) (by decide) (fun _ => ?_) (fun c3 => absurd (by first | rfl | exact (vl_tie byt _).1) c3)
  exact kk h2 ⟨_, _, _, _, _, _, _, _, _, oh2, hg, Mh2, yh2, byt, (ok_awayV ok _ _), okw⟩
def tL_11 : List (Nat × Instr × Nat) := [(688, .aload_n 1, 1), (689, .aload_n 0, 1), (690, .iload_n 3, 1), (691, .iconst 1, 1), (692, .iadd, 1), (693, .iaload, 1), (694, .aload_n 0, 1), (695, .iload_n 3, 1), (696, .iconst 2, 1), (697, .iadd, 1), (698, .iaload, 1), (699, .ifCond .eq 7, 3), (702, .iconst 1, 1), (703, .goto 4, 3), (706, .iconst 0, 1), (707, .invokevirtual 66, 3), (710, .aload_n 2, 1), (711, .aload_n 0, 1), (712, .iload_n 3, 1), (713, .iconst 1, 1), (714, .iadd, 1), (715, .iaload, 1), (716, .aload_n 0, 1), (717, .iload_n 3, 1), (718, .iconst 2, 1), (719, .iadd, 1), (720, .iaload, 1), (721, .ifCond .eq 7, 3), (724, .iconst 1, 1), (725, .goto 4, 3), (728, .iconst 0, 1), (729, .invokevirtual 70, 3), (732, .if_icmp .eq 1030, 3), (735, .iconst 0, 1), (736, .ireturn, 1)]
theorem dL_11 : dec_ok code tL_11 = true := by decide +kernel
set_option maxHeartbeats 4000000 in
theorem law_c11 {l : Launch} {G : Gt} {b L i : Nat} {xs : Nat → Int32} {h : Hp} (C : Cx G code 4 RL) (X : Rmx l G 2048 (AL P63 true true)) (S : SLw G b L xs) (hL : L ≤ 6) (hi : i + 6 ≤ L) (inv : Lv h) (kk : ∀ h', Lv h' → Rr G 1762 [(0, vt 9000), (1, vr 6 0), (2, vr 7 63), (3, vi (nI i))] [] h') : Rr G 688 [(0, vt 9000), (1, vr 6 0), (2, vr 7 63), (3, vi (nI i))] [] h := by
  obtain ⟨v, u, w, g, B, Bt, z, κ, τ, o, hg, M, y, byt, ok, okw⟩ := inv
  refine r_aload_n C (dx dL_11 0 rfl) rfl ?_
  refine r_aload_nT C (dx dL_11 1 rfl) rfl ?_
  refine r_iload_n C (dx dL_11 2 rfl) rfl ?_
  refine r_iconst (v := nI 1) C (dx dL_11 3 rfl) rfl ?_
  refine rn_iadd (a := i) (b := 1) C (dx dL_11 4 rfl) ?_
  refine r_sld C S (by omega) (by omega) (dx dL_11 5 rfl) ?_
  refine r_aload_nT C (dx dL_11 6 rfl) rfl ?_
  refine r_iload_n C (dx dL_11 7 rfl) rfl ?_
  refine r_iconst (v := nI 2) C (dx dL_11 8 rfl) rfl ?_
  refine rn_iadd (a := i) (b := 2) C (dx dL_11 9 rfl) ?_
  refine r_sld C S (by omega) (by omega) (dx dL_11 10 rfl) ?_
  refine r_if_eq (tgt := 706) C (dx dL_11 11 rfl) (by decide) (fun c1 => ?_) (fun c1 => ?_)
  ·
    refine r_iconst (v := nI 0) C (dx dL_11 14 rfl) rfl ?_
    refine r_cv (as := [vi (xs (i + 1)), vi (nI 0)]) (st := []) C X I_X6_cross l_L_66 (x_cross o hg (xs (i + 1)) false) (by decide) (Nat.le_of_ble_eq_true rfl) List.prefix_rfl (by rw [M.al]; exact ALall) rfl rfl (Nat.le_of_ble_eq_true rfl) rfl (dx dL_11 15 rfl) ?_
    rintro _ h2 ⟨rfl, ⟨uh2, oh2⟩, fh2⟩ kh2
    have Mh2 := M.fr9 fh2 kh2
    have yh2 := y.fr9 M fh2
    refine r_aload_n C (dx dL_11 16 rfl) rfl ?_
    refine r_aload_nT C (dx dL_11 17 rfl) rfl ?_
    refine r_iload_n C (dx dL_11 18 rfl) rfl ?_
    refine r_iconst (v := nI 1) C (dx dL_11 19 rfl) rfl ?_
    refine rn_iadd (a := i) (b := 1) C (dx dL_11 20 rfl) ?_
    refine r_sld C S (by omega) (by omega) (dx dL_11 21 rfl) ?_
    refine r_aload_nT C (dx dL_11 22 rfl) rfl ?_
    refine r_iload_n C (dx dL_11 23 rfl) rfl ?_
    refine r_iconst (v := nI 2) C (dx dL_11 24 rfl) rfl ?_
    refine rn_iadd (a := i) (b := 2) C (dx dL_11 25 rfl) ?_
    refine r_sld C S (by omega) (by omega) (dx dL_11 26 rfl) ?_
    refine r_if_eq (tgt := 728) C (dx dL_11 27 rfl) (by decide) (fun c3 => ?_) (fun c3 => ?_)
    ·
      refine r_iconst (v := nI 0) C (dx dL_11 30 rfl) rfl ?_
      obtain ⟨τh4, ph4, ch4⟩ := y7_cross (l := l) Mh2 yh2 ok (xs (i + 1)) false
      refine r_cv (as := [vi (xs (i + 1)), vi (nI 0)]) (st := [_]) C X I_X7_cross l_L_70 ch4 (by decide) (Nat.le_of_ble_eq_true rfl) ph4 ALall rfl rfl (Nat.le_of_ble_eq_true rfl) rfl (dx dL_11 31 rfl) ?_
      rintro _ h4 ⟨rfl, Mh4, lh4, yh4⟩ kh4
      have oh4 := oh2.lo lh4
      refine r_icmp_eq (tgt := 1762) C (dx dL_11 32 rfl) (by decide) (fun _ => ?_) (fun c5 => absurd (by first | rfl | exact (vl_tie byt _).1) c5)
      exact kk h4 ⟨_, _, _, _, _, _, _, _, _, oh4, hg, Mh4, yh4, byt, (ok_crossV ok _ _), okw⟩
    ·
      exact absurd c1 c3
  ·
    refine r_iconst (v := nI 1) C (dx dL_11 12 rfl) rfl ?_
    refine r_goto (tgt := 707) C (dx dL_11 13 rfl) (by decide) ?_
    refine r_cv (as := [vi (xs (i + 1)), vi (nI 1)]) (st := []) C X I_X6_cross l_L_66 (x_cross o hg (xs (i + 1)) true) (by decide) (Nat.le_of_ble_eq_true rfl) List.prefix_rfl (by rw [M.al]; exact ALall) rfl rfl (Nat.le_of_ble_eq_true rfl) rfl (dx dL_11 15 rfl) ?_
    rintro _ h6 ⟨rfl, ⟨uh6, oh6⟩, fh6⟩ kh6
    have Mh6 := M.fr9 fh6 kh6
    have yh6 := y.fr9 M fh6
    refine r_aload_n C (dx dL_11 16 rfl) rfl ?_
    refine r_aload_nT C (dx dL_11 17 rfl) rfl ?_
    refine r_iload_n C (dx dL_11 18 rfl) rfl ?_
    refine r_iconst (v := nI 1) C (dx dL_11 19 rfl) rfl ?_
    refine rn_iadd (a := i) (b := 1) C (dx dL_11 20 rfl) ?_
    refine r_sld C S (by omega) (by omega) (dx dL_11 21 rfl) ?_
    refine r_aload_nT C (dx dL_11 22 rfl) rfl ?_
    refine r_iload_n C (dx dL_11 23 rfl) rfl ?_
    refine r_iconst (v := nI 2) C (dx dL_11 24 rfl) rfl ?_
    refine rn_iadd (a := i) (b := 2) C (dx dL_11 25 rfl) ?_
    refine r_sld C S (by omega) (by omega) (dx dL_11 26 rfl) ?_
    refine r_if_eq (tgt := 728) C (dx dL_11 27 rfl) (by decide) (fun c7 => ?_) (fun c7 => ?_)
    ·
      exact absurd c7 c1
    ·
      refine r_iconst (v := nI 1) C (dx dL_11 28 rfl) rfl ?_
      refine r_goto (tgt := 729) C (dx dL_11 29 rfl) (by decide) ?_
      obtain ⟨τh8, ph8, ch8⟩ := y7_cross (l := l) Mh6 yh6 ok (xs (i + 1)) true
      refine r_cv (as := [vi (xs (i + 1)), vi (nI 1)]) (st := [_]) C X I_X7_cross l_L_70 ch8 (by decide) (Nat.le_of_ble_eq_true rfl) ph8 ALall rfl rfl (Nat.le_of_ble_eq_true rfl) rfl (dx dL_11 31 rfl) ?_
      rintro _ h8 ⟨rfl, Mh8, lh8, yh8⟩ kh8
      have oh8 := oh6.lo lh8
      refine r_icmp_eq (tgt := 1762) C (dx dL_11 32 rfl) (by decide) (fun _ => ?_) (fun c9 => absurd (by first | rfl | exact (vl_tie byt _).1) c9)
      exact kk h8 ⟨_, _, _, _, _, _, _, _, _, oh8, hg, Mh8, yh8, byt, (ok_crossV ok _ _), okw⟩
def tL_12 : List (Nat × Instr × Nat) := [(737, .aload_n 1, 1), (738, .aload_n 0, 1), (739, .iload_n 3, 1), (740, .iconst 1, 1), (741, .iadd, 1), (742, .iaload, 1), (743, .aload_n 0, 1), (744, .iload_n 3, 1), (745, .iconst 2, 1), (746, .iadd, 1), (747, .iaload, 1), (748, .aload_n 0, 1), (749, .iload_n 3, 1), (750, .iconst 3, 1), (751, .iadd, 1), (752, .iaload, 1), (753, .ifCond .eq 7, 3), (756, .iconst 1, 1), (757, .goto 4, 3), (760, .iconst 0, 1), (761, .invokevirtual 71, 3), (764, .aload_n 2, 1), (765, .aload_n 0, 1), (766, .iload_n 3, 1), (767, .iconst 1, 1), (768, .iadd, 1), (769, .iaload, 1), (770, .aload_n 0, 1), (771, .iload_n 3, 1), (772, .iconst 2, 1), (773, .iadd, 1), (774, .iaload, 1), (775, .aload_n 0, 1), (776, .iload_n 3, 1), (777, .iconst 3, 1), (778, .iadd, 1), (779, .iaload, 1), (780, .ifCond .eq 7, 3), (783, .iconst 1, 1), (784, .goto 4, 3), (787, .iconst 0, 1), (788, .invokevirtual 75, 3), (791, .if_icmp .eq 971, 3), (794, .iconst 0, 1), (795, .ireturn, 1)]
theorem dL_12 : dec_ok code tL_12 = true := by decide +kernel
set_option maxHeartbeats 4000000 in
theorem law_c12 {l : Launch} {G : Gt} {b L i : Nat} {xs : Nat → Int32} {h : Hp} (C : Cx G code 4 RL) (X : Rmx l G 2048 (AL P63 true true)) (S : SLw G b L xs) (hL : L ≤ 6) (hi : i + 6 ≤ L) (inv : Lv h) (kk : ∀ h', Lv h' → Rr G 1762 [(0, vt 9000), (1, vr 6 0), (2, vr 7 63), (3, vi (nI i))] [] h') : Rr G 737 [(0, vt 9000), (1, vr 6 0), (2, vr 7 63), (3, vi (nI i))] [] h := by
  obtain ⟨v, u, w, g, B, Bt, z, κ, τ, o, hg, M, y, byt, ok, okw⟩ := inv
  refine r_aload_n C (dx dL_12 0 rfl) rfl ?_
  refine r_aload_nT C (dx dL_12 1 rfl) rfl ?_
  refine r_iload_n C (dx dL_12 2 rfl) rfl ?_
  refine r_iconst (v := nI 1) C (dx dL_12 3 rfl) rfl ?_
  refine rn_iadd (a := i) (b := 1) C (dx dL_12 4 rfl) ?_
  refine r_sld C S (by omega) (by omega) (dx dL_12 5 rfl) ?_
  refine r_aload_nT C (dx dL_12 6 rfl) rfl ?_
  refine r_iload_n C (dx dL_12 7 rfl) rfl ?_
  refine r_iconst (v := nI 2) C (dx dL_12 8 rfl) rfl ?_
  refine rn_iadd (a := i) (b := 2) C (dx dL_12 9 rfl) ?_
  refine r_sld C S (by omega) (by omega) (dx dL_12 10 rfl) ?_
  refine r_aload_nT C (dx dL_12 11 rfl) rfl ?_
  refine r_iload_n C (dx dL_12 12 rfl) rfl ?_
  refine r_iconst (v := nI 3) C (dx dL_12 13 rfl) rfl ?_
  refine rn_iadd (a := i) (b := 3) C (dx dL_12 14 rfl) ?_
  refine r_sld C S (by omega) (by omega) (dx dL_12 15 rfl) ?_
  refine r_if_eq (tgt := 760) C (dx dL_12 16 rfl) (by decide) (fun c1 => ?_) (fun c1 => ?_)
  ·
    refine r_iconst (v := nI 0) C (dx dL_12 19 rfl) rfl ?_
    refine r_cv (as := [vi (xs (i + 1)), vi (xs (i + 2)), vi (nI 0)]) (st := []) C X I_X6_give l_L_71 (x_give o hg (xs (i + 1)) (xs (i + 2)) false) (by decide) (Nat.le_of_ble_eq_true rfl) List.prefix_rfl (by rw [M.al]; exact ALall) rfl rfl (Nat.le_of_ble_eq_true rfl) rfl (dx dL_12 20 rfl) ?_
    rintro _ h2 ⟨rfl, ⟨uh2, oh2⟩, fh2⟩ kh2
    have Mh2 := M.fr9 fh2 kh2
    have yh2 := y.fr9 M fh2
    refine r_aload_n C (dx dL_12 21 rfl) rfl ?_
    refine r_aload_nT C (dx dL_12 22 rfl) rfl ?_
    refine r_iload_n C (dx dL_12 23 rfl) rfl ?_
    refine r_iconst (v := nI 1) C (dx dL_12 24 rfl) rfl ?_
    refine rn_iadd (a := i) (b := 1) C (dx dL_12 25 rfl) ?_
    refine r_sld C S (by omega) (by omega) (dx dL_12 26 rfl) ?_
    refine r_aload_nT C (dx dL_12 27 rfl) rfl ?_
    refine r_iload_n C (dx dL_12 28 rfl) rfl ?_
    refine r_iconst (v := nI 2) C (dx dL_12 29 rfl) rfl ?_
    refine rn_iadd (a := i) (b := 2) C (dx dL_12 30 rfl) ?_
    refine r_sld C S (by omega) (by omega) (dx dL_12 31 rfl) ?_
    refine r_aload_nT C (dx dL_12 32 rfl) rfl ?_
    refine r_iload_n C (dx dL_12 33 rfl) rfl ?_
    refine r_iconst (v := nI 3) C (dx dL_12 34 rfl) rfl ?_
    refine rn_iadd (a := i) (b := 3) C (dx dL_12 35 rfl) ?_
    refine r_sld C S (by omega) (by omega) (dx dL_12 36 rfl) ?_
    refine r_if_eq (tgt := 787) C (dx dL_12 37 rfl) (by decide) (fun c3 => ?_) (fun c3 => ?_)
    ·
      refine r_iconst (v := nI 0) C (dx dL_12 40 rfl) rfl ?_
      obtain ⟨τh4, ph4, ch4⟩ := y7_give (l := l) Mh2 yh2 ok (xs (i + 1)) (xs (i + 2)) false
      refine r_cv (as := [vi (xs (i + 1)), vi (xs (i + 2)), vi (nI 0)]) (st := [_]) C X I_X7_give l_L_75 ch4 (by decide) (Nat.le_of_ble_eq_true rfl) ph4 ALall rfl rfl (Nat.le_of_ble_eq_true rfl) rfl (dx dL_12 41 rfl) ?_
      rintro _ h4 ⟨rfl, Mh4, lh4, yh4⟩ kh4
      have oh4 := oh2.lo lh4
      refine r_icmp_eq (tgt := 1762) C (dx dL_12 42 rfl) (by decide) (fun _ => ?_) (fun c5 => absurd (by first | rfl | exact (vl_tie byt _).1) c5)
      exact kk h4 ⟨_, _, _, _, _, _, _, _, _, oh4, hg, Mh4, yh4, byt, (ok_giveV ok _ _ _), okw⟩
    ·
      exact absurd c1 c3
  ·
    refine r_iconst (v := nI 1) C (dx dL_12 17 rfl) rfl ?_
    refine r_goto (tgt := 761) C (dx dL_12 18 rfl) (by decide) ?_
    refine r_cv (as := [vi (xs (i + 1)), vi (xs (i + 2)), vi (nI 1)]) (st := []) C X I_X6_give l_L_71 (x_give o hg (xs (i + 1)) (xs (i + 2)) true) (by decide) (Nat.le_of_ble_eq_true rfl) List.prefix_rfl (by rw [M.al]; exact ALall) rfl rfl (Nat.le_of_ble_eq_true rfl) rfl (dx dL_12 20 rfl) ?_
    rintro _ h6 ⟨rfl, ⟨uh6, oh6⟩, fh6⟩ kh6
    have Mh6 := M.fr9 fh6 kh6
    have yh6 := y.fr9 M fh6
    refine r_aload_n C (dx dL_12 21 rfl) rfl ?_
    refine r_aload_nT C (dx dL_12 22 rfl) rfl ?_
    refine r_iload_n C (dx dL_12 23 rfl) rfl ?_
    refine r_iconst (v := nI 1) C (dx dL_12 24 rfl) rfl ?_
    refine rn_iadd (a := i) (b := 1) C (dx dL_12 25 rfl) ?_
    refine r_sld C S (by omega) (by omega) (dx dL_12 26 rfl) ?_
    refine r_aload_nT C (dx dL_12 27 rfl) rfl ?_
    refine r_iload_n C (dx dL_12 28 rfl) rfl ?_
    refine r_iconst (v := nI 2) C (dx dL_12 29 rfl) rfl ?_
    refine rn_iadd (a := i) (b := 2) C (dx dL_12 30 rfl) ?_
    refine r_sld C S (by omega) (by omega) (dx dL_12 31 rfl) ?_
    refine r_aload_nT C (dx dL_12 32 rfl) rfl ?_
    refine r_iload_n C (dx dL_12 33 rfl) rfl ?_
    refine r_iconst (v := nI 3) C (dx dL_12 34 rfl) rfl ?_
    refine rn_iadd (a := i) (b := 3) C (dx dL_12 35 rfl) ?_
    refine r_sld C S (by omega) (by omega) (dx dL_12 36 rfl) ?_
    refine r_if_eq (tgt := 787) C (dx dL_12 37 rfl) (by decide) (fun c7 => ?_) (fun c7 => ?_)
    ·
      exact absurd c7 c1
    ·
      refine r_iconst (v := nI 1) C (dx dL_12 38 rfl) rfl ?_
      refine r_goto (tgt := 788) C (dx dL_12 39 rfl) (by decide) ?_
      obtain ⟨τh8, ph8, ch8⟩ := y7_give (l := l) Mh6 yh6 ok (xs (i + 1)) (xs (i + 2)) true
      refine r_cv (as := [vi (xs (i + 1)), vi (xs (i + 2)), vi (nI 1)]) (st := [_]) C X I_X7_give l_L_75 ch8 (by decide) (Nat.le_of_ble_eq_true rfl) ph8 ALall rfl rfl (Nat.le_of_ble_eq_true rfl) rfl (dx dL_12 41 rfl) ?_
      rintro _ h8 ⟨rfl, Mh8, lh8, yh8⟩ kh8
      have oh8 := oh6.lo lh8
      refine r_icmp_eq (tgt := 1762) C (dx dL_12 42 rfl) (by decide) (fun _ => ?_) (fun c9 => absurd (by first | rfl | exact (vl_tie byt _).1) c9)
      exact kk h8 ⟨_, _, _, _, _, _, _, _, _, oh8, hg, Mh8, yh8, byt, (ok_giveV ok _ _ _), okw⟩
def tL_13 : List (Nat × Instr × Nat) := [(796, .aload_n 1, 1), (797, .aload_n 0, 1), (798, .iload_n 3, 1), (799, .iconst 1, 1), (800, .iadd, 1), (801, .iaload, 1), (802, .aload_n 0, 1), (803, .iload_n 3, 1), (804, .iconst 2, 1), (805, .iadd, 1), (806, .iaload, 1), (807, .invokevirtual 76, 3), (810, .aload_n 2, 1), (811, .aload_n 0, 1), (812, .iload_n 3, 1), (813, .iconst 1, 1), (814, .iadd, 1), (815, .iaload, 1), (816, .aload_n 0, 1), (817, .iload_n 3, 1), (818, .iconst 2, 1), (819, .iadd, 1), (820, .iaload, 1), (821, .invokevirtual 79, 3), (824, .if_icmp .eq 938, 3), (827, .iconst 0, 1), (828, .ireturn, 1)]
theorem dL_13 : dec_ok code tL_13 = true := by decide +kernel
set_option maxHeartbeats 4000000 in
theorem law_c13 {l : Launch} {G : Gt} {b L i : Nat} {xs : Nat → Int32} {h : Hp} (C : Cx G code 4 RL) (X : Rmx l G 2048 (AL P63 true true)) (S : SLw G b L xs) (hL : L ≤ 6) (hi : i + 6 ≤ L) (inv : Lv h) (kk : ∀ h', Lv h' → Rr G 1762 [(0, vt 9000), (1, vr 6 0), (2, vr 7 63), (3, vi (nI i))] [] h') : Rr G 796 [(0, vt 9000), (1, vr 6 0), (2, vr 7 63), (3, vi (nI i))] [] h := by
  obtain ⟨v, u, w, g, B, Bt, z, κ, τ, o, hg, M, y, byt, ok, okw⟩ := inv
  refine r_aload_n C (dx dL_13 0 rfl) rfl ?_
  refine r_aload_nT C (dx dL_13 1 rfl) rfl ?_
  refine r_iload_n C (dx dL_13 2 rfl) rfl ?_
  refine r_iconst (v := nI 1) C (dx dL_13 3 rfl) rfl ?_
  refine rn_iadd (a := i) (b := 1) C (dx dL_13 4 rfl) ?_
  refine r_sld C S (by omega) (by omega) (dx dL_13 5 rfl) ?_
  refine r_aload_nT C (dx dL_13 6 rfl) rfl ?_
  refine r_iload_n C (dx dL_13 7 rfl) rfl ?_
  refine r_iconst (v := nI 2) C (dx dL_13 8 rfl) rfl ?_
  refine rn_iadd (a := i) (b := 2) C (dx dL_13 9 rfl) ?_
  refine r_sld C S (by omega) (by omega) (dx dL_13 10 rfl) ?_
  refine r_cv (as := [vi (xs (i + 1)), vi (xs (i + 2))]) (st := []) C X I_X6_feed l_L_76 (x_feed o hg (xs (i + 1)) (xs (i + 2))) (by decide) (Nat.le_of_ble_eq_true rfl) List.prefix_rfl (by rw [M.al]; exact ALall) rfl rfl (Nat.le_of_ble_eq_true rfl) rfl (dx dL_13 11 rfl) ?_
  rintro _ h1 ⟨rfl, ⟨uh1, oh1⟩, fh1⟩ kh1
  have Mh1 := M.fr9 fh1 kh1
  have yh1 := y.fr9 M fh1
  refine r_aload_n C (dx dL_13 12 rfl) rfl ?_
  refine r_aload_nT C (dx dL_13 13 rfl) rfl ?_
  refine r_iload_n C (dx dL_13 14 rfl) rfl ?_
  refine r_iconst (v := nI 1) C (dx dL_13 15 rfl) rfl ?_
  refine rn_iadd (a := i) (b := 1) C (dx dL_13 16 rfl) ?_
  refine r_sld C S (by omega) (by omega) (dx dL_13 17 rfl) ?_
  refine r_aload_nT C (dx dL_13 18 rfl) rfl ?_
  refine r_iload_n C (dx dL_13 19 rfl) rfl ?_
  refine r_iconst (v := nI 2) C (dx dL_13 20 rfl) rfl ?_
  refine rn_iadd (a := i) (b := 2) C (dx dL_13 21 rfl) ?_
  refine r_sld C S (by omega) (by omega) (dx dL_13 22 rfl) ?_
  obtain ⟨τh2, ph2, ch2⟩ := y7_feed (l := l) Mh1 yh1 ok (xs (i + 1)) (xs (i + 2))
  refine r_cv (as := [vi (xs (i + 1)), vi (xs (i + 2))]) (st := [_]) C X I_X7_feed l_L_79 ch2 (by decide) (Nat.le_of_ble_eq_true rfl) ph2 ALall rfl rfl (Nat.le_of_ble_eq_true rfl) rfl (dx dL_13 23 rfl) ?_
  rintro _ h2 ⟨rfl, Mh2, lh2, yh2⟩ kh2
  have oh2 := oh1.lo lh2
  refine r_icmp_eq (tgt := 1762) C (dx dL_13 24 rfl) (by decide) (fun _ => ?_) (fun c3 => absurd (by first | rfl | exact (vl_tie byt _).1) c3)
  exact kk h2 ⟨_, _, _, _, _, _, _, _, _, oh2, hg, Mh2, yh2, (feed_tie _ _ byt), ok, okw⟩
def tL_14 : List (Nat × Instr × Nat) := [(829, .aload_n 1, 1), (830, .invokevirtual 80, 3), (833, .aload_n 2, 1), (834, .invokevirtual 83, 3), (837, .if_icmp .eq 925, 3), (840, .iconst 0, 1), (841, .ireturn, 1)]
theorem dL_14 : dec_ok code tL_14 = true := by decide +kernel
set_option maxHeartbeats 4000000 in
theorem law_c14 {l : Launch} {G : Gt} {b L i : Nat} {xs : Nat → Int32} {h : Hp} (C : Cx G code 4 RL) (X : Rmx l G 2048 (AL P63 true true)) (S : SLw G b L xs) (hL : L ≤ 6) (hi : i + 6 ≤ L) (inv : Lv h) (kk : ∀ h', Lv h' → Rr G 1762 [(0, vt 9000), (1, vr 6 0), (2, vr 7 63), (3, vi (nI i))] [] h') : Rr G 829 [(0, vt 9000), (1, vr 6 0), (2, vr 7 63), (3, vi (nI i))] [] h := by
  obtain ⟨v, u, w, g, B, Bt, z, κ, τ, o, hg, M, y, byt, ok, okw⟩ := inv
  refine r_aload_n C (dx dL_14 0 rfl) rfl ?_
  refine r_cv (as := []) (st := []) C X I_X6_wipe l_L_80 (x_wipe o hg ) (by decide) (Nat.le_of_ble_eq_true rfl) List.prefix_rfl (by rw [M.al]; exact ALall) rfl rfl (Nat.le_of_ble_eq_true rfl) rfl (dx dL_14 1 rfl) ?_
  rintro _ h1 ⟨rfl, ⟨uh1, oh1⟩, fh1⟩ kh1
  have Mh1 := M.fr9 fh1 kh1
  have yh1 := y.fr9 M fh1
  refine r_aload_n C (dx dL_14 2 rfl) rfl ?_
  obtain ⟨τh2, ph2, ch2⟩ := y7_wipe (l := l) Mh1 yh1 ok 
  refine r_cv (as := []) (st := [_]) C X I_X7_wipe l_L_83 ch2 (by decide) (Nat.le_of_ble_eq_true rfl) ph2 ALall rfl rfl (Nat.le_of_ble_eq_true rfl) rfl (dx dL_14 3 rfl) ?_
  rintro _ h2 ⟨rfl, Mh2, lh2, yh2⟩ kh2
  have oh2 := oh1.lo lh2
  refine r_icmp_eq (tgt := 1762) C (dx dL_14 4 rfl) (by decide) (fun _ => ?_) (fun c3 => absurd (by first | rfl | exact (vl_tie byt _).1) c3)
  exact kk h2 ⟨_, _, _, _, _, _, _, _, _, oh2, hg, Mh2, yh2, (byt.mono (Nat.zero_le _)), ok, okw⟩
def tL_15 : List (Nat × Instr × Nat) := [(842, .aload_n 1, 1), (843, .invokevirtual 84, 3), (846, .aload_n 2, 1), (847, .invokevirtual 87, 3), (850, .if_icmp .eq 912, 3), (853, .iconst 0, 1), (854, .ireturn, 1)]
theorem dL_15 : dec_ok code tL_15 = true := by decide +kernel
set_option maxHeartbeats 4000000 in
theorem law_c15 {l : Launch} {G : Gt} {b L i : Nat} {xs : Nat → Int32} {h : Hp} (C : Cx G code 4 RL) (X : Rmx l G 2048 (AL P63 true true)) (S : SLw G b L xs) (hL : L ≤ 6) (hi : i + 6 ≤ L) (inv : Lv h) (kk : ∀ h', Lv h' → Rr G 1762 [(0, vt 9000), (1, vr 6 0), (2, vr 7 63), (3, vi (nI i))] [] h') : Rr G 842 [(0, vt 9000), (1, vr 6 0), (2, vr 7 63), (3, vi (nI i))] [] h := by
  obtain ⟨v, u, w, g, B, Bt, z, κ, τ, o, hg, M, y, byt, ok, okw⟩ := inv
  refine r_aload_n C (dx dL_15 0 rfl) rfl ?_
  refine r_cv (as := []) (st := []) C X I_X6_village l_L_84 (x_village o hg ) (by decide) (Nat.le_of_ble_eq_true rfl) List.prefix_rfl (by rw [M.al]; exact ALall) rfl rfl (Nat.le_of_ble_eq_true rfl) rfl (dx dL_15 1 rfl) ?_
  rintro _ h1 ⟨rfl, ⟨uh1, oh1⟩, fh1⟩ kh1
  have Mh1 := M.fr9 fh1 kh1
  have yh1 := y.fr9 M fh1
  refine r_aload_n C (dx dL_15 2 rfl) rfl ?_
  obtain ⟨τh2, ph2, ch2⟩ := y7_village (l := l) Mh1 yh1 ok 
  refine r_cv (as := []) (st := [_]) C X I_X7_village l_L_87 ch2 (by decide) (Nat.le_of_ble_eq_true rfl) ph2 ALall rfl rfl (Nat.le_of_ble_eq_true rfl) rfl (dx dL_15 3 rfl) ?_
  rintro _ h2 ⟨rfl, Mh2, lh2, yh2⟩ kh2
  have oh2 := oh1.lo lh2
  refine r_icmp_eq (tgt := 1762) C (dx dL_15 4 rfl) (by decide) (fun _ => ?_) (fun c3 => absurd (by first | rfl | exact (vl_tie byt _).1) c3)
  have ev := (vl_tie byt v).2
  rw [← ev] at Mh2
  exact kk h2 ⟨_, _, _, _, _, _, _, _, _, oh2, hg, Mh2, yh2, (byt.mono (Nat.zero_le _)), (ok_vlV ok), okw⟩
def tL_16 : List (Nat × Instr × Nat) := [(855, .aload_n 1, 1), (856, .aload_n 0, 1), (857, .iload_n 3, 1), (858, .iconst 1, 1), (859, .iadd, 1), (860, .iaload, 1), (861, .aload_n 0, 1), (862, .iload_n 3, 1), (863, .iconst 2, 1), (864, .iadd, 1), (865, .iaload, 1), (866, .invokevirtual 88, 3), (869, .aload_n 2, 1), (870, .aload_n 0, 1), (871, .iload_n 3, 1), (872, .iconst 1, 1), (873, .iadd, 1), (874, .iaload, 1), (875, .aload_n 0, 1), (876, .iload_n 3, 1), (877, .iconst 2, 1), (878, .iadd, 1), (879, .iaload, 1), (880, .invokevirtual 91, 3), (883, .if_icmp .eq 879, 3), (886, .iconst 0, 1), (887, .ireturn, 1)]
theorem dL_16 : dec_ok code tL_16 = true := by decide +kernel
set_option maxHeartbeats 4000000 in
theorem law_c16 {l : Launch} {G : Gt} {b L i : Nat} {xs : Nat → Int32} {h : Hp} (C : Cx G code 4 RL) (X : Rmx l G 2048 (AL P63 true true)) (S : SLw G b L xs) (hL : L ≤ 6) (hi : i + 6 ≤ L) (inv : Lv h) (kk : ∀ h', Lv h' → Rr G 1762 [(0, vt 9000), (1, vr 6 0), (2, vr 7 63), (3, vi (nI i))] [] h') : Rr G 855 [(0, vt 9000), (1, vr 6 0), (2, vr 7 63), (3, vi (nI i))] [] h := by
  obtain ⟨v, u, w, g, B, Bt, z, κ, τ, o, hg, M, y, byt, ok, okw⟩ := inv
  refine r_aload_n C (dx dL_16 0 rfl) rfl ?_
  refine r_aload_nT C (dx dL_16 1 rfl) rfl ?_
  refine r_iload_n C (dx dL_16 2 rfl) rfl ?_
  refine r_iconst (v := nI 1) C (dx dL_16 3 rfl) rfl ?_
  refine rn_iadd (a := i) (b := 1) C (dx dL_16 4 rfl) ?_
  refine r_sld C S (by omega) (by omega) (dx dL_16 5 rfl) ?_
  refine r_aload_nT C (dx dL_16 6 rfl) rfl ?_
  refine r_iload_n C (dx dL_16 7 rfl) rfl ?_
  refine r_iconst (v := nI 2) C (dx dL_16 8 rfl) rfl ?_
  refine rn_iadd (a := i) (b := 2) C (dx dL_16 9 rfl) ?_
  refine r_sld C S (by omega) (by omega) (dx dL_16 10 rfl) ?_
  refine r_cv (as := [vi (xs (i + 1)), vi (xs (i + 2))]) (st := []) C X I_X6_partOf l_L_88 (x2_partOf o hg (xs (i + 1)) (xs (i + 2))) (by decide) (Nat.le_of_ble_eq_true rfl) List.prefix_rfl (by rw [M.al]; exact ALall) rfl rfl (Nat.le_of_ble_eq_true rfl) rfl (dx dL_16 11 rfl) ?_
  rintro _ h1 ⟨rfl, ⟨uh1, oh1⟩, fh1⟩ kh1
  have Mh1 := M.fr9 fh1 kh1
  have yh1 := y.fr9 M fh1
  refine r_aload_n C (dx dL_16 12 rfl) rfl ?_
  refine r_aload_nT C (dx dL_16 13 rfl) rfl ?_
  refine r_iload_n C (dx dL_16 14 rfl) rfl ?_
  refine r_iconst (v := nI 1) C (dx dL_16 15 rfl) rfl ?_
  refine rn_iadd (a := i) (b := 1) C (dx dL_16 16 rfl) ?_
  refine r_sld C S (by omega) (by omega) (dx dL_16 17 rfl) ?_
  refine r_aload_nT C (dx dL_16 18 rfl) rfl ?_
  refine r_iload_n C (dx dL_16 19 rfl) rfl ?_
  refine r_iconst (v := nI 2) C (dx dL_16 20 rfl) rfl ?_
  refine rn_iadd (a := i) (b := 2) C (dx dL_16 21 rfl) ?_
  refine r_sld C S (by omega) (by omega) (dx dL_16 22 rfl) ?_
  obtain ⟨τh2, ph2, ch2⟩ := z7_partOf (l := l) Mh1 yh1 ok (xs (i + 1)) (xs (i + 2))
  refine r_cv (as := [vi (xs (i + 1)), vi (xs (i + 2))]) (st := [_]) C X I_X7_partOf l_L_91 ch2 (by decide) (Nat.le_of_ble_eq_true rfl) ph2 ALall rfl rfl (Nat.le_of_ble_eq_true rfl) rfl (dx dL_16 23 rfl) ?_
  rintro _ h2 ⟨rfl, Mh2, lh2, yh2⟩ kh2
  have oh2 := oh1.lo lh2
  refine r_icmp_eq (tgt := 1762) C (dx dL_16 24 rfl) (by decide) (fun _ => ?_) (fun c3 => absurd (by first | rfl | exact (vl_tie byt _).1) c3)
  exact kk h2 ⟨_, _, _, _, _, _, _, _, _, oh2, hg, Mh2, yh2, byt, ok, okw⟩
def tL_17 : List (Nat × Instr × Nat) := [(888, .aload_n 1, 1), (889, .aload_n 0, 1), (890, .iload_n 3, 1), (891, .iconst 1, 1), (892, .iadd, 1), (893, .iaload, 1), (894, .aload_n 0, 1), (895, .iload_n 3, 1), (896, .iconst 2, 1), (897, .iadd, 1), (898, .iaload, 1), (899, .invokevirtual 92, 3), (902, .aload_n 2, 1), (903, .aload_n 0, 1), (904, .iload_n 3, 1), (905, .iconst 1, 1), (906, .iadd, 1), (907, .iaload, 1), (908, .aload_n 0, 1), (909, .iload_n 3, 1), (910, .iconst 2, 1), (911, .iadd, 1), (912, .iaload, 1), (913, .invokevirtual 95, 3), (916, .if_icmp .eq 846, 3), (919, .iconst 0, 1), (920, .ireturn, 1)]
theorem dL_17 : dec_ok code tL_17 = true := by decide +kernel
set_option maxHeartbeats 4000000 in
theorem law_c17 {l : Launch} {G : Gt} {b L i : Nat} {xs : Nat → Int32} {h : Hp} (C : Cx G code 4 RL) (X : Rmx l G 2048 (AL P63 true true)) (S : SLw G b L xs) (hL : L ≤ 6) (hi : i + 6 ≤ L) (inv : Lv h) (kk : ∀ h', Lv h' → Rr G 1762 [(0, vt 9000), (1, vr 6 0), (2, vr 7 63), (3, vi (nI i))] [] h') : Rr G 888 [(0, vt 9000), (1, vr 6 0), (2, vr 7 63), (3, vi (nI i))] [] h := by
  obtain ⟨v, u, w, g, B, Bt, z, κ, τ, o, hg, M, y, byt, ok, okw⟩ := inv
  refine r_aload_n C (dx dL_17 0 rfl) rfl ?_
  refine r_aload_nT C (dx dL_17 1 rfl) rfl ?_
  refine r_iload_n C (dx dL_17 2 rfl) rfl ?_
  refine r_iconst (v := nI 1) C (dx dL_17 3 rfl) rfl ?_
  refine rn_iadd (a := i) (b := 1) C (dx dL_17 4 rfl) ?_
  refine r_sld C S (by omega) (by omega) (dx dL_17 5 rfl) ?_
  refine r_aload_nT C (dx dL_17 6 rfl) rfl ?_
  refine r_iload_n C (dx dL_17 7 rfl) rfl ?_
  refine r_iconst (v := nI 2) C (dx dL_17 8 rfl) rfl ?_
  refine rn_iadd (a := i) (b := 2) C (dx dL_17 9 rfl) ?_
  refine r_sld C S (by omega) (by omega) (dx dL_17 10 rfl) ?_
  refine r_cv (as := [vi (xs (i + 1)), vi (xs (i + 2))]) (st := []) C X I_X6_machineOf l_L_92 (x2_machineOf o hg (xs (i + 1)) (xs (i + 2))) (by decide) (Nat.le_of_ble_eq_true rfl) List.prefix_rfl (by rw [M.al]; exact ALall) rfl rfl (Nat.le_of_ble_eq_true rfl) rfl (dx dL_17 11 rfl) ?_
  rintro _ h1 ⟨rfl, ⟨uh1, oh1⟩, fh1⟩ kh1
  have Mh1 := M.fr9 fh1 kh1
  have yh1 := y.fr9 M fh1
  refine r_aload_n C (dx dL_17 12 rfl) rfl ?_
  refine r_aload_nT C (dx dL_17 13 rfl) rfl ?_
  refine r_iload_n C (dx dL_17 14 rfl) rfl ?_
  refine r_iconst (v := nI 1) C (dx dL_17 15 rfl) rfl ?_
  refine rn_iadd (a := i) (b := 1) C (dx dL_17 16 rfl) ?_
  refine r_sld C S (by omega) (by omega) (dx dL_17 17 rfl) ?_
  refine r_aload_nT C (dx dL_17 18 rfl) rfl ?_
  refine r_iload_n C (dx dL_17 19 rfl) rfl ?_
  refine r_iconst (v := nI 2) C (dx dL_17 20 rfl) rfl ?_
  refine rn_iadd (a := i) (b := 2) C (dx dL_17 21 rfl) ?_
  refine r_sld C S (by omega) (by omega) (dx dL_17 22 rfl) ?_
  obtain ⟨τh2, ph2, ch2⟩ := z7_machineOf (l := l) Mh1 yh1 ok (xs (i + 1)) (xs (i + 2))
  refine r_cv (as := [vi (xs (i + 1)), vi (xs (i + 2))]) (st := [_]) C X I_X7_machineOf l_L_95 ch2 (by decide) (Nat.le_of_ble_eq_true rfl) ph2 ALall rfl rfl (Nat.le_of_ble_eq_true rfl) rfl (dx dL_17 23 rfl) ?_
  rintro _ h2 ⟨rfl, Mh2, lh2, yh2⟩ kh2
  have oh2 := oh1.lo lh2
  refine r_icmp_eq (tgt := 1762) C (dx dL_17 24 rfl) (by decide) (fun _ => ?_) (fun c3 => absurd (by first | rfl | exact (vl_tie byt _).1) c3)
  exact kk h2 ⟨_, _, _, _, _, _, _, _, _, oh2, hg, Mh2, yh2, byt, ok, okw⟩
def tL_18 : List (Nat × Instr × Nat) := [(921, .aload_n 1, 1), (922, .aload_n 0, 1), (923, .iload_n 3, 1), (924, .iconst 1, 1), (925, .iadd, 1), (926, .iaload, 1), (927, .aload_n 0, 1), (928, .iload_n 3, 1), (929, .iconst 2, 1), (930, .iadd, 1), (931, .iaload, 1), (932, .invokevirtual 96, 3), (935, .aload_n 2, 1), (936, .aload_n 0, 1), (937, .iload_n 3, 1), (938, .iconst 1, 1), (939, .iadd, 1), (940, .iaload, 1), (941, .aload_n 0, 1), (942, .iload_n 3, 1), (943, .iconst 2, 1), (944, .iadd, 1), (945, .iaload, 1), (946, .invokevirtual 99, 3), (949, .if_icmp .eq 813, 3), (952, .iconst 0, 1), (953, .ireturn, 1)]
theorem dL_18 : dec_ok code tL_18 = true := by decide +kernel
set_option maxHeartbeats 4000000 in
theorem law_c18 {l : Launch} {G : Gt} {b L i : Nat} {xs : Nat → Int32} {h : Hp} (C : Cx G code 4 RL) (X : Rmx l G 2048 (AL P63 true true)) (S : SLw G b L xs) (hL : L ≤ 6) (hi : i + 6 ≤ L) (inv : Lv h) (kk : ∀ h', Lv h' → Rr G 1762 [(0, vt 9000), (1, vr 6 0), (2, vr 7 63), (3, vi (nI i))] [] h') : Rr G 921 [(0, vt 9000), (1, vr 6 0), (2, vr 7 63), (3, vi (nI i))] [] h := by
  obtain ⟨v, u, w, g, B, Bt, z, κ, τ, o, hg, M, y, byt, ok, okw⟩ := inv
  refine r_aload_n C (dx dL_18 0 rfl) rfl ?_
  refine r_aload_nT C (dx dL_18 1 rfl) rfl ?_
  refine r_iload_n C (dx dL_18 2 rfl) rfl ?_
  refine r_iconst (v := nI 1) C (dx dL_18 3 rfl) rfl ?_
  refine rn_iadd (a := i) (b := 1) C (dx dL_18 4 rfl) ?_
  refine r_sld C S (by omega) (by omega) (dx dL_18 5 rfl) ?_
  refine r_aload_nT C (dx dL_18 6 rfl) rfl ?_
  refine r_iload_n C (dx dL_18 7 rfl) rfl ?_
  refine r_iconst (v := nI 2) C (dx dL_18 8 rfl) rfl ?_
  refine rn_iadd (a := i) (b := 2) C (dx dL_18 9 rfl) ?_
  refine r_sld C S (by omega) (by omega) (dx dL_18 10 rfl) ?_
  refine r_cv (as := [vi (xs (i + 1)), vi (xs (i + 2))]) (st := []) C X I_X6_oneOf l_L_96 (x2_oneOf o hg (xs (i + 1)) (xs (i + 2))) (by decide) (Nat.le_of_ble_eq_true rfl) List.prefix_rfl (by rw [M.al]; exact ALall) rfl rfl (Nat.le_of_ble_eq_true rfl) rfl (dx dL_18 11 rfl) ?_
  rintro _ h1 ⟨rfl, ⟨uh1, oh1⟩, fh1⟩ kh1
  have Mh1 := M.fr9 fh1 kh1
  have yh1 := y.fr9 M fh1
  refine r_aload_n C (dx dL_18 12 rfl) rfl ?_
  refine r_aload_nT C (dx dL_18 13 rfl) rfl ?_
  refine r_iload_n C (dx dL_18 14 rfl) rfl ?_
  refine r_iconst (v := nI 1) C (dx dL_18 15 rfl) rfl ?_
  refine rn_iadd (a := i) (b := 1) C (dx dL_18 16 rfl) ?_
  refine r_sld C S (by omega) (by omega) (dx dL_18 17 rfl) ?_
  refine r_aload_nT C (dx dL_18 18 rfl) rfl ?_
  refine r_iload_n C (dx dL_18 19 rfl) rfl ?_
  refine r_iconst (v := nI 2) C (dx dL_18 20 rfl) rfl ?_
  refine rn_iadd (a := i) (b := 2) C (dx dL_18 21 rfl) ?_
  refine r_sld C S (by omega) (by omega) (dx dL_18 22 rfl) ?_
  obtain ⟨τh2, ph2, ch2⟩ := z7_oneOf (l := l) Mh1 yh1 ok (xs (i + 1)) (xs (i + 2))
  refine r_cv (as := [vi (xs (i + 1)), vi (xs (i + 2))]) (st := [_]) C X I_X7_oneOf l_L_99 ch2 (by decide) (Nat.le_of_ble_eq_true rfl) ph2 ALall rfl rfl (Nat.le_of_ble_eq_true rfl) rfl (dx dL_18 23 rfl) ?_
  rintro _ h2 ⟨rfl, Mh2, lh2, yh2⟩ kh2
  have oh2 := oh1.lo lh2
  refine r_icmp_eq (tgt := 1762) C (dx dL_18 24 rfl) (by decide) (fun _ => ?_) (fun c3 => absurd (by first | rfl | exact (vl_tie byt _).1) c3)
  exact kk h2 ⟨_, _, _, _, _, _, _, _, _, oh2, hg, Mh2, yh2, byt, ok, okw⟩
def tL_19 : List (Nat × Instr × Nat) := [(954, .aload_n 1, 1), (955, .aload_n 0, 1), (956, .iload_n 3, 1), (957, .iconst 1, 1), (958, .iadd, 1), (959, .iaload, 1), (960, .invokevirtual 100, 3), (963, .aload_n 2, 1), (964, .aload_n 0, 1), (965, .iload_n 3, 1), (966, .iconst 1, 1), (967, .iadd, 1), (968, .iaload, 1), (969, .invokevirtual 103, 3), (972, .if_icmp .eq 790, 3), (975, .iconst 0, 1), (976, .ireturn, 1)]
theorem dL_19 : dec_ok code tL_19 = true := by decide +kernel
set_option maxHeartbeats 4000000 in
theorem law_c19 {l : Launch} {G : Gt} {b L i : Nat} {xs : Nat → Int32} {h : Hp} (C : Cx G code 4 RL) (X : Rmx l G 2048 (AL P63 true true)) (S : SLw G b L xs) (hL : L ≤ 6) (hi : i + 6 ≤ L) (inv : Lv h) (kk : ∀ h', Lv h' → Rr G 1762 [(0, vt 9000), (1, vr 6 0), (2, vr 7 63), (3, vi (nI i))] [] h') : Rr G 954 [(0, vt 9000), (1, vr 6 0), (2, vr 7 63), (3, vi (nI i))] [] h := by
  obtain ⟨v, u, w, g, B, Bt, z, κ, τ, o, hg, M, y, byt, ok, okw⟩ := inv
  refine r_aload_n C (dx dL_19 0 rfl) rfl ?_
  refine r_aload_nT C (dx dL_19 1 rfl) rfl ?_
  refine r_iload_n C (dx dL_19 2 rfl) rfl ?_
  refine r_iconst (v := nI 1) C (dx dL_19 3 rfl) rfl ?_
  refine rn_iadd (a := i) (b := 1) C (dx dL_19 4 rfl) ?_
  refine r_sld C S (by omega) (by omega) (dx dL_19 5 rfl) ?_
  refine r_cv (as := [vi (xs (i + 1))]) (st := []) C X I_X6_has l_L_100 (x2_has o hg (xs (i + 1))) (by decide) (Nat.le_of_ble_eq_true rfl) List.prefix_rfl (by rw [M.al]; exact ALall) rfl rfl (Nat.le_of_ble_eq_true rfl) rfl (dx dL_19 6 rfl) ?_
  rintro _ h1 ⟨rfl, ⟨uh1, oh1⟩, fh1⟩ kh1
  have Mh1 := M.fr9 fh1 kh1
  have yh1 := y.fr9 M fh1
  refine r_aload_n C (dx dL_19 7 rfl) rfl ?_
  refine r_aload_nT C (dx dL_19 8 rfl) rfl ?_
  refine r_iload_n C (dx dL_19 9 rfl) rfl ?_
  refine r_iconst (v := nI 1) C (dx dL_19 10 rfl) rfl ?_
  refine rn_iadd (a := i) (b := 1) C (dx dL_19 11 rfl) ?_
  refine r_sld C S (by omega) (by omega) (dx dL_19 12 rfl) ?_
  obtain ⟨τh2, ph2, ch2⟩ := z7_has (l := l) Mh1 yh1 ok (xs (i + 1))
  refine r_cv (as := [vi (xs (i + 1))]) (st := [_]) C X I_X7_has l_L_103 ch2 (by decide) (Nat.le_of_ble_eq_true rfl) ph2 ALall rfl rfl (Nat.le_of_ble_eq_true rfl) rfl (dx dL_19 13 rfl) ?_
  rintro _ h2 ⟨rfl, Mh2, lh2, yh2⟩ kh2
  have oh2 := oh1.lo lh2
  refine r_icmp_eq (tgt := 1762) C (dx dL_19 14 rfl) (by decide) (fun _ => ?_) (fun c3 => absurd (by first | rfl | exact (vl_tie byt _).1) c3)
  exact kk h2 ⟨_, _, _, _, _, _, _, _, _, oh2, hg, Mh2, yh2, byt, ok, okw⟩
def tL_20 : List (Nat × Instr × Nat) := [(977, .aload_n 1, 1), (978, .aload_n 0, 1), (979, .iload_n 3, 1), (980, .iconst 1, 1), (981, .iadd, 1), (982, .iaload, 1), (983, .aload_n 0, 1), (984, .iload_n 3, 1), (985, .iconst 2, 1), (986, .iadd, 1), (987, .iaload, 1), (988, .invokevirtual 104, 3), (991, .aload_n 2, 1), (992, .aload_n 0, 1), (993, .iload_n 3, 1), (994, .iconst 1, 1), (995, .iadd, 1), (996, .iaload, 1), (997, .aload_n 0, 1), (998, .iload_n 3, 1), (999, .iconst 2, 1), (1000, .iadd, 1), (1001, .iaload, 1), (1002, .invokevirtual 107, 3), (1005, .if_icmp .eq 757, 3), (1008, .iconst 0, 1), (1009, .ireturn, 1)]
theorem dL_20 : dec_ok code tL_20 = true := by decide +kernel
set_option maxHeartbeats 4000000 in
theorem law_c20 {l : Launch} {G : Gt} {b L i : Nat} {xs : Nat → Int32} {h : Hp} (C : Cx G code 4 RL) (X : Rmx l G 2048 (AL P63 true true)) (S : SLw G b L xs) (hL : L ≤ 6) (hi : i + 6 ≤ L) (inv : Lv h) (kk : ∀ h', Lv h' → Rr G 1762 [(0, vt 9000), (1, vr 6 0), (2, vr 7 63), (3, vi (nI i))] [] h') : Rr G 977 [(0, vt 9000), (1, vr 6 0), (2, vr 7 63), (3, vi (nI i))] [] h := by
  obtain ⟨v, u, w, g, B, Bt, z, κ, τ, o, hg, M, y, byt, ok, okw⟩ := inv
  refine r_aload_n C (dx dL_20 0 rfl) rfl ?_
  refine r_aload_nT C (dx dL_20 1 rfl) rfl ?_
  refine r_iload_n C (dx dL_20 2 rfl) rfl ?_
  refine r_iconst (v := nI 1) C (dx dL_20 3 rfl) rfl ?_
  refine rn_iadd (a := i) (b := 1) C (dx dL_20 4 rfl) ?_
  refine r_sld C S (by omega) (by omega) (dx dL_20 5 rfl) ?_
  refine r_aload_nT C (dx dL_20 6 rfl) rfl ?_
  refine r_iload_n C (dx dL_20 7 rfl) rfl ?_
  refine r_iconst (v := nI 2) C (dx dL_20 8 rfl) rfl ?_
  refine rn_iadd (a := i) (b := 2) C (dx dL_20 9 rfl) ?_
  refine r_sld C S (by omega) (by omega) (dx dL_20 10 rfl) ?_
  refine r_cv (as := [vi (xs (i + 1)), vi (xs (i + 2))]) (st := []) C X I_X6_works l_L_104 (x2_works o hg (xs (i + 1)) (xs (i + 2))) (by decide) (Nat.le_of_ble_eq_true rfl) List.prefix_rfl (by rw [M.al]; exact ALall) rfl rfl (Nat.le_of_ble_eq_true rfl) rfl (dx dL_20 11 rfl) ?_
  rintro _ h1 ⟨rfl, ⟨uh1, oh1⟩, fh1⟩ kh1
  have Mh1 := M.fr9 fh1 kh1
  have yh1 := y.fr9 M fh1
  refine r_aload_n C (dx dL_20 12 rfl) rfl ?_
  refine r_aload_nT C (dx dL_20 13 rfl) rfl ?_
  refine r_iload_n C (dx dL_20 14 rfl) rfl ?_
  refine r_iconst (v := nI 1) C (dx dL_20 15 rfl) rfl ?_
  refine rn_iadd (a := i) (b := 1) C (dx dL_20 16 rfl) ?_
  refine r_sld C S (by omega) (by omega) (dx dL_20 17 rfl) ?_
  refine r_aload_nT C (dx dL_20 18 rfl) rfl ?_
  refine r_iload_n C (dx dL_20 19 rfl) rfl ?_
  refine r_iconst (v := nI 2) C (dx dL_20 20 rfl) rfl ?_
  refine rn_iadd (a := i) (b := 2) C (dx dL_20 21 rfl) ?_
  refine r_sld C S (by omega) (by omega) (dx dL_20 22 rfl) ?_
  obtain ⟨τh2, ph2, ch2⟩ := z7_works (l := l) Mh1 yh1 ok (xs (i + 1)) (xs (i + 2))
  refine r_cv (as := [vi (xs (i + 1)), vi (xs (i + 2))]) (st := [_]) C X I_X7_works l_L_107 ch2 (by decide) (Nat.le_of_ble_eq_true rfl) ph2 ALall rfl rfl (Nat.le_of_ble_eq_true rfl) rfl (dx dL_20 23 rfl) ?_
  rintro _ h2 ⟨rfl, Mh2, lh2, yh2⟩ kh2
  have oh2 := oh1.lo lh2
  refine r_icmp_eq (tgt := 1762) C (dx dL_20 24 rfl) (by decide) (fun _ => ?_) (fun c3 => absurd (by first | rfl | exact (vl_tie byt _).1) c3)
  exact kk h2 ⟨_, _, _, _, _, _, _, _, _, oh2, hg, Mh2, yh2, byt, ok, okw⟩
def tL_21 : List (Nat × Instr × Nat) := [(1010, .aload_n 1, 1), (1011, .aload_n 0, 1), (1012, .iload_n 3, 1), (1013, .iconst 1, 1), (1014, .iadd, 1), (1015, .iaload, 1), (1016, .aload_n 0, 1), (1017, .iload_n 3, 1), (1018, .iconst 2, 1), (1019, .iadd, 1), (1020, .iaload, 1), (1021, .aload_n 0, 1), (1022, .iload_n 3, 1), (1023, .iconst 3, 1), (1024, .iadd, 1), (1025, .iaload, 1), (1026, .invokevirtual 108, 3), (1029, .aload_n 2, 1), (1030, .aload_n 0, 1), (1031, .iload_n 3, 1), (1032, .iconst 1, 1), (1033, .iadd, 1), (1034, .iaload, 1), (1035, .aload_n 0, 1), (1036, .iload_n 3, 1), (1037, .iconst 2, 1), (1038, .iadd, 1), (1039, .iaload, 1), (1040, .aload_n 0, 1), (1041, .iload_n 3, 1), (1042, .iconst 3, 1), (1043, .iadd, 1), (1044, .iaload, 1), (1045, .invokevirtual 111, 3), (1048, .if_icmp .eq 714, 3), (1051, .iconst 0, 1), (1052, .ireturn, 1)]
theorem dL_21 : dec_ok code tL_21 = true := by decide +kernel
set_option maxHeartbeats 4000000 in
theorem law_c21 {l : Launch} {G : Gt} {b L i : Nat} {xs : Nat → Int32} {h : Hp} (C : Cx G code 4 RL) (X : Rmx l G 2048 (AL P63 true true)) (S : SLw G b L xs) (hL : L ≤ 6) (hi : i + 6 ≤ L) (inv : Lv h) (kk : ∀ h', Lv h' → Rr G 1762 [(0, vt 9000), (1, vr 6 0), (2, vr 7 63), (3, vi (nI i))] [] h') : Rr G 1010 [(0, vt 9000), (1, vr 6 0), (2, vr 7 63), (3, vi (nI i))] [] h := by
  obtain ⟨v, u, w, g, B, Bt, z, κ, τ, o, hg, M, y, byt, ok, okw⟩ := inv
  refine r_aload_n C (dx dL_21 0 rfl) rfl ?_
  refine r_aload_nT C (dx dL_21 1 rfl) rfl ?_
  refine r_iload_n C (dx dL_21 2 rfl) rfl ?_
  refine r_iconst (v := nI 1) C (dx dL_21 3 rfl) rfl ?_
  refine rn_iadd (a := i) (b := 1) C (dx dL_21 4 rfl) ?_
  refine r_sld C S (by omega) (by omega) (dx dL_21 5 rfl) ?_
  refine r_aload_nT C (dx dL_21 6 rfl) rfl ?_
  refine r_iload_n C (dx dL_21 7 rfl) rfl ?_
  refine r_iconst (v := nI 2) C (dx dL_21 8 rfl) rfl ?_
  refine rn_iadd (a := i) (b := 2) C (dx dL_21 9 rfl) ?_
  refine r_sld C S (by omega) (by omega) (dx dL_21 10 rfl) ?_
  refine r_aload_nT C (dx dL_21 11 rfl) rfl ?_
  refine r_iload_n C (dx dL_21 12 rfl) rfl ?_
  refine r_iconst (v := nI 3) C (dx dL_21 13 rfl) rfl ?_
  refine rn_iadd (a := i) (b := 3) C (dx dL_21 14 rfl) ?_
  refine r_sld C S (by omega) (by omega) (dx dL_21 15 rfl) ?_
  refine r_cv (as := [vi (xs (i + 1)), vi (xs (i + 2)), vi (xs (i + 3))]) (st := []) C X I_X6_both l_L_108 (x2_both o hg (xs (i + 1)) (xs (i + 2)) (xs (i + 3))) (by decide) (Nat.le_of_ble_eq_true rfl) List.prefix_rfl (by rw [M.al]; exact ALall) rfl rfl (Nat.le_of_ble_eq_true rfl) rfl (dx dL_21 16 rfl) ?_
  rintro _ h1 ⟨rfl, ⟨uh1, oh1⟩, fh1⟩ kh1
  have Mh1 := M.fr9 fh1 kh1
  have yh1 := y.fr9 M fh1
  refine r_aload_n C (dx dL_21 17 rfl) rfl ?_
  refine r_aload_nT C (dx dL_21 18 rfl) rfl ?_
  refine r_iload_n C (dx dL_21 19 rfl) rfl ?_
  refine r_iconst (v := nI 1) C (dx dL_21 20 rfl) rfl ?_
  refine rn_iadd (a := i) (b := 1) C (dx dL_21 21 rfl) ?_
  refine r_sld C S (by omega) (by omega) (dx dL_21 22 rfl) ?_
  refine r_aload_nT C (dx dL_21 23 rfl) rfl ?_
  refine r_iload_n C (dx dL_21 24 rfl) rfl ?_
  refine r_iconst (v := nI 2) C (dx dL_21 25 rfl) rfl ?_
  refine rn_iadd (a := i) (b := 2) C (dx dL_21 26 rfl) ?_
  refine r_sld C S (by omega) (by omega) (dx dL_21 27 rfl) ?_
  refine r_aload_nT C (dx dL_21 28 rfl) rfl ?_
  refine r_iload_n C (dx dL_21 29 rfl) rfl ?_
  refine r_iconst (v := nI 3) C (dx dL_21 30 rfl) rfl ?_
  refine rn_iadd (a := i) (b := 3) C (dx dL_21 31 rfl) ?_
  refine r_sld C S (by omega) (by omega) (dx dL_21 32 rfl) ?_
  obtain ⟨τh2, ph2, ch2⟩ := z7_both (l := l) Mh1 yh1 ok (xs (i + 1)) (xs (i + 2)) (xs (i + 3))
  refine r_cv (as := [vi (xs (i + 1)), vi (xs (i + 2)), vi (xs (i + 3))]) (st := [_]) C X I_X7_both l_L_111 ch2 (by decide) (Nat.le_of_ble_eq_true rfl) ph2 ALall rfl rfl (Nat.le_of_ble_eq_true rfl) rfl (dx dL_21 33 rfl) ?_
  rintro _ h2 ⟨rfl, Mh2, lh2, yh2⟩ kh2
  have oh2 := oh1.lo lh2
  refine r_icmp_eq (tgt := 1762) C (dx dL_21 34 rfl) (by decide) (fun _ => ?_) (fun c3 => absurd (by first | rfl | exact (vl_tie byt _).1) c3)
  exact kk h2 ⟨_, _, _, _, _, _, _, _, _, oh2, hg, Mh2, yh2, byt, ok, okw⟩
def tL_22 : List (Nat × Instr × Nat) := [(1053, .aload_n 1, 1), (1054, .aload_n 0, 1), (1055, .iload_n 3, 1), (1056, .iconst 1, 1), (1057, .iadd, 1), (1058, .iaload, 1), (1059, .invokevirtual 112, 3), (1062, .aload_n 2, 1), (1063, .aload_n 0, 1), (1064, .iload_n 3, 1), (1065, .iconst 1, 1), (1066, .iadd, 1), (1067, .iaload, 1), (1068, .invokevirtual 116, 3), (1071, .lcmp, 1), (1072, .ifCond .eq 690, 3), (1075, .iconst 0, 1), (1076, .ireturn, 1)]
theorem dL_22 : dec_ok code tL_22 = true := by decide +kernel
set_option maxHeartbeats 4000000 in
theorem law_c22 {l : Launch} {G : Gt} {b L i : Nat} {xs : Nat → Int32} {h : Hp} (C : Cx G code 4 RL) (X : Rmx l G 2048 (AL P63 true true)) (S : SLw G b L xs) (hL : L ≤ 6) (hi : i + 6 ≤ L) (inv : Lv h) (kk : ∀ h', Lv h' → Rr G 1762 [(0, vt 9000), (1, vr 6 0), (2, vr 7 63), (3, vi (nI i))] [] h') : Rr G 1053 [(0, vt 9000), (1, vr 6 0), (2, vr 7 63), (3, vi (nI i))] [] h := by
  obtain ⟨v, u, w, g, B, Bt, z, κ, τ, o, hg, M, y, byt, ok, okw⟩ := inv
  refine r_aload_n C (dx dL_22 0 rfl) rfl ?_
  refine r_aload_nT C (dx dL_22 1 rfl) rfl ?_
  refine r_iload_n C (dx dL_22 2 rfl) rfl ?_
  refine r_iconst (v := nI 1) C (dx dL_22 3 rfl) rfl ?_
  refine rn_iadd (a := i) (b := 1) C (dx dL_22 4 rfl) ?_
  refine r_sld C S (by omega) (by omega) (dx dL_22 5 rfl) ?_
  refine r_cv (as := [vi (xs (i + 1))]) (st := []) C X I_X6_odds l_L_112 (x2_odds o hg (xs (i + 1))) (by decide) (Nat.le_of_ble_eq_true rfl) List.prefix_rfl (by rw [M.al]; exact ALall) rfl rfl (Nat.le_of_ble_eq_true rfl) rfl (dx dL_22 6 rfl) ?_
  rintro _ h1 ⟨rfl, ⟨uh1, oh1⟩, fh1⟩ kh1
  have Mh1 := M.fr9 fh1 kh1
  have yh1 := y.fr9 M fh1
  refine r_aload_n C (dx dL_22 7 rfl) rfl ?_
  refine r_aload_nT C (dx dL_22 8 rfl) rfl ?_
  refine r_iload_n C (dx dL_22 9 rfl) rfl ?_
  refine r_iconst (v := nI 1) C (dx dL_22 10 rfl) rfl ?_
  refine rn_iadd (a := i) (b := 1) C (dx dL_22 11 rfl) ?_
  refine r_sld C S (by omega) (by omega) (dx dL_22 12 rfl) ?_
  obtain ⟨τh2, ph2, ch2⟩ := z7_odds (l := l) Mh1 yh1 ok (xs (i + 1))
  refine r_cv (as := [vi (xs (i + 1))]) (st := [_]) C X I_X7_odds l_L_116 ch2 (by decide) (Nat.le_of_ble_eq_true rfl) ph2 ALall rfl rfl (Nat.le_of_ble_eq_true rfl) rfl (dx dL_22 13 rfl) ?_
  rintro _ h2 ⟨rfl, Mh2, lh2, yh2⟩ kh2
  have oh2 := oh1.lo lh2
  refine r_lcmp C (dx dL_22 14 rfl) ?_
  refine r_if_eq (tgt := 1762) C (dx dL_22 15 rfl) (by decide) (fun _ => ?_) (fun c3 => absurd ((lg_cmp_eq _ _).mpr rfl) c3)
  exact kk h2 ⟨_, _, _, _, _, _, _, _, _, oh2, hg, Mh2, yh2, byt, ok, okw⟩
def tL_23 : List (Nat × Instr × Nat) := [(1077, .aload_n 1, 1), (1078, .aload_n 0, 1), (1079, .iload_n 3, 1), (1080, .iconst 1, 1), (1081, .iadd, 1), (1082, .iaload, 1), (1083, .aload_n 0, 1), (1084, .iload_n 3, 1), (1085, .iconst 2, 1), (1086, .iadd, 1), (1087, .iaload, 1), (1088, .invokevirtual 117, 3), (1091, .aload_n 2, 1), (1092, .aload_n 0, 1), (1093, .iload_n 3, 1), (1094, .iconst 1, 1), (1095, .iadd, 1), (1096, .iaload, 1), (1097, .aload_n 0, 1), (1098, .iload_n 3, 1), (1099, .iconst 2, 1), (1100, .iadd, 1), (1101, .iaload, 1), (1102, .invokevirtual 120, 3), (1105, .lcmp, 1), (1106, .ifCond .eq 656, 3), (1109, .iconst 0, 1), (1110, .ireturn, 1)]
theorem dL_23 : dec_ok code tL_23 = true := by decide +kernel
set_option maxHeartbeats 4000000 in
theorem law_c23 {l : Launch} {G : Gt} {b L i : Nat} {xs : Nat → Int32} {h : Hp} (C : Cx G code 4 RL) (X : Rmx l G 2048 (AL P63 true true)) (S : SLw G b L xs) (hL : L ≤ 6) (hi : i + 6 ≤ L) (inv : Lv h) (kk : ∀ h', Lv h' → Rr G 1762 [(0, vt 9000), (1, vr 6 0), (2, vr 7 63), (3, vi (nI i))] [] h') : Rr G 1077 [(0, vt 9000), (1, vr 6 0), (2, vr 7 63), (3, vi (nI i))] [] h := by
  obtain ⟨v, u, w, g, B, Bt, z, κ, τ, o, hg, M, y, byt, ok, okw⟩ := inv
  refine r_aload_n C (dx dL_23 0 rfl) rfl ?_
  refine r_aload_nT C (dx dL_23 1 rfl) rfl ?_
  refine r_iload_n C (dx dL_23 2 rfl) rfl ?_
  refine r_iconst (v := nI 1) C (dx dL_23 3 rfl) rfl ?_
  refine rn_iadd (a := i) (b := 1) C (dx dL_23 4 rfl) ?_
  refine r_sld C S (by omega) (by omega) (dx dL_23 5 rfl) ?_
  refine r_aload_nT C (dx dL_23 6 rfl) rfl ?_
  refine r_iload_n C (dx dL_23 7 rfl) rfl ?_
  refine r_iconst (v := nI 2) C (dx dL_23 8 rfl) rfl ?_
  refine rn_iadd (a := i) (b := 2) C (dx dL_23 9 rfl) ?_
  refine r_sld C S (by omega) (by omega) (dx dL_23 10 rfl) ?_
  refine r_cv (as := [vi (xs (i + 1)), vi (xs (i + 2))]) (st := []) C X I_X6_atOnce l_L_117 (x2_atOnce o hg (xs (i + 1)) (xs (i + 2))) (by decide) (Nat.le_of_ble_eq_true rfl) List.prefix_rfl (by rw [M.al]; exact ALall) rfl rfl (Nat.le_of_ble_eq_true rfl) rfl (dx dL_23 11 rfl) ?_
  rintro _ h1 ⟨rfl, ⟨uh1, oh1⟩, fh1⟩ kh1
  have Mh1 := M.fr9 fh1 kh1
  have yh1 := y.fr9 M fh1
  refine r_aload_n C (dx dL_23 12 rfl) rfl ?_
  refine r_aload_nT C (dx dL_23 13 rfl) rfl ?_
  refine r_iload_n C (dx dL_23 14 rfl) rfl ?_
  refine r_iconst (v := nI 1) C (dx dL_23 15 rfl) rfl ?_
  refine rn_iadd (a := i) (b := 1) C (dx dL_23 16 rfl) ?_
  refine r_sld C S (by omega) (by omega) (dx dL_23 17 rfl) ?_
  refine r_aload_nT C (dx dL_23 18 rfl) rfl ?_
  refine r_iload_n C (dx dL_23 19 rfl) rfl ?_
  refine r_iconst (v := nI 2) C (dx dL_23 20 rfl) rfl ?_
  refine rn_iadd (a := i) (b := 2) C (dx dL_23 21 rfl) ?_
  refine r_sld C S (by omega) (by omega) (dx dL_23 22 rfl) ?_
  obtain ⟨τh2, ph2, ch2⟩ := z7_atOnce (l := l) Mh1 yh1 ok (xs (i + 1)) (xs (i + 2))
  refine r_cv (as := [vi (xs (i + 1)), vi (xs (i + 2))]) (st := [_]) C X I_X7_atOnce l_L_120 ch2 (by decide) (Nat.le_of_ble_eq_true rfl) ph2 ALall rfl rfl (Nat.le_of_ble_eq_true rfl) rfl (dx dL_23 23 rfl) ?_
  rintro _ h2 ⟨rfl, Mh2, lh2, yh2⟩ kh2
  have oh2 := oh1.lo lh2
  refine r_lcmp C (dx dL_23 24 rfl) ?_
  refine r_if_eq (tgt := 1762) C (dx dL_23 25 rfl) (by decide) (fun _ => ?_) (fun c3 => absurd ((lg_cmp_eq _ _).mpr rfl) c3)
  exact kk h2 ⟨_, _, _, _, _, _, _, _, _, oh2, hg, Mh2, yh2, byt, ok, okw⟩
def tL_24 : List (Nat × Instr × Nat) := [(1111, .aload_n 1, 1), (1112, .invokevirtual 121, 3), (1115, .aload_n 2, 1), (1116, .invokevirtual 125, 3), (1119, .lcmp, 1), (1120, .ifCond .eq 642, 3), (1123, .iconst 0, 1), (1124, .ireturn, 1)]
theorem dL_24 : dec_ok code tL_24 = true := by decide +kernel
set_option maxHeartbeats 4000000 in
theorem law_c24 {l : Launch} {G : Gt} {b L i : Nat} {xs : Nat → Int32} {h : Hp} (C : Cx G code 4 RL) (X : Rmx l G 2048 (AL P63 true true)) (S : SLw G b L xs) (hL : L ≤ 6) (hi : i + 6 ≤ L) (inv : Lv h) (kk : ∀ h', Lv h' → Rr G 1762 [(0, vt 9000), (1, vr 6 0), (2, vr 7 63), (3, vi (nI i))] [] h') : Rr G 1111 [(0, vt 9000), (1, vr 6 0), (2, vr 7 63), (3, vi (nI i))] [] h := by
  obtain ⟨v, u, w, g, B, Bt, z, κ, τ, o, hg, M, y, byt, ok, okw⟩ := inv
  refine r_aload_n C (dx dL_24 0 rfl) rfl ?_
  refine r_cv (as := []) (st := []) C X I_X6_day l_L_121 (x2_day o hg ) (by decide) (Nat.le_of_ble_eq_true rfl) List.prefix_rfl (by rw [M.al]; exact ALall) rfl rfl (Nat.le_of_ble_eq_true rfl) rfl (dx dL_24 1 rfl) ?_
  rintro _ h1 ⟨rfl, ⟨uh1, oh1⟩, fh1⟩ kh1
  have Mh1 := M.fr9 fh1 kh1
  have yh1 := y.fr9 M fh1
  refine r_aload_n C (dx dL_24 2 rfl) rfl ?_
  obtain ⟨τh2, ph2, ch2⟩ := z7_day (l := l) Mh1 yh1 ok 
  refine r_cv (as := []) (st := [_]) C X I_X7_day l_L_125 ch2 (by decide) (Nat.le_of_ble_eq_true rfl) ph2 ALall rfl rfl (Nat.le_of_ble_eq_true rfl) rfl (dx dL_24 3 rfl) ?_
  rintro _ h2 ⟨rfl, Mh2, lh2, yh2⟩ kh2
  have oh2 := oh1.lo lh2
  refine r_lcmp C (dx dL_24 4 rfl) ?_
  refine r_if_eq (tgt := 1762) C (dx dL_24 5 rfl) (by decide) (fun _ => ?_) (fun c3 => absurd ((lg_cmp_eq _ _).mpr rfl) c3)
  exact kk h2 ⟨_, _, _, _, _, _, _, _, _, oh2, hg, Mh2, yh2, byt, ok, okw⟩
def tL_25 : List (Nat × Instr × Nat) := [(1125, .aload_n 1, 1), (1126, .aload_n 0, 1), (1127, .iload_n 3, 1), (1128, .iconst 1, 1), (1129, .iadd, 1), (1130, .iaload, 1), (1131, .aload_n 0, 1), (1132, .iload_n 3, 1), (1133, .iconst 2, 1), (1134, .iadd, 1), (1135, .iaload, 1), (1136, .invokevirtual 126, 3), (1139, .aload_n 2, 1), (1140, .aload_n 0, 1), (1141, .iload_n 3, 1), (1142, .iconst 1, 1), (1143, .iadd, 1), (1144, .iaload, 1), (1145, .aload_n 0, 1), (1146, .iload_n 3, 1), (1147, .iconst 2, 1), (1148, .iadd, 1), (1149, .iaload, 1), (1150, .invokevirtual 129, 3), (1153, .if_icmp .eq 609, 3), (1156, .iconst 0, 1), (1157, .ireturn, 1)]
theorem dL_25 : dec_ok code tL_25 = true := by decide +kernel
set_option maxHeartbeats 4000000 in
theorem law_c25 {l : Launch} {G : Gt} {b L i : Nat} {xs : Nat → Int32} {h : Hp} (C : Cx G code 4 RL) (X : Rmx l G 2048 (AL P63 true true)) (S : SLw G b L xs) (hL : L ≤ 6) (hi : i + 6 ≤ L) (inv : Lv h) (kk : ∀ h', Lv h' → Rr G 1762 [(0, vt 9000), (1, vr 6 0), (2, vr 7 63), (3, vi (nI i))] [] h') : Rr G 1125 [(0, vt 9000), (1, vr 6 0), (2, vr 7 63), (3, vi (nI i))] [] h := by
  obtain ⟨v, u, w, g, B, Bt, z, κ, τ, o, hg, M, y, byt, ok, okw⟩ := inv
  refine r_aload_n C (dx dL_25 0 rfl) rfl ?_
  refine r_aload_nT C (dx dL_25 1 rfl) rfl ?_
  refine r_iload_n C (dx dL_25 2 rfl) rfl ?_
  refine r_iconst (v := nI 1) C (dx dL_25 3 rfl) rfl ?_
  refine rn_iadd (a := i) (b := 1) C (dx dL_25 4 rfl) ?_
  refine r_sld C S (by omega) (by omega) (dx dL_25 5 rfl) ?_
  refine r_aload_nT C (dx dL_25 6 rfl) rfl ?_
  refine r_iload_n C (dx dL_25 7 rfl) rfl ?_
  refine r_iconst (v := nI 2) C (dx dL_25 8 rfl) rfl ?_
  refine rn_iadd (a := i) (b := 2) C (dx dL_25 9 rfl) ?_
  refine r_sld C S (by omega) (by omega) (dx dL_25 10 rfl) ?_
  refine r_cv (as := [vi (xs (i + 1)), vi (xs (i + 2))]) (st := []) C X I_X6_power l_L_126 (x2_power o hg (xs (i + 1)) (xs (i + 2))) (by decide) (Nat.le_of_ble_eq_true rfl) List.prefix_rfl (by rw [M.al]; exact ALall) rfl rfl (Nat.le_of_ble_eq_true rfl) rfl (dx dL_25 11 rfl) ?_
  rintro _ h1 ⟨rfl, ⟨uh1, oh1⟩, fh1⟩ kh1
  have Mh1 := M.fr9 fh1 kh1
  have yh1 := y.fr9 M fh1
  refine r_aload_n C (dx dL_25 12 rfl) rfl ?_
  refine r_aload_nT C (dx dL_25 13 rfl) rfl ?_
  refine r_iload_n C (dx dL_25 14 rfl) rfl ?_
  refine r_iconst (v := nI 1) C (dx dL_25 15 rfl) rfl ?_
  refine rn_iadd (a := i) (b := 1) C (dx dL_25 16 rfl) ?_
  refine r_sld C S (by omega) (by omega) (dx dL_25 17 rfl) ?_
  refine r_aload_nT C (dx dL_25 18 rfl) rfl ?_
  refine r_iload_n C (dx dL_25 19 rfl) rfl ?_
  refine r_iconst (v := nI 2) C (dx dL_25 20 rfl) rfl ?_
  refine rn_iadd (a := i) (b := 2) C (dx dL_25 21 rfl) ?_
  refine r_sld C S (by omega) (by omega) (dx dL_25 22 rfl) ?_
  obtain ⟨τh2, ph2, ch2⟩ := z7_power (l := l) Mh1 yh1 ok (xs (i + 1)) (xs (i + 2))
  refine r_cv (as := [vi (xs (i + 1)), vi (xs (i + 2))]) (st := [_]) C X I_X7_power l_L_129 ch2 (by decide) (Nat.le_of_ble_eq_true rfl) ph2 ALall rfl rfl (Nat.le_of_ble_eq_true rfl) rfl (dx dL_25 23 rfl) ?_
  rintro _ h2 ⟨rfl, Mh2, lh2, yh2⟩ kh2
  have oh2 := oh1.lo lh2
  refine r_icmp_eq (tgt := 1762) C (dx dL_25 24 rfl) (by decide) (fun _ => ?_) (fun c3 => absurd (by first | rfl | exact (vl_tie byt _).1) c3)
  exact kk h2 ⟨_, _, _, _, _, _, _, _, _, oh2, hg, Mh2, yh2, byt, ok, okw⟩
def tL_26 : List (Nat × Instr × Nat) := [(1158, .aload_n 1, 1), (1159, .invokevirtual 130, 3), (1162, .aload_n 2, 1), (1163, .invokevirtual 133, 3), (1166, .if_icmp .eq 596, 3), (1169, .iconst 0, 1), (1170, .ireturn, 1)]
theorem dL_26 : dec_ok code tL_26 = true := by decide +kernel
set_option maxHeartbeats 4000000 in
theorem law_c26 {l : Launch} {G : Gt} {b L i : Nat} {xs : Nat → Int32} {h : Hp} (C : Cx G code 4 RL) (X : Rmx l G 2048 (AL P63 true true)) (S : SLw G b L xs) (hL : L ≤ 6) (hi : i + 6 ≤ L) (inv : Lv h) (kk : ∀ h', Lv h' → Rr G 1762 [(0, vt 9000), (1, vr 6 0), (2, vr 7 63), (3, vi (nI i))] [] h') : Rr G 1158 [(0, vt 9000), (1, vr 6 0), (2, vr 7 63), (3, vi (nI i))] [] h := by
  obtain ⟨v, u, w, g, B, Bt, z, κ, τ, o, hg, M, y, byt, ok, okw⟩ := inv
  refine r_aload_n C (dx dL_26 0 rfl) rfl ?_
  refine r_cv (as := []) (st := []) C X I_X6_first l_L_130 (x2_first o hg ) (by decide) (Nat.le_of_ble_eq_true rfl) List.prefix_rfl (by rw [M.al]; exact ALall) rfl rfl (Nat.le_of_ble_eq_true rfl) rfl (dx dL_26 1 rfl) ?_
  rintro _ h1 ⟨rfl, ⟨uh1, oh1⟩, fh1⟩ kh1
  have Mh1 := M.fr9 fh1 kh1
  have yh1 := y.fr9 M fh1
  refine r_aload_n C (dx dL_26 2 rfl) rfl ?_
  obtain ⟨τh2, ph2, ch2⟩ := z7_first (l := l) Mh1 yh1 ok 
  refine r_cv (as := []) (st := [_]) C X I_X7_first l_L_133 ch2 (by decide) (Nat.le_of_ble_eq_true rfl) ph2 ALall rfl rfl (Nat.le_of_ble_eq_true rfl) rfl (dx dL_26 3 rfl) ?_
  rintro _ h2 ⟨rfl, Mh2, lh2, yh2⟩ kh2
  have oh2 := oh1.lo lh2
  refine r_icmp_eq (tgt := 1762) C (dx dL_26 4 rfl) (by decide) (fun _ => ?_) (fun c3 => absurd (by first | rfl | exact (vl_tie byt _).1) c3)
  exact kk h2 ⟨_, _, _, _, _, _, _, _, _, oh2, hg, Mh2, yh2, byt, ok, okw⟩
def tL_27 : List (Nat × Instr × Nat) := [(1171, .aload_n 1, 1), (1172, .aload_n 0, 1), (1173, .iload_n 3, 1), (1174, .iconst 1, 1), (1175, .iadd, 1), (1176, .iaload, 1), (1177, .invokevirtual 134, 3), (1180, .aload_n 2, 1), (1181, .aload_n 0, 1), (1182, .iload_n 3, 1), (1183, .iconst 1, 1), (1184, .iadd, 1), (1185, .iaload, 1), (1186, .invokevirtual 137, 3), (1189, .if_icmp .eq 573, 3), (1192, .iconst 0, 1), (1193, .ireturn, 1)]
theorem dL_27 : dec_ok code tL_27 = true := by decide +kernel
set_option maxHeartbeats 4000000 in
theorem law_c27 {l : Launch} {G : Gt} {b L i : Nat} {xs : Nat → Int32} {h : Hp} (C : Cx G code 4 RL) (X : Rmx l G 2048 (AL P63 true true)) (S : SLw G b L xs) (hL : L ≤ 6) (hi : i + 6 ≤ L) (inv : Lv h) (kk : ∀ h', Lv h' → Rr G 1762 [(0, vt 9000), (1, vr 6 0), (2, vr 7 63), (3, vi (nI i))] [] h') : Rr G 1171 [(0, vt 9000), (1, vr 6 0), (2, vr 7 63), (3, vi (nI i))] [] h := by
  obtain ⟨v, u, w, g, B, Bt, z, κ, τ, o, hg, M, y, byt, ok, okw⟩ := inv
  refine r_aload_n C (dx dL_27 0 rfl) rfl ?_
  refine r_aload_nT C (dx dL_27 1 rfl) rfl ?_
  refine r_iload_n C (dx dL_27 2 rfl) rfl ?_
  refine r_iconst (v := nI 1) C (dx dL_27 3 rfl) rfl ?_
  refine rn_iadd (a := i) (b := 1) C (dx dL_27 4 rfl) ?_
  refine r_sld C S (by omega) (by omega) (dx dL_27 5 rfl) ?_
  refine r_cv (as := [vi (xs (i + 1))]) (st := []) C X I_X6_lay l_L_134 (x2_lay o hg ok (xs (i + 1))) (by decide) (Nat.le_of_ble_eq_true rfl) List.prefix_rfl (by rw [M.al]; exact ALall) rfl rfl (Nat.le_of_ble_eq_true rfl) rfl (dx dL_27 6 rfl) ?_
  rintro _ h1 ⟨rfl, ⟨uh1, oh1⟩, fh1⟩ kh1
  have Mh1 := M.fr9 fh1 kh1
  have yh1 := y.fr9 M fh1
  refine r_aload_n C (dx dL_27 7 rfl) rfl ?_
  refine r_aload_nT C (dx dL_27 8 rfl) rfl ?_
  refine r_iload_n C (dx dL_27 9 rfl) rfl ?_
  refine r_iconst (v := nI 1) C (dx dL_27 10 rfl) rfl ?_
  refine rn_iadd (a := i) (b := 1) C (dx dL_27 11 rfl) ?_
  refine r_sld C S (by omega) (by omega) (dx dL_27 12 rfl) ?_
  obtain ⟨τh2, ph2, ch2⟩ := z7_lay (l := l) Mh1 yh1 ok (xs (i + 1))
  refine r_cv (as := [vi (xs (i + 1))]) (st := [_]) C X I_X7_lay l_L_137 ch2 (by decide) (Nat.le_of_ble_eq_true rfl) ph2 ALall rfl rfl (Nat.le_of_ble_eq_true rfl) rfl (dx dL_27 13 rfl) ?_
  rintro _ h2 ⟨rfl, Mh2, lh2, yh2⟩ kh2
  have oh2 := oh1.lo lh2
  refine r_icmp_eq (tgt := 1762) C (dx dL_27 14 rfl) (by decide) (fun _ => ?_) (fun c3 => absurd (by first | rfl | exact (vl_tie byt _).1) c3)
  exact kk h2 ⟨_, _, _, _, _, _, _, _, _, oh2, hg, Mh2, yh2, byt, (ok_layV ok _ _), okw⟩
def tL_28 : List (Nat × Instr × Nat) := [(1194, .aload_n 1, 1), (1195, .aload_n 0, 1), (1196, .iload_n 3, 1), (1197, .iconst 1, 1), (1198, .iadd, 1), (1199, .iaload, 1), (1200, .invokevirtual 138, 3), (1203, .aload_n 2, 1), (1204, .aload_n 0, 1), (1205, .iload_n 3, 1), (1206, .iconst 1, 1), (1207, .iadd, 1), (1208, .iaload, 1), (1209, .invokevirtual 141, 3), (1212, .lcmp, 1), (1213, .ifCond .eq 549, 3), (1216, .iconst 0, 1), (1217, .ireturn, 1)]
theorem dL_28 : dec_ok code tL_28 = true := by decide +kernel
set_option maxHeartbeats 4000000 in
theorem law_c28 {l : Launch} {G : Gt} {b L i : Nat} {xs : Nat → Int32} {h : Hp} (C : Cx G code 4 RL) (X : Rmx l G 2048 (AL P63 true true)) (S : SLw G b L xs) (hL : L ≤ 6) (hi : i + 6 ≤ L) (inv : Lv h) (kk : ∀ h', Lv h' → Rr G 1762 [(0, vt 9000), (1, vr 6 0), (2, vr 7 63), (3, vi (nI i))] [] h') : Rr G 1194 [(0, vt 9000), (1, vr 6 0), (2, vr 7 63), (3, vi (nI i))] [] h := by
  obtain ⟨v, u, w, g, B, Bt, z, κ, τ, o, hg, M, y, byt, ok, okw⟩ := inv
  refine r_aload_n C (dx dL_28 0 rfl) rfl ?_
  refine r_aload_nT C (dx dL_28 1 rfl) rfl ?_
  refine r_iload_n C (dx dL_28 2 rfl) rfl ?_
  refine r_iconst (v := nI 1) C (dx dL_28 3 rfl) rfl ?_
  refine rn_iadd (a := i) (b := 1) C (dx dL_28 4 rfl) ?_
  refine r_sld C S (by omega) (by omega) (dx dL_28 5 rfl) ?_
  refine r_cv (as := [vi (xs (i + 1))]) (st := []) C X I_X6_would l_L_138 (x2_would o hg ok (xs (i + 1))) (by decide) (Nat.le_of_ble_eq_true rfl) List.prefix_rfl (by rw [M.al]; exact ALall) rfl rfl (Nat.le_of_ble_eq_true rfl) rfl (dx dL_28 6 rfl) ?_
  rintro _ h1 ⟨rfl, ⟨uh1, oh1⟩, fh1⟩ kh1
  have Mh1 := M.fr9 fh1 kh1
  have yh1 := y.fr9 M fh1
  refine r_aload_n C (dx dL_28 7 rfl) rfl ?_
  refine r_aload_nT C (dx dL_28 8 rfl) rfl ?_
  refine r_iload_n C (dx dL_28 9 rfl) rfl ?_
  refine r_iconst (v := nI 1) C (dx dL_28 10 rfl) rfl ?_
  refine rn_iadd (a := i) (b := 1) C (dx dL_28 11 rfl) ?_
  refine r_sld C S (by omega) (by omega) (dx dL_28 12 rfl) ?_
  obtain ⟨τh2, ph2, ch2⟩ := z7_would (l := l) Mh1 yh1 ok (xs (i + 1))
  refine r_cv (as := [vi (xs (i + 1))]) (st := [_]) C X I_X7_would l_L_141 ch2 (by decide) (Nat.le_of_ble_eq_true rfl) ph2 ALall rfl rfl (Nat.le_of_ble_eq_true rfl) rfl (dx dL_28 13 rfl) ?_
  rintro _ h2 ⟨rfl, Mh2, lh2, yh2⟩ kh2
  have oh2 := oh1.lo lh2
  refine r_lcmp C (dx dL_28 14 rfl) ?_
  refine r_if_eq (tgt := 1762) C (dx dL_28 15 rfl) (by decide) (fun _ => ?_) (fun c3 => absurd ((lg_cmp_eq _ _).mpr rfl) c3)
  exact kk h2 ⟨_, _, _, _, _, _, _, _, _, oh2, hg, Mh2, yh2, byt, ok, okw⟩
def tL_29 : List (Nat × Instr × Nat) := [(1218, .aload_n 1, 1), (1219, .invokevirtual 142, 3), (1222, .aload_n 2, 1), (1223, .invokevirtual 145, 3), (1226, .if_icmp .eq 536, 3), (1229, .iconst 0, 1), (1230, .ireturn, 1)]
theorem dL_29 : dec_ok code tL_29 = true := by decide +kernel
set_option maxHeartbeats 4000000 in
theorem law_c29 {l : Launch} {G : Gt} {b L i : Nat} {xs : Nat → Int32} {h : Hp} (C : Cx G code 4 RL) (X : Rmx l G 2048 (AL P63 true true)) (S : SLw G b L xs) (hL : L ≤ 6) (hi : i + 6 ≤ L) (inv : Lv h) (kk : ∀ h', Lv h' → Rr G 1762 [(0, vt 9000), (1, vr 6 0), (2, vr 7 63), (3, vi (nI i))] [] h') : Rr G 1218 [(0, vt 9000), (1, vr 6 0), (2, vr 7 63), (3, vi (nI i))] [] h := by
  obtain ⟨v, u, w, g, B, Bt, z, κ, τ, o, hg, M, y, byt, ok, okw⟩ := inv
  refine r_aload_n C (dx dL_29 0 rfl) rfl ?_
  refine r_cv (as := []) (st := []) C X I_X6_head l_L_142 (x2_head o hg ok ) (by decide) (Nat.le_of_ble_eq_true rfl) List.prefix_rfl (by rw [M.al]; exact ALall) rfl rfl (Nat.le_of_ble_eq_true rfl) rfl (dx dL_29 1 rfl) ?_
  rintro _ h1 ⟨rfl, ⟨uh1, oh1⟩, fh1⟩ kh1
  have Mh1 := M.fr9 fh1 kh1
  have yh1 := y.fr9 M fh1
  refine r_aload_n C (dx dL_29 2 rfl) rfl ?_
  obtain ⟨τh2, ph2, ch2⟩ := z7_head (l := l) Mh1 yh1 ok 
  refine r_cv (as := []) (st := [_]) C X I_X7_head l_L_145 ch2 (by decide) (Nat.le_of_ble_eq_true rfl) ph2 ALall rfl rfl (Nat.le_of_ble_eq_true rfl) rfl (dx dL_29 3 rfl) ?_
  rintro _ h2 ⟨rfl, Mh2, lh2, yh2⟩ kh2
  have oh2 := oh1.lo lh2
  refine r_icmp_eq (tgt := 1762) C (dx dL_29 4 rfl) (by decide) (fun _ => ?_) (fun c3 => absurd (by first | rfl | exact (vl_tie byt _).1) c3)
  exact kk h2 ⟨_, _, _, _, _, _, _, _, _, oh2, hg, Mh2, yh2, byt, ok, okw⟩
def tL_30 : List (Nat × Instr × Nat) := [(1231, .aload_n 1, 1), (1232, .aload_n 0, 1), (1233, .iload_n 3, 1), (1234, .iconst 1, 1), (1235, .iadd, 1), (1236, .iaload, 1), (1237, .invokevirtual 146, 3), (1240, .aload_n 2, 1), (1241, .aload_n 0, 1), (1242, .iload_n 3, 1), (1243, .iconst 1, 1), (1244, .iadd, 1), (1245, .iaload, 1), (1246, .invokevirtual 149, 3), (1249, .if_icmp .eq 513, 3), (1252, .iconst 0, 1), (1253, .ireturn, 1)]
theorem dL_30 : dec_ok code tL_30 = true := by decide +kernel
set_option maxHeartbeats 4000000 in
theorem law_c30 {l : Launch} {G : Gt} {b L i : Nat} {xs : Nat → Int32} {h : Hp} (C : Cx G code 4 RL) (X : Rmx l G 2048 (AL P63 true true)) (S : SLw G b L xs) (hL : L ≤ 6) (hi : i + 6 ≤ L) (inv : Lv h) (kk : ∀ h', Lv h' → Rr G 1762 [(0, vt 9000), (1, vr 6 0), (2, vr 7 63), (3, vi (nI i))] [] h') : Rr G 1231 [(0, vt 9000), (1, vr 6 0), (2, vr 7 63), (3, vi (nI i))] [] h := by
  obtain ⟨v, u, w, g, B, Bt, z, κ, τ, o, hg, M, y, byt, ok, okw⟩ := inv
  refine r_aload_n C (dx dL_30 0 rfl) rfl ?_
  refine r_aload_nT C (dx dL_30 1 rfl) rfl ?_
  refine r_iload_n C (dx dL_30 2 rfl) rfl ?_
  refine r_iconst (v := nI 1) C (dx dL_30 3 rfl) rfl ?_
  refine rn_iadd (a := i) (b := 1) C (dx dL_30 4 rfl) ?_
  refine r_sld C S (by omega) (by omega) (dx dL_30 5 rfl) ?_
  refine r_cv (as := [vi (xs (i + 1))]) (st := []) C X I_X6_best l_L_146 (x2_best o hg ok (xs (i + 1))) (by decide) (Nat.le_of_ble_eq_true rfl) List.prefix_rfl (by rw [M.al]; exact ALall) rfl rfl (Nat.le_of_ble_eq_true rfl) rfl (dx dL_30 6 rfl) ?_
  rintro _ h1 ⟨rfl, ⟨uh1, oh1⟩, fh1⟩ kh1
  have Mh1 := M.fr9 fh1 kh1
  have yh1 := y.fr9 M fh1
  refine r_aload_n C (dx dL_30 7 rfl) rfl ?_
  refine r_aload_nT C (dx dL_30 8 rfl) rfl ?_
  refine r_iload_n C (dx dL_30 9 rfl) rfl ?_
  refine r_iconst (v := nI 1) C (dx dL_30 10 rfl) rfl ?_
  refine rn_iadd (a := i) (b := 1) C (dx dL_30 11 rfl) ?_
  refine r_sld C S (by omega) (by omega) (dx dL_30 12 rfl) ?_
  obtain ⟨τh2, ph2, ch2⟩ := z7_best (l := l) Mh1 yh1 ok (xs (i + 1))
  refine r_cv (as := [vi (xs (i + 1))]) (st := [_]) C X I_X7_best l_L_149 ch2 (by decide) (Nat.le_of_ble_eq_true rfl) ph2 ALall rfl rfl (Nat.le_of_ble_eq_true rfl) rfl (dx dL_30 13 rfl) ?_
  rintro _ h2 ⟨rfl, Mh2, lh2, yh2⟩ kh2
  have oh2 := oh1.lo lh2
  refine r_icmp_eq (tgt := 1762) C (dx dL_30 14 rfl) (by decide) (fun _ => ?_) (fun c3 => absurd (by first | rfl | exact (vl_tie byt _).1) c3)
  exact kk h2 ⟨_, _, _, _, _, _, _, _, _, oh2, hg, Mh2, yh2, byt, ok, okw⟩
def tL_31 : List (Nat × Instr × Nat) := [(1254, .aload_n 1, 1), (1255, .invokevirtual 150, 3), (1258, .aload_n 2, 1), (1259, .invokevirtual 153, 3), (1262, .lcmp, 1), (1263, .ifCond .eq 499, 3), (1266, .iconst 0, 1), (1267, .ireturn, 1)]
theorem dL_31 : dec_ok code tL_31 = true := by decide +kernel
set_option maxHeartbeats 4000000 in
theorem law_c31 {l : Launch} {G : Gt} {b L i : Nat} {xs : Nat → Int32} {h : Hp} (C : Cx G code 4 RL) (X : Rmx l G 2048 (AL P63 true true)) (S : SLw G b L xs) (hL : L ≤ 6) (hi : i + 6 ≤ L) (inv : Lv h) (kk : ∀ h', Lv h' → Rr G 1762 [(0, vt 9000), (1, vr 6 0), (2, vr 7 63), (3, vi (nI i))] [] h') : Rr G 1254 [(0, vt 9000), (1, vr 6 0), (2, vr 7 63), (3, vi (nI i))] [] h := by
  obtain ⟨v, u, w, g, B, Bt, z, κ, τ, o, hg, M, y, byt, ok, okw⟩ := inv
  refine r_aload_n C (dx dL_31 0 rfl) rfl ?_
  refine r_cv (as := []) (st := []) C X I_X6_bestDay l_L_150 (x2_bestDay o hg ok ) (by decide) (Nat.le_of_ble_eq_true rfl) List.prefix_rfl (by rw [M.al]; exact ALall) rfl rfl (Nat.le_of_ble_eq_true rfl) rfl (dx dL_31 1 rfl) ?_
  rintro _ h1 ⟨rfl, ⟨uh1, oh1⟩, fh1⟩ kh1
  have Mh1 := M.fr9 fh1 kh1
  have yh1 := y.fr9 M fh1
  refine r_aload_n C (dx dL_31 2 rfl) rfl ?_
  obtain ⟨τh2, ph2, ch2⟩ := z7_bestDay (l := l) Mh1 yh1 ok 
  refine r_cv (as := []) (st := [_]) C X I_X7_bestDay l_L_153 ch2 (by decide) (Nat.le_of_ble_eq_true rfl) ph2 ALall rfl rfl (Nat.le_of_ble_eq_true rfl) rfl (dx dL_31 3 rfl) ?_
  rintro _ h2 ⟨rfl, Mh2, lh2, yh2⟩ kh2
  have oh2 := oh1.lo lh2
  refine r_lcmp C (dx dL_31 4 rfl) ?_
  refine r_if_eq (tgt := 1762) C (dx dL_31 5 rfl) (by decide) (fun _ => ?_) (fun c3 => absurd ((lg_cmp_eq _ _).mpr rfl) c3)
  exact kk h2 ⟨_, _, _, _, _, _, _, _, _, oh2, hg, Mh2, yh2, byt, ok, okw⟩
def tL_32 : List (Nat × Instr × Nat) := [(1268, .aload_n 1, 1), (1269, .aload_n 0, 1), (1270, .iload_n 3, 1), (1271, .iconst 1, 1), (1272, .iadd, 1), (1273, .iaload, 1), (1274, .invokevirtual 154, 3), (1277, .aload_n 2, 1), (1278, .aload_n 0, 1), (1279, .iload_n 3, 1), (1280, .iconst 1, 1), (1281, .iadd, 1), (1282, .iaload, 1), (1283, .invokevirtual 157, 3), (1286, .if_icmp .eq 476, 3), (1289, .iconst 0, 1), (1290, .ireturn, 1)]
theorem dL_32 : dec_ok code tL_32 = true := by decide +kernel
set_option maxHeartbeats 4000000 in
theorem law_c32 {l : Launch} {G : Gt} {b L i : Nat} {xs : Nat → Int32} {h : Hp} (C : Cx G code 4 RL) (X : Rmx l G 2048 (AL P63 true true)) (S : SLw G b L xs) (hL : L ≤ 6) (hi : i + 6 ≤ L) (inv : Lv h) (kk : ∀ h', Lv h' → Rr G 1762 [(0, vt 9000), (1, vr 6 0), (2, vr 7 63), (3, vi (nI i))] [] h') : Rr G 1268 [(0, vt 9000), (1, vr 6 0), (2, vr 7 63), (3, vi (nI i))] [] h := by
  obtain ⟨v, u, w, g, B, Bt, z, κ, τ, o, hg, M, y, byt, ok, okw⟩ := inv
  refine r_aload_n C (dx dL_32 0 rfl) rfl ?_
  refine r_aload_nT C (dx dL_32 1 rfl) rfl ?_
  refine r_iload_n C (dx dL_32 2 rfl) rfl ?_
  refine r_iconst (v := nI 1) C (dx dL_32 3 rfl) rfl ?_
  refine rn_iadd (a := i) (b := 1) C (dx dL_32 4 rfl) ?_
  refine r_sld C S (by omega) (by omega) (dx dL_32 5 rfl) ?_
  refine r_cv (as := [vi (xs (i + 1))]) (st := []) C X I_X6_bears l_L_154 (x2_bears o hg (xs (i + 1))) (by decide) (Nat.le_of_ble_eq_true rfl) List.prefix_rfl (by rw [M.al]; exact ALall) rfl rfl (Nat.le_of_ble_eq_true rfl) rfl (dx dL_32 6 rfl) ?_
  rintro _ h1 ⟨rfl, ⟨uh1, oh1⟩, fh1⟩ kh1
  have Mh1 := M.fr9 fh1 kh1
  have yh1 := y.fr9 M fh1
  refine r_aload_n C (dx dL_32 7 rfl) rfl ?_
  refine r_aload_nT C (dx dL_32 8 rfl) rfl ?_
  refine r_iload_n C (dx dL_32 9 rfl) rfl ?_
  refine r_iconst (v := nI 1) C (dx dL_32 10 rfl) rfl ?_
  refine rn_iadd (a := i) (b := 1) C (dx dL_32 11 rfl) ?_
  refine r_sld C S (by omega) (by omega) (dx dL_32 12 rfl) ?_
  obtain ⟨τh2, ph2, ch2⟩ := z7_bears (l := l) Mh1 yh1 ok (xs (i + 1))
  refine r_cv (as := [vi (xs (i + 1))]) (st := [_]) C X I_X7_bears l_L_157 ch2 (by decide) (Nat.le_of_ble_eq_true rfl) ph2 ALall rfl rfl (Nat.le_of_ble_eq_true rfl) rfl (dx dL_32 13 rfl) ?_
  rintro _ h2 ⟨rfl, Mh2, lh2, yh2⟩ kh2
  have oh2 := oh1.lo lh2
  refine r_icmp_eq (tgt := 1762) C (dx dL_32 14 rfl) (by decide) (fun _ => ?_) (fun c3 => absurd (by first | rfl | exact (vl_tie byt _).1) c3)
  exact kk h2 ⟨_, _, _, _, _, _, _, _, _, oh2, hg, Mh2, yh2, byt, ok, okw⟩
def tL_33 : List (Nat × Instr × Nat) := [(1291, .aload_n 1, 1), (1292, .invokevirtual 158, 3), (1295, .aload_n 2, 1), (1296, .invokevirtual 161, 3), (1299, .if_icmp .eq 463, 3), (1302, .iconst 0, 1), (1303, .ireturn, 1)]
theorem dL_33 : dec_ok code tL_33 = true := by decide +kernel
set_option maxHeartbeats 4000000 in
theorem law_c33 {l : Launch} {G : Gt} {b L i : Nat} {xs : Nat → Int32} {h : Hp} (C : Cx G code 4 RL) (X : Rmx l G 2048 (AL P63 true true)) (S : SLw G b L xs) (hL : L ≤ 6) (hi : i + 6 ≤ L) (inv : Lv h) (kk : ∀ h', Lv h' → Rr G 1762 [(0, vt 9000), (1, vr 6 0), (2, vr 7 63), (3, vi (nI i))] [] h') : Rr G 1291 [(0, vt 9000), (1, vr 6 0), (2, vr 7 63), (3, vi (nI i))] [] h := by
  obtain ⟨v, u, w, g, B, Bt, z, κ, τ, o, hg, M, y, byt, ok, okw⟩ := inv
  refine r_aload_n C (dx dL_33 0 rfl) rfl ?_
  refine r_cv (as := []) (st := []) C X I_X6_harms l_L_158 (x2_harms o hg ) (by decide) (Nat.le_of_ble_eq_true rfl) List.prefix_rfl (by rw [M.al]; exact ALall) rfl rfl (Nat.le_of_ble_eq_true rfl) rfl (dx dL_33 1 rfl) ?_
  rintro _ h1 ⟨rfl, ⟨uh1, oh1⟩, fh1⟩ kh1
  have Mh1 := M.fr9 fh1 kh1
  have yh1 := y.fr9 M fh1
  refine r_aload_n C (dx dL_33 2 rfl) rfl ?_
  obtain ⟨τh2, ph2, ch2⟩ := z7_harms (l := l) Mh1 yh1 ok 
  refine r_cv (as := []) (st := [_]) C X I_X7_harms l_L_161 ch2 (by decide) (Nat.le_of_ble_eq_true rfl) ph2 ALall rfl rfl (Nat.le_of_ble_eq_true rfl) rfl (dx dL_33 3 rfl) ?_
  rintro _ h2 ⟨rfl, Mh2, lh2, yh2⟩ kh2
  have oh2 := oh1.lo lh2
  refine r_icmp_eq (tgt := 1762) C (dx dL_33 4 rfl) (by decide) (fun _ => ?_) (fun c3 => absurd (by first | rfl | exact (vl_tie byt _).1) c3)
  exact kk h2 ⟨_, _, _, _, _, _, _, _, _, oh2, hg, Mh2, yh2, byt, ok, okw⟩
def tL_34 : List (Nat × Instr × Nat) := [(1304, .aload_n 1, 1), (1305, .invokevirtual 162, 3), (1308, .aload_n 2, 1), (1309, .invokevirtual 165, 3), (1312, .if_icmp .eq 450, 3), (1315, .iconst 0, 1), (1316, .ireturn, 1)]
theorem dL_34 : dec_ok code tL_34 = true := by decide +kernel
set_option maxHeartbeats 4000000 in
theorem law_c34 {l : Launch} {G : Gt} {b L i : Nat} {xs : Nat → Int32} {h : Hp} (C : Cx G code 4 RL) (X : Rmx l G 2048 (AL P63 true true)) (S : SLw G b L xs) (hL : L ≤ 6) (hi : i + 6 ≤ L) (inv : Lv h) (kk : ∀ h', Lv h' → Rr G 1762 [(0, vt 9000), (1, vr 6 0), (2, vr 7 63), (3, vi (nI i))] [] h') : Rr G 1304 [(0, vt 9000), (1, vr 6 0), (2, vr 7 63), (3, vi (nI i))] [] h := by
  obtain ⟨v, u, w, g, B, Bt, z, κ, τ, o, hg, M, y, byt, ok, okw⟩ := inv
  refine r_aload_n C (dx dL_34 0 rfl) rfl ?_
  refine r_cv (as := []) (st := []) C X I_X6_least l_L_162 (x2_least o hg ) (by decide) (Nat.le_of_ble_eq_true rfl) List.prefix_rfl (by rw [M.al]; exact ALall) rfl rfl (Nat.le_of_ble_eq_true rfl) rfl (dx dL_34 1 rfl) ?_
  rintro _ h1 ⟨rfl, ⟨uh1, oh1⟩, fh1⟩ kh1
  have Mh1 := M.fr9 fh1 kh1
  have yh1 := y.fr9 M fh1
  refine r_aload_n C (dx dL_34 2 rfl) rfl ?_
  obtain ⟨τh2, ph2, ch2⟩ := z7_least (l := l) Mh1 yh1 ok 
  refine r_cv (as := []) (st := [_]) C X I_X7_least l_L_165 ch2 (by decide) (Nat.le_of_ble_eq_true rfl) ph2 ALall rfl rfl (Nat.le_of_ble_eq_true rfl) rfl (dx dL_34 3 rfl) ?_
  rintro _ h2 ⟨rfl, Mh2, lh2, yh2⟩ kh2
  have oh2 := oh1.lo lh2
  refine r_icmp_eq (tgt := 1762) C (dx dL_34 4 rfl) (by decide) (fun _ => ?_) (fun c3 => absurd (by first | rfl | exact (vl_tie byt _).1) c3)
  exact kk h2 ⟨_, _, _, _, _, _, _, _, _, oh2, hg, Mh2, yh2, byt, ok, okw⟩
def tL_35 : List (Nat × Instr × Nat) := [(1317, .aload_n 1, 1), (1318, .invokevirtual 166, 3), (1321, .aload_n 2, 1), (1322, .invokevirtual 169, 3), (1325, .if_icmp .eq 437, 3), (1328, .iconst 0, 1), (1329, .ireturn, 1)]
theorem dL_35 : dec_ok code tL_35 = true := by decide +kernel
set_option maxHeartbeats 4000000 in
theorem law_c35 {l : Launch} {G : Gt} {b L i : Nat} {xs : Nat → Int32} {h : Hp} (C : Cx G code 4 RL) (X : Rmx l G 2048 (AL P63 true true)) (S : SLw G b L xs) (hL : L ≤ 6) (hi : i + 6 ≤ L) (inv : Lv h) (kk : ∀ h', Lv h' → Rr G 1762 [(0, vt 9000), (1, vr 6 0), (2, vr 7 63), (3, vi (nI i))] [] h') : Rr G 1317 [(0, vt 9000), (1, vr 6 0), (2, vr 7 63), (3, vi (nI i))] [] h := by
  obtain ⟨v, u, w, g, B, Bt, z, κ, τ, o, hg, M, y, byt, ok, okw⟩ := inv
  refine r_aload_n C (dx dL_35 0 rfl) rfl ?_
  refine r_cv (as := []) (st := []) C X I_X6_stolen l_L_166 (x2_stolen o hg ) (by decide) (Nat.le_of_ble_eq_true rfl) List.prefix_rfl (by rw [M.al]; exact ALall) rfl rfl (Nat.le_of_ble_eq_true rfl) rfl (dx dL_35 1 rfl) ?_
  rintro _ h1 ⟨rfl, ⟨uh1, oh1⟩, fh1⟩ kh1
  have Mh1 := M.fr9 fh1 kh1
  have yh1 := y.fr9 M fh1
  refine r_aload_n C (dx dL_35 2 rfl) rfl ?_
  obtain ⟨τh2, ph2, ch2⟩ := z7_stolen (l := l) Mh1 yh1 ok 
  refine r_cv (as := []) (st := [_]) C X I_X7_stolen l_L_169 ch2 (by decide) (Nat.le_of_ble_eq_true rfl) ph2 ALall rfl rfl (Nat.le_of_ble_eq_true rfl) rfl (dx dL_35 3 rfl) ?_
  rintro _ h2 ⟨rfl, Mh2, lh2, yh2⟩ kh2
  have oh2 := oh1.lo lh2
  refine r_icmp_eq (tgt := 1762) C (dx dL_35 4 rfl) (by decide) (fun _ => ?_) (fun c3 => absurd (by first | rfl | exact (vl_tie byt _).1) c3)
  exact kk h2 ⟨_, _, _, _, _, _, _, _, _, oh2, hg, Mh2, yh2, byt, ok, okw⟩
def tL_36 : List (Nat × Instr × Nat) := [(1330, .aload_n 1, 1), (1331, .invokevirtual 170, 3), (1334, .aload_n 2, 1), (1335, .invokevirtual 173, 3), (1338, .if_icmp .eq 424, 3), (1341, .iconst 0, 1), (1342, .ireturn, 1)]
theorem dL_36 : dec_ok code tL_36 = true := by decide +kernel
set_option maxHeartbeats 4000000 in
theorem law_c36 {l : Launch} {G : Gt} {b L i : Nat} {xs : Nat → Int32} {h : Hp} (C : Cx G code 4 RL) (X : Rmx l G 2048 (AL P63 true true)) (S : SLw G b L xs) (hL : L ≤ 6) (hi : i + 6 ≤ L) (inv : Lv h) (kk : ∀ h', Lv h' → Rr G 1762 [(0, vt 9000), (1, vr 6 0), (2, vr 7 63), (3, vi (nI i))] [] h') : Rr G 1330 [(0, vt 9000), (1, vr 6 0), (2, vr 7 63), (3, vi (nI i))] [] h := by
  obtain ⟨v, u, w, g, B, Bt, z, κ, τ, o, hg, M, y, byt, ok, okw⟩ := inv
  refine r_aload_n C (dx dL_36 0 rfl) rfl ?_
  refine r_cv (as := []) (st := []) C X I_X6_spare l_L_170 (x2_spare o hg ) (by decide) (Nat.le_of_ble_eq_true rfl) List.prefix_rfl (by rw [M.al]; exact ALall) rfl rfl (Nat.le_of_ble_eq_true rfl) rfl (dx dL_36 1 rfl) ?_
  rintro _ h1 ⟨rfl, ⟨uh1, oh1⟩, fh1⟩ kh1
  have Mh1 := M.fr9 fh1 kh1
  have yh1 := y.fr9 M fh1
  refine r_aload_n C (dx dL_36 2 rfl) rfl ?_
  obtain ⟨τh2, ph2, ch2⟩ := z7_spare (l := l) Mh1 yh1 ok 
  refine r_cv (as := []) (st := [_]) C X I_X7_spare l_L_173 ch2 (by decide) (Nat.le_of_ble_eq_true rfl) ph2 ALall rfl rfl (Nat.le_of_ble_eq_true rfl) rfl (dx dL_36 3 rfl) ?_
  rintro _ h2 ⟨rfl, Mh2, lh2, yh2⟩ kh2
  have oh2 := oh1.lo lh2
  refine r_icmp_eq (tgt := 1762) C (dx dL_36 4 rfl) (by decide) (fun _ => ?_) (fun c3 => absurd (by first | rfl | exact (vl_tie byt _).1) c3)
  exact kk h2 ⟨_, _, _, _, _, _, _, _, _, oh2, hg, Mh2, yh2, byt, ok, okw⟩
def tL_37 : List (Nat × Instr × Nat) := [(1343, .aload_n 1, 1), (1344, .aload_n 0, 1), (1345, .iload_n 3, 1), (1346, .iconst 1, 1), (1347, .iadd, 1), (1348, .iaload, 1), (1349, .aload_n 0, 1), (1350, .iload_n 3, 1), (1351, .iconst 2, 1), (1352, .iadd, 1), (1353, .iaload, 1), (1354, .invokevirtual 174, 3), (1357, .aload_n 2, 1), (1358, .aload_n 0, 1), (1359, .iload_n 3, 1), (1360, .iconst 1, 1), (1361, .iadd, 1), (1362, .iaload, 1), (1363, .aload_n 0, 1), (1364, .iload_n 3, 1), (1365, .iconst 2, 1), (1366, .iadd, 1), (1367, .iaload, 1), (1368, .invokevirtual 177, 3), (1371, .lcmp, 1), (1372, .ifCond .eq 390, 3), (1375, .iconst 0, 1), (1376, .ireturn, 1)]
theorem dL_37 : dec_ok code tL_37 = true := by decide +kernel
set_option maxHeartbeats 4000000 in
theorem law_c37 {l : Launch} {G : Gt} {b L i : Nat} {xs : Nat → Int32} {h : Hp} (C : Cx G code 4 RL) (X : Rmx l G 2048 (AL P63 true true)) (S : SLw G b L xs) (hL : L ≤ 6) (hi : i + 6 ≤ L) (inv : Lv h) (kk : ∀ h', Lv h' → Rr G 1762 [(0, vt 9000), (1, vr 6 0), (2, vr 7 63), (3, vi (nI i))] [] h') : Rr G 1343 [(0, vt 9000), (1, vr 6 0), (2, vr 7 63), (3, vi (nI i))] [] h := by
  obtain ⟨v, u, w, g, B, Bt, z, κ, τ, o, hg, M, y, byt, ok, okw⟩ := inv
  refine r_aload_n C (dx dL_37 0 rfl) rfl ?_
  refine r_aload_nT C (dx dL_37 1 rfl) rfl ?_
  refine r_iload_n C (dx dL_37 2 rfl) rfl ?_
  refine r_iconst (v := nI 1) C (dx dL_37 3 rfl) rfl ?_
  refine rn_iadd (a := i) (b := 1) C (dx dL_37 4 rfl) ?_
  refine r_sld C S (by omega) (by omega) (dx dL_37 5 rfl) ?_
  refine r_aload_nT C (dx dL_37 6 rfl) rfl ?_
  refine r_iload_n C (dx dL_37 7 rfl) rfl ?_
  refine r_iconst (v := nI 2) C (dx dL_37 8 rfl) rfl ?_
  refine rn_iadd (a := i) (b := 2) C (dx dL_37 9 rfl) ?_
  refine r_sld C S (by omega) (by omega) (dx dL_37 10 rfl) ?_
  refine r_cv (as := [vi (xs (i + 1)), vi (xs (i + 2))]) (st := []) C X I_X6_gift l_L_174 (x2_gift o hg (xs (i + 1)) (xs (i + 2))) (by decide) (Nat.le_of_ble_eq_true rfl) List.prefix_rfl (by rw [M.al]; exact ALall) rfl rfl (Nat.le_of_ble_eq_true rfl) rfl (dx dL_37 11 rfl) ?_
  rintro _ h1 ⟨rfl, ⟨uh1, oh1⟩, fh1⟩ kh1
  have Mh1 := M.fr9 fh1 kh1
  have yh1 := y.fr9 M fh1
  refine r_aload_n C (dx dL_37 12 rfl) rfl ?_
  refine r_aload_nT C (dx dL_37 13 rfl) rfl ?_
  refine r_iload_n C (dx dL_37 14 rfl) rfl ?_
  refine r_iconst (v := nI 1) C (dx dL_37 15 rfl) rfl ?_
  refine rn_iadd (a := i) (b := 1) C (dx dL_37 16 rfl) ?_
  refine r_sld C S (by omega) (by omega) (dx dL_37 17 rfl) ?_
  refine r_aload_nT C (dx dL_37 18 rfl) rfl ?_
  refine r_iload_n C (dx dL_37 19 rfl) rfl ?_
  refine r_iconst (v := nI 2) C (dx dL_37 20 rfl) rfl ?_
  refine rn_iadd (a := i) (b := 2) C (dx dL_37 21 rfl) ?_
  refine r_sld C S (by omega) (by omega) (dx dL_37 22 rfl) ?_
  obtain ⟨τh2, ph2, ch2⟩ := z7_gift (l := l) Mh1 yh1 ok (xs (i + 1)) (xs (i + 2))
  refine r_cv (as := [vi (xs (i + 1)), vi (xs (i + 2))]) (st := [_]) C X I_X7_gift l_L_177 ch2 (by decide) (Nat.le_of_ble_eq_true rfl) ph2 ALall rfl rfl (Nat.le_of_ble_eq_true rfl) rfl (dx dL_37 23 rfl) ?_
  rintro _ h2 ⟨rfl, Mh2, lh2, yh2⟩ kh2
  have oh2 := oh1.lo lh2
  refine r_lcmp C (dx dL_37 24 rfl) ?_
  refine r_if_eq (tgt := 1762) C (dx dL_37 25 rfl) (by decide) (fun _ => ?_) (fun c3 => absurd ((lg_cmp_eq _ _).mpr rfl) c3)
  exact kk h2 ⟨_, _, _, _, _, _, _, _, _, oh2, hg, Mh2, yh2, byt, ok, okw⟩
def tL_38 : List (Nat × Instr × Nat) := [(1377, .aload_n 1, 1), (1378, .aload_n 0, 1), (1379, .iload_n 3, 1), (1380, .iconst 1, 1), (1381, .iadd, 1), (1382, .iaload, 1), (1383, .ifCond .eq 7, 3), (1386, .iconst 1, 1), (1387, .goto 4, 3), (1390, .iconst 0, 1), (1391, .invokevirtual 178, 3), (1394, .aload_n 2, 1), (1395, .aload_n 0, 1), (1396, .iload_n 3, 1), (1397, .iconst 1, 1), (1398, .iadd, 1), (1399, .iaload, 1), (1400, .ifCond .eq 7, 3), (1403, .iconst 1, 1), (1404, .goto 4, 3), (1407, .iconst 0, 1), (1408, .invokevirtual 182, 3), (1411, .if_icmp .eq 351, 3), (1414, .iconst 0, 1), (1415, .ireturn, 1)]
theorem dL_38 : dec_ok code tL_38 = true := by decide +kernel
set_option maxHeartbeats 4000000 in
theorem law_c38 {l : Launch} {G : Gt} {b L i : Nat} {xs : Nat → Int32} {h : Hp} (C : Cx G code 4 RL) (X : Rmx l G 2048 (AL P63 true true)) (S : SLw G b L xs) (hL : L ≤ 6) (hi : i + 6 ≤ L) (inv : Lv h) (kk : ∀ h', Lv h' → Rr G 1762 [(0, vt 9000), (1, vr 6 0), (2, vr 7 63), (3, vi (nI i))] [] h') : Rr G 1377 [(0, vt 9000), (1, vr 6 0), (2, vr 7 63), (3, vi (nI i))] [] h := by
  obtain ⟨v, u, w, g, B, Bt, z, κ, τ, o, hg, M, y, byt, ok, okw⟩ := inv
  refine r_aload_n C (dx dL_38 0 rfl) rfl ?_
  refine r_aload_nT C (dx dL_38 1 rfl) rfl ?_
  refine r_iload_n C (dx dL_38 2 rfl) rfl ?_
  refine r_iconst (v := nI 1) C (dx dL_38 3 rfl) rfl ?_
  refine rn_iadd (a := i) (b := 1) C (dx dL_38 4 rfl) ?_
  refine r_sld C S (by omega) (by omega) (dx dL_38 5 rfl) ?_
  refine r_if_eq (tgt := 1390) C (dx dL_38 6 rfl) (by decide) (fun c1 => ?_) (fun c1 => ?_)
  ·
    refine r_iconst (v := nI 0) C (dx dL_38 9 rfl) rfl ?_
    refine r_cv (as := [vi (nI 0)]) (st := []) C X I_X6_never l_L_178 (x2_never o hg false) (by decide) (Nat.le_of_ble_eq_true rfl) List.prefix_rfl (by rw [M.al]; exact ALall) rfl rfl (Nat.le_of_ble_eq_true rfl) rfl (dx dL_38 10 rfl) ?_
    rintro _ h2 ⟨rfl, ⟨uh2, oh2⟩, fh2⟩ kh2
    have Mh2 := M.fr9 fh2 kh2
    have yh2 := y.fr9 M fh2
    refine r_aload_n C (dx dL_38 11 rfl) rfl ?_
    refine r_aload_nT C (dx dL_38 12 rfl) rfl ?_
    refine r_iload_n C (dx dL_38 13 rfl) rfl ?_
    refine r_iconst (v := nI 1) C (dx dL_38 14 rfl) rfl ?_
    refine rn_iadd (a := i) (b := 1) C (dx dL_38 15 rfl) ?_
    refine r_sld C S (by omega) (by omega) (dx dL_38 16 rfl) ?_
    refine r_if_eq (tgt := 1407) C (dx dL_38 17 rfl) (by decide) (fun c3 => ?_) (fun c3 => ?_)
    ·
      refine r_iconst (v := nI 0) C (dx dL_38 20 rfl) rfl ?_
      obtain ⟨τh4, ph4, ch4⟩ := z7_never (l := l) Mh2 yh2 ok false
      refine r_cv (as := [vi (nI 0)]) (st := [_]) C X I_X7_never l_L_182 ch4 (by decide) (Nat.le_of_ble_eq_true rfl) ph4 ALall rfl rfl (Nat.le_of_ble_eq_true rfl) rfl (dx dL_38 21 rfl) ?_
      rintro _ h4 ⟨rfl, Mh4, lh4, yh4⟩ kh4
      have oh4 := oh2.lo lh4
      refine r_icmp_eq (tgt := 1762) C (dx dL_38 22 rfl) (by decide) (fun _ => ?_) (fun c5 => absurd (by first | rfl | exact (vl_tie byt _).1) c5)
      exact kk h4 ⟨_, _, _, _, _, _, _, _, _, oh4, hg, Mh4, yh4, byt, ok, okw⟩
    ·
      exact absurd c1 c3
  ·
    refine r_iconst (v := nI 1) C (dx dL_38 7 rfl) rfl ?_
    refine r_goto (tgt := 1391) C (dx dL_38 8 rfl) (by decide) ?_
    refine r_cv (as := [vi (nI 1)]) (st := []) C X I_X6_never l_L_178 (x2_never o hg true) (by decide) (Nat.le_of_ble_eq_true rfl) List.prefix_rfl (by rw [M.al]; exact ALall) rfl rfl (Nat.le_of_ble_eq_true rfl) rfl (dx dL_38 10 rfl) ?_
    rintro _ h6 ⟨rfl, ⟨uh6, oh6⟩, fh6⟩ kh6
    have Mh6 := M.fr9 fh6 kh6
    have yh6 := y.fr9 M fh6
    refine r_aload_n C (dx dL_38 11 rfl) rfl ?_
    refine r_aload_nT C (dx dL_38 12 rfl) rfl ?_
    refine r_iload_n C (dx dL_38 13 rfl) rfl ?_
    refine r_iconst (v := nI 1) C (dx dL_38 14 rfl) rfl ?_
    refine rn_iadd (a := i) (b := 1) C (dx dL_38 15 rfl) ?_
    refine r_sld C S (by omega) (by omega) (dx dL_38 16 rfl) ?_
    refine r_if_eq (tgt := 1407) C (dx dL_38 17 rfl) (by decide) (fun c7 => ?_) (fun c7 => ?_)
    ·
      exact absurd c7 c1
    ·
      refine r_iconst (v := nI 1) C (dx dL_38 18 rfl) rfl ?_
      refine r_goto (tgt := 1408) C (dx dL_38 19 rfl) (by decide) ?_
      obtain ⟨τh8, ph8, ch8⟩ := z7_never (l := l) Mh6 yh6 ok true
      refine r_cv (as := [vi (nI 1)]) (st := [_]) C X I_X7_never l_L_182 ch8 (by decide) (Nat.le_of_ble_eq_true rfl) ph8 ALall rfl rfl (Nat.le_of_ble_eq_true rfl) rfl (dx dL_38 21 rfl) ?_
      rintro _ h8 ⟨rfl, Mh8, lh8, yh8⟩ kh8
      have oh8 := oh6.lo lh8
      refine r_icmp_eq (tgt := 1762) C (dx dL_38 22 rfl) (by decide) (fun _ => ?_) (fun c9 => absurd (by first | rfl | exact (vl_tie byt _).1) c9)
      exact kk h8 ⟨_, _, _, _, _, _, _, _, _, oh8, hg, Mh8, yh8, byt, ok, okw⟩
def tL_39 : List (Nat × Instr × Nat) := [(1416, .aload_n 1, 1), (1417, .aload_n 0, 1), (1418, .iload_n 3, 1), (1419, .iconst 1, 1), (1420, .iadd, 1), (1421, .iaload, 1), (1422, .invokevirtual 183, 3), (1425, .aload_n 2, 1), (1426, .aload_n 0, 1), (1427, .iload_n 3, 1), (1428, .iconst 1, 1), (1429, .iadd, 1), (1430, .iaload, 1), (1431, .invokevirtual 186, 3), (1434, .if_icmp .eq 328, 3), (1437, .iconst 0, 1), (1438, .ireturn, 1)]
theorem dL_39 : dec_ok code tL_39 = true := by decide +kernel
set_option maxHeartbeats 4000000 in
theorem law_c39 {l : Launch} {G : Gt} {b L i : Nat} {xs : Nat → Int32} {h : Hp} (C : Cx G code 4 RL) (X : Rmx l G 2048 (AL P63 true true)) (S : SLw G b L xs) (hL : L ≤ 6) (hi : i + 6 ≤ L) (inv : Lv h) (kk : ∀ h', Lv h' → Rr G 1762 [(0, vt 9000), (1, vr 6 0), (2, vr 7 63), (3, vi (nI i))] [] h') : Rr G 1416 [(0, vt 9000), (1, vr 6 0), (2, vr 7 63), (3, vi (nI i))] [] h := by
  obtain ⟨v, u, w, g, B, Bt, z, κ, τ, o, hg, M, y, byt, ok, okw⟩ := inv
  refine r_aload_n C (dx dL_39 0 rfl) rfl ?_
  refine r_aload_nT C (dx dL_39 1 rfl) rfl ?_
  refine r_iload_n C (dx dL_39 2 rfl) rfl ?_
  refine r_iconst (v := nI 1) C (dx dL_39 3 rfl) rfl ?_
  refine rn_iadd (a := i) (b := 1) C (dx dL_39 4 rfl) ?_
  refine r_sld C S (by omega) (by omega) (dx dL_39 5 rfl) ?_
  refine r_cv (as := [vi (xs (i + 1))]) (st := []) C X I_X6_with l_L_183 (x2_with o hg (xs (i + 1))) (by decide) (Nat.le_of_ble_eq_true rfl) List.prefix_rfl (by rw [M.al]; exact ALall) rfl rfl (Nat.le_of_ble_eq_true rfl) rfl (dx dL_39 6 rfl) ?_
  rintro _ h1 ⟨rfl, ⟨uh1, oh1⟩, fh1⟩ kh1
  have Mh1 := M.fr9 fh1 kh1
  have yh1 := y.fr9 M fh1
  refine r_aload_n C (dx dL_39 7 rfl) rfl ?_
  refine r_aload_nT C (dx dL_39 8 rfl) rfl ?_
  refine r_iload_n C (dx dL_39 9 rfl) rfl ?_
  refine r_iconst (v := nI 1) C (dx dL_39 10 rfl) rfl ?_
  refine rn_iadd (a := i) (b := 1) C (dx dL_39 11 rfl) ?_
  refine r_sld C S (by omega) (by omega) (dx dL_39 12 rfl) ?_
  obtain ⟨τh2, ph2, ch2⟩ := z7_with (l := l) Mh1 yh1 ok (xs (i + 1))
  refine r_cv (as := [vi (xs (i + 1))]) (st := [_]) C X I_X7_with l_L_186 ch2 (by decide) (Nat.le_of_ble_eq_true rfl) ph2 ALall rfl rfl (Nat.le_of_ble_eq_true rfl) rfl (dx dL_39 13 rfl) ?_
  rintro _ h2 ⟨rfl, Mh2, lh2, yh2⟩ kh2
  have oh2 := oh1.lo lh2
  refine r_icmp_eq (tgt := 1762) C (dx dL_39 14 rfl) (by decide) (fun _ => ?_) (fun c3 => absurd (by first | rfl | exact (vl_tie byt _).1) c3)
  exact kk h2 ⟨_, _, _, _, _, _, _, _, _, oh2, hg, Mh2, yh2, byt, ok, okw⟩
def tL_40 : List (Nat × Instr × Nat) := [(1439, .aload_n 1, 1), (1440, .aload_n 0, 1), (1441, .iload_n 3, 1), (1442, .iconst 1, 1), (1443, .iadd, 1), (1444, .iaload, 1), (1445, .invokevirtual 187, 3), (1448, .aload_n 2, 1), (1449, .aload_n 0, 1), (1450, .iload_n 3, 1), (1451, .iconst 1, 1), (1452, .iadd, 1), (1453, .iaload, 1), (1454, .invokevirtual 190, 3), (1457, .if_icmp .eq 305, 3), (1460, .iconst 0, 1), (1461, .ireturn, 1)]
theorem dL_40 : dec_ok code tL_40 = true := by decide +kernel
set_option maxHeartbeats 4000000 in
theorem law_c40 {l : Launch} {G : Gt} {b L i : Nat} {xs : Nat → Int32} {h : Hp} (C : Cx G code 4 RL) (X : Rmx l G 2048 (AL P63 true true)) (S : SLw G b L xs) (hL : L ≤ 6) (hi : i + 6 ≤ L) (inv : Lv h) (kk : ∀ h', Lv h' → Rr G 1762 [(0, vt 9000), (1, vr 6 0), (2, vr 7 63), (3, vi (nI i))] [] h') : Rr G 1439 [(0, vt 9000), (1, vr 6 0), (2, vr 7 63), (3, vi (nI i))] [] h := by
  obtain ⟨v, u, w, g, B, Bt, z, κ, τ, o, hg, M, y, byt, ok, okw⟩ := inv
  refine r_aload_n C (dx dL_40 0 rfl) rfl ?_
  refine r_aload_nT C (dx dL_40 1 rfl) rfl ?_
  refine r_iload_n C (dx dL_40 2 rfl) rfl ?_
  refine r_iconst (v := nI 1) C (dx dL_40 3 rfl) rfl ?_
  refine rn_iadd (a := i) (b := 1) C (dx dL_40 4 rfl) ?_
  refine r_sld C S (by omega) (by omega) (dx dL_40 5 rfl) ?_
  refine r_cv (as := [vi (xs (i + 1))]) (st := []) C X I_X6_safe l_L_187 (x2_safe o hg (xs (i + 1))) (by decide) (Nat.le_of_ble_eq_true rfl) List.prefix_rfl (by rw [M.al]; exact ALall) rfl rfl (Nat.le_of_ble_eq_true rfl) rfl (dx dL_40 6 rfl) ?_
  rintro _ h1 ⟨rfl, ⟨uh1, oh1⟩, fh1⟩ kh1
  have Mh1 := M.fr9 fh1 kh1
  have yh1 := y.fr9 M fh1
  refine r_aload_n C (dx dL_40 7 rfl) rfl ?_
  refine r_aload_nT C (dx dL_40 8 rfl) rfl ?_
  refine r_iload_n C (dx dL_40 9 rfl) rfl ?_
  refine r_iconst (v := nI 1) C (dx dL_40 10 rfl) rfl ?_
  refine rn_iadd (a := i) (b := 1) C (dx dL_40 11 rfl) ?_
  refine r_sld C S (by omega) (by omega) (dx dL_40 12 rfl) ?_
  obtain ⟨τh2, ph2, ch2⟩ := z7_safe (l := l) Mh1 yh1 ok (xs (i + 1))
  refine r_cv (as := [vi (xs (i + 1))]) (st := [_]) C X I_X7_safe l_L_190 ch2 (by decide) (Nat.le_of_ble_eq_true rfl) ph2 ALall rfl rfl (Nat.le_of_ble_eq_true rfl) rfl (dx dL_40 13 rfl) ?_
  rintro _ h2 ⟨rfl, Mh2, lh2, yh2⟩ kh2
  have oh2 := oh1.lo lh2
  refine r_icmp_eq (tgt := 1762) C (dx dL_40 14 rfl) (by decide) (fun _ => ?_) (fun c3 => absurd (by first | rfl | exact (vl_tie byt _).1) c3)
  exact kk h2 ⟨_, _, _, _, _, _, _, _, _, oh2, hg, Mh2, yh2, byt, ok, okw⟩
def tL_41 : List (Nat × Instr × Nat) := [(1462, .aload_n 1, 1), (1463, .aload_n 0, 1), (1464, .iload_n 3, 1), (1465, .iconst 1, 1), (1466, .iadd, 1), (1467, .iaload, 1), (1468, .invokevirtual 191, 3), (1471, .aload_n 2, 1), (1472, .aload_n 0, 1), (1473, .iload_n 3, 1), (1474, .iconst 1, 1), (1475, .iadd, 1), (1476, .iaload, 1), (1477, .invokevirtual 194, 3), (1480, .if_icmp .eq 282, 3), (1483, .iconst 0, 1), (1484, .ireturn, 1)]
theorem dL_41 : dec_ok code tL_41 = true := by decide +kernel
set_option maxHeartbeats 4000000 in
theorem law_c41 {l : Launch} {G : Gt} {b L i : Nat} {xs : Nat → Int32} {h : Hp} (C : Cx G code 4 RL) (X : Rmx l G 2048 (AL P63 true true)) (S : SLw G b L xs) (hL : L ≤ 6) (hi : i + 6 ≤ L) (inv : Lv h) (kk : ∀ h', Lv h' → Rr G 1762 [(0, vt 9000), (1, vr 6 0), (2, vr 7 63), (3, vi (nI i))] [] h') : Rr G 1462 [(0, vt 9000), (1, vr 6 0), (2, vr 7 63), (3, vi (nI i))] [] h := by
  obtain ⟨v, u, w, g, B, Bt, z, κ, τ, o, hg, M, y, byt, ok, okw⟩ := inv
  refine r_aload_n C (dx dL_41 0 rfl) rfl ?_
  refine r_aload_nT C (dx dL_41 1 rfl) rfl ?_
  refine r_iload_n C (dx dL_41 2 rfl) rfl ?_
  refine r_iconst (v := nI 1) C (dx dL_41 3 rfl) rfl ?_
  refine rn_iadd (a := i) (b := 1) C (dx dL_41 4 rfl) ?_
  refine r_sld C S (by omega) (by omega) (dx dL_41 5 rfl) ?_
  refine r_cv (as := [vi (xs (i + 1))]) (st := []) C X I_X6_alone l_L_191 (x2_alone o hg (xs (i + 1))) (by decide) (Nat.le_of_ble_eq_true rfl) List.prefix_rfl (by rw [M.al]; exact ALall) rfl rfl (Nat.le_of_ble_eq_true rfl) rfl (dx dL_41 6 rfl) ?_
  rintro _ h1 ⟨rfl, ⟨uh1, oh1⟩, fh1⟩ kh1
  have Mh1 := M.fr9 fh1 kh1
  have yh1 := y.fr9 M fh1
  refine r_aload_n C (dx dL_41 7 rfl) rfl ?_
  refine r_aload_nT C (dx dL_41 8 rfl) rfl ?_
  refine r_iload_n C (dx dL_41 9 rfl) rfl ?_
  refine r_iconst (v := nI 1) C (dx dL_41 10 rfl) rfl ?_
  refine rn_iadd (a := i) (b := 1) C (dx dL_41 11 rfl) ?_
  refine r_sld C S (by omega) (by omega) (dx dL_41 12 rfl) ?_
  obtain ⟨τh2, ph2, ch2⟩ := z7_alone (l := l) Mh1 yh1 ok (xs (i + 1))
  refine r_cv (as := [vi (xs (i + 1))]) (st := [_]) C X I_X7_alone l_L_194 ch2 (by decide) (Nat.le_of_ble_eq_true rfl) ph2 ALall rfl rfl (Nat.le_of_ble_eq_true rfl) rfl (dx dL_41 13 rfl) ?_
  rintro _ h2 ⟨rfl, Mh2, lh2, yh2⟩ kh2
  have oh2 := oh1.lo lh2
  refine r_icmp_eq (tgt := 1762) C (dx dL_41 14 rfl) (by decide) (fun _ => ?_) (fun c3 => absurd (by first | rfl | exact (vl_tie byt _).1) c3)
  exact kk h2 ⟨_, _, _, _, _, _, _, _, _, oh2, hg, Mh2, yh2, byt, ok, okw⟩
def tL_42 : List (Nat × Instr × Nat) := [(1485, .aload_n 1, 1), (1486, .invokevirtual 195, 3), (1489, .aload_n 2, 1), (1490, .invokevirtual 198, 3), (1493, .if_icmp .eq 269, 3), (1496, .iconst 0, 1), (1497, .ireturn, 1)]
theorem dL_42 : dec_ok code tL_42 = true := by decide +kernel
set_option maxHeartbeats 4000000 in
theorem law_c42 {l : Launch} {G : Gt} {b L i : Nat} {xs : Nat → Int32} {h : Hp} (C : Cx G code 4 RL) (X : Rmx l G 2048 (AL P63 true true)) (S : SLw G b L xs) (hL : L ≤ 6) (hi : i + 6 ≤ L) (inv : Lv h) (kk : ∀ h', Lv h' → Rr G 1762 [(0, vt 9000), (1, vr 6 0), (2, vr 7 63), (3, vi (nI i))] [] h') : Rr G 1485 [(0, vt 9000), (1, vr 6 0), (2, vr 7 63), (3, vi (nI i))] [] h := by
  obtain ⟨v, u, w, g, B, Bt, z, κ, τ, o, hg, M, y, byt, ok, okw⟩ := inv
  refine r_aload_n C (dx dL_42 0 rfl) rfl ?_
  refine r_cv (as := []) (st := []) C X I_X6_key l_L_195 (x2_key o hg ) (by decide) (Nat.le_of_ble_eq_true rfl) List.prefix_rfl (by rw [M.al]; exact ALall) rfl rfl (Nat.le_of_ble_eq_true rfl) rfl (dx dL_42 1 rfl) ?_
  rintro _ h1 ⟨rfl, ⟨uh1, oh1⟩, fh1⟩ kh1
  have Mh1 := M.fr9 fh1 kh1
  have yh1 := y.fr9 M fh1
  refine r_aload_n C (dx dL_42 2 rfl) rfl ?_
  obtain ⟨τh2, ph2, ch2⟩ := z7_key (l := l) Mh1 yh1 ok 
  refine r_cv (as := []) (st := [_]) C X I_X7_key l_L_198 ch2 (by decide) (Nat.le_of_ble_eq_true rfl) ph2 ALall rfl rfl (Nat.le_of_ble_eq_true rfl) rfl (dx dL_42 3 rfl) ?_
  rintro _ h2 ⟨rfl, Mh2, lh2, yh2⟩ kh2
  have oh2 := oh1.lo lh2
  refine r_icmp_eq (tgt := 1762) C (dx dL_42 4 rfl) (by decide) (fun _ => ?_) (fun c3 => absurd (by first | rfl | exact (vl_tie byt _).1) c3)
  exact kk h2 ⟨_, _, _, _, _, _, _, _, _, oh2, hg, Mh2, yh2, byt, ok, okw⟩
def tL_43 : List (Nat × Instr × Nat) := [(1498, .aload_n 1, 1), (1499, .invokevirtual 199, 3), (1502, .aload_n 2, 1), (1503, .invokevirtual 202, 3), (1506, .if_icmp .eq 256, 3), (1509, .iconst 0, 1), (1510, .ireturn, 1)]
theorem dL_43 : dec_ok code tL_43 = true := by decide +kernel
set_option maxHeartbeats 4000000 in
theorem law_c43 {l : Launch} {G : Gt} {b L i : Nat} {xs : Nat → Int32} {h : Hp} (C : Cx G code 4 RL) (X : Rmx l G 2048 (AL P63 true true)) (S : SLw G b L xs) (hL : L ≤ 6) (hi : i + 6 ≤ L) (inv : Lv h) (kk : ∀ h', Lv h' → Rr G 1762 [(0, vt 9000), (1, vr 6 0), (2, vr 7 63), (3, vi (nI i))] [] h') : Rr G 1498 [(0, vt 9000), (1, vr 6 0), (2, vr 7 63), (3, vi (nI i))] [] h := by
  obtain ⟨v, u, w, g, B, Bt, z, κ, τ, o, hg, M, y, byt, ok, okw⟩ := inv
  refine r_aload_n C (dx dL_43 0 rfl) rfl ?_
  refine r_cv (as := []) (st := []) C X I_X6_idle l_L_199 (x2_idle o hg ) (by decide) (Nat.le_of_ble_eq_true rfl) List.prefix_rfl (by rw [M.al]; exact ALall) rfl rfl (Nat.le_of_ble_eq_true rfl) rfl (dx dL_43 1 rfl) ?_
  rintro _ h1 ⟨rfl, ⟨uh1, oh1⟩, fh1⟩ kh1
  have Mh1 := M.fr9 fh1 kh1
  have yh1 := y.fr9 M fh1
  refine r_aload_n C (dx dL_43 2 rfl) rfl ?_
  obtain ⟨τh2, ph2, ch2⟩ := z7_idle (l := l) Mh1 yh1 ok 
  refine r_cv (as := []) (st := [_]) C X I_X7_idle l_L_202 ch2 (by decide) (Nat.le_of_ble_eq_true rfl) ph2 ALall rfl rfl (Nat.le_of_ble_eq_true rfl) rfl (dx dL_43 3 rfl) ?_
  rintro _ h2 ⟨rfl, Mh2, lh2, yh2⟩ kh2
  have oh2 := oh1.lo lh2
  refine r_icmp_eq (tgt := 1762) C (dx dL_43 4 rfl) (by decide) (fun _ => ?_) (fun c3 => absurd (by first | rfl | exact (vl_tie byt _).1) c3)
  exact kk h2 ⟨_, _, _, _, _, _, _, _, _, oh2, hg, Mh2, yh2, byt, ok, okw⟩
def tL_44 : List (Nat × Instr × Nat) := [(1511, .aload_n 1, 1), (1512, .invokevirtual 203, 3), (1515, .aload_n 2, 1), (1516, .invokevirtual 206, 3), (1519, .if_icmp .eq 243, 3), (1522, .iconst 0, 1), (1523, .ireturn, 1)]
theorem dL_44 : dec_ok code tL_44 = true := by decide +kernel
set_option maxHeartbeats 4000000 in
theorem law_c44 {l : Launch} {G : Gt} {b L i : Nat} {xs : Nat → Int32} {h : Hp} (C : Cx G code 4 RL) (X : Rmx l G 2048 (AL P63 true true)) (S : SLw G b L xs) (hL : L ≤ 6) (hi : i + 6 ≤ L) (inv : Lv h) (kk : ∀ h', Lv h' → Rr G 1762 [(0, vt 9000), (1, vr 6 0), (2, vr 7 63), (3, vi (nI i))] [] h') : Rr G 1511 [(0, vt 9000), (1, vr 6 0), (2, vr 7 63), (3, vi (nI i))] [] h := by
  obtain ⟨v, u, w, g, B, Bt, z, κ, τ, o, hg, M, y, byt, ok, okw⟩ := inv
  refine r_aload_n C (dx dL_44 0 rfl) rfl ?_
  refine r_cv (as := []) (st := []) C X I_X6_room l_L_203 (x2_room o hg ) (by decide) (Nat.le_of_ble_eq_true rfl) List.prefix_rfl (by rw [M.al]; exact ALall) rfl rfl (Nat.le_of_ble_eq_true rfl) rfl (dx dL_44 1 rfl) ?_
  rintro _ h1 ⟨rfl, ⟨uh1, oh1⟩, fh1⟩ kh1
  have Mh1 := M.fr9 fh1 kh1
  have yh1 := y.fr9 M fh1
  refine r_aload_n C (dx dL_44 2 rfl) rfl ?_
  obtain ⟨τh2, ph2, ch2⟩ := z7_room (l := l) Mh1 yh1 ok 
  refine r_cv (as := []) (st := [_]) C X I_X7_room l_L_206 ch2 (by decide) (Nat.le_of_ble_eq_true rfl) ph2 ALall rfl rfl (Nat.le_of_ble_eq_true rfl) rfl (dx dL_44 3 rfl) ?_
  rintro _ h2 ⟨rfl, Mh2, lh2, yh2⟩ kh2
  have oh2 := oh1.lo lh2
  refine r_icmp_eq (tgt := 1762) C (dx dL_44 4 rfl) (by decide) (fun _ => ?_) (fun c3 => absurd (by first | rfl | exact (vl_tie byt _).1) c3)
  exact kk h2 ⟨_, _, _, _, _, _, _, _, _, oh2, hg, Mh2, yh2, byt, ok, okw⟩
def tL_45 : List (Nat × Instr × Nat) := [(1524, .aload_n 1, 1), (1525, .aload_n 0, 1), (1526, .iload_n 3, 1), (1527, .iconst 1, 1), (1528, .iadd, 1), (1529, .iaload, 1), (1530, .aload_n 0, 1), (1531, .iload_n 3, 1), (1532, .iconst 2, 1), (1533, .iadd, 1), (1534, .iaload, 1), (1535, .invokevirtual 207, 3), (1538, .aload_n 2, 1), (1539, .aload_n 0, 1), (1540, .iload_n 3, 1), (1541, .iconst 1, 1), (1542, .iadd, 1), (1543, .iaload, 1), (1544, .aload_n 0, 1), (1545, .iload_n 3, 1), (1546, .iconst 2, 1), (1547, .iadd, 1), (1548, .iaload, 1), (1549, .invokevirtual 210, 3), (1552, .if_icmp .eq 210, 3), (1555, .iconst 0, 1), (1556, .ireturn, 1)]
theorem dL_45 : dec_ok code tL_45 = true := by decide +kernel
set_option maxHeartbeats 4000000 in
theorem law_c45 {l : Launch} {G : Gt} {b L i : Nat} {xs : Nat → Int32} {h : Hp} (C : Cx G code 4 RL) (X : Rmx l G 2048 (AL P63 true true)) (S : SLw G b L xs) (hL : L ≤ 6) (hi : i + 6 ≤ L) (inv : Lv h) (kk : ∀ h', Lv h' → Rr G 1762 [(0, vt 9000), (1, vr 6 0), (2, vr 7 63), (3, vi (nI i))] [] h') : Rr G 1524 [(0, vt 9000), (1, vr 6 0), (2, vr 7 63), (3, vi (nI i))] [] h := by
  obtain ⟨v, u, w, g, B, Bt, z, κ, τ, o, hg, M, y, byt, ok, okw⟩ := inv
  refine r_aload_n C (dx dL_45 0 rfl) rfl ?_
  refine r_aload_nT C (dx dL_45 1 rfl) rfl ?_
  refine r_iload_n C (dx dL_45 2 rfl) rfl ?_
  refine r_iconst (v := nI 1) C (dx dL_45 3 rfl) rfl ?_
  refine rn_iadd (a := i) (b := 1) C (dx dL_45 4 rfl) ?_
  refine r_sld C S (by omega) (by omega) (dx dL_45 5 rfl) ?_
  refine r_aload_nT C (dx dL_45 6 rfl) rfl ?_
  refine r_iload_n C (dx dL_45 7 rfl) rfl ?_
  refine r_iconst (v := nI 2) C (dx dL_45 8 rfl) rfl ?_
  refine rn_iadd (a := i) (b := 2) C (dx dL_45 9 rfl) ?_
  refine r_sld C S (by omega) (by omega) (dx dL_45 10 rfl) ?_
  refine r_cv (as := [vi (xs (i + 1)), vi (xs (i + 2))]) (st := []) C X I_X6_swap l_L_207 (x_swap o hg (xs (i + 1)) (xs (i + 2))) (by decide) (Nat.le_of_ble_eq_true rfl) List.prefix_rfl (by rw [M.al]; exact ALall) rfl rfl (Nat.le_of_ble_eq_true rfl) rfl (dx dL_45 11 rfl) ?_
  rintro _ h1 ⟨rfl, ⟨uh1, oh1⟩, fh1⟩ kh1
  have Mh1 := M.fr9 fh1 kh1
  have yh1 := y.fr9 M fh1
  refine r_aload_n C (dx dL_45 12 rfl) rfl ?_
  refine r_aload_nT C (dx dL_45 13 rfl) rfl ?_
  refine r_iload_n C (dx dL_45 14 rfl) rfl ?_
  refine r_iconst (v := nI 1) C (dx dL_45 15 rfl) rfl ?_
  refine rn_iadd (a := i) (b := 1) C (dx dL_45 16 rfl) ?_
  refine r_sld C S (by omega) (by omega) (dx dL_45 17 rfl) ?_
  refine r_aload_nT C (dx dL_45 18 rfl) rfl ?_
  refine r_iload_n C (dx dL_45 19 rfl) rfl ?_
  refine r_iconst (v := nI 2) C (dx dL_45 20 rfl) rfl ?_
  refine rn_iadd (a := i) (b := 2) C (dx dL_45 21 rfl) ?_
  refine r_sld C S (by omega) (by omega) (dx dL_45 22 rfl) ?_
  obtain ⟨τh2, ph2, ch2⟩ := y7_swap (l := l) Mh1 yh1 ok (xs (i + 1)) (xs (i + 2))
  refine r_cv (as := [vi (xs (i + 1)), vi (xs (i + 2))]) (st := [_]) C X I_X7_swap l_L_210 ch2 (by decide) (Nat.le_of_ble_eq_true rfl) ph2 ALall rfl rfl (Nat.le_of_ble_eq_true rfl) rfl (dx dL_45 23 rfl) ?_
  rintro _ h2 ⟨rfl, Mh2, lh2, yh2⟩ kh2
  have oh2 := oh1.lo lh2
  refine r_icmp_eq (tgt := 1762) C (dx dL_45 24 rfl) (by decide) (fun _ => ?_) (fun c3 => absurd (by first | rfl | exact (vl_tie byt _).1) c3)
  exact kk h2 ⟨_, _, _, _, _, _, _, _, _, oh2, hg, Mh2, yh2, byt, (ok_swapV ok _ _), okw⟩
def tL_46 : List (Nat × Instr × Nat) := [(1557, .aload_n 1, 1), (1558, .aload_n 0, 1), (1559, .iload_n 3, 1), (1560, .iconst 1, 1), (1561, .iadd, 1), (1562, .iaload, 1), (1563, .aload_n 0, 1), (1564, .iload_n 3, 1), (1565, .iconst 2, 1), (1566, .iadd, 1), (1567, .iaload, 1), (1568, .invokevirtual 211, 3), (1571, .aload_n 2, 1), (1572, .aload_n 0, 1), (1573, .iload_n 3, 1), (1574, .iconst 1, 1), (1575, .iadd, 1), (1576, .iaload, 1), (1577, .aload_n 0, 1), (1578, .iload_n 3, 1), (1579, .iconst 2, 1), (1580, .iadd, 1), (1581, .iaload, 1), (1582, .invokevirtual 214, 3), (1585, .lcmp, 1), (1586, .ifCond .eq 176, 3), (1589, .iconst 0, 1), (1590, .ireturn, 1)]
theorem dL_46 : dec_ok code tL_46 = true := by decide +kernel
set_option maxHeartbeats 4000000 in
theorem law_c46 {l : Launch} {G : Gt} {b L i : Nat} {xs : Nat → Int32} {h : Hp} (C : Cx G code 4 RL) (X : Rmx l G 2048 (AL P63 true true)) (S : SLw G b L xs) (hL : L ≤ 6) (hi : i + 6 ≤ L) (inv : Lv h) (kk : ∀ h', Lv h' → Rr G 1762 [(0, vt 9000), (1, vr 6 0), (2, vr 7 63), (3, vi (nI i))] [] h') : Rr G 1557 [(0, vt 9000), (1, vr 6 0), (2, vr 7 63), (3, vi (nI i))] [] h := by
  obtain ⟨v, u, w, g, B, Bt, z, κ, τ, o, hg, M, y, byt, ok, okw⟩ := inv
  refine r_aload_n C (dx dL_46 0 rfl) rfl ?_
  refine r_aload_nT C (dx dL_46 1 rfl) rfl ?_
  refine r_iload_n C (dx dL_46 2 rfl) rfl ?_
  refine r_iconst (v := nI 1) C (dx dL_46 3 rfl) rfl ?_
  refine rn_iadd (a := i) (b := 1) C (dx dL_46 4 rfl) ?_
  refine r_sld C S (by omega) (by omega) (dx dL_46 5 rfl) ?_
  refine r_aload_nT C (dx dL_46 6 rfl) rfl ?_
  refine r_iload_n C (dx dL_46 7 rfl) rfl ?_
  refine r_iconst (v := nI 2) C (dx dL_46 8 rfl) rfl ?_
  refine rn_iadd (a := i) (b := 2) C (dx dL_46 9 rfl) ?_
  refine r_sld C S (by omega) (by omega) (dx dL_46 10 rfl) ?_
  refine r_cv (as := [vi (xs (i + 1)), vi (xs (i + 2))]) (st := []) C X I_X6_trust l_L_211 (x2_trust o hg (xs (i + 1)) (xs (i + 2))) (by decide) (Nat.le_of_ble_eq_true rfl) List.prefix_rfl (by rw [M.al]; exact ALall) rfl rfl (Nat.le_of_ble_eq_true rfl) rfl (dx dL_46 11 rfl) ?_
  rintro _ h1 ⟨rfl, ⟨uh1, oh1⟩, fh1⟩ kh1
  have Mh1 := M.fr9 fh1 kh1
  have yh1 := y.fr9 M fh1
  refine r_aload_n C (dx dL_46 12 rfl) rfl ?_
  refine r_aload_nT C (dx dL_46 13 rfl) rfl ?_
  refine r_iload_n C (dx dL_46 14 rfl) rfl ?_
  refine r_iconst (v := nI 1) C (dx dL_46 15 rfl) rfl ?_
  refine rn_iadd (a := i) (b := 1) C (dx dL_46 16 rfl) ?_
  refine r_sld C S (by omega) (by omega) (dx dL_46 17 rfl) ?_
  refine r_aload_nT C (dx dL_46 18 rfl) rfl ?_
  refine r_iload_n C (dx dL_46 19 rfl) rfl ?_
  refine r_iconst (v := nI 2) C (dx dL_46 20 rfl) rfl ?_
  refine rn_iadd (a := i) (b := 2) C (dx dL_46 21 rfl) ?_
  refine r_sld C S (by omega) (by omega) (dx dL_46 22 rfl) ?_
  obtain ⟨τh2, ph2, ch2⟩ := z7_trust (l := l) Mh1 yh1 ok (xs (i + 1)) (xs (i + 2))
  refine r_cv (as := [vi (xs (i + 1)), vi (xs (i + 2))]) (st := [_]) C X I_X7_trust l_L_214 ch2 (by decide) (Nat.le_of_ble_eq_true rfl) ph2 ALall rfl rfl (Nat.le_of_ble_eq_true rfl) rfl (dx dL_46 23 rfl) ?_
  rintro _ h2 ⟨rfl, Mh2, lh2, yh2⟩ kh2
  have oh2 := oh1.lo lh2
  refine r_lcmp C (dx dL_46 24 rfl) ?_
  refine r_if_eq (tgt := 1762) C (dx dL_46 25 rfl) (by decide) (fun _ => ?_) (fun c3 => absurd ((lg_cmp_eq _ _).mpr rfl) c3)
  exact kk h2 ⟨_, _, _, _, _, _, _, _, _, oh2, hg, Mh2, yh2, byt, ok, okw⟩
def tL_47 : List (Nat × Instr × Nat) := [(1591, .aload_n 1, 1), (1592, .aload_n 0, 1), (1593, .iload_n 3, 1), (1594, .iconst 1, 1), (1595, .iadd, 1), (1596, .iaload, 1), (1597, .aload_n 0, 1), (1598, .iload_n 3, 1), (1599, .iconst 2, 1), (1600, .iadd, 1), (1601, .iaload, 1), (1602, .aload_n 0, 1), (1603, .iload_n 3, 1), (1604, .iconst 3, 1), (1605, .iadd, 1), (1606, .iaload, 1), (1607, .invokevirtual 215, 3), (1610, .aload_n 2, 1), (1611, .aload_n 0, 1), (1612, .iload_n 3, 1), (1613, .iconst 1, 1), (1614, .iadd, 1), (1615, .iaload, 1), (1616, .aload_n 0, 1), (1617, .iload_n 3, 1), (1618, .iconst 2, 1), (1619, .iadd, 1), (1620, .iaload, 1), (1621, .aload_n 0, 1), (1622, .iload_n 3, 1), (1623, .iconst 3, 1), (1624, .iadd, 1), (1625, .iaload, 1), (1626, .invokevirtual 218, 3), (1629, .if_icmp .eq 133, 3), (1632, .iconst 0, 1), (1633, .ireturn, 1)]
theorem dL_47 : dec_ok code tL_47 = true := by decide +kernel
set_option maxHeartbeats 4000000 in
theorem law_c47 {l : Launch} {G : Gt} {b L i : Nat} {xs : Nat → Int32} {h : Hp} (C : Cx G code 4 RL) (X : Rmx l G 2048 (AL P63 true true)) (S : SLw G b L xs) (hL : L ≤ 6) (hi : i + 6 ≤ L) (inv : Lv h) (kk : ∀ h', Lv h' → Rr G 1762 [(0, vt 9000), (1, vr 6 0), (2, vr 7 63), (3, vi (nI i))] [] h') : Rr G 1591 [(0, vt 9000), (1, vr 6 0), (2, vr 7 63), (3, vi (nI i))] [] h := by
  obtain ⟨v, u, w, g, B, Bt, z, κ, τ, o, hg, M, y, byt, ok, okw⟩ := inv
  refine r_aload_n C (dx dL_47 0 rfl) rfl ?_
  refine r_aload_nT C (dx dL_47 1 rfl) rfl ?_
  refine r_iload_n C (dx dL_47 2 rfl) rfl ?_
  refine r_iconst (v := nI 1) C (dx dL_47 3 rfl) rfl ?_
  refine rn_iadd (a := i) (b := 1) C (dx dL_47 4 rfl) ?_
  refine r_sld C S (by omega) (by omega) (dx dL_47 5 rfl) ?_
  refine r_aload_nT C (dx dL_47 6 rfl) rfl ?_
  refine r_iload_n C (dx dL_47 7 rfl) rfl ?_
  refine r_iconst (v := nI 2) C (dx dL_47 8 rfl) rfl ?_
  refine rn_iadd (a := i) (b := 2) C (dx dL_47 9 rfl) ?_
  refine r_sld C S (by omega) (by omega) (dx dL_47 10 rfl) ?_
  refine r_aload_nT C (dx dL_47 11 rfl) rfl ?_
  refine r_iload_n C (dx dL_47 12 rfl) rfl ?_
  refine r_iconst (v := nI 3) C (dx dL_47 13 rfl) rfl ?_
  refine rn_iadd (a := i) (b := 3) C (dx dL_47 14 rfl) ?_
  refine r_sld C S (by omega) (by omega) (dx dL_47 15 rfl) ?_
  refine r_cv (as := [vi (xs (i + 1)), vi (xs (i + 2)), vi (xs (i + 3))]) (st := []) C X I_X6_judge l_L_215 (x2_judge o hg (xs (i + 1)) (xs (i + 2)) (xs (i + 3))) (by decide) (Nat.le_of_ble_eq_true rfl) List.prefix_rfl (by rw [M.al]; exact ALall) rfl rfl (Nat.le_of_ble_eq_true rfl) rfl (dx dL_47 16 rfl) ?_
  rintro _ h1 ⟨rfl, ⟨uh1, oh1⟩, fh1⟩ kh1
  have Mh1 := M.fr9 fh1 kh1
  have yh1 := y.fr9 M fh1
  refine r_aload_n C (dx dL_47 17 rfl) rfl ?_
  refine r_aload_nT C (dx dL_47 18 rfl) rfl ?_
  refine r_iload_n C (dx dL_47 19 rfl) rfl ?_
  refine r_iconst (v := nI 1) C (dx dL_47 20 rfl) rfl ?_
  refine rn_iadd (a := i) (b := 1) C (dx dL_47 21 rfl) ?_
  refine r_sld C S (by omega) (by omega) (dx dL_47 22 rfl) ?_
  refine r_aload_nT C (dx dL_47 23 rfl) rfl ?_
  refine r_iload_n C (dx dL_47 24 rfl) rfl ?_
  refine r_iconst (v := nI 2) C (dx dL_47 25 rfl) rfl ?_
  refine rn_iadd (a := i) (b := 2) C (dx dL_47 26 rfl) ?_
  refine r_sld C S (by omega) (by omega) (dx dL_47 27 rfl) ?_
  refine r_aload_nT C (dx dL_47 28 rfl) rfl ?_
  refine r_iload_n C (dx dL_47 29 rfl) rfl ?_
  refine r_iconst (v := nI 3) C (dx dL_47 30 rfl) rfl ?_
  refine rn_iadd (a := i) (b := 3) C (dx dL_47 31 rfl) ?_
  refine r_sld C S (by omega) (by omega) (dx dL_47 32 rfl) ?_
  obtain ⟨τh2, ph2, ch2⟩ := z7_judge (l := l) Mh1 yh1 ok (xs (i + 1)) (xs (i + 2)) (xs (i + 3))
  refine r_cv (as := [vi (xs (i + 1)), vi (xs (i + 2)), vi (xs (i + 3))]) (st := [_]) C X I_X7_judge l_L_218 ch2 (by decide) (Nat.le_of_ble_eq_true rfl) ph2 ALall rfl rfl (Nat.le_of_ble_eq_true rfl) rfl (dx dL_47 33 rfl) ?_
  rintro _ h2 ⟨rfl, Mh2, lh2, yh2⟩ kh2
  have oh2 := oh1.lo lh2
  refine r_icmp_eq (tgt := 1762) C (dx dL_47 34 rfl) (by decide) (fun _ => ?_) (fun c3 => absurd (by first | rfl | exact (vl_tie byt _).1) c3)
  exact kk h2 ⟨_, _, _, _, _, _, _, _, _, oh2, hg, Mh2, yh2, byt, ok, okw⟩
def tL_48 : List (Nat × Instr × Nat) := [(1634, .aload_n 1, 1), (1635, .aload_n 0, 1), (1636, .iload_n 3, 1), (1637, .iconst 1, 1), (1638, .iadd, 1), (1639, .iaload, 1), (1640, .aload_n 0, 1), (1641, .iload_n 3, 1), (1642, .iconst 2, 1), (1643, .iadd, 1), (1644, .iaload, 1), (1645, .invokevirtual 219, 3), (1648, .aload_n 2, 1), (1649, .aload_n 0, 1), (1650, .iload_n 3, 1), (1651, .iconst 1, 1), (1652, .iadd, 1), (1653, .iaload, 1), (1654, .aload_n 0, 1), (1655, .iload_n 3, 1), (1656, .iconst 2, 1), (1657, .iadd, 1), (1658, .iaload, 1), (1659, .invokevirtual 222, 3), (1662, .if_icmp .eq 100, 3), (1665, .iconst 0, 1), (1666, .ireturn, 1)]
theorem dL_48 : dec_ok code tL_48 = true := by decide +kernel
set_option maxHeartbeats 4000000 in
theorem law_c48 {l : Launch} {G : Gt} {b L i : Nat} {xs : Nat → Int32} {h : Hp} (C : Cx G code 4 RL) (X : Rmx l G 2048 (AL P63 true true)) (S : SLw G b L xs) (hL : L ≤ 6) (hi : i + 6 ≤ L) (inv : Lv h) (kk : ∀ h', Lv h' → Rr G 1762 [(0, vt 9000), (1, vr 6 0), (2, vr 7 63), (3, vi (nI i))] [] h') : Rr G 1634 [(0, vt 9000), (1, vr 6 0), (2, vr 7 63), (3, vi (nI i))] [] h := by
  obtain ⟨v, u, w, g, B, Bt, z, κ, τ, o, hg, M, y, byt, ok, okw⟩ := inv
  refine r_aload_n C (dx dL_48 0 rfl) rfl ?_
  refine r_aload_nT C (dx dL_48 1 rfl) rfl ?_
  refine r_iload_n C (dx dL_48 2 rfl) rfl ?_
  refine r_iconst (v := nI 1) C (dx dL_48 3 rfl) rfl ?_
  refine rn_iadd (a := i) (b := 1) C (dx dL_48 4 rfl) ?_
  refine r_sld C S (by omega) (by omega) (dx dL_48 5 rfl) ?_
  refine r_aload_nT C (dx dL_48 6 rfl) rfl ?_
  refine r_iload_n C (dx dL_48 7 rfl) rfl ?_
  refine r_iconst (v := nI 2) C (dx dL_48 8 rfl) rfl ?_
  refine rn_iadd (a := i) (b := 2) C (dx dL_48 9 rfl) ?_
  refine r_sld C S (by omega) (by omega) (dx dL_48 10 rfl) ?_
  refine r_cv (as := [vi (xs (i + 1)), vi (xs (i + 2))]) (st := []) C X I_X6_told l_L_219 (x2_told o hg (xs (i + 1)) (xs (i + 2))) (by decide) (Nat.le_of_ble_eq_true rfl) List.prefix_rfl (by rw [M.al]; exact ALall) rfl rfl (Nat.le_of_ble_eq_true rfl) rfl (dx dL_48 11 rfl) ?_
  rintro _ h1 ⟨rfl, ⟨uh1, oh1⟩, fh1⟩ kh1
  have Mh1 := M.fr9 fh1 kh1
  have yh1 := y.fr9 M fh1
  refine r_aload_n C (dx dL_48 12 rfl) rfl ?_
  refine r_aload_nT C (dx dL_48 13 rfl) rfl ?_
  refine r_iload_n C (dx dL_48 14 rfl) rfl ?_
  refine r_iconst (v := nI 1) C (dx dL_48 15 rfl) rfl ?_
  refine rn_iadd (a := i) (b := 1) C (dx dL_48 16 rfl) ?_
  refine r_sld C S (by omega) (by omega) (dx dL_48 17 rfl) ?_
  refine r_aload_nT C (dx dL_48 18 rfl) rfl ?_
  refine r_iload_n C (dx dL_48 19 rfl) rfl ?_
  refine r_iconst (v := nI 2) C (dx dL_48 20 rfl) rfl ?_
  refine rn_iadd (a := i) (b := 2) C (dx dL_48 21 rfl) ?_
  refine r_sld C S (by omega) (by omega) (dx dL_48 22 rfl) ?_
  obtain ⟨τh2, ph2, ch2⟩ := z7_told (l := l) Mh1 yh1 ok (xs (i + 1)) (xs (i + 2))
  refine r_cv (as := [vi (xs (i + 1)), vi (xs (i + 2))]) (st := [_]) C X I_X7_told l_L_222 ch2 (by decide) (Nat.le_of_ble_eq_true rfl) ph2 ALall rfl rfl (Nat.le_of_ble_eq_true rfl) rfl (dx dL_48 23 rfl) ?_
  rintro _ h2 ⟨rfl, Mh2, lh2, yh2⟩ kh2
  have oh2 := oh1.lo lh2
  refine r_icmp_eq (tgt := 1762) C (dx dL_48 24 rfl) (by decide) (fun _ => ?_) (fun c3 => absurd (by first | rfl | exact (vl_tie byt _).1) c3)
  exact kk h2 ⟨_, _, _, _, _, _, _, _, _, oh2, hg, Mh2, yh2, byt, ok, okw⟩
def tL_49 : List (Nat × Instr × Nat) := [(1667, .aload_n 1, 1), (1668, .aload_n 0, 1), (1669, .iload_n 3, 1), (1670, .iconst 1, 1), (1671, .iadd, 1), (1672, .iaload, 1), (1673, .invokevirtual 223, 3), (1676, .aload_n 2, 1), (1677, .aload_n 0, 1), (1678, .iload_n 3, 1), (1679, .iconst 1, 1), (1680, .iadd, 1), (1681, .iaload, 1), (1682, .invokevirtual 226, 3), (1685, .if_icmp .eq 77, 3), (1688, .iconst 0, 1), (1689, .ireturn, 1)]
theorem dL_49 : dec_ok code tL_49 = true := by decide +kernel
set_option maxHeartbeats 4000000 in
theorem law_c49 {l : Launch} {G : Gt} {b L i : Nat} {xs : Nat → Int32} {h : Hp} (C : Cx G code 4 RL) (X : Rmx l G 2048 (AL P63 true true)) (S : SLw G b L xs) (hL : L ≤ 6) (hi : i + 6 ≤ L) (inv : Lv h) (kk : ∀ h', Lv h' → Rr G 1762 [(0, vt 9000), (1, vr 6 0), (2, vr 7 63), (3, vi (nI i))] [] h') : Rr G 1667 [(0, vt 9000), (1, vr 6 0), (2, vr 7 63), (3, vi (nI i))] [] h := by
  obtain ⟨v, u, w, g, B, Bt, z, κ, τ, o, hg, M, y, byt, ok, okw⟩ := inv
  refine r_aload_n C (dx dL_49 0 rfl) rfl ?_
  refine r_aload_nT C (dx dL_49 1 rfl) rfl ?_
  refine r_iload_n C (dx dL_49 2 rfl) rfl ?_
  refine r_iconst (v := nI 1) C (dx dL_49 3 rfl) rfl ?_
  refine rn_iadd (a := i) (b := 1) C (dx dL_49 4 rfl) ?_
  refine r_sld C S (by omega) (by omega) (dx dL_49 5 rfl) ?_
  refine r_cv (as := [vi (xs (i + 1))]) (st := []) C X I_X6_days l_L_223 (x_days o hg (xs (i + 1))) (by decide) (Nat.le_of_ble_eq_true rfl) List.prefix_rfl (by rw [M.al]; exact ALall) rfl rfl (Nat.le_of_ble_eq_true rfl) rfl (dx dL_49 6 rfl) ?_
  rintro _ h1 ⟨rfl, ⟨uh1, oh1⟩, fh1⟩ kh1
  have Mh1 := M.fr9 fh1 kh1
  have yh1 := y.fr9 M fh1
  refine r_aload_n C (dx dL_49 7 rfl) rfl ?_
  refine r_aload_nT C (dx dL_49 8 rfl) rfl ?_
  refine r_iload_n C (dx dL_49 9 rfl) rfl ?_
  refine r_iconst (v := nI 1) C (dx dL_49 10 rfl) rfl ?_
  refine rn_iadd (a := i) (b := 1) C (dx dL_49 11 rfl) ?_
  refine r_sld C S (by omega) (by omega) (dx dL_49 12 rfl) ?_
  obtain ⟨τh2, ph2, ch2⟩ := y7_days (l := l) Mh1 yh1 ok (xs (i + 1))
  refine r_cv (as := [vi (xs (i + 1))]) (st := [_]) C X I_X7_days l_L_226 ch2 (by decide) (Nat.le_of_ble_eq_true rfl) ph2 ALall rfl rfl (Nat.le_of_ble_eq_true rfl) rfl (dx dL_49 13 rfl) ?_
  rintro _ h2 ⟨rfl, Mh2, lh2, yh2⟩ kh2
  have oh2 := oh1.lo lh2
  refine r_icmp_eq (tgt := 1762) C (dx dL_49 14 rfl) (by decide) (fun _ => ?_) (fun c3 => absurd (by first | rfl | exact (vl_tie byt _).1) c3)
  exact kk h2 ⟨_, _, _, _, _, _, _, _, _, oh2, hg, Mh2, yh2, byt, (ok_days ok _), okw⟩
def tL_50 : List (Nat × Instr × Nat) := [(1690, .aload_n 1, 1), (1691, .aload_n 0, 1), (1692, .iload_n 3, 1), (1693, .iconst 1, 1), (1694, .iadd, 1), (1695, .iaload, 1), (1696, .invokevirtual 227, 3), (1699, .aload_n 2, 1), (1700, .aload_n 0, 1), (1701, .iload_n 3, 1), (1702, .iconst 1, 1), (1703, .iadd, 1), (1704, .iaload, 1), (1705, .invokevirtual 230, 3), (1708, .if_icmp .eq 54, 3), (1711, .iconst 0, 1), (1712, .ireturn, 1)]
theorem dL_50 : dec_ok code tL_50 = true := by decide +kernel
set_option maxHeartbeats 4000000 in
theorem law_c50 {l : Launch} {G : Gt} {b L i : Nat} {xs : Nat → Int32} {h : Hp} (C : Cx G code 4 RL) (X : Rmx l G 2048 (AL P63 true true)) (S : SLw G b L xs) (hL : L ≤ 6) (hi : i + 6 ≤ L) (inv : Lv h) (kk : ∀ h', Lv h' → Rr G 1762 [(0, vt 9000), (1, vr 6 0), (2, vr 7 63), (3, vi (nI i))] [] h') : Rr G 1690 [(0, vt 9000), (1, vr 6 0), (2, vr 7 63), (3, vi (nI i))] [] h := by
  obtain ⟨v, u, w, g, B, Bt, z, κ, τ, o, hg, M, y, byt, ok, okw⟩ := inv
  refine r_aload_n C (dx dL_50 0 rfl) rfl ?_
  refine r_aload_nT C (dx dL_50 1 rfl) rfl ?_
  refine r_iload_n C (dx dL_50 2 rfl) rfl ?_
  refine r_iconst (v := nI 1) C (dx dL_50 3 rfl) rfl ?_
  refine rn_iadd (a := i) (b := 1) C (dx dL_50 4 rfl) ?_
  refine r_sld C S (by omega) (by omega) (dx dL_50 5 rfl) ?_
  refine r_cv (as := [vi (xs (i + 1))]) (st := []) C X I_X6_seed l_L_227 (x_seed o hg (xs (i + 1))) (by decide) (Nat.le_of_ble_eq_true rfl) List.prefix_rfl (by rw [M.al]; exact ALall) rfl rfl (Nat.le_of_ble_eq_true rfl) rfl (dx dL_50 6 rfl) ?_
  rintro _ h1 ⟨rfl, ⟨uh1, oh1⟩, fh1⟩ kh1
  have Mh1 := M.fr9 fh1 kh1
  have yh1 := y.fr9 M fh1
  refine r_aload_n C (dx dL_50 7 rfl) rfl ?_
  refine r_aload_nT C (dx dL_50 8 rfl) rfl ?_
  refine r_iload_n C (dx dL_50 9 rfl) rfl ?_
  refine r_iconst (v := nI 1) C (dx dL_50 10 rfl) rfl ?_
  refine rn_iadd (a := i) (b := 1) C (dx dL_50 11 rfl) ?_
  refine r_sld C S (by omega) (by omega) (dx dL_50 12 rfl) ?_
  obtain ⟨τh2, ph2, ch2⟩ := y7_seed (l := l) Mh1 yh1 ok (xs (i + 1))
  refine r_cv (as := [vi (xs (i + 1))]) (st := [_]) C X I_X7_seed l_L_230 ch2 (by decide) (Nat.le_of_ble_eq_true rfl) ph2 ALall rfl rfl (Nat.le_of_ble_eq_true rfl) rfl (dx dL_50 13 rfl) ?_
  rintro _ h2 ⟨rfl, Mh2, lh2, yh2⟩ kh2
  have oh2 := oh1.lo lh2
  refine r_icmp_eq (tgt := 1762) C (dx dL_50 14 rfl) (by decide) (fun _ => ?_) (fun c3 => absurd (by first | rfl | exact (vl_tie byt _).1) c3)
  exact kk h2 ⟨_, _, _, _, _, _, _, _, _, oh2, hg, Mh2, yh2, byt, (ok_seed ok _), okw⟩
def tL_51 : List (Nat × Instr × Nat) := [(1713, .aload_n 1, 1), (1714, .invokevirtual 231, 3), (1717, .aload_n 2, 1), (1718, .invokevirtual 234, 3), (1721, .if_icmp .eq 41, 3), (1724, .iconst 0, 1), (1725, .ireturn, 1)]
theorem dL_51 : dec_ok code tL_51 = true := by decide +kernel
set_option maxHeartbeats 4000000 in
theorem law_c51 {l : Launch} {G : Gt} {b L i : Nat} {xs : Nat → Int32} {h : Hp} (C : Cx G code 4 RL) (X : Rmx l G 2048 (AL P63 true true)) (S : SLw G b L xs) (hL : L ≤ 6) (hi : i + 6 ≤ L) (inv : Lv h) (kk : ∀ h', Lv h' → Rr G 1762 [(0, vt 9000), (1, vr 6 0), (2, vr 7 63), (3, vi (nI i))] [] h') : Rr G 1713 [(0, vt 9000), (1, vr 6 0), (2, vr 7 63), (3, vi (nI i))] [] h := by
  obtain ⟨v, u, w, g, B, Bt, z, κ, τ, o, hg, M, y, byt, ok, okw⟩ := inv
  refine r_aload_n C (dx dL_51 0 rfl) rfl ?_
  refine r_cv (as := []) (st := []) C X I_X6_image l_L_231 (x_image o hg ) (by decide) (Nat.le_of_ble_eq_true rfl) List.prefix_rfl (by rw [M.al]; exact ALall) rfl rfl (Nat.le_of_ble_eq_true rfl) rfl (dx dL_51 1 rfl) ?_
  rintro _ h1 ⟨rfl, ⟨uh1, oh1⟩, fh1⟩ kh1
  have Mh1 := M.fr9 fh1 kh1
  have yh1 := y.fr9 M fh1
  refine r_aload_n C (dx dL_51 2 rfl) rfl ?_
  obtain ⟨τh2, ph2, ch2⟩ := y7_image (l := l) Mh1 yh1 ok 
  refine r_cv (as := []) (st := [_]) C X I_X7_image l_L_234 ch2 (by decide) (Nat.le_of_ble_eq_true rfl) ph2 ALall rfl rfl (Nat.le_of_ble_eq_true rfl) rfl (dx dL_51 3 rfl) ?_
  rintro _ h2 ⟨rfl, Mh2, lh2, yh2⟩ kh2
  have oh2 := oh1.lo lh2
  refine r_icmp_eq (tgt := 1762) C (dx dL_51 4 rfl) (by decide) (fun _ => ?_) (fun c3 => absurd (by first | rfl | exact (vl_tie byt _).1) c3)
  exact kk h2 ⟨_, _, _, _, _, _, _, _, _, oh2, hg, Mh2, yh2, byt, ok, (fun _ => ok)⟩
def tL_52 : List (Nat × Instr × Nat) := [(1726, .aload_n 1, 1), (1727, .invokevirtual 235, 3), (1730, .aload_n 2, 1), (1731, .invokevirtual 238, 3), (1734, .if_icmp .eq 28, 3), (1737, .iconst 0, 1), (1738, .ireturn, 1)]
theorem dL_52 : dec_ok code tL_52 = true := by decide +kernel
set_option maxHeartbeats 4000000 in
theorem law_c52 {l : Launch} {G : Gt} {b L i : Nat} {xs : Nat → Int32} {h : Hp} (C : Cx G code 4 RL) (X : Rmx l G 2048 (AL P63 true true)) (S : SLw G b L xs) (hL : L ≤ 6) (hi : i + 6 ≤ L) (inv : Lv h) (kk : ∀ h', Lv h' → Rr G 1762 [(0, vt 9000), (1, vr 6 0), (2, vr 7 63), (3, vi (nI i))] [] h') : Rr G 1726 [(0, vt 9000), (1, vr 6 0), (2, vr 7 63), (3, vi (nI i))] [] h := by
  obtain ⟨v, u, w, g, B, Bt, z, κ, τ, o, hg, M, y, byt, ok, okw⟩ := inv
  refine r_aload_n C (dx dL_52 0 rfl) rfl ?_
  refine r_cv (as := []) (st := []) C X I_X6_back l_L_235 (x_back o hg ) (by decide) (Nat.le_of_ble_eq_true rfl) List.prefix_rfl (by rw [M.al]; exact ALall) rfl rfl (Nat.le_of_ble_eq_true rfl) rfl (dx dL_52 1 rfl) ?_
  rintro _ h1 ⟨rfl, ⟨uh1, oh1⟩, fh1⟩ kh1
  have Mh1 := M.fr9 fh1 kh1
  have yh1 := y.fr9 M fh1
  rw [bk_eq]
  refine r_aload_n C (dx dL_52 2 rfl) rfl ?_
  obtain ⟨τh2, ph2, ch2⟩ := y7_back (l := l) Mh1 yh1 ok 
  refine r_cv (as := []) (st := [_]) C X I_X7_back l_L_238 ch2 (by decide) (Nat.le_of_ble_eq_true rfl) ph2 ALall rfl rfl (Nat.le_of_ble_eq_true rfl) rfl (dx dL_52 3 rfl) ?_
  rintro _ h2 ⟨rfl, Mh2, lh2, yh2⟩ kh2
  have oh2 := oh1.lo lh2
  refine r_icmp_eq (tgt := 1762) C (dx dL_52 4 rfl) (by decide) (fun _ => ?_) (fun c3 => absurd (by first | rfl | exact (vl_tie byt _).1) c3)
  rw [bv_eq] at oh2
  exact kk h2 ⟨_, _, _, _, _, _, _, _, _, oh2, hg, Mh2, yh2, byt, (ok_back ok okw), okw⟩
def tL_53 : List (Nat × Instr × Nat) := [(1739, .aload_n 1, 1), (1740, .aload_n 0, 1), (1741, .iload_n 3, 1), (1742, .iconst 1, 1), (1743, .iadd, 1), (1744, .iaload, 1), (1745, .invokevirtual 239, 3), (1748, .aload_n 2, 1), (1749, .aload_n 0, 1), (1750, .iload_n 3, 1), (1751, .iconst 1, 1), (1752, .iadd, 1), (1753, .iaload, 1), (1754, .invokevirtual 242, 3), (1757, .if_icmp .eq 5, 3), (1760, .iconst 0, 1), (1761, .ireturn, 1)]
theorem dL_53 : dec_ok code tL_53 = true := by decide +kernel
set_option maxHeartbeats 4000000 in
theorem law_c53 {l : Launch} {G : Gt} {b L i : Nat} {xs : Nat → Int32} {h : Hp} (C : Cx G code 4 RL) (X : Rmx l G 2048 (AL P63 true true)) (S : SLw G b L xs) (hL : L ≤ 6) (hi : i + 6 ≤ L) (inv : St h) (kk : ∀ h', Lv h' → Rr G 1762 [(0, vt 9000), (1, vr 6 0), (2, vr 7 63), (3, vi (nI i))] [] h') : Rr G 1739 [(0, vt 9000), (1, vr 6 0), (2, vr 7 63), (3, vi (nI i))] [] h := by
  obtain ⟨⟨B, o⟩, d10, d11, drf, M, ⟨Bt, y⟩, e18, e19, e80, e64⟩ := inv
  have byt : ByT B Bt 0 := fun i hi => absurd hi (Nat.not_lt_zero i)
  have hg := gk_00
  have ok := ok_00
  have okw : false = true → VOk v00 := fun q => absurd q (by decide)
  refine r_aload_n C (dx dL_53 0 rfl) rfl ?_
  refine r_aload_nT C (dx dL_53 1 rfl) rfl ?_
  refine r_iload_n C (dx dL_53 2 rfl) rfl ?_
  refine r_iconst (v := nI 1) C (dx dL_53 3 rfl) rfl ?_
  refine rn_iadd (a := i) (b := 1) C (dx dL_53 4 rfl) ?_
  refine r_sld C S (by omega) (by omega) (dx dL_53 5 rfl) ?_
  refine r_cv (as := [vi (xs (i + 1))]) (st := []) C X I_X6_status l_L_239 (x0_status o d10 d11 drf (xs (i + 1))) (by decide) (Nat.le_of_ble_eq_true rfl) List.prefix_rfl (by rw [M.al]; exact ALall) rfl rfl (Nat.le_of_ble_eq_true rfl) rfl (dx dL_53 6 rfl) ?_
  rintro _ h1 ⟨rfl, ⟨uh1, oh1⟩, fh1⟩ kh1
  have Mh1 := M.fr9 fh1 kh1
  have yh1 := y.fr9 M fh1
  refine r_aload_n C (dx dL_53 7 rfl) rfl ?_
  refine r_aload_nT C (dx dL_53 8 rfl) rfl ?_
  refine r_iload_n C (dx dL_53 9 rfl) rfl ?_
  refine r_iconst (v := nI 1) C (dx dL_53 10 rfl) rfl ?_
  refine rn_iadd (a := i) (b := 1) C (dx dL_53 11 rfl) ?_
  refine r_sld C S (by omega) (by omega) (dx dL_53 12 rfl) ?_
  obtain ⟨τh2, ph2, ch2⟩ := MxF.kp Mh1 yh1 (z0_status (l := l) Mh1.1 (by rw [(fh1 63 (by omega)).1]; exact e18) (by rw [(fh1 63 (by omega)).1]; exact e19) Mh1.e8 (fun i _ => by rw [(fh1 (63 + 1) (by omega)).1]; exact e64 i) (fun i => by rw [(fh1 (63 + 17) (by omega)).1]; exact e80 i) (xs (i + 1)))
  refine r_cv (as := [vi (xs (i + 1))]) (st := [_]) C X I_X7_status l_L_242 ch2 (by decide) (Nat.le_of_ble_eq_true rfl) ph2 ALall rfl rfl (Nat.le_of_ble_eq_true rfl) rfl (dx dL_53 13 rfl) ?_
  rintro _ h2 ⟨rfl, Mh2, lh2, yh2⟩ kh2
  have oh2 := oh1.lo lh2
  refine r_icmp_eq (tgt := 1762) C (dx dL_53 14 rfl) (by decide) (fun _ => ?_) (fun c3 => absurd (by first | rfl | exact (vl_tie byt _).1) c3)
  exact kk h2 ⟨_, _, _, _, _, _, _, _, _, oh2, hg, Mh2, yh2, byt, ok, okw⟩

