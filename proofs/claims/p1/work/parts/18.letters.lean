/-! PART 18: lengths and letters of texts -/
theorem fw_38 : Cond.fieldLink RJ0 38 "java/lang/String" "COMPACT_STRINGS" "Z" ∈ lw_g := tb_3 60 rfl rfl
theorem fw_1053 : Cond.fieldLink RJ0 1053 "jdk/internal/util/Preconditions" "SIOOBE_FORMATTER" "Ljava/util/function/BiFunction;" ∈ lw_g := tb_3 76 rfl rfl
theorem fw_9 : Cond.fieldLink RJ0 9 "java/lang/String" "value" "[B" ∈ lw_g := tb_7 82 rfl rfl
theorem fw_15 : Cond.fieldLink RJ0 15 "java/lang/String" "coder" "B" ∈ lw_g := tb_7 83 rfl rfl
section T8
variable {G : Gt} {cc : ByteArray} {nL pc : Nat} {own : String} {ls : List (Nat × V)} {st : List V} {h : Hp} {l : Launch} {d : Nat} {alX : List Nat}
theorem r_i2c (C : Cx G cc nL own) {x : Int32} (d : decode cc pc = .ok (.i2c, 1)) (kk : Rr G (pc + 1) ls (vi (x.toUInt32 % 65536).toInt32 :: st) h) : Rr G pc ls (vi x :: st) h :=
  r_op C (fun al hw => w_1 (w_t hw)) (fun f hx hb k => lv_i2c hx hb d rfl k) kk
theorem r_cvTP {y : MethodName} {cc' : ByteArray} {nL' d' index n i : Nat} {ret : Option FieldType} {as : List V} {v : V} (C : Cx G cc nL own) (X : Rmx l G d alX) (hi : i < 10) (I : VI y cc' nL' ret n) (q1 : Cond.methodLink own index y ∈ lw_g) (hM : Mp l y cc' nL' ret d' (vt (1000 + i) :: as) h v) (hd' : d' + 1 ≤ d) (hn : nL' ≤ 21) (hal : xK h <+: alX) (hc : y.cls = "java/lang/String") (hcat : catS st ≤ 8) (hlen : n = as.length) (dd : decode cc pc = .ok (.invokevirtual index, 3))
    (kk : Rr G (pc + 3) ls (v :: st) h) : Rr G pc ls (as.reverse ++ vt (1000 + i) :: st) h := by
  refine r_callVT hi C X hM hd' hn List.prefix_rfl hal hc hcat q1 I.1 I.2.1 I.2.2.1 I.2.2.2.1 I.2.2.2.2.1 (hlen ▸ I.2.2.2.2.2) dd (fun r h' hp _ => ?_)
  obtain ⟨rfl, rfl⟩ := hp
  exact kk
end T8
theorem tx_len {i : Nat} (hi : i < 10) : txL.getD i 0 < 20 := by
  have key : ∀ i, i < 10 → txL.getD i 0 < 20 := by decide
  exact key i hi
theorem tx_sh {i : Nat} (hi : i < 10) : nI (txL.getD i 0) >>> (nI 0 &&& 31) = nI (txL.getD i 0) := by
  have key : ∀ i, i < 10 → nI (txL.getD i 0) >>> (nI 0 &&& 31) = nI (txL.getD i 0) := by decide +kernel
  exact key i hi
def txc (i j : Nat) : Int32 := (txB.getD i []).getD j 0
theorem tx_ch {i j : Nat} (hi : i < 10) (hj : j < txL.getD i 0) : ((txc i j &&& nI 255).toUInt32 % 65536).toInt32 = txc i j := by
  have key : ∀ i, i < 10 → ∀ j, j < txL.getD i 0 → ((txc i j &&& nI 255).toUInt32 % 65536).toInt32 = txc i j := by decide +kernel
  exact key i hi j hj
theorem tx_nar {i j : Nat} (hi : i < 10) (hj : j < txL.getD i 0) : narrow .char (.int (txc i j)) = .int (txc i j) := by
  have key : ∀ i, i < 10 → ∀ j, j < txL.getD i 0 → narrow .char (.int (txc i j)) = .int (txc i j) := by decide +kernel
  exact key i hi j hj
set_option maxHeartbeats 4000000 in
theorem c_J0_coder_7d493 {l : Launch} {h : Hp} {i : Nat} (hi : i < 10) : Mp l yJ0_coder_7d493 cJ0_coder_7d493 1 (some .byte) 1 [vt (1000 + i)] h (vi (nI 0)) := by
  refine Ms.of (by decide) (Nat.le_of_ble_eq_true rfl) (fun G C X F => ?_)
  have C : Cx G cJ0_coder_7d493 1 RJ0 := C
  show Rr G 0 [(0, vt (1000 + i))] [] h
  refine r_gsC C fw_38 (dx dJ0_coder_7d493 0 rfl) ?_
  refine r_if_eq (tgt := 13) C (dx dJ0_coder_7d493 1 rfl) (by decide) (fun c1 => (show False from by revert c1; decide).elim) (fun _ => ?_)
  refine r_aload_nT C (dx dJ0_coder_7d493 2 rfl) rfl ?_
  refine r_txC (i := i) C hi fw_15 (dx dJ0_coder_7d493 3 rfl) ?_
  refine r_goto (tgt := 14) C (dx dJ0_coder_7d493 4 rfl) (by decide) ?_
  exact F.1 _ _ _ _ _ rfl rfl (dx dJ0_coder_7d493 6 rfl) rfl ⟨congrArg (fun x => some (vi x)) rfl, rfl⟩
set_option maxHeartbeats 4000000 in
theorem c_J0_isLatin1_aae02 {l : Launch} {h : Hp} {i : Nat} (hi : i < 10) : Mp l yJ0_isLatin1_aae02 cJ0_isLatin1_aae02 1 (some .boolean) 1 [vt (1000 + i)] h (vi (b2i true)) := by
  refine Ms.of (by decide) (Nat.le_of_ble_eq_true rfl) (fun G C X F => ?_)
  have C : Cx G cJ0_isLatin1_aae02 1 RJ0 := C
  show Rr G 0 [(0, vt (1000 + i))] [] h
  refine r_gsC C fw_38 (dx dJ0_isLatin1_aae02 0 rfl) ?_
  refine r_if_eq (tgt := 17) C (dx dJ0_isLatin1_aae02 1 rfl) (by decide) (fun c1 => (show False from by revert c1; decide).elim) (fun _ => ?_)
  refine r_aload_nT C (dx dJ0_isLatin1_aae02 2 rfl) rfl ?_
  refine r_txC (i := i) C hi fw_15 (dx dJ0_isLatin1_aae02 3 rfl) ?_
  refine r_if_ne (tgt := 17) C (dx dJ0_isLatin1_aae02 4 rfl) (by decide) (fun c2 => (show False from by revert c2; decide).elim) (fun _ => ?_)
  refine r_iconst (v := nI 1) C (dx dJ0_isLatin1_aae02 5 rfl) rfl ?_
  refine r_goto (tgt := 18) C (dx dJ0_isLatin1_aae02 6 rfl) (by decide) ?_
  exact F.1 _ _ _ _ _ rfl rfl (dx dJ0_isLatin1_aae02 8 rfl) rfl ⟨congrArg (fun x => some (vi x)) (show nI 1 = b2i _ by rw [show true = true by simp]; rfl), rfl⟩
set_option maxHeartbeats 4000000 in
theorem c_J0_length_8abf5 {l : Launch} {h : Hp} {i : Nat} (hi : i < 10) : Mp l yJ0_length_8abf5 cJ0_length_8abf5 1 (some .int) 2 [vt (1000 + i)] h (vi (nI (txL.getD i 0))) := by
  refine Ms.of (by decide) (Nat.le_of_ble_eq_true rfl) (fun G C X F => ?_)
  have C : Cx G cJ0_length_8abf5 1 RJ0 := C
  show Rr G 0 [(0, vt (1000 + i))] [] h
  refine r_aload_nT C (dx dJ0_length_8abf5 0 rfl) rfl ?_
  refine r_txV (i := i) C hi fw_9 (dx dJ0_length_8abf5 1 rfl) ?_
  refine r_txN (i := i) C hi (dx dJ0_length_8abf5 2 rfl) ?_
  refine r_aload_nT C (dx dJ0_length_8abf5 3 rfl) rfl ?_
  refine r_cvTP (as := []) (st := [vi (nI (txL.getD i 0))]) (v := vi (nI 0)) C X hi I_J0_coder_7d493 l_J0_335 (c_J0_coder_7d493 hi) (by decide) (Nat.le_of_ble_eq_true rfl) List.prefix_rfl rfl (Nat.le_of_ble_eq_true rfl) rfl (dx dJ0_length_8abf5 4 rfl) ?_
  refine r_ishr C (dx dJ0_length_8abf5 5 rfl) ?_
  exact F.1 _ _ _ _ _ rfl rfl (dx dJ0_length_8abf5 6 rfl) rfl ⟨congrArg (fun x => some (vi x)) (show (nI (txL.getD i 0)) >>> ((nI 0) &&& 31) = nI (txL.getD i 0) by exact tx_sh hi), rfl⟩
set_option maxHeartbeats 4000000 in
theorem c_ci_n {l : Launch} {h : Hp} {j n : Nat} (hj : j < n) (hn : n < 2 ^ 31) : Mp l yJ3_checkIndex_8e157 cJ3_checkIndex_8e157 3 (some .int) 1 [vi (nI j), vi (nI n), vn 0 0] h (vi (nI j)) := by
  refine Ms.of (by decide) (Nat.le_of_ble_eq_true rfl) (fun G C X F => ?_)
  have C : Cx G cJ3_checkIndex_8e157 3 RJ3 := C
  show Rr G 0 [(0, vi (nI j)), (1, vi (nI n)), (2, vn 0 0)] [] h
  refine r_iload_n C (dx dJ3_checkIndex_8e157 0 rfl) rfl ?_
  refine r_if_lt (tgt := 9) C (dx dJ3_checkIndex_8e157 1 rfl) (by decide) (fun c1 => ?_) (fun c1 => ?_)
  · exact absurd c1 (nI_pos (by omega))
  ·
    have c1 : ¬ nI j < 0 := c1
    refine r_iload_n C (dx dJ3_checkIndex_8e157 2 rfl) rfl ?_
    refine r_iload_n C (dx dJ3_checkIndex_8e157 3 rfl) rfl ?_
    refine rn_lt (a := j) (b := n) (tgt := 16) C (by omega) (by omega) (dx dJ3_checkIndex_8e157 4 rfl) (by decide) (fun c2 => ?_) (fun c2 => ?_)
    ·
      have c2 : j < n := c2
      refine r_iload_n C (dx dJ3_checkIndex_8e157 10 rfl) rfl ?_
      exact F.1 _ _ _ _ _ rfl rfl (dx dJ3_checkIndex_8e157 11 rfl) rfl ⟨congrArg (fun x => some (vi x)) rfl, rfl⟩
    · omega
set_option maxHeartbeats 4000000 in
theorem c_ci_t {l : Launch} {h : Hp} {j n : Nat} (hj : j < n) (hn : n < 2 ^ 31) : Mp l yJ3_checkIndex_8e157 cJ3_checkIndex_8e157 3 (some .int) 1 [vi (nI j), vi (nI n), vt 3000] h (vi (nI j)) := by
  refine Ms.of (by decide) (Nat.le_of_ble_eq_true rfl) (fun G C X F => ?_)
  have C : Cx G cJ3_checkIndex_8e157 3 RJ3 := C
  show Rr G 0 [(0, vi (nI j)), (1, vi (nI n)), (2, vt 3000)] [] h
  refine r_iload_n C (dx dJ3_checkIndex_8e157 0 rfl) rfl ?_
  refine r_if_lt (tgt := 9) C (dx dJ3_checkIndex_8e157 1 rfl) (by decide) (fun c1 => ?_) (fun c1 => ?_)
  · exact absurd c1 (nI_pos (by omega))
  ·
    have c1 : ¬ nI j < 0 := c1
    refine r_iload_n C (dx dJ3_checkIndex_8e157 2 rfl) rfl ?_
    refine r_iload_n C (dx dJ3_checkIndex_8e157 3 rfl) rfl ?_
    refine rn_lt (a := j) (b := n) (tgt := 16) C (by omega) (by omega) (dx dJ3_checkIndex_8e157 4 rfl) (by decide) (fun c2 => ?_) (fun c2 => ?_)
    ·
      have c2 : j < n := c2
      refine r_iload_n C (dx dJ3_checkIndex_8e157 10 rfl) rfl ?_
      exact F.1 _ _ _ _ _ rfl rfl (dx dJ3_checkIndex_8e157 11 rfl) rfl ⟨congrArg (fun x => some (vi x)) rfl, rfl⟩
    · omega
set_option maxHeartbeats 4000000 in
theorem c_J0_checkIndex_df160 {l : Launch} {h : Hp} {j n : Nat} (hj : j < n) (hn : n < 2 ^ 31) : Ms l yJ0_checkIndex_df160 cJ0_checkIndex_df160 2 none 2 [vi (nI j), vi (nI n)] h (xK h) (fun r0 h' => r0 = none ∧ h' = h) := by
  refine Ms.of (by decide) (Nat.le_of_ble_eq_true rfl) (fun G C X F => ?_)
  have C : Cx G cJ0_checkIndex_df160 2 RJ0 := C
  show Rr G 0 [(0, vi (nI j)), (1, vi (nI n))] [] h
  refine r_iload_n C (dx dJ0_checkIndex_df160 0 rfl) rfl ?_
  refine r_iload_n C (dx dJ0_checkIndex_df160 1 rfl) rfl ?_
  refine r_gsF C fw_1053 (dx dJ0_checkIndex_df160 2 rfl) ?_ ?_
  ·
    refine r_csP (as := [vi (nI j), vi (nI n), vn 0 0]) (st := []) (v := vi (nI j)) C X I_J3_checkIndex_8e157 l_J0_1059 (c_ci_n hj hn) (by decide) (Nat.le_of_ble_eq_true rfl) List.prefix_rfl (Nat.le_of_ble_eq_true rfl) rfl (dx dJ0_checkIndex_df160 3 rfl) ?_
    refine r_popI C (dx dJ0_checkIndex_df160 4 rfl) ?_
    exact F.2.2.1 _ _ _ rfl (dx dJ0_checkIndex_df160 5 rfl) rfl ⟨rfl, rfl⟩
  ·
    refine r_csP (as := [vi (nI j), vi (nI n), vt 3000]) (st := []) (v := vi (nI j)) C X I_J3_checkIndex_8e157 l_J0_1059 (c_ci_t hj hn) (by decide) (Nat.le_of_ble_eq_true rfl) List.prefix_rfl (Nat.le_of_ble_eq_true rfl) rfl (dx dJ0_checkIndex_df160 3 rfl) ?_
    refine r_popI C (dx dJ0_checkIndex_df160 4 rfl) ?_
    exact F.2.2.1 _ _ _ rfl (dx dJ0_checkIndex_df160 5 rfl) rfl ⟨rfl, rfl⟩
set_option maxHeartbeats 4000000 in
theorem c_J1_charAt_3b067 {l : Launch} {h : Hp} {i j : Nat} (hi : i < 10) (hj : j < txL.getD i 0) : Mp l yJ1_charAt_3b067 cJ1_charAt_3b067 2 (some .char) 3 [vt (2000 + i), vi (nI j)] h (vi (txc i j)) := by
  refine Ms.of (by decide) (Nat.le_of_ble_eq_true rfl) (fun G C X F => ?_)
  have C : Cx G cJ1_charAt_3b067 2 RJ1 := C
  show Rr G 0 [(0, vt (2000 + i)), (1, vi (nI j))] [] h
  refine r_iload_n C (dx dJ1_charAt_3b067 0 rfl) rfl ?_
  refine r_aload_nT C (dx dJ1_charAt_3b067 1 rfl) rfl ?_
  refine r_txN (i := i) C hi (dx dJ1_charAt_3b067 2 rfl) ?_
  refine r_cs (as := [vi (nI j), vi (nI (txL.getD i 0))]) (st := []) C X I_J0_checkIndex_df160 l_J1_9 (c_J0_checkIndex_df160 hj (by have := tx_len hi; omega)) (by decide) (Nat.le_of_ble_eq_true rfl) List.prefix_rfl List.prefix_rfl (Nat.le_of_ble_eq_true rfl) rfl (dx dJ1_charAt_3b067 3 rfl) ?_
  intro rh1 h1 hph1 kkh1
  obtain ⟨rfl, rfl⟩ := hph1
  refine r_aload_nT C (dx dJ1_charAt_3b067 4 rfl) rfl ?_
  refine r_iload_n C (dx dJ1_charAt_3b067 5 rfl) rfl ?_
  refine r_txB (i := i) (j := j) C hi hj (dx dJ1_charAt_3b067 6 rfl) ?_
  refine r_sipush (v := nI 255) C (dx dJ1_charAt_3b067 7 rfl) rfl ?_
  refine r_iand C (dx dJ1_charAt_3b067 8 rfl) ?_
  refine r_i2c C (dx dJ1_charAt_3b067 9 rfl) ?_
  exact F.1 _ _ _ _ _ rfl (by rw [show (((txB.getD i []).getD j 0 &&& nI 255).toUInt32 % 65536).toInt32 = txc i j from tx_ch hi hj]; exact tx_nar hi hj) (dx dJ1_charAt_3b067 10 rfl) rfl ⟨congrArg (fun x => some (vi x)) (show ((((txB.getD i []).getD j 0) &&& (nI 255)).toUInt32 % 65536).toInt32 = txc i j by exact tx_ch hi hj), rfl⟩
set_option maxHeartbeats 4000000 in
theorem c_J0_charAt_5068e {l : Launch} {h : Hp} {i j : Nat} (hi : i < 10) (hj : j < txL.getD i 0) : Mp l yJ0_charAt_5068e cJ0_charAt_5068e 2 (some .char) 4 [vt (1000 + i), vi (nI j)] h (vi (txc i j)) := by
  refine Ms.of (by decide) (Nat.le_of_ble_eq_true rfl) (fun G C X F => ?_)
  have C : Cx G cJ0_charAt_5068e 2 RJ0 := C
  show Rr G 0 [(0, vt (1000 + i)), (1, vi (nI j))] [] h
  refine r_aload_nT C (dx dJ0_charAt_5068e 0 rfl) rfl ?_
  refine r_cvTP (as := []) (st := []) (v := vi (b2i true)) C X hi I_J0_isLatin1_aae02 l_J0_492 (c_J0_isLatin1_aae02 hi) (by decide) (Nat.le_of_ble_eq_true rfl) List.prefix_rfl rfl (Nat.le_of_ble_eq_true rfl) rfl (dx dJ0_charAt_5068e 1 rfl) ?_
  refine rb_eq (b := true) (tgt := 16) C (dx dJ0_charAt_5068e 2 rfl) (by decide) (fun c1 => ?_) (fun c1 => ?_)
  · cases c1
  ·
    have c1 : true = true := c1
    refine r_aload_nT C (dx dJ0_charAt_5068e 3 rfl) rfl ?_
    refine r_txV (i := i) C hi fw_9 (dx dJ0_charAt_5068e 4 rfl) ?_
    refine r_iload_n C (dx dJ0_charAt_5068e 5 rfl) rfl ?_
    refine r_csP (as := [vt (2000 + i), vi (nI j)]) (st := []) (v := vi (txc i j)) C X I_J1_charAt_3b067 l_J0_495 (c_J1_charAt_3b067 hi hj) (by decide) (Nat.le_of_ble_eq_true rfl) List.prefix_rfl (Nat.le_of_ble_eq_true rfl) rfl (dx dJ0_charAt_5068e 6 rfl) ?_
    exact F.1 _ _ _ _ _ rfl (tx_nar hi hj) (dx dJ0_charAt_5068e 7 rfl) rfl ⟨congrArg (fun x => some (vi x)) rfl, rfl⟩

