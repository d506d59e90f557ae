/-! PART 42: the law, from its entry -/
theorem mb_1 {w : Cond} (i : Nat) (h : tables_1_1[i]? = some w) : w ∈ lw_tbl := by
  have h1 := List.mem_of_getElem? h
  have h2 : w ∈ tables_1 := List.mem_append_left _ h1
  exact List.mem_append_right _ h2
theorem mb_2 {w : Cond} (i : Nat) (h : tables_1_2[i]? = some w) : w ∈ lw_tbl := by
  have h1 := List.mem_of_getElem? h
  have h2 : w ∈ tables_1 := List.mem_append_right _ (List.mem_append_left _ h1)
  exact List.mem_append_right _ h2
theorem mb_3 {w : Cond} (i : Nat) (h : tables_1_3[i]? = some w) : w ∈ lw_tbl := by
  have h1 := List.mem_of_getElem? h
  have h2 : w ∈ tables_1 := List.mem_append_right _ (List.mem_append_right _ (List.mem_append_left _ h1))
  exact List.mem_append_right _ h2
theorem mb_4 {w : Cond} (i : Nat) (h : tables_1_4[i]? = some w) : w ∈ lw_tbl := by
  have h1 := List.mem_of_getElem? h
  have h2 : w ∈ tables_1 := List.mem_append_right _ (List.mem_append_right _ (List.mem_append_right _ (List.mem_append_left _ h1)))
  exact List.mem_append_right _ h2
theorem mb_5 {w : Cond} (i : Nat) (h : tables_1_5[i]? = some w) : w ∈ lw_tbl := by
  have h1 := List.mem_of_getElem? h
  have h2 : w ∈ tables_1 := List.mem_append_right _ (List.mem_append_right _ (List.mem_append_right _ (List.mem_append_right _ (List.mem_append_left _ h1))))
  exact List.mem_append_right _ h2
theorem mb_6 {w : Cond} (i : Nat) (h : tables_1_6[i]? = some w) : w ∈ lw_tbl := by
  have h1 := List.mem_of_getElem? h
  have h2 : w ∈ tables_1 := List.mem_append_right _ (List.mem_append_right _ (List.mem_append_right _ (List.mem_append_right _ (List.mem_append_right _ (List.mem_append_left _ h1)))))
  exact List.mem_append_right _ h2
theorem mb_7 {w : Cond} (i : Nat) (h : tables_1_7[i]? = some w) : w ∈ lw_tbl := by
  have h1 := List.mem_of_getElem? h
  have h2 : w ∈ tables_1 := List.mem_append_right _ (List.mem_append_right _ (List.mem_append_right _ (List.mem_append_right _ (List.mem_append_right _ (List.mem_append_right _ (h1))))))
  exact List.mem_append_right _ h2
def tIx : List Nat := [35, 65, 82, 44, 89, 94, 49, 99, 104, 54]
def mIx : List Nat := [214, 197, 203, 204, 210, 212, 221, 222, 224, 226]
def tT (i : Nat) : Term := .string "OnlyWhatFits$Tape" (tIx.getD i 0)
def tM (i : Nat) : Term := .string "OnlyWhatFitsModel" (mIx.getD i 0)
def lwF : List Cond := flatC (Cond.and given_1 narrow_1)
theorem fx1 : ∀ i, i < 10 → decide (Cond.exactly (tT i) "java/lang/String" ∈ lwF) = true := by decide +kernel
theorem fx2 : ∀ i, i < 10 → decide (Cond.eq (.field (tT i) "java/lang/String" "coder" "B") (.int 0) ∈ lwF) = true := by decide +kernel
theorem fx3 : ∀ i, i < 10 → decide (Cond.arrayOf (.field (tT i) "java/lang/String" "value" "[B") .byte ∈ lwF) = true := by decide +kernel
theorem fx4 : ∀ i, i < 10 → decide (Cond.eq (.length (.field (tT i) "java/lang/String" "value" "[B")) (.int (Int32.ofNat (txL.getD i 0))) ∈ lwF) = true := by decide +kernel
theorem fx5 : ∀ i, i < 10 → ∀ j, j < txL.getD i 0 → decide (Cond.eq (.elem (.field (tT i) "java/lang/String" "value" "[B") (.int (Int32.ofNat j))) (.int ((txB.getD i []).getD j 0)) ∈ lwF) = true := by decide +kernel
def nxT : List (List Nat) := [[0, 23, 34, 47, 58, 69, 81, 95, 111, 128], [0, 0, 35, 48, 59, 70, 82, 96, 112, 129], [0, 0, 0, 49, 60, 71, 83, 97, 113, 130], [0, 0, 0, 0, 61, 72, 84, 98, 114, 131], [0, 0, 0, 0, 0, 73, 85, 99, 115, 132], [0, 0, 0, 0, 0, 0, 86, 100, 116, 133], [0, 0, 0, 0, 0, 0, 0, 101, 117, 134], [0, 0, 0, 0, 0, 0, 0, 0, 118, 135], [0, 0, 0, 0, 0, 0, 0, 0, 0, 136], [0, 0, 0, 0, 0, 0, 0, 0, 0, 0]]
theorem fx6 : ∀ i, i < 10 → ∀ j, j < 10 → i < j → decide (lwF[(nxT.getD i []).getD j 0]? = some (Cond.not (Cond.eq (tT i) (tT j)))) = true := by decide +kernel
theorem fx7 : ∀ i, i < 10 → decide (Cond.eq (tT i) (tM i) ∈ lwF) = true := by decide +kernel
theorem fx8 : decide (Cond.eq (.static "java/lang/String" "COMPACT_STRINGS" "Z") (.int 1) ∈ lwF) = true := by decide +kernel
theorem fx9 : decide (Cond.isRef (.static "jdk/internal/util/Preconditions" "SIOOBE_FORMATTER" "Ljava/util/function/BiFunction;") ∈ lwF) = true := by decide +kernel
theorem eq_ref {args : Array Value} {s : State} {t u : Term} {a : Nat} (h : (Cond.eq t u).before args s = true) (ht : t.eval args s none [] s = some (.ref a)) : u.eval args s none [] s = some (.ref a) := by
  cases hu : u.eval args s none [] s with
  | none => simp [Cond.before, Cond.holds, Cond.value, ht, hu] at h
  | some w =>
    simp only [Cond.before, Cond.holds, Cond.value, ht, hu] at h
    cases w <;> simp_all
theorem arr_s {args : Array Value} {s : State} {ty : FieldType} (h : (Cond.arrayClass ty).before args s = true) : ∃ cA, ArrOfT s cA ty ∧ s.vm.findClass ("[" ++ ty.toString) = some cA := by
  obtain ⟨c, k, comp, h1, h2, h3⟩ := Cond.arrayClass_spec (args := args) (first := s) (o := none) (s := s) (idx := []) h
  exact ⟨c, fun n z => ⟨fun k h => (by cases h), k, h2, comp, h3⟩, h1⟩
theorem arr_o {args : Array Value} {s : State} {ty : FieldType} (h : (Cond.arrayOver (.array ty)).before args s = true) : ∃ cA, ArrOfT s cA (.array ty) ∧ s.vm.findClass ("[" ++ (FieldType.array ty).toString) = some cA := by
  obtain ⟨comp, c, k, h1, h2, h3, h4⟩ := Cond.arrayOver_specA (args := args) (first := s) (o := none) (s := s) (idx := []) h
  exact ⟨c, fun n z => ⟨fun k h => (by cases h), k, h2, comp, h3⟩, h4⟩
set_option maxHeartbeats 4000000 in
set_option maxRecDepth 100000 in
theorem whole_start {p : Program} {e : Env} {s : State} {m : MethodId} {below : List Frame} {meth : Method} {c : Code} (l : Launch) (hflags : l.flags = flags0) {b L : Nat} {xs : Nat → Int32} (hL : L ≤ 3072) (C0 : lw_At p s m meth c b L xs) : W p l e room_1 s m #[Value.ref b] below meth c s.heap [] 0 0 (lw_Z below #[Value.ref b] s) (entryFrame m ([Value.ref b] : List Value).toArray 4) := by
  obtain ⟨hx, hb, hr, hml, hown, hts, hX, hbl, hlocks, hgv⟩ := id C0
  have hg : ∀ w ∈ lw_g, w.before #[Value.ref b] s = true := fun w hw => hts w (List.mem_filter.mp hw).1
  have hq : ∀ w ∈ lwF, w.before #[Value.ref b] s = true := flat_of_before _ hgv
  have hA0 : ∀ a : Nat, a < s.heap.size → ¬ s.heap.size ≤ a := fun a h => Nat.not_le.mpr h
  obtain ⟨c0, i0, kn0⟩ := u_known (C := RX0) (T := TX0) (N := 1) (n := 1) hg cl_in0 (hg _ q_in0)
  obtain ⟨c1, i1, kn1⟩ := u_known (C := RX1) (T := TX1) (N := 6) (n := 6) hg cl_in1 (hg _ q_in1)
  obtain ⟨c2, i2, kn2⟩ := u_known (C := RX2) (T := TX2) (N := 4) (n := 4) hg cl_in2 (hg _ q_in2)
  obtain ⟨c3, i3, kn3⟩ := u_known (C := RX3) (T := TX3) (N := 5) (n := 5) hg cl_in3 (hg _ q_in3)
  obtain ⟨c4, i4, kn4⟩ := u_known (C := RX4) (T := TX4) (N := 3) (n := 3) hg cl_in4 (hg _ q_in4)
  obtain ⟨c5, i5, kn5⟩ := u_known (C := RX5) (T := TX5) (N := 12) (n := 12) hg cl_in5 (hg _ q_in5)
  obtain ⟨c6, i6, kn6⟩ := u_known (C := RX6) (T := TX6) (N := 12) (n := 12) hg cl_in6 (hg _ q_in6)
  obtain ⟨c7, i7, kn7⟩ := u_known (C := RX7) (T := TX7) (N := 32) (n := 32) hg cl_in7 (hg _ q_in7)
  obtain ⟨dC, dI, hKc⟩ : ∃ (dC : Nat → ClassId) (dI : Nat → Nat → Nat), ∀ (k : Nat) (q : vw_C), vwCl[k]? = some q → u_Kn s q.1 q.2.1 q.2.2 (dC k) (dI k) := by
    refine ⟨fun k => [c0, c1, c2, c3, c4, c5, c6, c7].getD (k % 8) c0, fun k => [i0, i1, i2, i3, i4, i5, i6, i7].getD (k % 8) i0, ?_⟩
    intro k q hq
    match k, hq with
    | 0, hq => cases hq; exact kn0
    | 1, hq => cases hq; exact kn1
    | 2, hq => cases hq; exact kn2
    | 3, hq => cases hq; exact kn3
    | 4, hq => cases hq; exact kn4
    | 5, hq => cases hq; exact kn5
    | 6, hq => cases hq; exact kn6
    | 7, hq => cases hq; exact kn7
    | 8, hq => cases hq; exact kn0
    | 9, hq => cases hq; exact kn1
    | 10, hq => cases hq; exact kn2
    | 11, hq => cases hq; exact kn3
    | 12, hq => cases hq; exact kn4
    | 13, hq => cases hq; exact kn5
    | 14, hq => cases hq; exact kn6
    | 15, hq => cases hq; exact kn7
    | k + 16, hq => simp [vwCl] at hq
  obtain ⟨a0, b0, d0⟩ := arr_s (hg _ q_ac_int)
  obtain ⟨a1, b1, d1⟩ := arr_s (hg _ q_ac_long)
  obtain ⟨a2, b2, d2⟩ := arr_s (hg _ q_ac_byte)
  obtain ⟨a3, b3, d3⟩ := arr_s (hg _ q_ac_boolean)
  obtain ⟨a4, b4, d4⟩ := arr_o (hts _ (mb_1 144 rfl))
  obtain ⟨a5, b5, d5⟩ := arr_o (hts _ (mb_1 195 rfl))
  obtain ⟨dA, hdA⟩ : ∃ dA : Nat → ClassId, ∀ (k : Nat) (q : ClassId × FieldType), (tysD dA)[k]? = some q → ArrOfT s q.1 q.2 ∧ va_RA s q.1 q.2 := by
    refine ⟨fun k => [a0, a1, a2, a3, a4, a5].getD k a0, ?_⟩
    intro k q hq
    match k, hq with
    | 0, hq => cases hq; exact ⟨b0, d0⟩
    | 1, hq => cases hq; exact ⟨b1, d1⟩
    | 2, hq => cases hq; exact ⟨b2, d2⟩
    | 3, hq => cases hq; exact ⟨b3, d3⟩
    | 4, hq => cases hq; exact ⟨b4, d4⟩
    | 5, hq => cases hq; exact ⟨b5, d5⟩
    | k + 6, hq => simp [tysD] at hq
  have hK : va_K (dC, dI) vwCl (tysD dA) s := ⟨hKc, hdA⟩
  obtain ⟨adK, adV, hvS, hev⟩ := vk_Sof (args := #[Value.ref b]) (s := s) (N := 10) (tm := tT) (len := txL) (byt := txB) (A := fun q => s.heap.size ≤ q) (by decide) (fun i hi => hq _ (of_decide_eq_true (fx1 i hi))) (fun i hi => hq _ (of_decide_eq_true (fx2 i hi))) (fun i hi => hq _ (of_decide_eq_true (fx3 i hi))) (fun i hi => hq _ (of_decide_eq_true (fx4 i hi))) (fun i hi j hj => hq _ (of_decide_eq_true (fx5 i hi j hj))) (fun i j hi hj ne => by
    rcases Nat.lt_or_gt_of_ne ne with z | z
    · exact Or.inl (hq _ (List.mem_of_getElem? (of_decide_eq_true (fx6 i hi j hj z))))
    · exact Or.inr (hq _ (List.mem_of_getElem? (of_decide_eq_true (fx6 j hj i hi z))))) hA0
  have hZ1 : va_Z "java/lang/String" "COMPACT_STRINGS" "Z" (.int 1) (fun q => s.heap.size ≤ q) s s.heap := va_Zof (hts _ (mb_3 61 rfl)) (hts _ (mb_1 12 rfl)) (va_eqi (hq _ (of_decide_eq_true fx8))) hA0
  have hZ2 := va_Zqof (A := fun q => s.heap.size ≤ q) (hts _ (mb_3 77 rfl)) (hts _ (mb_1 14 rfl)) (hq _ (of_decide_eq_true fx9)) hA0
  obtain ⟨t3, hZ3⟩ : ∃ t3 : Nat, va_Z "jdk/internal/util/Preconditions" "SIOOBE_FORMATTER" "Ljava/util/function/BiFunction;" .null (fun q => s.heap.size ≤ q) s s.heap ∨ va_Z "jdk/internal/util/Preconditions" "SIOOBE_FORMATTER" "Ljava/util/function/BiFunction;" (.ref t3) (fun q => s.heap.size ≤ q) s s.heap := by
    rcases hZ2 with h | ⟨t, h⟩
    · exact ⟨0, Or.inl h⟩
    · exact ⟨t, Or.inr h⟩
  obtain ⟨f0, e1, e2, e3, e9⟩ : ∃ f0 : Nat → Nat, (∀ i, i < 10 → f0 (1000 + i) = adK i) ∧ (∀ i, i < 10 → f0 (2000 + i) = adV i) ∧ f0 3000 = t3 ∧ f0 9000 = b := by
    refine ⟨fun a => if a = 9000 then b else if a = 3000 then t3 else if 2000 ≤ a then adV (a - 2000) else adK (a - 1000), fun i hi => ?_, fun i hi => ?_, ?_, ?_⟩
    · show (if 1000 + i = 9000 then _ else _) = _
      rw [if_neg (by omega), if_neg (by omega), if_neg (by omega), Nat.add_sub_cancel_left]
    · show (if 2000 + i = 9000 then _ else _) = _
      rw [if_neg (by omega), if_neg (by omega), if_pos (by omega), Nat.add_sub_cancel_left]
    · rfl
    · rfl
  have hSF : SF f0 (fun q => s.heap.size ≤ q) s s.heap := by
    refine ⟨⟨fun i hi => ?_, fun i j hi hj ee => ?_⟩, hZ1, by rw [e3]; exact hZ3, fun k q hk => ?_, ?_⟩
    · show va_O _ (f0 (1000 + i)) _ _ _ ∧ va_OF _ _ _ _ (f0 (1000 + i)) _ _ _ ∧ va_OF _ _ _ (.ref (f0 (2000 + i))) (f0 (1000 + i)) _ _ _ ∧ va_T _ (f0 (2000 + i)) _ _ _ _ _
      rw [e1 i hi, e2 i hi]; exact hvS.1 i hi
    · have ee : f0 (1000 + i) = f0 (1000 + j) := ee
      rw [e1 i hi, e1 j hj] at ee; exact hvS.2 i j hi hj ee
    · match k, hk with
      | 0, hk => cases hk; show vk_R _ _ _ (f0 (1000 + 0)) _; rw [e1 0 (by decide)]; exact vk_R.of (A := #[Value.ref b]) (hts _ (mb_3 47 rfl)) (hev 0 (by decide))
      | 1, hk => cases hk; show vk_R _ _ _ (f0 (1000 + 1)) _; rw [e1 1 (by decide)]; exact vk_R.of (A := #[Value.ref b]) (hts _ (mb_3 105 rfl)) (hev 1 (by decide))
      | 2, hk => cases hk; show vk_R _ _ _ (f0 (1000 + 2)) _; rw [e1 2 (by decide)]; exact vk_R.of (A := #[Value.ref b]) (hts _ (mb_3 111 rfl)) (hev 2 (by decide))
      | 3, hk => cases hk; show vk_R _ _ _ (f0 (1000 + 3)) _; rw [e1 3 (by decide)]; exact vk_R.of (A := #[Value.ref b]) (hts _ (mb_3 112 rfl)) (hev 3 (by decide))
      | 4, hk => cases hk; show vk_R _ _ _ (f0 (1000 + 4)) _; rw [e1 4 (by decide)]; exact vk_R.of (A := #[Value.ref b]) (hts _ (mb_3 117 rfl)) (hev 4 (by decide))
      | 5, hk => cases hk; show vk_R _ _ _ (f0 (1000 + 5)) _; rw [e1 5 (by decide)]; exact vk_R.of (A := #[Value.ref b]) (hts _ (mb_3 118 rfl)) (hev 5 (by decide))
      | 6, hk => cases hk; show vk_R _ _ _ (f0 (1000 + 6)) _; rw [e1 6 (by decide)]; exact vk_R.of (A := #[Value.ref b]) (hts _ (mb_3 120 rfl)) (hev 6 (by decide))
      | 7, hk => cases hk; show vk_R _ _ _ (f0 (1000 + 7)) _; rw [e1 7 (by decide)]; exact vk_R.of (A := #[Value.ref b]) (hts _ (mb_3 125 rfl)) (hev 7 (by decide))
      | 8, hk => cases hk; show vk_R _ _ _ (f0 (1000 + 8)) _; rw [e1 8 (by decide)]; exact vk_R.of (A := #[Value.ref b]) (hts _ (mb_3 127 rfl)) (hev 8 (by decide))
      | 9, hk => cases hk; show vk_R _ _ _ (f0 (1000 + 9)) _; rw [e1 9 (by decide)]; exact vk_R.of (A := #[Value.ref b]) (hts _ (mb_3 128 rfl)) (hev 9 (by decide))
      | 10, hk => cases hk; show vk_R _ _ _ (f0 (1000 + 0)) _; rw [e1 0 (by decide)]; exact vk_R.of (A := #[Value.ref b]) (hts _ (mb_6 37 rfl)) (eq_ref (hq _ (of_decide_eq_true (fx7 0 (by decide)))) (hev 0 (by decide)))
      | 11, hk => cases hk; show vk_R _ _ _ (f0 (1000 + 1)) _; rw [e1 1 (by decide)]; exact vk_R.of (A := #[Value.ref b]) (hts _ (mb_6 49 rfl)) (eq_ref (hq _ (of_decide_eq_true (fx7 1 (by decide)))) (hev 1 (by decide)))
      | 12, hk => cases hk; show vk_R _ _ _ (f0 (1000 + 2)) _; rw [e1 2 (by decide)]; exact vk_R.of (A := #[Value.ref b]) (hts _ (mb_6 58 rfl)) (eq_ref (hq _ (of_decide_eq_true (fx7 2 (by decide)))) (hev 2 (by decide)))
      | 13, hk => cases hk; show vk_R _ _ _ (f0 (1000 + 3)) _; rw [e1 3 (by decide)]; exact vk_R.of (A := #[Value.ref b]) (hts _ (mb_6 59 rfl)) (eq_ref (hq _ (of_decide_eq_true (fx7 3 (by decide)))) (hev 3 (by decide)))
      | 14, hk => cases hk; show vk_R _ _ _ (f0 (1000 + 4)) _; rw [e1 4 (by decide)]; exact vk_R.of (A := #[Value.ref b]) (hts _ (mb_6 72 rfl)) (eq_ref (hq _ (of_decide_eq_true (fx7 4 (by decide)))) (hev 4 (by decide)))
      | 15, hk => cases hk; show vk_R _ _ _ (f0 (1000 + 5)) _; rw [e1 5 (by decide)]; exact vk_R.of (A := #[Value.ref b]) (hts _ (mb_6 73 rfl)) (eq_ref (hq _ (of_decide_eq_true (fx7 5 (by decide)))) (hev 5 (by decide)))
      | 16, hk => cases hk; show vk_R _ _ _ (f0 (1000 + 6)) _; rw [e1 6 (by decide)]; exact vk_R.of (A := #[Value.ref b]) (hts _ (mb_6 74 rfl)) (eq_ref (hq _ (of_decide_eq_true (fx7 6 (by decide)))) (hev 6 (by decide)))
      | 17, hk => cases hk; show vk_R _ _ _ (f0 (1000 + 7)) _; rw [e1 7 (by decide)]; exact vk_R.of (A := #[Value.ref b]) (hts _ (mb_6 75 rfl)) (eq_ref (hq _ (of_decide_eq_true (fx7 7 (by decide)))) (hev 7 (by decide)))
      | 18, hk => cases hk; show vk_R _ _ _ (f0 (1000 + 8)) _; rw [e1 8 (by decide)]; exact vk_R.of (A := #[Value.ref b]) (hts _ (mb_6 76 rfl)) (eq_ref (hq _ (of_decide_eq_true (fx7 8 (by decide)))) (hev 8 (by decide)))
      | 19, hk => cases hk; show vk_R _ _ _ (f0 (1000 + 9)) _; rw [e1 9 (by decide)]; exact vk_R.of (A := #[Value.ref b]) (hts _ (mb_6 77 rfl)) (eq_ref (hq _ (of_decide_eq_true (fx7 9 (by decide)))) (hev 9 (by decide)))
      | k + 20, hk => simp [txR] at hk
    · refine ⟨over_moved (Vm.Alike.refl _) (hts _ (mb_1 144 rfl)), over_moved (Vm.Alike.refl _) (hts _ (mb_1 195 rfl)), fun i q hq => ?_⟩
      match i, hq with
      | 0, hq => cases hq; exact va_Nw.of (A := #[Value.ref b]) rfl (hts _ (mb_1 27 rfl))
      | 1, hq => cases hq; exact va_Nw.of (A := #[Value.ref b]) rfl (hts _ (mb_1 129 rfl))
      | 2, hq => cases hq; exact va_Nw.of (A := #[Value.ref b]) rfl (hts _ (mb_1 139 rfl))
      | 3, hq => cases hq; exact va_Nw.of (A := #[Value.ref b]) rfl (hts _ (mb_1 167 rfl))
      | i + 4, hq => simp [lnR] at hq
  have C : Cx (p, l, e, room_1, s, m, #[Value.ref b], below, meth, c, (dC, dI), dA, (fun q => s.heap.size ≤ q), f0, [], lw_Z below #[Value.ref b] s, 4) code 4 RL := ⟨rfl, hx, hb, hml, hown, hg, hlocks, hK, fun q h => h, hSF⟩
  have X : Rmx l (p, l, e, room_1, s, m, #[Value.ref b], below, meth, c, (dC, dI), dA, (fun q => s.heap.size ≤ q), f0, [], lw_Z below #[Value.ref b] s, 4) 2048 (AL P63 true true) := ⟨rfl, by decide +kernel, by decide +kernel, by decide +kernel, by decide +kernel⟩
  have S : SLw (p, l, e, room_1, s, m, #[Value.ref b], below, meth, c, (dC, dI), dA, (fun q => s.heap.size ≤ q), f0, [], lw_Z below #[Value.ref b] s, 4) b L xs := ⟨e9, hX, hbl, Nat.not_le.mpr hbl⟩
  have E : ∀ (pc : Nat) (ls : List (Nat × V)) (h' : Hp), decode code pc = .ok (.ireturn, 1) → xK h' <+: AL P63 true true → Rr (p, l, e, room_1, s, m, #[Value.ref b], below, meth, c, (dC, dI), dA, (fun q => s.heap.size ≤ q), f0, [], lw_Z below #[Value.ref b] s, 4) pc ls [vi 1] h' := by
    intro pc ls h' hdg hp f H locs LS h1 h2 h3 hP hD hS hl w1 w2
    have n1 : (xK h').length ≤ 600000 := Nat.le_trans (pfx_len hp) (by decide +kernel)
    have n2 : slo (xK h') ≤ 7302250 := Nat.le_trans (pfx_slo hp) (by decide +kernel)
    refine va_forget (fun q hq => hS.2.2 q hq) ?_
    refine W.widen (k := 600000) (n := 7302250) (Nat.le_trans (Nat.sub_le _ _) n1) (Nat.le_trans (Nat.sub_le _ _) n2) ?_
    exact lw_ret hx hb hr hlocks hdg
  have hl := lv_entry ([.ref b]) (n := 4) (Nat.le_of_ble_eq_true rfl)
  rw [lg_entry_eq]
  generalize (lg_sl ([.ref b]) ++ List.replicate (4 - (lg_sl ([.ref b])).length) Slot.unset).toArray = ls at hl ⊢
  have hl : lv_has ls 4 [(0, .ref b)] := hl
  have R := law_new C rfl X (fun h' v' => law_loop C X S hL E (L + 6) 0 h' (by omega) (by omega) v')
  exact R f0 s.heap [] ls (fun _ _ => rfl) List.nil_prefix (fun a k h => by have q : ([] : List Nat)[a]? = some k := h; simp at q) (fun k q h => by have z : ([] : va_W)[k]? = some q := h; simp at z) ⟨fun i j p q h => by (have z : ([] : va_W)[i]? = some p := h); simp at z, fun k q h => by (have z : ([] : va_W)[k]? = some q := h); simp at z⟩ va_S.rf (by show lv_has ls 4 [(0, .ref (f0 9000))]; rw [e9]; exact hl) (fun q hq => by rw [List.mem_singleton.mp hq]; show 1000 ≤ 9000; decide) (fun q hq => by cases hq)

