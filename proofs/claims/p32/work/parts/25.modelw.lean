/-! PART 25: the reference: what writes in its village -/
/-- the cells of the village (and of the refusals); what stays when only these are written -/
def VC (k b : Nat) : Prop := b = k ∨ (k + 17 ≤ b ∧ b < k + 32)
def Kp (k : Nat) (h h' : Hp) : Prop := xI h' k 8 = xI h k 8 ∧ xN h' k = xN h k ∧ Fs (VC k) h h'
theorem Kp.rf {k : Nat} {h : Hp} : Kp k h h := ⟨rfl, rfl, Fs.rf⟩
theorem Kp.tr {k : Nat} {h h1 h2 : Hp} (a : Kp k h h1) (b : Kp k h1 h2) : Kp k h h2 := ⟨b.1.trans a.1, b.2.1.trans a.2.1, a.2.2.tr b.2.2⟩
theorem Kp.fr {k lo hi : Nat} {h h1 : Hp} (f : Fr lo hi h h1) (h1' : k + 17 ≤ lo) (h2 : hi ≤ k + 32) : Kp k h h1 :=
  ⟨by rw [(f k (by omega)).1], (f k (by omega)).2.2, f.fs.mono (fun b q => Or.inr ⟨by omega, by omega⟩)⟩
theorem Kp.f {k j : Nat} {h : Hp} {x : Int32} (hj : j ≠ 8) : Kp k h (sI h k j x) :=
  ⟨by rw [sI_at, if_neg (Ne.symm hj)], rfl, fun b hb => oth_sI b (fun q => hb (Or.inl q))⟩
theorem Kp.fL {k j : Nat} {h : Hp} {x : Int64} : Kp k h (sL h k j x) :=
  ⟨rfl, rfl, fun b hb => oth_sL b (fun q => hb (Or.inl q))⟩
theorem Kp.c {k b j : Nat} {h : Hp} {x : Int32} (h1 : k + 17 ≤ b) (h2 : b < k + 32) : Kp k h (sI h b j x) := Kp.fr (Fr.sI (lo := b) (hi := b + 1) (by omega) (by omega)) (by omega) (by omega)
theorem MilAt.fL {k j : Nat} {h : Hp} {x : Int64} {v : Vg} (a : MilAt h k v) : MilAt (sL h k j x) k v := a
/-- the same numbers of parts, machines, people -/
def Sz (v u : Vg) : Prop := vP u = vP v ∧ vM u = vM v ∧ vN u = vN v
theorem Sz.rf {v : Vg} : Sz v v := ⟨rfl, rfl, rfl⟩
theorem Sz.tr {v u w : Vg} (a : Sz v u) (b : Sz u w) : Sz v w := ⟨b.1.trans a.1, b.2.1.trans a.2.1, b.2.2.trans a.2.2⟩
set_option maxHeartbeats 4000000 in
theorem c_X7_refuse {l : Launch} {h : Hp} {k : Nat} {v : Vg} (hm : MilAt h k v) {x : Int32} {j : Nat} (e : -x = nI j) (hj : j < 8) : Ms l yX7_refuse cX7_refuse 2 (some .int) 1 [vr 7 k, vi x] h (xK h) (fun r h' => r = some (vi x) ∧ (∃ v', MilAt h' k v' ∧ Sz v v') ∧ Kp k h h') := by
  refine Ms.of (by decide) (Nat.le_of_ble_eq_true rfl) (fun G C X F => ?_)
  have C : Cx G cX7_refuse 2 RX7 := C
  show Rr G 0 [(0, vr 7 k), (1, vi x)] [] h
  have bP := hm.bP
  have bM := hm.bM
  have bN := hm.bN
  refine r_aload_n C (dx dX7_refuse 0 rfl) rfl ?_
  refine g_X7_37 C (dx dX7_refuse 1 rfl) ?_
  refine r_iload_n C (dx dX7_refuse 2 rfl) rfl ?_
  refine r_ineg C (dx dX7_refuse 3 rfl) ?_
  refine r_dup2 C (dx dX7_refuse 4 rfl) ?_
  refine r_iald (j := (-x).toNatClampNeg) (x := xI h (k + 17) ((-x).toNatClampNeg)) C rfl rfl (by decide) (by rw [e, clN (by omega)]) (by rw [e, clN (by omega)]; exact hj) (dx dX7_refuse 5 rfl) rfl ?_
  refine r_iconst (v := nI 1) C (dx dX7_refuse 6 rfl) rfl ?_
  refine r_iadd C (dx dX7_refuse 7 rfl) ?_
  refine r_iast (j := (-x).toNatClampNeg) C rfl rfl (by decide) (by rw [e, clN (by omega)]) (by rw [e, clN (by omega)]; exact hj) (dx dX7_refuse 8 rfl) ?_
  obtain ⟨vh1, mh1, zh1⟩ : ∃ v9, MilAt (sI h (k + 17) ((-x).toNatClampNeg) ((xI h (k + 17) ((-x).toNatClampNeg)) + (nI 1))) k v9 ∧ Sz v v9 := ⟨v, hm.fr (Fr.sI (lo := k + 17) (hi := k + 18) (by omega) (by omega)) (by omega), ⟨rfl, rfl, rfl⟩⟩
  have ph1 : Kp k h (sI h (k + 17) ((-x).toNatClampNeg) ((xI h (k + 17) ((-x).toNatClampNeg)) + (nI 1))) := Kp.c (by omega) (by omega)
  have kh1 : xK (sI h (k + 17) ((-x).toNatClampNeg) ((xI h (k + 17) ((-x).toNatClampNeg)) + (nI 1))) = xK h := rfl
  generalize sI h (k + 17) ((-x).toNatClampNeg) ((xI h (k + 17) ((-x).toNatClampNeg)) + (nI 1)) = h1 at mh1 ph1 kh1 ⊢
  obtain ⟨ah1, bh1, ch1⟩ := zh1
  refine r_iload_n C (dx dX7_refuse 9 rfl) rfl ?_
  exact F.1 _ _ _ _ .int rfl rfl (dx dX7_refuse 10 rfl) kh1 ⟨rfl, ⟨_, mh1, ⟨by omega, by omega, by omega⟩⟩, ph1⟩
set_option maxHeartbeats 4000000 in
theorem c_X7_newOne {l : Launch} {h : Hp} {k : Nat} {v : Vg} (hm : MilAt h k v) (h8 : vN v < 8) : Ms l yX7_newOne cX7_newOne 2 none 1 [vr 7 k] h (xK h) (fun r h' => r = none ∧ (∃ v', MilAt h' k v' ∧ Sz v v') ∧ Kp k h h') := by
  refine Ms.of (by decide) (Nat.le_of_ble_eq_true rfl) (fun G C X F => ?_)
  have C : Cx G cX7_newOne 2 RX7 := C
  show Rr G 0 [(0, vr 7 k)] [] h
  have bP := hm.bP
  have bM := hm.bM
  have bN := hm.bN
  refine r_iconst (v := nI 0) C (dx dX7_newOne 0 rfl) rfl ?_
  refine r_istore_n (ls' := [(0, vr 7 k), (1, vi (nI 0))]) C (dx dX7_newOne 1 rfl) (by decide) [1, 0] rfl ?_
  refine loopU (Φ := fun p => ∀ (h9p : Hp) (u9p : Vg), MilAt h9p k u9p → Sz v u9p → Kp k h h9p → xK h9p = xK h → Rr G 2 [(0, vr 7 k), (1, vi (nI p))] [] h9p) (N := 4) ?_ ?_ 0 (by omega) h v hm (⟨by omega, by omega, by omega⟩) Kp.rf rfl
  ·
    intro  h9p u9p mh9p zh9p ph9p kh9p
    obtain ⟨ah9p, bh9p, ch9p⟩ := zh9p
    refine r_iload_n C (dx dX7_newOne 2 rfl) rfl ?_
    refine r_iconst (v := nI 4) C (dx dX7_newOne 3 rfl) rfl ?_
    refine rn_ge (a := 4) (b := 4) (tgt := 25) C (by omega) (by omega) (dx dX7_newOne 4 rfl) (by decide) (fun c1 => ?_) (fun c1 => ?_)
    · first
      | (omega; done)
      | (
          have c1 : 4 ≤ 4 := c1
          exact F.2.2.1 _ _ _ rfl (dx dX7_newOne 15 rfl) kh9p ⟨rfl, ⟨_, mh9p, ⟨by omega, by omega, by omega⟩⟩, ph9p⟩)
    · first
      | (omega; done)
  ·
    intro p hp ihp h9p u9p mh9p zh9p ph9p kh9p
    obtain ⟨ah9p, bh9p, ch9p⟩ := zh9p
    refine r_iload_n C (dx dX7_newOne 2 rfl) rfl ?_
    refine r_iconst (v := nI 4) C (dx dX7_newOne 3 rfl) rfl ?_
    refine rn_ge (a := p) (b := 4) (tgt := 25) C (by omega) (by omega) (dx dX7_newOne 4 rfl) (by decide) (fun c3 => ?_) (fun c3 => ?_)
    · first
      | (omega; done)
      | (
          have c3 : 4 ≤ p := c3
          exact F.2.2.1 _ _ _ rfl (dx dX7_newOne 15 rfl) kh9p ⟨rfl, ⟨_, mh9p, ⟨by omega, by omega, by omega⟩⟩, ph9p⟩)
    · first
      | (omega; done)
      | (
          have c3 : p < 4 := c3
          refine r_aload_n C (dx dX7_newOne 5 rfl) rfl ?_
          refine g_X7_54 C (dx dX7_newOne 6 rfl) ?_
          refine r_aload_n C (dx dX7_newOne 7 rfl) rfl ?_
          refine g_X7_74 (x := nI (vN u9p)) C (dx dX7_newOne 8 rfl) mh9p.eN ?_
          refine r_aald4 (j := vN u9p) C rfl rfl (by decide) rfl (by omega) (dx dX7_newOne 9 rfl) ?_
          refine r_iload_n C (dx dX7_newOne 10 rfl) rfl ?_
          refine r_iconst (v := nI 0) C (dx dX7_newOne 11 rfl) rfl ?_
          refine r_iast (j := p) C rfl rfl (by decide) rfl (by omega) (dx dX7_newOne 12 rfl) ?_
          obtain ⟨vh4, mh4, zh4⟩ : ∃ v9, MilAt (sI h9p (k + 23 + (vN u9p)) p (nI 0)) k v9 ∧ Sz u9p v9 := ⟨vset u9p (4 + p) (vN u9p) (nI 0), mh9p.so (by omega) (by omega), ⟨rfl, rfl, rfl⟩⟩
          have ph4 : Kp k h (sI h9p (k + 23 + (vN u9p)) p (nI 0)) := ph9p.tr (Kp.c (by omega) (by omega))
          have kh4 : xK (sI h9p (k + 23 + (vN u9p)) p (nI 0)) = xK h := kh9p
          generalize sI h9p (k + 23 + (vN u9p)) p (nI 0) = h4 at mh4 ph4 kh4 ⊢
          obtain ⟨ah4, bh4, ch4⟩ := zh4
          refine rn_iinc (a := p) (k := 1) (ls' := [(0, vr 7 k), (1, vi (nI (p + 1)))]) C (dx dX7_newOne 13 rfl) rfl rfl (by decide) [1, 0] rfl ?_
          refine r_goto (tgt := 2) C (dx dX7_newOne 14 rfl) (by decide) ?_
          exact ihp h4 vh4 mh4 (⟨by omega, by omega, by omega⟩) ph4 kh4)
set_option maxHeartbeats 4000000 in
theorem c_X7_part {l : Launch} {h : Hp} {k : Nat} {v : Vg} (hm : MilAt h k v)  : Ms l yX7_part cX7_part 1 (some .int) 3 [vr 7 k] h (xK h) (fun r h' => PI r ∧ (∃ v', MilAt h' k v') ∧ Kp k h h') := by
  refine Ms.of (by decide) (Nat.le_of_ble_eq_true rfl) (fun G C X F => ?_)
  have C : Cx G cX7_part 1 RX7 := C
  show Rr G 0 [(0, vr 7 k)] [] h
  have bP := hm.bP
  have bM := hm.bM
  have bN := hm.bN
  refine r_aload_n C (dx dX7_part 0 rfl) rfl ?_
  refine g_X7_64 (x := nI (vP v)) C (dx dX7_part 1 rfl) hm.eP ?_
  refine r_bipush (v := nI 12) C (dx dX7_part 2 rfl) rfl ?_
  refine rn_ne (a := vP v) (b := 12) (tgt := 16) C (by omega) (by omega) (dx dX7_part 3 rfl) (by decide) (fun c1 => ?_) (fun c1 => ?_)
  · first
    | (omega; done)
    | (
        have c1 : ¬ vP v = 12 := c1
        refine r_aload_n C (dx dX7_part 8 rfl) rfl ?_
        refine g_X7_40 C (dx dX7_part 9 rfl) ?_
        refine r_aload_n C (dx dX7_part 10 rfl) rfl ?_
        refine g_X7_64 (x := nI (vP v)) C (dx dX7_part 11 rfl) hm.eP ?_
        refine r_iconst (v := -1) C (dx dX7_part 12 rfl) rfl ?_
        refine r_iast (j := vP v) C rfl rfl (by decide) rfl (by omega) (dx dX7_part 13 rfl) ?_
        obtain ⟨vh2, mh2, zh2⟩ : ∃ v9, MilAt (sI h (k + 18) (vP v) (-1)) k v9 ∧ Sz v v9 := ⟨vset v 0 (vP v) (-1), hm.s0, ⟨rfl, rfl, rfl⟩⟩
        have ph2 : Kp k h (sI h (k + 18) (vP v) (-1)) := Kp.c (by omega) (by omega)
        have kh2 : xK (sI h (k + 18) (vP v) (-1)) = xK h := rfl
        generalize sI h (k + 18) (vP v) (-1) = h2 at mh2 ph2 kh2 ⊢
        obtain ⟨ah2, bh2, ch2⟩ := zh2
        refine r_aload_n C (dx dX7_part 14 rfl) rfl ?_
        refine g_X7_43 C (dx dX7_part 15 rfl) ?_
        refine r_aload_n C (dx dX7_part 16 rfl) rfl ?_
        refine g_X7_64 (x := nI (vP vh2)) C (dx dX7_part 17 rfl) mh2.eP ?_
        refine r_iconst (v := -1) C (dx dX7_part 18 rfl) rfl ?_
        refine r_iast (j := vP vh2) C rfl rfl (by decide) rfl (by omega) (dx dX7_part 19 rfl) ?_
        obtain ⟨vh3, mh3, zh3⟩ : ∃ v9, MilAt (sI h2 (k + 19) (vP vh2) (-1)) k v9 ∧ Sz vh2 v9 := ⟨vset vh2 1 (vP vh2) (-1), mh2.s1, ⟨rfl, rfl, rfl⟩⟩
        have ph3 : Kp k h (sI h2 (k + 19) (vP vh2) (-1)) := ph2.tr (Kp.c (by omega) (by omega))
        have kh3 : xK (sI h2 (k + 19) (vP vh2) (-1)) = xK h := kh2
        generalize sI h2 (k + 19) (vP vh2) (-1) = h3 at mh3 ph3 kh3 ⊢
        obtain ⟨ah3, bh3, ch3⟩ := zh3
        refine r_aload_n C (dx dX7_part 20 rfl) rfl ?_
        refine r_dupR C (dx dX7_part 21 rfl) ?_
        refine g_X7_64 (x := nI (vP vh3)) C (dx dX7_part 22 rfl) mh3.eP ?_
        refine r_dup_x1 C (dx dX7_part 23 rfl) ?_
        refine r_iconst (v := nI 1) C (dx dX7_part 24 rfl) rfl ?_
        refine rn_iadd (a := vP vh3) (b := 1) C (dx dX7_part 25 rfl) ?_
        refine p_X7_64 C (dx dX7_part 26 rfl) rfl rfl ?_
        have mh4 : MilAt (sI h3 k 10 (nI (vP vh3 + 1))) k (vsP vh3 (vP vh3 + 1)) := mh3.sP (n := vP vh3 + 1) (by omega)
        have ph4 : Kp k h (sI h3 k 10 (nI (vP vh3 + 1))) := ph3.tr (Kp.f (by decide))
        have kh4 : xK (sI h3 k 10 (nI (vP vh3 + 1))) = xK h := kh3
        generalize sI h3 k 10 (nI (vP vh3 + 1)) = h4 at mh4 ph4 kh4 ⊢
        exact F.1 _ _ _ _ .int rfl rfl (dx dX7_part 27 rfl) kh4 ⟨⟨_, rfl⟩, ⟨_, mh4⟩, ph4⟩)
  · first
    | (omega; done)
    | (
        have c1 : vP v = 12 := c1
        refine r_aload_n C (dx dX7_part 4 rfl) rfl ?_
        refine r_bipush (v := -6) C (dx dX7_part 5 rfl) rfl ?_
        refine r_cv (as := [vi (-6)]) (st := []) C X I_X7_refuse l_X7_83 (c_X7_refuse hm (x := -6) (j := 6) (by decide) (by decide)) (by decide) (Nat.le_of_ble_eq_true rfl) List.prefix_rfl List.prefix_rfl rfl rfl (Nat.le_of_ble_eq_true rfl) rfl (dx dX7_part 6 rfl) ?_
        rintro _ h5 ⟨rfl, ⟨wh5, m9h5, s9h5⟩, qh5⟩ kkh5
        obtain ⟨vh5, mh5, zh5⟩ : ∃ v9, MilAt h5 k v9 ∧ Sz v v9 := ⟨_, m9h5, s9h5⟩
        have ph5 : Kp k h h5 := qh5
        have kh5 : xK h5 = xK h := kkh5
        obtain ⟨ah5, bh5, ch5⟩ := zh5
        exact F.1 _ _ _ _ .int rfl rfl (dx dX7_part 7 rfl) kh5 ⟨⟨_, rfl⟩, ⟨_, mh5⟩, ph5⟩)
set_option maxHeartbeats 4000000 in
theorem c_X7_machine {l : Launch} {h : Hp} {k : Nat} {v : Vg} (hm : MilAt h k v) (x y : Int32) : Ms l yX7_machine cX7_machine 3 (some .int) 3 [vr 7 k, vi x, vi y] h (xK h) (fun r h' => PI r ∧ (∃ v', MilAt h' k v') ∧ Kp k h h') := by
  refine Ms.of (by decide) (Nat.le_of_ble_eq_true rfl) (fun G C X F => ?_)
  have C : Cx G cX7_machine 3 RX7 := C
  show Rr G 0 [(0, vr 7 k), (1, vi x), (2, vi y)] [] h
  have bP := hm.bP
  have bM := hm.bM
  have bN := hm.bN
  refine r_iload_n C (dx dX7_machine 0 rfl) rfl ?_
  refine r_i2l C (dx dX7_machine 1 rfl) ?_
  refine r_lconst (v := 1) C (dx dX7_machine 2 rfl) rfl ?_
  refine r_iconst (v := nI 1) C (dx dX7_machine 3 rfl) rfl ?_
  refine r_aload_n C (dx dX7_machine 4 rfl) rfl ?_
  refine g_X7_64 (x := nI (vP v)) C (dx dX7_machine 5 rfl) hm.eP ?_
  refine r_ishl C (dx dX7_machine 6 rfl) ?_
  refine r_iconst (v := nI 1) C (dx dX7_machine 7 rfl) rfl ?_
  refine r_isub C (dx dX7_machine 8 rfl) ?_
  refine r_i2l C (dx dX7_machine 9 rfl) ?_
  refine r_csP (as := [vl x.toInt64, vl 1, vl ((((nI 1) <<< ((nI (vP v)) &&& 31)) - (nI 1)).toInt64)]) (st := []) (v := vi (b2i (inL x.toInt64 1 ((((nI 1) <<< ((nI (vP v)) &&& 31)) - (nI 1)).toInt64)))) C X I_X7_in l_X7_67 (c_X7_in _ _ _) (by decide) (Nat.le_of_ble_eq_true rfl) List.prefix_rfl (Nat.le_of_ble_eq_true rfl) rfl (dx dX7_machine 10 rfl) ?_
  refine rb_eq (b := inL x.toInt64 1 ((((nI 1) <<< ((nI (vP v)) &&& 31)) - (nI 1)).toInt64)) (tgt := 30) C (dx dX7_machine 11 rfl) (by decide) (fun c1 => ?_) (fun c1 => ?_)
  ·
    have c1 : (inL x.toInt64 1 ((((nI 1) <<< ((nI (vP v)) &&& 31)) - (nI 1)).toInt64)) = false := c1
    refine r_aload_n C (dx dX7_machine 18 rfl) rfl ?_
    refine r_bipush (v := -2) C (dx dX7_machine 19 rfl) rfl ?_
    refine r_cv (as := [vi (-2)]) (st := []) C X I_X7_refuse l_X7_83 (c_X7_refuse hm (x := -2) (j := 2) (by decide) (by decide)) (by decide) (Nat.le_of_ble_eq_true rfl) List.prefix_rfl List.prefix_rfl rfl rfl (Nat.le_of_ble_eq_true rfl) rfl (dx dX7_machine 20 rfl) ?_
    rintro _ h2 ⟨rfl, ⟨wh2, m9h2, s9h2⟩, qh2⟩ kkh2
    obtain ⟨vh2, mh2, zh2⟩ : ∃ v9, MilAt h2 k v9 ∧ Sz v v9 := ⟨_, m9h2, s9h2⟩
    have ph2 : Kp k h h2 := qh2
    have kh2 : xK h2 = xK h := kkh2
    obtain ⟨ah2, bh2, ch2⟩ := zh2
    exact F.1 _ _ _ _ .int rfl rfl (dx dX7_machine 21 rfl) kh2 ⟨⟨_, rfl⟩, ⟨_, mh2⟩, ph2⟩
  ·
    have c1 : (inL x.toInt64 1 ((((nI 1) <<< ((nI (vP v)) &&& 31)) - (nI 1)).toInt64)) = true := c1
    refine r_iload_n C (dx dX7_machine 12 rfl) rfl ?_
    refine r_i2l C (dx dX7_machine 13 rfl) ?_
    refine r_lconst (v := 1) C (dx dX7_machine 14 rfl) rfl ?_
    refine r_ldc2 C n_X7_96 (dx dX7_machine 15 rfl) ?_
    refine r_csP (as := [vl y.toInt64, vl 1, vl 99]) (st := []) (v := vi (b2i (btwB y 1 99))) C X I_X7_in l_X7_67 (c_inB (a := 1) (b := 99) (by decide) (by decide)) (by decide) (Nat.le_of_ble_eq_true rfl) List.prefix_rfl (Nat.le_of_ble_eq_true rfl) rfl (dx dX7_machine 16 rfl) ?_
    refine rb_ne (b := btwB y 1 99) (tgt := 37) C (dx dX7_machine 17 rfl) (by decide) (fun c3 => ?_) (fun c3 => ?_)
    ·
      have c3 : (btwB y 1 99) = true := c3
      refine r_aload_n C (dx dX7_machine 22 rfl) rfl ?_
      refine g_X7_71 (x := nI (vM v)) C (dx dX7_machine 23 rfl) hm.eM ?_
      refine r_bipush (v := nI 6) C (dx dX7_machine 24 rfl) rfl ?_
      refine rn_ne (a := vM v) (b := 6) (tgt := 53) C (by omega) (by omega) (dx dX7_machine 25 rfl) (by decide) (fun c4 => ?_) (fun c4 => ?_)
      · first
        | (omega; done)
        | (
            have c4 : ¬ vM v = 6 := c4
            refine r_aload_n C (dx dX7_machine 30 rfl) rfl ?_
            refine g_X7_46 C (dx dX7_machine 31 rfl) ?_
            refine r_aload_n C (dx dX7_machine 32 rfl) rfl ?_
            refine g_X7_71 (x := nI (vM v)) C (dx dX7_machine 33 rfl) hm.eM ?_
            refine r_iload_n C (dx dX7_machine 34 rfl) rfl ?_
            refine r_iast (j := vM v) C rfl rfl (by decide) rfl (by omega) (dx dX7_machine 35 rfl) ?_
            obtain ⟨vh5, mh5, zh5⟩ : ∃ v9, MilAt (sI h (k + 20) (vM v) x) k v9 ∧ Sz v v9 := ⟨vset v 2 (vM v) x, hm.s2, ⟨rfl, rfl, rfl⟩⟩
            have ph5 : Kp k h (sI h (k + 20) (vM v) x) := Kp.c (by omega) (by omega)
            have kh5 : xK (sI h (k + 20) (vM v) x) = xK h := rfl
            generalize sI h (k + 20) (vM v) x = h5 at mh5 ph5 kh5 ⊢
            obtain ⟨ah5, bh5, ch5⟩ := zh5
            refine r_aload_n C (dx dX7_machine 36 rfl) rfl ?_
            refine g_X7_49 C (dx dX7_machine 37 rfl) ?_
            refine r_aload_n C (dx dX7_machine 38 rfl) rfl ?_
            refine g_X7_71 (x := nI (vM vh5)) C (dx dX7_machine 39 rfl) mh5.eM ?_
            refine r_iload_n C (dx dX7_machine 40 rfl) rfl ?_
            refine r_iast (j := vM vh5) C rfl rfl (by decide) rfl (by omega) (dx dX7_machine 41 rfl) ?_
            obtain ⟨vh6, mh6, zh6⟩ : ∃ v9, MilAt (sI h5 (k + 21) (vM vh5) y) k v9 ∧ Sz vh5 v9 := ⟨vset vh5 3 (vM vh5) y, mh5.s3, ⟨rfl, rfl, rfl⟩⟩
            have ph6 : Kp k h (sI h5 (k + 21) (vM vh5) y) := ph5.tr (Kp.c (by omega) (by omega))
            have kh6 : xK (sI h5 (k + 21) (vM vh5) y) = xK h := kh5
            generalize sI h5 (k + 21) (vM vh5) y = h6 at mh6 ph6 kh6 ⊢
            obtain ⟨ah6, bh6, ch6⟩ := zh6
            refine r_aload_n C (dx dX7_machine 42 rfl) rfl ?_
            refine r_dupR C (dx dX7_machine 43 rfl) ?_
            refine g_X7_71 (x := nI (vM vh6)) C (dx dX7_machine 44 rfl) mh6.eM ?_
            refine r_dup_x1 C (dx dX7_machine 45 rfl) ?_
            refine r_iconst (v := nI 1) C (dx dX7_machine 46 rfl) rfl ?_
            refine rn_iadd (a := vM vh6) (b := 1) C (dx dX7_machine 47 rfl) ?_
            refine p_X7_71 C (dx dX7_machine 48 rfl) rfl rfl ?_
            have mh7 : MilAt (sI h6 k 13 (nI (vM vh6 + 1))) k (vsM vh6 (vM vh6 + 1)) := mh6.sM (n := vM vh6 + 1) (by omega)
            have ph7 : Kp k h (sI h6 k 13 (nI (vM vh6 + 1))) := ph6.tr (Kp.f (by decide))
            have kh7 : xK (sI h6 k 13 (nI (vM vh6 + 1))) = xK h := kh6
            generalize sI h6 k 13 (nI (vM vh6 + 1)) = h7 at mh7 ph7 kh7 ⊢
            exact F.1 _ _ _ _ .int rfl rfl (dx dX7_machine 49 rfl) kh7 ⟨⟨_, rfl⟩, ⟨_, mh7⟩, ph7⟩)
      · first
        | (omega; done)
        | (
            have c4 : vM v = 6 := c4
            refine r_aload_n C (dx dX7_machine 26 rfl) rfl ?_
            refine r_bipush (v := -6) C (dx dX7_machine 27 rfl) rfl ?_
            refine r_cv (as := [vi (-6)]) (st := []) C X I_X7_refuse l_X7_83 (c_X7_refuse hm (x := -6) (j := 6) (by decide) (by decide)) (by decide) (Nat.le_of_ble_eq_true rfl) List.prefix_rfl List.prefix_rfl rfl rfl (Nat.le_of_ble_eq_true rfl) rfl (dx dX7_machine 28 rfl) ?_
            rintro _ h8 ⟨rfl, ⟨wh8, m9h8, s9h8⟩, qh8⟩ kkh8
            obtain ⟨vh8, mh8, zh8⟩ : ∃ v9, MilAt h8 k v9 ∧ Sz v v9 := ⟨_, m9h8, s9h8⟩
            have ph8 : Kp k h h8 := qh8
            have kh8 : xK h8 = xK h := kkh8
            obtain ⟨ah8, bh8, ch8⟩ := zh8
            exact F.1 _ _ _ _ .int rfl rfl (dx dX7_machine 29 rfl) kh8 ⟨⟨_, rfl⟩, ⟨_, mh8⟩, ph8⟩)
    ·
      have c3 : (btwB y 1 99) = false := c3
      refine r_aload_n C (dx dX7_machine 18 rfl) rfl ?_
      refine r_bipush (v := -2) C (dx dX7_machine 19 rfl) rfl ?_
      refine r_cv (as := [vi (-2)]) (st := []) C X I_X7_refuse l_X7_83 (c_X7_refuse hm (x := -2) (j := 2) (by decide) (by decide)) (by decide) (Nat.le_of_ble_eq_true rfl) List.prefix_rfl List.prefix_rfl rfl rfl (Nat.le_of_ble_eq_true rfl) rfl (dx dX7_machine 20 rfl) ?_
      rintro _ h9 ⟨rfl, ⟨wh9, m9h9, s9h9⟩, qh9⟩ kkh9
      obtain ⟨vh9, mh9, zh9⟩ : ∃ v9, MilAt h9 k v9 ∧ Sz v v9 := ⟨_, m9h9, s9h9⟩
      have ph9 : Kp k h h9 := qh9
      have kh9 : xK h9 = xK h := kkh9
      obtain ⟨ah9, bh9, ch9⟩ := zh9
      exact F.1 _ _ _ _ .int rfl rfl (dx dX7_machine 21 rfl) kh9 ⟨⟨_, rfl⟩, ⟨_, mh9⟩, ph9⟩
set_option maxHeartbeats 4000000 in
theorem c_X7_one {l : Launch} {h : Hp} {k : Nat} {v : Vg} (hm : MilAt h k v) (x y : Int32) : Ms l yX7_one cX7_one 3 (some .int) 3 [vr 7 k, vi x, vi y] h (xK h) (fun r h' => PI r ∧ (∃ v', MilAt h' k v') ∧ Kp k h h') := by
  refine Ms.of (by decide) (Nat.le_of_ble_eq_true rfl) (fun G C X F => ?_)
  have C : Cx G cX7_one 3 RX7 := C
  show Rr G 0 [(0, vr 7 k), (1, vi x), (2, vi y)] [] h
  have bP := hm.bP
  have bM := hm.bM
  have bN := hm.bN
  refine r_iload_n C (dx dX7_one 0 rfl) rfl ?_
  refine r_i2l C (dx dX7_one 1 rfl) ?_
  refine r_lconst (v := 0) C (dx dX7_one 2 rfl) rfl ?_
  refine r_ldc2 C n_X7_118 (dx dX7_one 3 rfl) ?_
  refine r_csP (as := [vl x.toInt64, vl 0, vl 9]) (st := []) (v := vi (b2i (inR x 10))) C X I_X7_in l_X7_67 (c_inR (b := 9) (by decide) (by decide)) (by decide) (Nat.le_of_ble_eq_true rfl) List.prefix_rfl (Nat.le_of_ble_eq_true rfl) rfl (dx dX7_one 4 rfl) ?_
  refine rb_eq (b := inR x 10) (tgt := 24) C (dx dX7_one 5 rfl) (by decide) (fun c1 => ?_) (fun c1 => ?_)
  ·
    have c1 : (inR x 10) = false := c1
    refine r_aload_n C (dx dX7_one 12 rfl) rfl ?_
    refine r_bipush (v := -2) C (dx dX7_one 13 rfl) rfl ?_
    refine r_cv (as := [vi (-2)]) (st := []) C X I_X7_refuse l_X7_83 (c_X7_refuse hm (x := -2) (j := 2) (by decide) (by decide)) (by decide) (Nat.le_of_ble_eq_true rfl) List.prefix_rfl List.prefix_rfl rfl rfl (Nat.le_of_ble_eq_true rfl) rfl (dx dX7_one 14 rfl) ?_
    rintro _ h2 ⟨rfl, ⟨wh2, m9h2, s9h2⟩, qh2⟩ kkh2
    obtain ⟨vh2, mh2, zh2⟩ : ∃ v9, MilAt h2 k v9 ∧ Sz v v9 := ⟨_, m9h2, s9h2⟩
    have ph2 : Kp k h h2 := qh2
    have kh2 : xK h2 = xK h := kkh2
    obtain ⟨ah2, bh2, ch2⟩ := zh2
    exact F.1 _ _ _ _ .int rfl rfl (dx dX7_one 15 rfl) kh2 ⟨⟨_, rfl⟩, ⟨_, mh2⟩, ph2⟩
  ·
    have c1 : (inR x 10) = true := c1
    refine r_iload_n C (dx dX7_one 6 rfl) rfl ?_
    refine r_i2l C (dx dX7_one 7 rfl) ?_
    refine r_lconst (v := 0) C (dx dX7_one 8 rfl) rfl ?_
    refine r_ldc2 C n_X7_120 (dx dX7_one 9 rfl) ?_
    refine r_csP (as := [vl y.toInt64, vl 0, vl 10]) (st := []) (v := vi (b2i (inR y 11))) C X I_X7_in l_X7_67 (c_inR (b := 10) (by decide) (by decide)) (by decide) (Nat.le_of_ble_eq_true rfl) List.prefix_rfl (Nat.le_of_ble_eq_true rfl) rfl (dx dX7_one 10 rfl) ?_
    refine rb_ne (b := inR y 11) (tgt := 31) C (dx dX7_one 11 rfl) (by decide) (fun c3 => ?_) (fun c3 => ?_)
    ·
      have c3 : (inR y 11) = true := c3
      refine r_aload_n C (dx dX7_one 16 rfl) rfl ?_
      refine g_X7_74 (x := nI (vN v)) C (dx dX7_one 17 rfl) hm.eN ?_
      refine r_bipush (v := nI 8) C (dx dX7_one 18 rfl) rfl ?_
      refine rn_ne (a := vN v) (b := 8) (tgt := 47) C (by omega) (by omega) (dx dX7_one 19 rfl) (by decide) (fun c4 => ?_) (fun c4 => ?_)
      · first
        | (omega; done)
        | (
            have c4 : ¬ vN v = 8 := c4
            refine r_aload_n C (dx dX7_one 24 rfl) rfl ?_
            refine r_cv (as := []) (st := []) C X I_X7_newOne l_X7_122 (c_X7_newOne hm (by omega)) (by decide) (Nat.le_of_ble_eq_true rfl) List.prefix_rfl List.prefix_rfl rfl rfl (Nat.le_of_ble_eq_true rfl) rfl (dx dX7_one 25 rfl) ?_
            rintro _ h5 ⟨rfl, ⟨wh5, m9h5, s9h5⟩, qh5⟩ kkh5
            obtain ⟨vh5, mh5, zh5⟩ : ∃ v9, MilAt h5 k v9 ∧ Sz v v9 := ⟨_, m9h5, s9h5⟩
            have ph5 : Kp k h h5 := qh5
            have kh5 : xK h5 = xK h := kkh5
            obtain ⟨ah5, bh5, ch5⟩ := zh5
            refine r_aload_n C (dx dX7_one 26 rfl) rfl ?_
            refine g_X7_54 C (dx dX7_one 27 rfl) ?_
            refine r_aload_n C (dx dX7_one 28 rfl) rfl ?_
            refine g_X7_74 (x := nI (vN vh5)) C (dx dX7_one 29 rfl) mh5.eN ?_
            refine r_aald4 (j := vN vh5) C rfl rfl (by decide) rfl (by omega) (dx dX7_one 30 rfl) ?_
            refine r_iconst (v := nI 0) C (dx dX7_one 31 rfl) rfl ?_
            refine r_iload_n C (dx dX7_one 32 rfl) rfl ?_
            refine r_iast (j := 0) C rfl rfl (by decide) rfl (by omega) (dx dX7_one 33 rfl) ?_
            obtain ⟨vh6, mh6, zh6⟩ : ∃ v9, MilAt (sI h5 (k + 23 + (vN vh5)) 0 x) k v9 ∧ Sz vh5 v9 := ⟨vset vh5 (4 + 0) (vN vh5) x, mh5.so (by omega) (by omega), ⟨rfl, rfl, rfl⟩⟩
            have ph6 : Kp k h (sI h5 (k + 23 + (vN vh5)) 0 x) := ph5.tr (Kp.c (by omega) (by omega))
            have kh6 : xK (sI h5 (k + 23 + (vN vh5)) 0 x) = xK h := kh5
            generalize sI h5 (k + 23 + (vN vh5)) 0 x = h6 at mh6 ph6 kh6 ⊢
            obtain ⟨ah6, bh6, ch6⟩ := zh6
            refine r_aload_n C (dx dX7_one 34 rfl) rfl ?_
            refine g_X7_54 C (dx dX7_one 35 rfl) ?_
            refine r_aload_n C (dx dX7_one 36 rfl) rfl ?_
            refine g_X7_74 (x := nI (vN vh6)) C (dx dX7_one 37 rfl) mh6.eN ?_
            refine r_aald4 (j := vN vh6) C rfl rfl (by decide) rfl (by omega) (dx dX7_one 38 rfl) ?_
            refine r_iconst (v := nI 1) C (dx dX7_one 39 rfl) rfl ?_
            refine r_iload_n C (dx dX7_one 40 rfl) rfl ?_
            refine r_iast (j := 1) C rfl rfl (by decide) rfl (by omega) (dx dX7_one 41 rfl) ?_
            obtain ⟨vh7, mh7, zh7⟩ : ∃ v9, MilAt (sI h6 (k + 23 + (vN vh6)) 1 y) k v9 ∧ Sz vh6 v9 := ⟨vset vh6 (4 + 1) (vN vh6) y, mh6.so (by omega) (by omega), ⟨rfl, rfl, rfl⟩⟩
            have ph7 : Kp k h (sI h6 (k + 23 + (vN vh6)) 1 y) := ph6.tr (Kp.c (by omega) (by omega))
            have kh7 : xK (sI h6 (k + 23 + (vN vh6)) 1 y) = xK h := kh6
            generalize sI h6 (k + 23 + (vN vh6)) 1 y = h7 at mh7 ph7 kh7 ⊢
            obtain ⟨ah7, bh7, ch7⟩ := zh7
            refine r_aload_n C (dx dX7_one 42 rfl) rfl ?_
            refine r_dupR C (dx dX7_one 43 rfl) ?_
            refine g_X7_74 (x := nI (vN vh7)) C (dx dX7_one 44 rfl) mh7.eN ?_
            refine r_dup_x1 C (dx dX7_one 45 rfl) ?_
            refine r_iconst (v := nI 1) C (dx dX7_one 46 rfl) rfl ?_
            refine rn_iadd (a := vN vh7) (b := 1) C (dx dX7_one 47 rfl) ?_
            refine p_X7_74 C (dx dX7_one 48 rfl) rfl rfl ?_
            have mh8 : MilAt (sI h7 k 16 (nI (vN vh7 + 1))) k (vsN vh7 (vN vh7 + 1)) := mh7.sN (n := vN vh7 + 1) (by omega)
            have ph8 : Kp k h (sI h7 k 16 (nI (vN vh7 + 1))) := ph7.tr (Kp.f (by decide))
            have kh8 : xK (sI h7 k 16 (nI (vN vh7 + 1))) = xK h := kh7
            generalize sI h7 k 16 (nI (vN vh7 + 1)) = h8 at mh8 ph8 kh8 ⊢
            exact F.1 _ _ _ _ .int rfl rfl (dx dX7_one 49 rfl) kh8 ⟨⟨_, rfl⟩, ⟨_, mh8⟩, ph8⟩)
      · first
        | (omega; done)
        | (
            have c4 : vN v = 8 := c4
            refine r_aload_n C (dx dX7_one 20 rfl) rfl ?_
            refine r_bipush (v := -6) C (dx dX7_one 21 rfl) rfl ?_
            refine r_cv (as := [vi (-6)]) (st := []) C X I_X7_refuse l_X7_83 (c_X7_refuse hm (x := -6) (j := 6) (by decide) (by decide)) (by decide) (Nat.le_of_ble_eq_true rfl) List.prefix_rfl List.prefix_rfl rfl rfl (Nat.le_of_ble_eq_true rfl) rfl (dx dX7_one 22 rfl) ?_
            rintro _ h9 ⟨rfl, ⟨wh9, m9h9, s9h9⟩, qh9⟩ kkh9
            obtain ⟨vh9, mh9, zh9⟩ : ∃ v9, MilAt h9 k v9 ∧ Sz v v9 := ⟨_, m9h9, s9h9⟩
            have ph9 : Kp k h h9 := qh9
            have kh9 : xK h9 = xK h := kkh9
            obtain ⟨ah9, bh9, ch9⟩ := zh9
            exact F.1 _ _ _ _ .int rfl rfl (dx dX7_one 23 rfl) kh9 ⟨⟨_, rfl⟩, ⟨_, mh9⟩, ph9⟩)
    ·
      have c3 : (inR y 11) = false := c3
      refine r_aload_n C (dx dX7_one 12 rfl) rfl ?_
      refine r_bipush (v := -2) C (dx dX7_one 13 rfl) rfl ?_
      refine r_cv (as := [vi (-2)]) (st := []) C X I_X7_refuse l_X7_83 (c_X7_refuse hm (x := -2) (j := 2) (by decide) (by decide)) (by decide) (Nat.le_of_ble_eq_true rfl) List.prefix_rfl List.prefix_rfl rfl rfl (Nat.le_of_ble_eq_true rfl) rfl (dx dX7_one 14 rfl) ?_
      rintro _ h10 ⟨rfl, ⟨wh10, m9h10, s9h10⟩, qh10⟩ kkh10
      obtain ⟨vh10, mh10, zh10⟩ : ∃ v9, MilAt h10 k v9 ∧ Sz v v9 := ⟨_, m9h10, s9h10⟩
      have ph10 : Kp k h h10 := qh10
      have kh10 : xK h10 = xK h := kkh10
      obtain ⟨ah10, bh10, ch10⟩ := zh10
      exact F.1 _ _ _ _ .int rfl rfl (dx dX7_one 15 rfl) kh10 ⟨⟨_, rfl⟩, ⟨_, mh10⟩, ph10⟩
set_option maxHeartbeats 4000000 in
theorem c_X7_away {l : Launch} {h : Hp} {k : Nat} {v : Vg} (hm : MilAt h k v) (o1 y : Int32) : Ms l yX7_away cX7_away 4 (some .int) 4 [vr 7 k, vi o1, vi y] h (xK h) (fun r h' => PI r ∧ (∃ v', MilAt h' k v') ∧ Kp k h h') := by
  refine Ms.of (by decide) (Nat.le_of_ble_eq_true rfl) (fun G C X F => ?_)
  have C : Cx G cX7_away 4 RX7 := C
  show Rr G 0 [(0, vr 7 k), (1, vi o1), (2, vi y)] [] h
  have bP := hm.bP
  have bM := hm.bM
  have bN := hm.bN
  refine r_aload_n C (dx dX7_away 0 rfl) rfl ?_
  refine r_iload_n C (dx dX7_away 1 rfl) rfl ?_
  refine r_cvP (as := [vi o1]) (st := []) (v := vi (b2i (inR o1 (vN v)))) C X I_X7_isOne l_X7_125 (c_X7_isOne hm _) (by decide) (Nat.le_of_ble_eq_true rfl) List.prefix_rfl rfl rfl (Nat.le_of_ble_eq_true rfl) rfl (dx dX7_away 2 rfl) ?_
  refine rb_eq (b := inR o1 (vN v)) (tgt := 20) C (dx dX7_away 3 rfl) (by decide) (fun c1 => ?_) (fun c1 => ?_)
  ·
    have c1 : (inR o1 (vN v)) = false := c1
    refine r_aload_n C (dx dX7_away 10 rfl) rfl ?_
    refine r_bipush (v := -2) C (dx dX7_away 11 rfl) rfl ?_
    refine r_cv (as := [vi (-2)]) (st := []) C X I_X7_refuse l_X7_83 (c_X7_refuse hm (x := -2) (j := 2) (by decide) (by decide)) (by decide) (Nat.le_of_ble_eq_true rfl) List.prefix_rfl List.prefix_rfl rfl rfl (Nat.le_of_ble_eq_true rfl) rfl (dx dX7_away 12 rfl) ?_
    rintro _ h2 ⟨rfl, ⟨wh2, m9h2, s9h2⟩, qh2⟩ kkh2
    obtain ⟨vh2, mh2, zh2⟩ : ∃ v9, MilAt h2 k v9 ∧ Sz v v9 := ⟨_, m9h2, s9h2⟩
    have ph2 : Kp k h h2 := qh2
    have kh2 : xK h2 = xK h := kkh2
    obtain ⟨ah2, bh2, ch2⟩ := zh2
    exact F.1 _ _ _ _ .int rfl rfl (dx dX7_away 13 rfl) kh2 ⟨⟨_, rfl⟩, ⟨_, mh2⟩, ph2⟩
  ·
    have c1 : (inR o1 (vN v)) = true := c1
    obtain ⟨o19, ho19, rfl⟩ := inR_ex (n := (vN v)) (by omega) c1
    refine r_iload_n C (dx dX7_away 4 rfl) rfl ?_
    refine r_i2l C (dx dX7_away 5 rfl) ?_
    refine r_lconst (v := 0) C (dx dX7_away 6 rfl) rfl ?_
    refine r_ldc2 C n_X7_120 (dx dX7_away 7 rfl) ?_
    refine r_csP (as := [vl y.toInt64, vl 0, vl 10]) (st := []) (v := vi (b2i (inR y 11))) C X I_X7_in l_X7_67 (c_inR (b := 10) (by decide) (by decide)) (by decide) (Nat.le_of_ble_eq_true rfl) List.prefix_rfl (Nat.le_of_ble_eq_true rfl) rfl (dx dX7_away 8 rfl) ?_
    refine rb_ne (b := inR y 11) (tgt := 27) C (dx dX7_away 9 rfl) (by decide) (fun c3 => ?_) (fun c3 => ?_)
    ·
      have c3 : (inR y 11) = true := c3
      refine r_aload_n C (dx dX7_away 14 rfl) rfl ?_
      refine g_X7_54 C (dx dX7_away 15 rfl) ?_
      refine r_iload_n C (dx dX7_away 16 rfl) rfl ?_
      refine r_aald4 (j := o19) C rfl rfl (by decide) rfl (by omega) (dx dX7_away 17 rfl) ?_
      refine r_iconst (v := nI 1) C (dx dX7_away 18 rfl) rfl ?_
      refine r_iald (j := 1) (x := vF v 5 o19) C rfl rfl (by decide) rfl (by omega) (dx dX7_away 19 rfl) (hm.eo (by omega) (by omega)) ?_
      refine r_istore_n (ls' := [(0, vr 7 k), (1, vi (nI o19)), (2, vi y), (3, vi (vF v 5 o19))]) C (dx dX7_away 20 rfl) (by decide) [1, 2, 3, 0] rfl ?_
      refine r_aload_n C (dx dX7_away 21 rfl) rfl ?_
      refine g_X7_54 C (dx dX7_away 22 rfl) ?_
      refine r_iload_n C (dx dX7_away 23 rfl) rfl ?_
      refine r_aald4 (j := o19) C rfl rfl (by decide) rfl (by omega) (dx dX7_away 24 rfl) ?_
      refine r_iconst (v := nI 1) C (dx dX7_away 25 rfl) rfl ?_
      refine r_iload_n C (dx dX7_away 26 rfl) rfl ?_
      refine r_iast (j := 1) C rfl rfl (by decide) rfl (by omega) (dx dX7_away 27 rfl) ?_
      obtain ⟨vh4, mh4, zh4⟩ : ∃ v9, MilAt (sI h (k + 23 + o19) 1 y) k v9 ∧ Sz v v9 := ⟨vset v (4 + 1) o19 y, hm.so (by omega) (by omega), ⟨rfl, rfl, rfl⟩⟩
      have ph4 : Kp k h (sI h (k + 23 + o19) 1 y) := Kp.c (by omega) (by omega)
      have kh4 : xK (sI h (k + 23 + o19) 1 y) = xK h := rfl
      generalize sI h (k + 23 + o19) 1 y = h4 at mh4 ph4 kh4 ⊢
      obtain ⟨ah4, bh4, ch4⟩ := zh4
      refine r_iload_n C (dx dX7_away 28 rfl) rfl ?_
      exact F.1 _ _ _ _ .int rfl rfl (dx dX7_away 29 rfl) kh4 ⟨⟨_, rfl⟩, ⟨_, mh4⟩, ph4⟩
    ·
      have c3 : (inR y 11) = false := c3
      refine r_aload_n C (dx dX7_away 10 rfl) rfl ?_
      refine r_bipush (v := -2) C (dx dX7_away 11 rfl) rfl ?_
      refine r_cv (as := [vi (-2)]) (st := []) C X I_X7_refuse l_X7_83 (c_X7_refuse hm (x := -2) (j := 2) (by decide) (by decide)) (by decide) (Nat.le_of_ble_eq_true rfl) List.prefix_rfl List.prefix_rfl rfl rfl (Nat.le_of_ble_eq_true rfl) rfl (dx dX7_away 12 rfl) ?_
      rintro _ h5 ⟨rfl, ⟨wh5, m9h5, s9h5⟩, qh5⟩ kkh5
      obtain ⟨vh5, mh5, zh5⟩ : ∃ v9, MilAt h5 k v9 ∧ Sz v v9 := ⟨_, m9h5, s9h5⟩
      have ph5 : Kp k h h5 := qh5
      have kh5 : xK h5 = xK h := kkh5
      obtain ⟨ah5, bh5, ch5⟩ := zh5
      exact F.1 _ _ _ _ .int rfl rfl (dx dX7_away 13 rfl) kh5 ⟨⟨_, rfl⟩, ⟨_, mh5⟩, ph5⟩
set_option maxHeartbeats 4000000 in
theorem c_X7_cross {l : Launch} {h : Hp} {k : Nat} {v : Vg} (hm : MilAt h k v) (o1 : Int32) (b : Bool) : Ms l yX7_cross cX7_cross 4 (some .int) 4 [vr 7 k, vi o1, vi (b2i b)] h (xK h) (fun r h' => PI r ∧ (∃ v', MilAt h' k v') ∧ Kp k h h') := by
  refine Ms.of (by decide) (Nat.le_of_ble_eq_true rfl) (fun G C X F => ?_)
  have C : Cx G cX7_cross 4 RX7 := C
  show Rr G 0 [(0, vr 7 k), (1, vi o1), (2, vi (b2i b))] [] h
  have bP := hm.bP
  have bM := hm.bM
  have bN := hm.bN
  refine r_aload_n C (dx dX7_cross 0 rfl) rfl ?_
  refine r_iload_n C (dx dX7_cross 1 rfl) rfl ?_
  refine r_cvP (as := [vi o1]) (st := []) (v := vi (b2i (inR o1 (vN v)))) C X I_X7_isOne l_X7_125 (c_X7_isOne hm _) (by decide) (Nat.le_of_ble_eq_true rfl) List.prefix_rfl rfl rfl (Nat.le_of_ble_eq_true rfl) rfl (dx dX7_cross 2 rfl) ?_
  refine rb_ne (b := inR o1 (vN v)) (tgt := 15) C (dx dX7_cross 3 rfl) (by decide) (fun c1 => ?_) (fun c1 => ?_)
  ·
    have c1 : (inR o1 (vN v)) = true := c1
    obtain ⟨o19, ho19, rfl⟩ := inR_ex (n := (vN v)) (by omega) c1
    refine r_aload_n C (dx dX7_cross 8 rfl) rfl ?_
    refine g_X7_54 C (dx dX7_cross 9 rfl) ?_
    refine r_iload_n C (dx dX7_cross 10 rfl) rfl ?_
    refine r_aald4 (j := o19) C rfl rfl (by decide) rfl (by omega) (dx dX7_cross 11 rfl) ?_
    refine r_iconst (v := nI 2) C (dx dX7_cross 12 rfl) rfl ?_
    refine r_iald (j := 2) (x := vF v 6 o19) C rfl rfl (by decide) rfl (by omega) (dx dX7_cross 13 rfl) (hm.eo (by omega) (by omega)) ?_
    refine r_istore_n (ls' := [(0, vr 7 k), (1, vi (nI o19)), (2, vi (b2i b)), (3, vi (vF v 6 o19))]) C (dx dX7_cross 14 rfl) (by decide) [1, 2, 3, 0] rfl ?_
    refine r_aload_n C (dx dX7_cross 15 rfl) rfl ?_
    refine g_X7_54 C (dx dX7_cross 16 rfl) ?_
    refine r_iload_n C (dx dX7_cross 17 rfl) rfl ?_
    refine r_aald4 (j := o19) C rfl rfl (by decide) rfl (by omega) (dx dX7_cross 18 rfl) ?_
    refine r_iconst (v := nI 2) C (dx dX7_cross 19 rfl) rfl ?_
    refine r_iload_n C (dx dX7_cross 20 rfl) rfl ?_
    refine rb_eq (b := b) (tgt := 39) C (dx dX7_cross 21 rfl) (by decide) (fun c2 => ?_) (fun c2 => ?_)
    ·
      have c2 : b = false := c2
      refine r_iconst (v := nI 0) C (dx dX7_cross 24 rfl) rfl ?_
      refine r_iast (j := 2) C rfl rfl (by decide) rfl (by omega) (dx dX7_cross 25 rfl) ?_
      obtain ⟨vh3, mh3, zh3⟩ : ∃ v9, MilAt (sI h (k + 23 + o19) 2 (nI 0)) k v9 ∧ Sz v v9 := ⟨vset v (4 + 2) o19 (nI 0), hm.so (by omega) (by omega), ⟨rfl, rfl, rfl⟩⟩
      have ph3 : Kp k h (sI h (k + 23 + o19) 2 (nI 0)) := Kp.c (by omega) (by omega)
      have kh3 : xK (sI h (k + 23 + o19) 2 (nI 0)) = xK h := rfl
      generalize sI h (k + 23 + o19) 2 (nI 0) = h3 at mh3 ph3 kh3 ⊢
      obtain ⟨ah3, bh3, ch3⟩ := zh3
      refine r_iload_n C (dx dX7_cross 26 rfl) rfl ?_
      refine r_aload_n C (dx dX7_cross 27 rfl) rfl ?_
      refine g_X7_54 C (dx dX7_cross 28 rfl) ?_
      refine r_iload_n C (dx dX7_cross 29 rfl) rfl ?_
      refine r_aald4 (j := o19) C rfl rfl (by decide) rfl (by omega) (dx dX7_cross 30 rfl) ?_
      refine r_iconst (v := nI 2) C (dx dX7_cross 31 rfl) rfl ?_
      refine r_iald (j := 2) (x := vF vh3 6 o19) C rfl rfl (by decide) rfl (by omega) (dx dX7_cross 32 rfl) (mh3.eo (by omega) (by omega)) ?_
      refine r_icmp_eq (tgt := 57) C (dx dX7_cross 33 rfl) (by decide) (fun c4 => ?_) (fun c4 => ?_)
      ·
        have c4 : vF v 6 o19 = vF vh3 6 o19 := c4
        refine r_iconst (v := nI 0) C (dx dX7_cross 36 rfl) rfl ?_
        exact F.1 _ _ _ _ .int rfl rfl (dx dX7_cross 37 rfl) kh3 ⟨⟨_, rfl⟩, ⟨_, mh3⟩, ph3⟩
      ·
        have c4 : ¬ vF v 6 o19 = vF vh3 6 o19 := c4
        refine r_iconst (v := nI 1) C (dx dX7_cross 34 rfl) rfl ?_
        refine r_goto (tgt := 58) C (dx dX7_cross 35 rfl) (by decide) ?_
        exact F.1 _ _ _ _ .int rfl rfl (dx dX7_cross 37 rfl) kh3 ⟨⟨_, rfl⟩, ⟨_, mh3⟩, ph3⟩
    ·
      have c2 : b = true := c2
      refine r_iconst (v := nI 1) C (dx dX7_cross 22 rfl) rfl ?_
      refine r_goto (tgt := 40) C (dx dX7_cross 23 rfl) (by decide) ?_
      refine r_iast (j := 2) C rfl rfl (by decide) rfl (by omega) (dx dX7_cross 25 rfl) ?_
      obtain ⟨vh5, mh5, zh5⟩ : ∃ v9, MilAt (sI h (k + 23 + o19) 2 (nI 1)) k v9 ∧ Sz v v9 := ⟨vset v (4 + 2) o19 (nI 1), hm.so (by omega) (by omega), ⟨rfl, rfl, rfl⟩⟩
      have ph5 : Kp k h (sI h (k + 23 + o19) 2 (nI 1)) := Kp.c (by omega) (by omega)
      have kh5 : xK (sI h (k + 23 + o19) 2 (nI 1)) = xK h := rfl
      generalize sI h (k + 23 + o19) 2 (nI 1) = h5 at mh5 ph5 kh5 ⊢
      obtain ⟨ah5, bh5, ch5⟩ := zh5
      refine r_iload_n C (dx dX7_cross 26 rfl) rfl ?_
      refine r_aload_n C (dx dX7_cross 27 rfl) rfl ?_
      refine g_X7_54 C (dx dX7_cross 28 rfl) ?_
      refine r_iload_n C (dx dX7_cross 29 rfl) rfl ?_
      refine r_aald4 (j := o19) C rfl rfl (by decide) rfl (by omega) (dx dX7_cross 30 rfl) ?_
      refine r_iconst (v := nI 2) C (dx dX7_cross 31 rfl) rfl ?_
      refine r_iald (j := 2) (x := vF vh5 6 o19) C rfl rfl (by decide) rfl (by omega) (dx dX7_cross 32 rfl) (mh5.eo (by omega) (by omega)) ?_
      refine r_icmp_eq (tgt := 57) C (dx dX7_cross 33 rfl) (by decide) (fun c6 => ?_) (fun c6 => ?_)
      ·
        have c6 : vF v 6 o19 = vF vh5 6 o19 := c6
        refine r_iconst (v := nI 0) C (dx dX7_cross 36 rfl) rfl ?_
        exact F.1 _ _ _ _ .int rfl rfl (dx dX7_cross 37 rfl) kh5 ⟨⟨_, rfl⟩, ⟨_, mh5⟩, ph5⟩
      ·
        have c6 : ¬ vF v 6 o19 = vF vh5 6 o19 := c6
        refine r_iconst (v := nI 1) C (dx dX7_cross 34 rfl) rfl ?_
        refine r_goto (tgt := 58) C (dx dX7_cross 35 rfl) (by decide) ?_
        exact F.1 _ _ _ _ .int rfl rfl (dx dX7_cross 37 rfl) kh5 ⟨⟨_, rfl⟩, ⟨_, mh5⟩, ph5⟩
  ·
    have c1 : (inR o1 (vN v)) = false := c1
    refine r_aload_n C (dx dX7_cross 4 rfl) rfl ?_
    refine r_bipush (v := -2) C (dx dX7_cross 5 rfl) rfl ?_
    refine r_cv (as := [vi (-2)]) (st := []) C X I_X7_refuse l_X7_83 (c_X7_refuse hm (x := -2) (j := 2) (by decide) (by decide)) (by decide) (Nat.le_of_ble_eq_true rfl) List.prefix_rfl List.prefix_rfl rfl rfl (Nat.le_of_ble_eq_true rfl) rfl (dx dX7_cross 6 rfl) ?_
    rintro _ h7 ⟨rfl, ⟨wh7, m9h7, s9h7⟩, qh7⟩ kkh7
    obtain ⟨vh7, mh7, zh7⟩ : ∃ v9, MilAt h7 k v9 ∧ Sz v v9 := ⟨_, m9h7, s9h7⟩
    have ph7 : Kp k h h7 := qh7
    have kh7 : xK h7 = xK h := kkh7
    obtain ⟨ah7, bh7, ch7⟩ := zh7
    exact F.1 _ _ _ _ .int rfl rfl (dx dX7_cross 7 rfl) kh7 ⟨⟨_, rfl⟩, ⟨_, mh7⟩, ph7⟩
set_option maxHeartbeats 4000000 in
theorem c_X7_give {l : Launch} {h : Hp} {k : Nat} {v : Vg} (hm : MilAt h k v) (p o1 : Int32) (b : Bool) : Ms l yX7_give cX7_give 6 (some .int) 4 [vr 7 k, vi p, vi o1, vi (b2i b)] h (xK h) (fun r h' => PI r ∧ (∃ v', MilAt h' k v') ∧ Kp k h h') := by
  refine Ms.of (by decide) (Nat.le_of_ble_eq_true rfl) (fun G C X F => ?_)
  have C : Cx G cX7_give 6 RX7 := C
  show Rr G 0 [(0, vr 7 k), (1, vi p), (2, vi o1), (3, vi (b2i b))] [] h
  have bP := hm.bP
  have bM := hm.bM
  have bN := hm.bN
  refine r_aload_n C (dx dX7_give 0 rfl) rfl ?_
  refine r_iload_n C (dx dX7_give 1 rfl) rfl ?_
  refine r_cvP (as := [vi p]) (st := []) (v := vi (b2i (inR p (vP v)))) C X I_X7_isPart l_X7_132 (c_X7_isPart hm _) (by decide) (Nat.le_of_ble_eq_true rfl) List.prefix_rfl rfl rfl (Nat.le_of_ble_eq_true rfl) rfl (dx dX7_give 2 rfl) ?_
  refine rb_eq (b := inR p (vP v)) (tgt := 21) C (dx dX7_give 3 rfl) (by decide) (fun c1 => ?_) (fun c1 => ?_)
  ·
    have c1 : (inR p (vP v)) = false := c1
    refine r_aload_n C (dx dX7_give 11 rfl) rfl ?_
    refine r_bipush (v := -2) C (dx dX7_give 12 rfl) rfl ?_
    refine r_cv (as := [vi (-2)]) (st := []) C X I_X7_refuse l_X7_83 (c_X7_refuse hm (x := -2) (j := 2) (by decide) (by decide)) (by decide) (Nat.le_of_ble_eq_true rfl) List.prefix_rfl List.prefix_rfl rfl rfl (Nat.le_of_ble_eq_true rfl) rfl (dx dX7_give 13 rfl) ?_
    rintro _ h2 ⟨rfl, ⟨wh2, m9h2, s9h2⟩, qh2⟩ kkh2
    obtain ⟨vh2, mh2, zh2⟩ : ∃ v9, MilAt h2 k v9 ∧ Sz v v9 := ⟨_, m9h2, s9h2⟩
    have ph2 : Kp k h h2 := qh2
    have kh2 : xK h2 = xK h := kkh2
    obtain ⟨ah2, bh2, ch2⟩ := zh2
    exact F.1 _ _ _ _ .int rfl rfl (dx dX7_give 14 rfl) kh2 ⟨⟨_, rfl⟩, ⟨_, mh2⟩, ph2⟩
  ·
    have c1 : (inR p (vP v)) = true := c1
    obtain ⟨π, hπ, rfl⟩ := inR_ex (n := (vP v)) (by omega) c1
    refine r_iload_n C (dx dX7_give 4 rfl) rfl ?_
    refine r_iconst (v := -1) C (dx dX7_give 5 rfl) rfl ?_
    refine r_icmp_eq (tgt := 28) C (dx dX7_give 6 rfl) (by decide) (fun c3 => ?_) (fun c3 => ?_)
    ·
      have c3 : o1 = -1 := c3
      refine r_iload_n C (dx dX7_give 15 rfl) rfl ?_
      refine rb_eq (b := b) (tgt := 39) C (dx dX7_give 16 rfl) (by decide) (fun c4 => ?_) (fun c4 => ?_)
      ·
        have c4 : b = false := c4
        refine r_aload_n C (dx dX7_give 20 rfl) rfl ?_
        refine g_X7_40 C (dx dX7_give 21 rfl) ?_
        refine r_astore (ls' := [(0, vr 7 k), (1, vi (nI π)), (2, vi o1), (3, vi (b2i b)), (4, vr 20 (k + 18))]) C (dx dX7_give 22 rfl) (by decide) [1, 2, 3, 4, 0] rfl ?_
        refine r_aload C (dx dX7_give 23 rfl) rfl ?_
        refine r_iload_n C (dx dX7_give 24 rfl) rfl ?_
        refine r_iald (j := π) (x := vF v 0 π) C rfl rfl (by decide) rfl (by omega) (dx dX7_give 25 rfl) (hm.e0 (by omega)) ?_
        refine r_istore (ls' := [(0, vr 7 k), (1, vi (nI π)), (2, vi o1), (3, vi (b2i b)), (4, vr 20 (k + 18)), (5, vi (vF v 0 π))]) C (dx dX7_give 26 rfl) (by decide) [1, 2, 3, 4, 5, 0] rfl ?_
        refine r_iload_n C (dx dX7_give 27 rfl) rfl ?_
        refine r_iconst (v := -1) C (dx dX7_give 28 rfl) rfl ?_
        refine r_icmp_eq (tgt := 77) C (dx dX7_give 29 rfl) (by decide) (fun c5 => ?_) (fun c5 => ?_)
        ·
          have c5 : o1 = -1 := c5
          refine r_aload C (dx dX7_give 41 rfl) rfl ?_
          refine r_iload_n C (dx dX7_give 42 rfl) rfl ?_
          refine r_iload_n C (dx dX7_give 43 rfl) rfl ?_
          refine r_iast (j := π) C rfl rfl (by decide) rfl (by omega) (dx dX7_give 44 rfl) ?_
          obtain ⟨vh6, mh6, zh6⟩ : ∃ v9, MilAt (sI h (k + 18) π o1) k v9 ∧ Sz v v9 := ⟨vset v 0 π o1, hm.s0, ⟨rfl, rfl, rfl⟩⟩
          have ph6 : Kp k h (sI h (k + 18) π o1) := Kp.c (by omega) (by omega)
          have kh6 : xK (sI h (k + 18) π o1) = xK h := rfl
          generalize sI h (k + 18) π o1 = h6 at mh6 ph6 kh6 ⊢
          obtain ⟨ah6, bh6, ch6⟩ := zh6
          refine r_iload C (dx dX7_give 45 rfl) rfl ?_
          exact F.1 _ _ _ _ .int rfl rfl (dx dX7_give 46 rfl) kh6 ⟨⟨_, rfl⟩, ⟨_, mh6⟩, ph6⟩
        ·
          have c5 : ¬ o1 = -1 := c5
          exact absurd c3 c5
      ·
        have c4 : b = true := c4
        refine r_aload_n C (dx dX7_give 17 rfl) rfl ?_
        refine g_X7_43 C (dx dX7_give 18 rfl) ?_
        refine r_goto (tgt := 43) C (dx dX7_give 19 rfl) (by decide) ?_
        refine r_astore (ls' := [(0, vr 7 k), (1, vi (nI π)), (2, vi o1), (3, vi (b2i b)), (4, vr 20 (k + 19))]) C (dx dX7_give 22 rfl) (by decide) [1, 2, 3, 4, 0] rfl ?_
        refine r_aload C (dx dX7_give 23 rfl) rfl ?_
        refine r_iload_n C (dx dX7_give 24 rfl) rfl ?_
        refine r_iald (j := π) (x := vF v 1 π) C rfl rfl (by decide) rfl (by omega) (dx dX7_give 25 rfl) (hm.e1 (by omega)) ?_
        refine r_istore (ls' := [(0, vr 7 k), (1, vi (nI π)), (2, vi o1), (3, vi (b2i b)), (4, vr 20 (k + 19)), (5, vi (vF v 1 π))]) C (dx dX7_give 26 rfl) (by decide) [1, 2, 3, 4, 5, 0] rfl ?_
        refine r_iload_n C (dx dX7_give 27 rfl) rfl ?_
        refine r_iconst (v := -1) C (dx dX7_give 28 rfl) rfl ?_
        refine r_icmp_eq (tgt := 77) C (dx dX7_give 29 rfl) (by decide) (fun c7 => ?_) (fun c7 => ?_)
        ·
          have c7 : o1 = -1 := c7
          refine r_aload C (dx dX7_give 41 rfl) rfl ?_
          refine r_iload_n C (dx dX7_give 42 rfl) rfl ?_
          refine r_iload_n C (dx dX7_give 43 rfl) rfl ?_
          refine r_iast (j := π) C rfl rfl (by decide) rfl (by omega) (dx dX7_give 44 rfl) ?_
          obtain ⟨vh8, mh8, zh8⟩ : ∃ v9, MilAt (sI h (k + 19) π o1) k v9 ∧ Sz v v9 := ⟨vset v 1 π o1, hm.s1, ⟨rfl, rfl, rfl⟩⟩
          have ph8 : Kp k h (sI h (k + 19) π o1) := Kp.c (by omega) (by omega)
          have kh8 : xK (sI h (k + 19) π o1) = xK h := rfl
          generalize sI h (k + 19) π o1 = h8 at mh8 ph8 kh8 ⊢
          obtain ⟨ah8, bh8, ch8⟩ := zh8
          refine r_iload C (dx dX7_give 45 rfl) rfl ?_
          exact F.1 _ _ _ _ .int rfl rfl (dx dX7_give 46 rfl) kh8 ⟨⟨_, rfl⟩, ⟨_, mh8⟩, ph8⟩
        ·
          have c7 : ¬ o1 = -1 := c7
          exact absurd c3 c7
    ·
      have c3 : ¬ o1 = -1 := c3
      refine r_aload_n C (dx dX7_give 7 rfl) rfl ?_
      refine r_iload_n C (dx dX7_give 8 rfl) rfl ?_
      refine r_cvP (as := [vi o1]) (st := []) (v := vi (b2i (inR o1 (vN v)))) C X I_X7_isOne l_X7_125 (c_X7_isOne hm _) (by decide) (Nat.le_of_ble_eq_true rfl) List.prefix_rfl rfl rfl (Nat.le_of_ble_eq_true rfl) rfl (dx dX7_give 9 rfl) ?_
      refine rb_ne (b := inR o1 (vN v)) (tgt := 28) C (dx dX7_give 10 rfl) (by decide) (fun c9 => ?_) (fun c9 => ?_)
      ·
        have c9 : (inR o1 (vN v)) = true := c9
        obtain ⟨o19, ho19, rfl⟩ := inR_ex (n := (vN v)) (by omega) c9
        refine r_iload_n C (dx dX7_give 15 rfl) rfl ?_
        refine rb_eq (b := b) (tgt := 39) C (dx dX7_give 16 rfl) (by decide) (fun c10 => ?_) (fun c10 => ?_)
        ·
          have c10 : b = false := c10
          refine r_aload_n C (dx dX7_give 20 rfl) rfl ?_
          refine g_X7_40 C (dx dX7_give 21 rfl) ?_
          refine r_astore (ls' := [(0, vr 7 k), (1, vi (nI π)), (2, vi (nI o19)), (3, vi (b2i b)), (4, vr 20 (k + 18))]) C (dx dX7_give 22 rfl) (by decide) [1, 2, 3, 4, 0] rfl ?_
          refine r_aload C (dx dX7_give 23 rfl) rfl ?_
          refine r_iload_n C (dx dX7_give 24 rfl) rfl ?_
          refine r_iald (j := π) (x := vF v 0 π) C rfl rfl (by decide) rfl (by omega) (dx dX7_give 25 rfl) (hm.e0 (by omega)) ?_
          refine r_istore (ls' := [(0, vr 7 k), (1, vi (nI π)), (2, vi (nI o19)), (3, vi (b2i b)), (4, vr 20 (k + 18)), (5, vi (vF v 0 π))]) C (dx dX7_give 26 rfl) (by decide) [1, 2, 3, 4, 5, 0] rfl ?_
          refine r_iload_n C (dx dX7_give 27 rfl) rfl ?_
          refine r_iconst (v := -1) C (dx dX7_give 28 rfl) rfl ?_
          refine r_icmp_eq (tgt := 77) C (dx dX7_give 29 rfl) (by decide) (fun c11 => ?_) (fun c11 => ?_)
          ·
            have c11 : nI o19 = -1 := c11
            refine r_aload C (dx dX7_give 41 rfl) rfl ?_
            refine r_iload_n C (dx dX7_give 42 rfl) rfl ?_
            refine r_iload_n C (dx dX7_give 43 rfl) rfl ?_
            refine r_iast (j := π) C rfl rfl (by decide) rfl (by omega) (dx dX7_give 44 rfl) ?_
            obtain ⟨vh12, mh12, zh12⟩ : ∃ v9, MilAt (sI h (k + 18) π (nI o19)) k v9 ∧ Sz v v9 := ⟨vset v 0 π (nI o19), hm.s0, ⟨rfl, rfl, rfl⟩⟩
            have ph12 : Kp k h (sI h (k + 18) π (nI o19)) := Kp.c (by omega) (by omega)
            have kh12 : xK (sI h (k + 18) π (nI o19)) = xK h := rfl
            generalize sI h (k + 18) π (nI o19) = h12 at mh12 ph12 kh12 ⊢
            obtain ⟨ah12, bh12, ch12⟩ := zh12
            refine r_iload C (dx dX7_give 45 rfl) rfl ?_
            exact F.1 _ _ _ _ .int rfl rfl (dx dX7_give 46 rfl) kh12 ⟨⟨_, rfl⟩, ⟨_, mh12⟩, ph12⟩
          ·
            have c11 : ¬ nI o19 = -1 := c11
            refine r_iload C (dx dX7_give 30 rfl) rfl ?_
            refine r_iload_n C (dx dX7_give 31 rfl) rfl ?_
            refine r_icmp_eq (tgt := 77) C (dx dX7_give 32 rfl) (by decide) (fun c13 => ?_) (fun c13 => ?_)
            ·
              have c13 : vF v 0 π = nI o19 := c13
              refine r_aload C (dx dX7_give 41 rfl) rfl ?_
              refine r_iload_n C (dx dX7_give 42 rfl) rfl ?_
              refine r_iload_n C (dx dX7_give 43 rfl) rfl ?_
              refine r_iast (j := π) C rfl rfl (by decide) rfl (by omega) (dx dX7_give 44 rfl) ?_
              obtain ⟨vh14, mh14, zh14⟩ : ∃ v9, MilAt (sI h (k + 18) π (nI o19)) k v9 ∧ Sz v v9 := ⟨vset v 0 π (nI o19), hm.s0, ⟨rfl, rfl, rfl⟩⟩
              have ph14 : Kp k h (sI h (k + 18) π (nI o19)) := Kp.c (by omega) (by omega)
              have kh14 : xK (sI h (k + 18) π (nI o19)) = xK h := rfl
              generalize sI h (k + 18) π (nI o19) = h14 at mh14 ph14 kh14 ⊢
              obtain ⟨ah14, bh14, ch14⟩ := zh14
              refine r_iload C (dx dX7_give 45 rfl) rfl ?_
              exact F.1 _ _ _ _ .int rfl rfl (dx dX7_give 46 rfl) kh14 ⟨⟨_, rfl⟩, ⟨_, mh14⟩, ph14⟩
            ·
              have c13 : ¬ vF v 0 π = nI o19 := c13
              refine r_aload_n C (dx dX7_give 33 rfl) rfl ?_
              refine r_iload_n C (dx dX7_give 34 rfl) rfl ?_
              refine r_cvW (as := [vi (nI o19)]) (st := []) C X I_X7_hasRoom l_X7_135 (c_X7_hasRoom hm (j := o19) (by omega)) (by decide) (Nat.le_of_ble_eq_true rfl) List.prefix_rfl rfl rfl (Nat.le_of_ble_eq_true rfl) rfl (dx dX7_give 35 rfl) ?_
              rintro _ ⟨x15, rfl⟩
              refine rb_ne (b := x15) (tgt := 77) C (dx dX7_give 36 rfl) (by decide) (fun c16 => ?_) (fun c16 => ?_)
              ·
                have c16 : x15 = true := c16
                refine r_aload C (dx dX7_give 41 rfl) rfl ?_
                refine r_iload_n C (dx dX7_give 42 rfl) rfl ?_
                refine r_iload_n C (dx dX7_give 43 rfl) rfl ?_
                refine r_iast (j := π) C rfl rfl (by decide) rfl (by omega) (dx dX7_give 44 rfl) ?_
                obtain ⟨vh17, mh17, zh17⟩ : ∃ v9, MilAt (sI h (k + 18) π (nI o19)) k v9 ∧ Sz v v9 := ⟨vset v 0 π (nI o19), hm.s0, ⟨rfl, rfl, rfl⟩⟩
                have ph17 : Kp k h (sI h (k + 18) π (nI o19)) := Kp.c (by omega) (by omega)
                have kh17 : xK (sI h (k + 18) π (nI o19)) = xK h := rfl
                generalize sI h (k + 18) π (nI o19) = h17 at mh17 ph17 kh17 ⊢
                obtain ⟨ah17, bh17, ch17⟩ := zh17
                refine r_iload C (dx dX7_give 45 rfl) rfl ?_
                exact F.1 _ _ _ _ .int rfl rfl (dx dX7_give 46 rfl) kh17 ⟨⟨_, rfl⟩, ⟨_, mh17⟩, ph17⟩
              ·
                have c16 : x15 = false := c16
                refine r_aload_n C (dx dX7_give 37 rfl) rfl ?_
                refine r_bipush (v := -5) C (dx dX7_give 38 rfl) rfl ?_
                refine r_cv (as := [vi (-5)]) (st := []) C X I_X7_refuse l_X7_83 (c_X7_refuse hm (x := -5) (j := 5) (by decide) (by decide)) (by decide) (Nat.le_of_ble_eq_true rfl) List.prefix_rfl List.prefix_rfl rfl rfl (Nat.le_of_ble_eq_true rfl) rfl (dx dX7_give 39 rfl) ?_
                rintro _ h18 ⟨rfl, ⟨wh18, m9h18, s9h18⟩, qh18⟩ kkh18
                obtain ⟨vh18, mh18, zh18⟩ : ∃ v9, MilAt h18 k v9 ∧ Sz v v9 := ⟨_, m9h18, s9h18⟩
                have ph18 : Kp k h h18 := qh18
                have kh18 : xK h18 = xK h := kkh18
                obtain ⟨ah18, bh18, ch18⟩ := zh18
                exact F.1 _ _ _ _ .int rfl rfl (dx dX7_give 40 rfl) kh18 ⟨⟨_, rfl⟩, ⟨_, mh18⟩, ph18⟩
        ·
          have c10 : b = true := c10
          refine r_aload_n C (dx dX7_give 17 rfl) rfl ?_
          refine g_X7_43 C (dx dX7_give 18 rfl) ?_
          refine r_goto (tgt := 43) C (dx dX7_give 19 rfl) (by decide) ?_
          refine r_astore (ls' := [(0, vr 7 k), (1, vi (nI π)), (2, vi (nI o19)), (3, vi (b2i b)), (4, vr 20 (k + 19))]) C (dx dX7_give 22 rfl) (by decide) [1, 2, 3, 4, 0] rfl ?_
          refine r_aload C (dx dX7_give 23 rfl) rfl ?_
          refine r_iload_n C (dx dX7_give 24 rfl) rfl ?_
          refine r_iald (j := π) (x := vF v 1 π) C rfl rfl (by decide) rfl (by omega) (dx dX7_give 25 rfl) (hm.e1 (by omega)) ?_
          refine r_istore (ls' := [(0, vr 7 k), (1, vi (nI π)), (2, vi (nI o19)), (3, vi (b2i b)), (4, vr 20 (k + 19)), (5, vi (vF v 1 π))]) C (dx dX7_give 26 rfl) (by decide) [1, 2, 3, 4, 5, 0] rfl ?_
          refine r_iload_n C (dx dX7_give 27 rfl) rfl ?_
          refine r_iconst (v := -1) C (dx dX7_give 28 rfl) rfl ?_
          refine r_icmp_eq (tgt := 77) C (dx dX7_give 29 rfl) (by decide) (fun c19 => ?_) (fun c19 => ?_)
          ·
            have c19 : nI o19 = -1 := c19
            refine r_aload C (dx dX7_give 41 rfl) rfl ?_
            refine r_iload_n C (dx dX7_give 42 rfl) rfl ?_
            refine r_iload_n C (dx dX7_give 43 rfl) rfl ?_
            refine r_iast (j := π) C rfl rfl (by decide) rfl (by omega) (dx dX7_give 44 rfl) ?_
            obtain ⟨vh20, mh20, zh20⟩ : ∃ v9, MilAt (sI h (k + 19) π (nI o19)) k v9 ∧ Sz v v9 := ⟨vset v 1 π (nI o19), hm.s1, ⟨rfl, rfl, rfl⟩⟩
            have ph20 : Kp k h (sI h (k + 19) π (nI o19)) := Kp.c (by omega) (by omega)
            have kh20 : xK (sI h (k + 19) π (nI o19)) = xK h := rfl
            generalize sI h (k + 19) π (nI o19) = h20 at mh20 ph20 kh20 ⊢
            obtain ⟨ah20, bh20, ch20⟩ := zh20
            refine r_iload C (dx dX7_give 45 rfl) rfl ?_
            exact F.1 _ _ _ _ .int rfl rfl (dx dX7_give 46 rfl) kh20 ⟨⟨_, rfl⟩, ⟨_, mh20⟩, ph20⟩
          ·
            have c19 : ¬ nI o19 = -1 := c19
            refine r_iload C (dx dX7_give 30 rfl) rfl ?_
            refine r_iload_n C (dx dX7_give 31 rfl) rfl ?_
            refine r_icmp_eq (tgt := 77) C (dx dX7_give 32 rfl) (by decide) (fun c21 => ?_) (fun c21 => ?_)
            ·
              have c21 : vF v 1 π = nI o19 := c21
              refine r_aload C (dx dX7_give 41 rfl) rfl ?_
              refine r_iload_n C (dx dX7_give 42 rfl) rfl ?_
              refine r_iload_n C (dx dX7_give 43 rfl) rfl ?_
              refine r_iast (j := π) C rfl rfl (by decide) rfl (by omega) (dx dX7_give 44 rfl) ?_
              obtain ⟨vh22, mh22, zh22⟩ : ∃ v9, MilAt (sI h (k + 19) π (nI o19)) k v9 ∧ Sz v v9 := ⟨vset v 1 π (nI o19), hm.s1, ⟨rfl, rfl, rfl⟩⟩
              have ph22 : Kp k h (sI h (k + 19) π (nI o19)) := Kp.c (by omega) (by omega)
              have kh22 : xK (sI h (k + 19) π (nI o19)) = xK h := rfl
              generalize sI h (k + 19) π (nI o19) = h22 at mh22 ph22 kh22 ⊢
              obtain ⟨ah22, bh22, ch22⟩ := zh22
              refine r_iload C (dx dX7_give 45 rfl) rfl ?_
              exact F.1 _ _ _ _ .int rfl rfl (dx dX7_give 46 rfl) kh22 ⟨⟨_, rfl⟩, ⟨_, mh22⟩, ph22⟩
            ·
              have c21 : ¬ vF v 1 π = nI o19 := c21
              refine r_aload_n C (dx dX7_give 33 rfl) rfl ?_
              refine r_iload_n C (dx dX7_give 34 rfl) rfl ?_
              refine r_cvW (as := [vi (nI o19)]) (st := []) C X I_X7_hasRoom l_X7_135 (c_X7_hasRoom hm (j := o19) (by omega)) (by decide) (Nat.le_of_ble_eq_true rfl) List.prefix_rfl rfl rfl (Nat.le_of_ble_eq_true rfl) rfl (dx dX7_give 35 rfl) ?_
              rintro _ ⟨x23, rfl⟩
              refine rb_ne (b := x23) (tgt := 77) C (dx dX7_give 36 rfl) (by decide) (fun c24 => ?_) (fun c24 => ?_)
              ·
                have c24 : x23 = true := c24
                refine r_aload C (dx dX7_give 41 rfl) rfl ?_
                refine r_iload_n C (dx dX7_give 42 rfl) rfl ?_
                refine r_iload_n C (dx dX7_give 43 rfl) rfl ?_
                refine r_iast (j := π) C rfl rfl (by decide) rfl (by omega) (dx dX7_give 44 rfl) ?_
                obtain ⟨vh25, mh25, zh25⟩ : ∃ v9, MilAt (sI h (k + 19) π (nI o19)) k v9 ∧ Sz v v9 := ⟨vset v 1 π (nI o19), hm.s1, ⟨rfl, rfl, rfl⟩⟩
                have ph25 : Kp k h (sI h (k + 19) π (nI o19)) := Kp.c (by omega) (by omega)
                have kh25 : xK (sI h (k + 19) π (nI o19)) = xK h := rfl
                generalize sI h (k + 19) π (nI o19) = h25 at mh25 ph25 kh25 ⊢
                obtain ⟨ah25, bh25, ch25⟩ := zh25
                refine r_iload C (dx dX7_give 45 rfl) rfl ?_
                exact F.1 _ _ _ _ .int rfl rfl (dx dX7_give 46 rfl) kh25 ⟨⟨_, rfl⟩, ⟨_, mh25⟩, ph25⟩
              ·
                have c24 : x23 = false := c24
                refine r_aload_n C (dx dX7_give 37 rfl) rfl ?_
                refine r_bipush (v := -5) C (dx dX7_give 38 rfl) rfl ?_
                refine r_cv (as := [vi (-5)]) (st := []) C X I_X7_refuse l_X7_83 (c_X7_refuse hm (x := -5) (j := 5) (by decide) (by decide)) (by decide) (Nat.le_of_ble_eq_true rfl) List.prefix_rfl List.prefix_rfl rfl rfl (Nat.le_of_ble_eq_true rfl) rfl (dx dX7_give 39 rfl) ?_
                rintro _ h26 ⟨rfl, ⟨wh26, m9h26, s9h26⟩, qh26⟩ kkh26
                obtain ⟨vh26, mh26, zh26⟩ : ∃ v9, MilAt h26 k v9 ∧ Sz v v9 := ⟨_, m9h26, s9h26⟩
                have ph26 : Kp k h h26 := qh26
                have kh26 : xK h26 = xK h := kkh26
                obtain ⟨ah26, bh26, ch26⟩ := zh26
                exact F.1 _ _ _ _ .int rfl rfl (dx dX7_give 40 rfl) kh26 ⟨⟨_, rfl⟩, ⟨_, mh26⟩, ph26⟩
      ·
        have c9 : (inR o1 (vN v)) = false := c9
        refine r_aload_n C (dx dX7_give 11 rfl) rfl ?_
        refine r_bipush (v := -2) C (dx dX7_give 12 rfl) rfl ?_
        refine r_cv (as := [vi (-2)]) (st := []) C X I_X7_refuse l_X7_83 (c_X7_refuse hm (x := -2) (j := 2) (by decide) (by decide)) (by decide) (Nat.le_of_ble_eq_true rfl) List.prefix_rfl List.prefix_rfl rfl rfl (Nat.le_of_ble_eq_true rfl) rfl (dx dX7_give 13 rfl) ?_
        rintro _ h27 ⟨rfl, ⟨wh27, m9h27, s9h27⟩, qh27⟩ kkh27
        obtain ⟨vh27, mh27, zh27⟩ : ∃ v9, MilAt h27 k v9 ∧ Sz v v9 := ⟨_, m9h27, s9h27⟩
        have ph27 : Kp k h h27 := qh27
        have kh27 : xK h27 = xK h := kkh27
        obtain ⟨ah27, bh27, ch27⟩ := zh27
        exact F.1 _ _ _ _ .int rfl rfl (dx dX7_give 14 rfl) kh27 ⟨⟨_, rfl⟩, ⟨_, mh27⟩, ph27⟩
set_option maxHeartbeats 4000000 in
theorem c_X7_partOf {l : Launch} {h : Hp} {k : Nat} {v : Vg} (hm : MilAt h k v) (p x : Int32) : Ms l yX7_partOf cX7_partOf 3 (some .int) 4 [vr 7 k, vi p, vi x] h (xK h) (fun r h' => PI r ∧ (∃ v', MilAt h' k v') ∧ Kp k h h') := by
  refine Ms.of (by decide) (Nat.le_of_ble_eq_true rfl) (fun G C X F => ?_)
  have C : Cx G cX7_partOf 3 RX7 := C
  show Rr G 0 [(0, vr 7 k), (1, vi p), (2, vi x)] [] h
  have bP := hm.bP
  have bM := hm.bM
  have bN := hm.bN
  refine r_aload_n C (dx dX7_partOf 0 rfl) rfl ?_
  refine r_iload_n C (dx dX7_partOf 1 rfl) rfl ?_
  refine r_cvP (as := [vi p]) (st := []) (v := vi (b2i (inR p (vP v)))) C X I_X7_isPart l_X7_132 (c_X7_isPart hm _) (by decide) (Nat.le_of_ble_eq_true rfl) List.prefix_rfl rfl rfl (Nat.le_of_ble_eq_true rfl) rfl (dx dX7_partOf 2 rfl) ?_
  refine rb_eq (b := inR p (vP v)) (tgt := 18) C (dx dX7_partOf 3 rfl) (by decide) (fun c1 => ?_) (fun c1 => ?_)
  ·
    have c1 : (inR p (vP v)) = false := c1
    refine r_aload_n C (dx dX7_partOf 10 rfl) rfl ?_
    refine r_bipush (v := -2) C (dx dX7_partOf 11 rfl) rfl ?_
    refine r_cv (as := [vi (-2)]) (st := []) C X I_X7_refuse l_X7_83 (c_X7_refuse hm (x := -2) (j := 2) (by decide) (by decide)) (by decide) (Nat.le_of_ble_eq_true rfl) List.prefix_rfl List.prefix_rfl rfl rfl (Nat.le_of_ble_eq_true rfl) rfl (dx dX7_partOf 12 rfl) ?_
    rintro _ h2 ⟨rfl, ⟨wh2, m9h2, s9h2⟩, qh2⟩ kkh2
    obtain ⟨vh2, mh2, zh2⟩ : ∃ v9, MilAt h2 k v9 ∧ Sz v v9 := ⟨_, m9h2, s9h2⟩
    have ph2 : Kp k h h2 := qh2
    have kh2 : xK h2 = xK h := kkh2
    obtain ⟨ah2, bh2, ch2⟩ := zh2
    exact F.1 _ _ _ _ .int rfl rfl (dx dX7_partOf 13 rfl) kh2 ⟨⟨_, rfl⟩, ⟨_, mh2⟩, ph2⟩
  ·
    have c1 : (inR p (vP v)) = true := c1
    obtain ⟨π, hπ, rfl⟩ := inR_ex (n := (vP v)) (by omega) c1
    refine r_iload_n C (dx dX7_partOf 4 rfl) rfl ?_
    refine r_i2l C (dx dX7_partOf 5 rfl) ?_
    refine r_lconst (v := 0) C (dx dX7_partOf 6 rfl) rfl ?_
    refine r_lconst (v := 1) C (dx dX7_partOf 7 rfl) rfl ?_
    refine r_csP (as := [vl x.toInt64, vl 0, vl 1]) (st := []) (v := vi (b2i (inR x 2))) C X I_X7_in l_X7_67 (c_inR (b := 1) (by decide) (by decide)) (by decide) (Nat.le_of_ble_eq_true rfl) List.prefix_rfl (Nat.le_of_ble_eq_true rfl) rfl (dx dX7_partOf 8 rfl) ?_
    refine rb_ne (b := inR x 2) (tgt := 25) C (dx dX7_partOf 9 rfl) (by decide) (fun c3 => ?_) (fun c3 => ?_)
    ·
      have c3 : (inR x 2) = true := c3
      refine r_iload_n C (dx dX7_partOf 14 rfl) rfl ?_
      refine r_if_ne (tgt := 38) C (dx dX7_partOf 15 rfl) (by decide) (fun c4 => ?_) (fun c4 => ?_)
      ·
        have c4 : ¬ x = 0 := c4
        refine r_aload_n C (dx dX7_partOf 21 rfl) rfl ?_
        refine g_X7_43 C (dx dX7_partOf 22 rfl) ?_
        refine r_iload_n C (dx dX7_partOf 23 rfl) rfl ?_
        refine r_iald (j := π) (x := vF v 1 π) C rfl rfl (by decide) rfl (by omega) (dx dX7_partOf 24 rfl) (hm.e1 (by omega)) ?_
        exact F.1 _ _ _ _ .int rfl rfl (dx dX7_partOf 25 rfl) rfl ⟨⟨_, rfl⟩, ⟨_, hm⟩, Kp.rf⟩
      ·
        have c4 : x = 0 := c4
        refine r_aload_n C (dx dX7_partOf 16 rfl) rfl ?_
        refine g_X7_40 C (dx dX7_partOf 17 rfl) ?_
        refine r_iload_n C (dx dX7_partOf 18 rfl) rfl ?_
        refine r_iald (j := π) (x := vF v 0 π) C rfl rfl (by decide) rfl (by omega) (dx dX7_partOf 19 rfl) (hm.e0 (by omega)) ?_
        refine r_goto (tgt := 44) C (dx dX7_partOf 20 rfl) (by decide) ?_
        exact F.1 _ _ _ _ .int rfl rfl (dx dX7_partOf 25 rfl) rfl ⟨⟨_, rfl⟩, ⟨_, hm⟩, Kp.rf⟩
    ·
      have c3 : (inR x 2) = false := c3
      refine r_aload_n C (dx dX7_partOf 10 rfl) rfl ?_
      refine r_bipush (v := -2) C (dx dX7_partOf 11 rfl) rfl ?_
      refine r_cv (as := [vi (-2)]) (st := []) C X I_X7_refuse l_X7_83 (c_X7_refuse hm (x := -2) (j := 2) (by decide) (by decide)) (by decide) (Nat.le_of_ble_eq_true rfl) List.prefix_rfl List.prefix_rfl rfl rfl (Nat.le_of_ble_eq_true rfl) rfl (dx dX7_partOf 12 rfl) ?_
      rintro _ h5 ⟨rfl, ⟨wh5, m9h5, s9h5⟩, qh5⟩ kkh5
      obtain ⟨vh5, mh5, zh5⟩ : ∃ v9, MilAt h5 k v9 ∧ Sz v v9 := ⟨_, m9h5, s9h5⟩
      have ph5 : Kp k h h5 := qh5
      have kh5 : xK h5 = xK h := kkh5
      obtain ⟨ah5, bh5, ch5⟩ := zh5
      exact F.1 _ _ _ _ .int rfl rfl (dx dX7_partOf 13 rfl) kh5 ⟨⟨_, rfl⟩, ⟨_, mh5⟩, ph5⟩
set_option maxHeartbeats 4000000 in
theorem c_X7_machineOf {l : Launch} {h : Hp} {k : Nat} {v : Vg} (hm : MilAt h k v) (m x : Int32) : Ms l yX7_machineOf cX7_machineOf 3 (some .int) 4 [vr 7 k, vi m, vi x] h (xK h) (fun r h' => PI r ∧ (∃ v', MilAt h' k v') ∧ Kp k h h') := by
  refine Ms.of (by decide) (Nat.le_of_ble_eq_true rfl) (fun G C X F => ?_)
  have C : Cx G cX7_machineOf 3 RX7 := C
  show Rr G 0 [(0, vr 7 k), (1, vi m), (2, vi x)] [] h
  have bP := hm.bP
  have bM := hm.bM
  have bN := hm.bN
  refine r_aload_n C (dx dX7_machineOf 0 rfl) rfl ?_
  refine r_iload_n C (dx dX7_machineOf 1 rfl) rfl ?_
  refine r_cvP (as := [vi m]) (st := []) (v := vi (b2i (inR m (vM v)))) C X I_X7_isMachine l_X7_241 (c_X7_isMachine hm _) (by decide) (Nat.le_of_ble_eq_true rfl) List.prefix_rfl rfl rfl (Nat.le_of_ble_eq_true rfl) rfl (dx dX7_machineOf 2 rfl) ?_
  refine rb_eq (b := inR m (vM v)) (tgt := 18) C (dx dX7_machineOf 3 rfl) (by decide) (fun c1 => ?_) (fun c1 => ?_)
  ·
    have c1 : (inR m (vM v)) = false := c1
    refine r_aload_n C (dx dX7_machineOf 10 rfl) rfl ?_
    refine r_bipush (v := -2) C (dx dX7_machineOf 11 rfl) rfl ?_
    refine r_cv (as := [vi (-2)]) (st := []) C X I_X7_refuse l_X7_83 (c_X7_refuse hm (x := -2) (j := 2) (by decide) (by decide)) (by decide) (Nat.le_of_ble_eq_true rfl) List.prefix_rfl List.prefix_rfl rfl rfl (Nat.le_of_ble_eq_true rfl) rfl (dx dX7_machineOf 12 rfl) ?_
    rintro _ h2 ⟨rfl, ⟨wh2, m9h2, s9h2⟩, qh2⟩ kkh2
    obtain ⟨vh2, mh2, zh2⟩ : ∃ v9, MilAt h2 k v9 ∧ Sz v v9 := ⟨_, m9h2, s9h2⟩
    have ph2 : Kp k h h2 := qh2
    have kh2 : xK h2 = xK h := kkh2
    obtain ⟨ah2, bh2, ch2⟩ := zh2
    exact F.1 _ _ _ _ .int rfl rfl (dx dX7_machineOf 13 rfl) kh2 ⟨⟨_, rfl⟩, ⟨_, mh2⟩, ph2⟩
  ·
    have c1 : (inR m (vM v)) = true := c1
    obtain ⟨μ, hμ, rfl⟩ := inR_ex (n := (vM v)) (by omega) c1
    refine r_iload_n C (dx dX7_machineOf 4 rfl) rfl ?_
    refine r_i2l C (dx dX7_machineOf 5 rfl) ?_
    refine r_lconst (v := 0) C (dx dX7_machineOf 6 rfl) rfl ?_
    refine r_lconst (v := 1) C (dx dX7_machineOf 7 rfl) rfl ?_
    refine r_csP (as := [vl x.toInt64, vl 0, vl 1]) (st := []) (v := vi (b2i (inR x 2))) C X I_X7_in l_X7_67 (c_inR (b := 1) (by decide) (by decide)) (by decide) (Nat.le_of_ble_eq_true rfl) List.prefix_rfl (Nat.le_of_ble_eq_true rfl) rfl (dx dX7_machineOf 8 rfl) ?_
    refine rb_ne (b := inR x 2) (tgt := 25) C (dx dX7_machineOf 9 rfl) (by decide) (fun c3 => ?_) (fun c3 => ?_)
    ·
      have c3 : (inR x 2) = true := c3
      refine r_iload_n C (dx dX7_machineOf 14 rfl) rfl ?_
      refine r_if_ne (tgt := 38) C (dx dX7_machineOf 15 rfl) (by decide) (fun c4 => ?_) (fun c4 => ?_)
      ·
        have c4 : ¬ x = 0 := c4
        refine r_aload_n C (dx dX7_machineOf 21 rfl) rfl ?_
        refine g_X7_49 C (dx dX7_machineOf 22 rfl) ?_
        refine r_iload_n C (dx dX7_machineOf 23 rfl) rfl ?_
        refine r_iald (j := μ) (x := vF v 3 μ) C rfl rfl (by decide) rfl (by omega) (dx dX7_machineOf 24 rfl) (hm.e3 (by omega)) ?_
        exact F.1 _ _ _ _ .int rfl rfl (dx dX7_machineOf 25 rfl) rfl ⟨⟨_, rfl⟩, ⟨_, hm⟩, Kp.rf⟩
      ·
        have c4 : x = 0 := c4
        refine r_aload_n C (dx dX7_machineOf 16 rfl) rfl ?_
        refine g_X7_46 C (dx dX7_machineOf 17 rfl) ?_
        refine r_iload_n C (dx dX7_machineOf 18 rfl) rfl ?_
        refine r_iald (j := μ) (x := vF v 2 μ) C rfl rfl (by decide) rfl (by omega) (dx dX7_machineOf 19 rfl) (hm.e2 (by omega)) ?_
        refine r_goto (tgt := 44) C (dx dX7_machineOf 20 rfl) (by decide) ?_
        exact F.1 _ _ _ _ .int rfl rfl (dx dX7_machineOf 25 rfl) rfl ⟨⟨_, rfl⟩, ⟨_, hm⟩, Kp.rf⟩
    ·
      have c3 : (inR x 2) = false := c3
      refine r_aload_n C (dx dX7_machineOf 10 rfl) rfl ?_
      refine r_bipush (v := -2) C (dx dX7_machineOf 11 rfl) rfl ?_
      refine r_cv (as := [vi (-2)]) (st := []) C X I_X7_refuse l_X7_83 (c_X7_refuse hm (x := -2) (j := 2) (by decide) (by decide)) (by decide) (Nat.le_of_ble_eq_true rfl) List.prefix_rfl List.prefix_rfl rfl rfl (Nat.le_of_ble_eq_true rfl) rfl (dx dX7_machineOf 12 rfl) ?_
      rintro _ h5 ⟨rfl, ⟨wh5, m9h5, s9h5⟩, qh5⟩ kkh5
      obtain ⟨vh5, mh5, zh5⟩ : ∃ v9, MilAt h5 k v9 ∧ Sz v v9 := ⟨_, m9h5, s9h5⟩
      have ph5 : Kp k h h5 := qh5
      have kh5 : xK h5 = xK h := kkh5
      obtain ⟨ah5, bh5, ch5⟩ := zh5
      exact F.1 _ _ _ _ .int rfl rfl (dx dX7_machineOf 13 rfl) kh5 ⟨⟨_, rfl⟩, ⟨_, mh5⟩, ph5⟩
set_option maxHeartbeats 4000000 in
theorem c_X7_oneOf {l : Launch} {h : Hp} {k : Nat} {v : Vg} (hm : MilAt h k v) (o1 x : Int32) : Ms l yX7_oneOf cX7_oneOf 3 (some .int) 4 [vr 7 k, vi o1, vi x] h (xK h) (fun r h' => PI r ∧ (∃ v', MilAt h' k v') ∧ Kp k h h') := by
  refine Ms.of (by decide) (Nat.le_of_ble_eq_true rfl) (fun G C X F => ?_)
  have C : Cx G cX7_oneOf 3 RX7 := C
  show Rr G 0 [(0, vr 7 k), (1, vi o1), (2, vi x)] [] h
  have bP := hm.bP
  have bM := hm.bM
  have bN := hm.bN
  refine r_aload_n C (dx dX7_oneOf 0 rfl) rfl ?_
  refine r_iload_n C (dx dX7_oneOf 1 rfl) rfl ?_
  refine r_cvP (as := [vi o1]) (st := []) (v := vi (b2i (inR o1 (vN v)))) C X I_X7_isOne l_X7_125 (c_X7_isOne hm _) (by decide) (Nat.le_of_ble_eq_true rfl) List.prefix_rfl rfl rfl (Nat.le_of_ble_eq_true rfl) rfl (dx dX7_oneOf 2 rfl) ?_
  refine rb_eq (b := inR o1 (vN v)) (tgt := 20) C (dx dX7_oneOf 3 rfl) (by decide) (fun c1 => ?_) (fun c1 => ?_)
  ·
    have c1 : (inR o1 (vN v)) = false := c1
    refine r_aload_n C (dx dX7_oneOf 10 rfl) rfl ?_
    refine r_bipush (v := -2) C (dx dX7_oneOf 11 rfl) rfl ?_
    refine r_cv (as := [vi (-2)]) (st := []) C X I_X7_refuse l_X7_83 (c_X7_refuse hm (x := -2) (j := 2) (by decide) (by decide)) (by decide) (Nat.le_of_ble_eq_true rfl) List.prefix_rfl List.prefix_rfl rfl rfl (Nat.le_of_ble_eq_true rfl) rfl (dx dX7_oneOf 12 rfl) ?_
    rintro _ h2 ⟨rfl, ⟨wh2, m9h2, s9h2⟩, qh2⟩ kkh2
    obtain ⟨vh2, mh2, zh2⟩ : ∃ v9, MilAt h2 k v9 ∧ Sz v v9 := ⟨_, m9h2, s9h2⟩
    have ph2 : Kp k h h2 := qh2
    have kh2 : xK h2 = xK h := kkh2
    obtain ⟨ah2, bh2, ch2⟩ := zh2
    exact F.1 _ _ _ _ .int rfl rfl (dx dX7_oneOf 13 rfl) kh2 ⟨⟨_, rfl⟩, ⟨_, mh2⟩, ph2⟩
  ·
    have c1 : (inR o1 (vN v)) = true := c1
    obtain ⟨o19, ho19, rfl⟩ := inR_ex (n := (vN v)) (by omega) c1
    refine r_iload_n C (dx dX7_oneOf 4 rfl) rfl ?_
    refine r_i2l C (dx dX7_oneOf 5 rfl) ?_
    refine r_lconst (v := 0) C (dx dX7_oneOf 6 rfl) rfl ?_
    refine r_ldc2 C n_X7_79 (dx dX7_oneOf 7 rfl) ?_
    refine r_csP (as := [vl x.toInt64, vl 0, vl 4]) (st := []) (v := vi (b2i (inR x 5))) C X I_X7_in l_X7_67 (c_inR (b := 4) (by decide) (by decide)) (by decide) (Nat.le_of_ble_eq_true rfl) List.prefix_rfl (Nat.le_of_ble_eq_true rfl) rfl (dx dX7_oneOf 8 rfl) ?_
    refine rb_ne (b := inR x 5) (tgt := 27) C (dx dX7_oneOf 9 rfl) (by decide) (fun c3 => ?_) (fun c3 => ?_)
    ·
      have c3 : (inR x 5) = true := c3
      obtain ⟨x9, hx9, rfl⟩ := inR_ex (n := 5) (by omega) c3
      refine r_iload_n C (dx dX7_oneOf 14 rfl) rfl ?_
      refine r_iconst (v := nI 3) C (dx dX7_oneOf 15 rfl) rfl ?_
      refine rn_ne (a := x9) (b := 3) (tgt := 40) C (by omega) (by omega) (dx dX7_oneOf 16 rfl) (by decide) (fun c4 => ?_) (fun c4 => ?_)
      · first
        | (omega; done)
        | (
            have c4 : ¬ x9 = 3 := c4
            refine r_iload_n C (dx dX7_oneOf 21 rfl) rfl ?_
            refine r_iconst (v := nI 4) C (dx dX7_oneOf 22 rfl) rfl ?_
            refine rn_ne (a := x9) (b := 4) (tgt := 56) C (by omega) (by omega) (dx dX7_oneOf 23 rfl) (by decide) (fun c5 => ?_) (fun c5 => ?_)
            · first
              | (omega; done)
              | (
                  have c5 : ¬ x9 = 4 := c5
                  refine r_aload_n C (dx dX7_oneOf 31 rfl) rfl ?_
                  refine g_X7_54 C (dx dX7_oneOf 32 rfl) ?_
                  refine r_iload_n C (dx dX7_oneOf 33 rfl) rfl ?_
                  refine r_aald4 (j := o19) C rfl rfl (by decide) rfl (by omega) (dx dX7_oneOf 34 rfl) ?_
                  refine r_iload_n C (dx dX7_oneOf 35 rfl) rfl ?_
                  refine r_iald (j := x9) (x := xI h (k + 23 + o19) x9) C rfl rfl (by decide) rfl (by omega) (dx dX7_oneOf 36 rfl) rfl ?_
                  exact F.1 _ _ _ _ .int rfl rfl (dx dX7_oneOf 37 rfl) rfl ⟨⟨_, rfl⟩, ⟨_, hm⟩, Kp.rf⟩)
            · first
              | (omega; done)
              | (
                  have c5 : x9 = 4 := c5
                  refine r_aload_n C (dx dX7_oneOf 24 rfl) rfl ?_
                  refine g_X7_54 C (dx dX7_oneOf 25 rfl) ?_
                  refine r_iload_n C (dx dX7_oneOf 26 rfl) rfl ?_
                  refine r_aald4 (j := o19) C rfl rfl (by decide) rfl (by omega) (dx dX7_oneOf 27 rfl) ?_
                  refine r_iconst (v := nI 3) C (dx dX7_oneOf 28 rfl) rfl ?_
                  refine r_iald (j := 3) (x := vF v 7 o19) C rfl rfl (by decide) rfl (by omega) (dx dX7_oneOf 29 rfl) (hm.eo (by omega) (by omega)) ?_
                  refine r_goto (tgt := 64) C (dx dX7_oneOf 30 rfl) (by decide) ?_
                  exact F.1 _ _ _ _ .int rfl rfl (dx dX7_oneOf 37 rfl) rfl ⟨⟨_, rfl⟩, ⟨_, hm⟩, Kp.rf⟩))
      · first
        | (omega; done)
        | (
            have c4 : x9 = 3 := c4
            refine r_aload_n C (dx dX7_oneOf 17 rfl) rfl ?_
            refine r_iload_n C (dx dX7_oneOf 18 rfl) rfl ?_
            refine r_cvW (as := [vi (nI o19)]) (st := []) C X I_X7_piecesOf l_X7_129 (c_X7_piecesOf hm _) (by decide) (Nat.le_of_ble_eq_true rfl) List.prefix_rfl rfl rfl (Nat.le_of_ble_eq_true rfl) rfl (dx dX7_oneOf 19 rfl) ?_
            rintro _ ⟨x6, rfl⟩
            refine r_goto (tgt := 64) C (dx dX7_oneOf 20 rfl) (by decide) ?_
            exact F.1 _ _ _ _ .int rfl rfl (dx dX7_oneOf 37 rfl) rfl ⟨⟨_, rfl⟩, ⟨_, hm⟩, Kp.rf⟩)
    ·
      have c3 : (inR x 5) = false := c3
      refine r_aload_n C (dx dX7_oneOf 10 rfl) rfl ?_
      refine r_bipush (v := -2) C (dx dX7_oneOf 11 rfl) rfl ?_
      refine r_cv (as := [vi (-2)]) (st := []) C X I_X7_refuse l_X7_83 (c_X7_refuse hm (x := -2) (j := 2) (by decide) (by decide)) (by decide) (Nat.le_of_ble_eq_true rfl) List.prefix_rfl List.prefix_rfl rfl rfl (Nat.le_of_ble_eq_true rfl) rfl (dx dX7_oneOf 12 rfl) ?_
      rintro _ h7 ⟨rfl, ⟨wh7, m9h7, s9h7⟩, qh7⟩ kkh7
      obtain ⟨vh7, mh7, zh7⟩ : ∃ v9, MilAt h7 k v9 ∧ Sz v v9 := ⟨_, m9h7, s9h7⟩
      have ph7 : Kp k h h7 := qh7
      have kh7 : xK h7 = xK h := kkh7
      obtain ⟨ah7, bh7, ch7⟩ := zh7
      exact F.1 _ _ _ _ .int rfl rfl (dx dX7_oneOf 13 rfl) kh7 ⟨⟨_, rfl⟩, ⟨_, mh7⟩, ph7⟩
set_option maxHeartbeats 4000000 in
theorem c_X7_has {l : Launch} {h : Hp} {k : Nat} {v : Vg} (hm : MilAt h k v) (x : Int32) : Ms l yX7_has cX7_has 2 (some .int) 5 [vr 7 k, vi x] h (xK h) (fun r h' => PI r ∧ (∃ v', MilAt h' k v') ∧ Kp k h h') := by
  refine Ms.of (by decide) (Nat.le_of_ble_eq_true rfl) (fun G C X F => ?_)
  have C : Cx G cX7_has 2 RX7 := C
  show Rr G 0 [(0, vr 7 k), (1, vi x)] [] h
  have bP := hm.bP
  have bM := hm.bM
  have bN := hm.bN
  refine r_iload_n C (dx dX7_has 0 rfl) rfl ?_
  refine r_i2l C (dx dX7_has 1 rfl) ?_
  refine r_lconst (v := 0) C (dx dX7_has 2 rfl) rfl ?_
  refine r_aload_n C (dx dX7_has 3 rfl) rfl ?_
  refine r_cvP (as := []) (st := [vl 0, vl x.toInt64]) (v := vi (full (vN v))) C X I_X7_all l_X7_253 (c_X7_all hm) (by decide) (Nat.le_of_ble_eq_true rfl) List.prefix_rfl rfl rfl (Nat.le_of_ble_eq_true rfl) rfl (dx dX7_has 4 rfl) ?_
  refine r_i2l C (dx dX7_has 5 rfl) ?_
  refine r_csP (as := [vl x.toInt64, vl 0, vl ((full (vN v)).toInt64)]) (st := []) (v := vi (b2i (inR x (2 ^ vN v)))) C X I_X7_in l_X7_67 (c_inF (by omega)) (by decide) (Nat.le_of_ble_eq_true rfl) List.prefix_rfl (Nat.le_of_ble_eq_true rfl) rfl (dx dX7_has 6 rfl) ?_
  refine rb_eq (b := inR x (2 ^ vN v)) (tgt := 22) C (dx dX7_has 7 rfl) (by decide) (fun c1 => ?_) (fun c1 => ?_)
  ·
    have c1 : (inR x (2 ^ vN v)) = false := c1
    refine r_aload_n C (dx dX7_has 12 rfl) rfl ?_
    refine r_bipush (v := -2) C (dx dX7_has 13 rfl) rfl ?_
    refine r_cv (as := [vi (-2)]) (st := []) C X I_X7_refuse l_X7_83 (c_X7_refuse hm (x := -2) (j := 2) (by decide) (by decide)) (by decide) (Nat.le_of_ble_eq_true rfl) List.prefix_rfl List.prefix_rfl rfl rfl (Nat.le_of_ble_eq_true rfl) rfl (dx dX7_has 14 rfl) ?_
    rintro _ h2 ⟨rfl, ⟨wh2, m9h2, s9h2⟩, qh2⟩ kkh2
    obtain ⟨vh2, mh2, zh2⟩ : ∃ v9, MilAt h2 k v9 ∧ Sz v v9 := ⟨_, m9h2, s9h2⟩
    have ph2 : Kp k h h2 := qh2
    have kh2 : xK h2 = xK h := kkh2
    obtain ⟨ah2, bh2, ch2⟩ := zh2
    exact F.1 _ _ _ _ .int rfl rfl (dx dX7_has 15 rfl) kh2 ⟨⟨_, rfl⟩, ⟨_, mh2⟩, ph2⟩
  ·
    have c1 : (inR x (2 ^ vN v)) = true := c1
    refine r_aload_n C (dx dX7_has 8 rfl) rfl ?_
    refine r_iload_n C (dx dX7_has 9 rfl) rfl ?_
    refine r_cvW (as := [vi x]) (st := []) C X I_X7_hasOf l_X7_247 (c_X7_hasOf hm _) (by decide) (Nat.le_of_ble_eq_true rfl) List.prefix_rfl rfl rfl (Nat.le_of_ble_eq_true rfl) rfl (dx dX7_has 10 rfl) ?_
    rintro _ ⟨x3, rfl⟩
    refine r_goto (tgt := 28) C (dx dX7_has 11 rfl) (by decide) ?_
    exact F.1 _ _ _ _ .int rfl rfl (dx dX7_has 15 rfl) rfl ⟨⟨_, rfl⟩, ⟨_, hm⟩, Kp.rf⟩
set_option maxHeartbeats 4000000 in
theorem c_X7_works {l : Launch} {h : Hp} {k : Nat} {v : Vg} (hm : MilAt h k v) (m x : Int32) : Ms l yX7_works cX7_works 3 (some .int) 5 [vr 7 k, vi m, vi x] h (xK h) (fun r h' => PI r ∧ (∃ v', MilAt h' k v') ∧ Kp k h h') := by
  refine Ms.of (by decide) (Nat.le_of_ble_eq_true rfl) (fun G C X F => ?_)
  have C : Cx G cX7_works 3 RX7 := C
  show Rr G 0 [(0, vr 7 k), (1, vi m), (2, vi x)] [] h
  have bP := hm.bP
  have bM := hm.bM
  have bN := hm.bN
  refine r_aload_n C (dx dX7_works 0 rfl) rfl ?_
  refine r_iload_n C (dx dX7_works 1 rfl) rfl ?_
  refine r_cvP (as := [vi m]) (st := []) (v := vi (b2i (inR m (vM v)))) C X I_X7_isMachine l_X7_241 (c_X7_isMachine hm _) (by decide) (Nat.le_of_ble_eq_true rfl) List.prefix_rfl rfl rfl (Nat.le_of_ble_eq_true rfl) rfl (dx dX7_works 2 rfl) ?_
  refine rb_eq (b := inR m (vM v)) (tgt := 22) C (dx dX7_works 3 rfl) (by decide) (fun c1 => ?_) (fun c1 => ?_)
  ·
    have c1 : (inR m (vM v)) = false := c1
    refine r_aload_n C (dx dX7_works 12 rfl) rfl ?_
    refine r_bipush (v := -2) C (dx dX7_works 13 rfl) rfl ?_
    refine r_cv (as := [vi (-2)]) (st := []) C X I_X7_refuse l_X7_83 (c_X7_refuse hm (x := -2) (j := 2) (by decide) (by decide)) (by decide) (Nat.le_of_ble_eq_true rfl) List.prefix_rfl List.prefix_rfl rfl rfl (Nat.le_of_ble_eq_true rfl) rfl (dx dX7_works 14 rfl) ?_
    rintro _ h2 ⟨rfl, ⟨wh2, m9h2, s9h2⟩, qh2⟩ kkh2
    obtain ⟨vh2, mh2, zh2⟩ : ∃ v9, MilAt h2 k v9 ∧ Sz v v9 := ⟨_, m9h2, s9h2⟩
    have ph2 : Kp k h h2 := qh2
    have kh2 : xK h2 = xK h := kkh2
    obtain ⟨ah2, bh2, ch2⟩ := zh2
    exact F.1 _ _ _ _ .int rfl rfl (dx dX7_works 15 rfl) kh2 ⟨⟨_, rfl⟩, ⟨_, mh2⟩, ph2⟩
  ·
    have c1 : (inR m (vM v)) = true := c1
    obtain ⟨μ, hμ, rfl⟩ := inR_ex (n := (vM v)) (by omega) c1
    refine r_iload_n C (dx dX7_works 4 rfl) rfl ?_
    refine r_i2l C (dx dX7_works 5 rfl) ?_
    refine r_lconst (v := 0) C (dx dX7_works 6 rfl) rfl ?_
    refine r_aload_n C (dx dX7_works 7 rfl) rfl ?_
    refine r_cvP (as := []) (st := [vl 0, vl x.toInt64]) (v := vi (full (vN v))) C X I_X7_all l_X7_253 (c_X7_all hm) (by decide) (Nat.le_of_ble_eq_true rfl) List.prefix_rfl rfl rfl (Nat.le_of_ble_eq_true rfl) rfl (dx dX7_works 8 rfl) ?_
    refine r_i2l C (dx dX7_works 9 rfl) ?_
    refine r_csP (as := [vl x.toInt64, vl 0, vl ((full (vN v)).toInt64)]) (st := []) (v := vi (b2i (inR x (2 ^ vN v)))) C X I_X7_in l_X7_67 (c_inF (by omega)) (by decide) (Nat.le_of_ble_eq_true rfl) List.prefix_rfl (Nat.le_of_ble_eq_true rfl) rfl (dx dX7_works 10 rfl) ?_
    refine rb_ne (b := inR x (2 ^ vN v)) (tgt := 29) C (dx dX7_works 11 rfl) (by decide) (fun c3 => ?_) (fun c3 => ?_)
    ·
      have c3 : (inR x (2 ^ vN v)) = true := c3
      refine r_aload_n C (dx dX7_works 16 rfl) rfl ?_
      refine r_iload_n C (dx dX7_works 17 rfl) rfl ?_
      refine r_iload_n C (dx dX7_works 18 rfl) rfl ?_
      refine r_cvW (as := [vi (nI μ), vi x]) (st := []) C X I_X7_worksOf l_X7_250 (c_X7_worksOf hm (m := μ) (by omega) _) (by decide) (Nat.le_of_ble_eq_true rfl) List.prefix_rfl rfl rfl (Nat.le_of_ble_eq_true rfl) rfl (dx dX7_works 19 rfl) ?_
      rintro _ ⟨x4, rfl⟩
      refine rb_eq (b := x4) (tgt := 42) C (dx dX7_works 20 rfl) (by decide) (fun c5 => ?_) (fun c5 => ?_)
      ·
        have c5 : x4 = false := c5
        refine r_iconst (v := nI 0) C (dx dX7_works 23 rfl) rfl ?_
        exact F.1 _ _ _ _ .int rfl rfl (dx dX7_works 24 rfl) rfl ⟨⟨_, rfl⟩, ⟨_, hm⟩, Kp.rf⟩
      ·
        have c5 : x4 = true := c5
        refine r_iconst (v := nI 1) C (dx dX7_works 21 rfl) rfl ?_
        refine r_goto (tgt := 43) C (dx dX7_works 22 rfl) (by decide) ?_
        exact F.1 _ _ _ _ .int rfl rfl (dx dX7_works 24 rfl) rfl ⟨⟨_, rfl⟩, ⟨_, hm⟩, Kp.rf⟩
    ·
      have c3 : (inR x (2 ^ vN v)) = false := c3
      refine r_aload_n C (dx dX7_works 12 rfl) rfl ?_
      refine r_bipush (v := -2) C (dx dX7_works 13 rfl) rfl ?_
      refine r_cv (as := [vi (-2)]) (st := []) C X I_X7_refuse l_X7_83 (c_X7_refuse hm (x := -2) (j := 2) (by decide) (by decide)) (by decide) (Nat.le_of_ble_eq_true rfl) List.prefix_rfl List.prefix_rfl rfl rfl (Nat.le_of_ble_eq_true rfl) rfl (dx dX7_works 14 rfl) ?_
      rintro _ h6 ⟨rfl, ⟨wh6, m9h6, s9h6⟩, qh6⟩ kkh6
      obtain ⟨vh6, mh6, zh6⟩ : ∃ v9, MilAt h6 k v9 ∧ Sz v v9 := ⟨_, m9h6, s9h6⟩
      have ph6 : Kp k h h6 := qh6
      have kh6 : xK h6 = xK h := kkh6
      obtain ⟨ah6, bh6, ch6⟩ := zh6
      exact F.1 _ _ _ _ .int rfl rfl (dx dX7_works 15 rfl) kh6 ⟨⟨_, rfl⟩, ⟨_, mh6⟩, ph6⟩
set_option maxHeartbeats 4000000 in
theorem c_X7_both {l : Launch} {h : Hp} {k : Nat} {v : Vg} (hm : MilAt h k v) (m n x : Int32) : Ms l yX7_both cX7_both 4 (some .int) 6 [vr 7 k, vi m, vi n, vi x] h (xK h) (fun r h' => PI r ∧ (∃ v', MilAt h' k v') ∧ Kp k h h') := by
  refine Ms.of (by decide) (Nat.le_of_ble_eq_true rfl) (fun G C X F => ?_)
  have C : Cx G cX7_both 4 RX7 := C
  show Rr G 0 [(0, vr 7 k), (1, vi m), (2, vi n), (3, vi x)] [] h
  have bP := hm.bP
  have bM := hm.bM
  have bN := hm.bN
  refine r_aload_n C (dx dX7_both 0 rfl) rfl ?_
  refine r_iload_n C (dx dX7_both 1 rfl) rfl ?_
  refine r_cvP (as := [vi m]) (st := []) (v := vi (b2i (inR m (vM v)))) C X I_X7_isMachine l_X7_241 (c_X7_isMachine hm _) (by decide) (Nat.le_of_ble_eq_true rfl) List.prefix_rfl rfl rfl (Nat.le_of_ble_eq_true rfl) rfl (dx dX7_both 2 rfl) ?_
  refine rb_eq (b := inR m (vM v)) (tgt := 35) C (dx dX7_both 3 rfl) (by decide) (fun c1 => ?_) (fun c1 => ?_)
  ·
    have c1 : (inR m (vM v)) = false := c1
    refine r_aload_n C (dx dX7_both 19 rfl) rfl ?_
    refine r_bipush (v := -2) C (dx dX7_both 20 rfl) rfl ?_
    refine r_cv (as := [vi (-2)]) (st := []) C X I_X7_refuse l_X7_83 (c_X7_refuse hm (x := -2) (j := 2) (by decide) (by decide)) (by decide) (Nat.le_of_ble_eq_true rfl) List.prefix_rfl List.prefix_rfl rfl rfl (Nat.le_of_ble_eq_true rfl) rfl (dx dX7_both 21 rfl) ?_
    rintro _ h2 ⟨rfl, ⟨wh2, m9h2, s9h2⟩, qh2⟩ kkh2
    obtain ⟨vh2, mh2, zh2⟩ : ∃ v9, MilAt h2 k v9 ∧ Sz v v9 := ⟨_, m9h2, s9h2⟩
    have ph2 : Kp k h h2 := qh2
    have kh2 : xK h2 = xK h := kkh2
    obtain ⟨ah2, bh2, ch2⟩ := zh2
    exact F.1 _ _ _ _ .int rfl rfl (dx dX7_both 22 rfl) kh2 ⟨⟨_, rfl⟩, ⟨_, mh2⟩, ph2⟩
  ·
    have c1 : (inR m (vM v)) = true := c1
    obtain ⟨μ, hμ, rfl⟩ := inR_ex (n := (vM v)) (by omega) c1
    refine r_aload_n C (dx dX7_both 4 rfl) rfl ?_
    refine r_iload_n C (dx dX7_both 5 rfl) rfl ?_
    refine r_cvP (as := [vi n]) (st := []) (v := vi (b2i (inR n (vM v)))) C X I_X7_isMachine l_X7_241 (c_X7_isMachine hm _) (by decide) (Nat.le_of_ble_eq_true rfl) List.prefix_rfl rfl rfl (Nat.le_of_ble_eq_true rfl) rfl (dx dX7_both 6 rfl) ?_
    refine rb_eq (b := inR n (vM v)) (tgt := 35) C (dx dX7_both 7 rfl) (by decide) (fun c3 => ?_) (fun c3 => ?_)
    ·
      have c3 : (inR n (vM v)) = false := c3
      refine r_aload_n C (dx dX7_both 19 rfl) rfl ?_
      refine r_bipush (v := -2) C (dx dX7_both 20 rfl) rfl ?_
      refine r_cv (as := [vi (-2)]) (st := []) C X I_X7_refuse l_X7_83 (c_X7_refuse hm (x := -2) (j := 2) (by decide) (by decide)) (by decide) (Nat.le_of_ble_eq_true rfl) List.prefix_rfl List.prefix_rfl rfl rfl (Nat.le_of_ble_eq_true rfl) rfl (dx dX7_both 21 rfl) ?_
      rintro _ h4 ⟨rfl, ⟨wh4, m9h4, s9h4⟩, qh4⟩ kkh4
      obtain ⟨vh4, mh4, zh4⟩ : ∃ v9, MilAt h4 k v9 ∧ Sz v v9 := ⟨_, m9h4, s9h4⟩
      have ph4 : Kp k h h4 := qh4
      have kh4 : xK h4 = xK h := kkh4
      obtain ⟨ah4, bh4, ch4⟩ := zh4
      exact F.1 _ _ _ _ .int rfl rfl (dx dX7_both 22 rfl) kh4 ⟨⟨_, rfl⟩, ⟨_, mh4⟩, ph4⟩
    ·
      have c3 : (inR n (vM v)) = true := c3
      obtain ⟨ν, hν, rfl⟩ := inR_ex (n := (vM v)) (by omega) c3
      refine r_iload_n C (dx dX7_both 8 rfl) rfl ?_
      refine r_iload_n C (dx dX7_both 9 rfl) rfl ?_
      refine rn_eq (a := μ) (b := ν) (tgt := 35) C (by omega) (by omega) (dx dX7_both 10 rfl) (by decide) (fun c5 => ?_) (fun c5 => ?_)
      · first
        | (omega; done)
        | (
            have c5 : μ = ν := c5
            refine r_aload_n C (dx dX7_both 19 rfl) rfl ?_
            refine r_bipush (v := -2) C (dx dX7_both 20 rfl) rfl ?_
            refine r_cv (as := [vi (-2)]) (st := []) C X I_X7_refuse l_X7_83 (c_X7_refuse hm (x := -2) (j := 2) (by decide) (by decide)) (by decide) (Nat.le_of_ble_eq_true rfl) List.prefix_rfl List.prefix_rfl rfl rfl (Nat.le_of_ble_eq_true rfl) rfl (dx dX7_both 21 rfl) ?_
            rintro _ h6 ⟨rfl, ⟨wh6, m9h6, s9h6⟩, qh6⟩ kkh6
            obtain ⟨vh6, mh6, zh6⟩ : ∃ v9, MilAt h6 k v9 ∧ Sz v v9 := ⟨_, m9h6, s9h6⟩
            have ph6 : Kp k h h6 := qh6
            have kh6 : xK h6 = xK h := kkh6
            obtain ⟨ah6, bh6, ch6⟩ := zh6
            exact F.1 _ _ _ _ .int rfl rfl (dx dX7_both 22 rfl) kh6 ⟨⟨_, rfl⟩, ⟨_, mh6⟩, ph6⟩)
      · first
        | (omega; done)
        | (
            have c5 : ¬ μ = ν := c5
            refine r_iload_n C (dx dX7_both 11 rfl) rfl ?_
            refine r_i2l C (dx dX7_both 12 rfl) ?_
            refine r_lconst (v := 0) C (dx dX7_both 13 rfl) rfl ?_
            refine r_aload_n C (dx dX7_both 14 rfl) rfl ?_
            refine r_cvP (as := []) (st := [vl 0, vl x.toInt64]) (v := vi (full (vN v))) C X I_X7_all l_X7_253 (c_X7_all hm) (by decide) (Nat.le_of_ble_eq_true rfl) List.prefix_rfl rfl rfl (Nat.le_of_ble_eq_true rfl) rfl (dx dX7_both 15 rfl) ?_
            refine r_i2l C (dx dX7_both 16 rfl) ?_
            refine r_csP (as := [vl x.toInt64, vl 0, vl ((full (vN v)).toInt64)]) (st := []) (v := vi (b2i (inR x (2 ^ vN v)))) C X I_X7_in l_X7_67 (c_inF (by omega)) (by decide) (Nat.le_of_ble_eq_true rfl) List.prefix_rfl (Nat.le_of_ble_eq_true rfl) rfl (dx dX7_both 17 rfl) ?_
            refine rb_ne (b := inR x (2 ^ vN v)) (tgt := 42) C (dx dX7_both 18 rfl) (by decide) (fun c7 => ?_) (fun c7 => ?_)
            ·
              have c7 : (inR x (2 ^ vN v)) = true := c7
              refine r_aload_n C (dx dX7_both 23 rfl) rfl ?_
              refine r_iload_n C (dx dX7_both 24 rfl) rfl ?_
              refine r_iload_n C (dx dX7_both 25 rfl) rfl ?_
              refine r_iload_n C (dx dX7_both 26 rfl) rfl ?_
              refine r_cvW (as := [vi (nI μ), vi (nI ν), vi x]) (st := []) C X I_X7_bothOf l_X7_256 (c_X7_bothOf hm (m := μ) (n := ν) (by omega) (by omega) _) (by decide) (Nat.le_of_ble_eq_true rfl) List.prefix_rfl rfl rfl (Nat.le_of_ble_eq_true rfl) rfl (dx dX7_both 27 rfl) ?_
              rintro _ ⟨x8, rfl⟩
              refine rb_eq (b := x8) (tgt := 56) C (dx dX7_both 28 rfl) (by decide) (fun c9 => ?_) (fun c9 => ?_)
              ·
                have c9 : x8 = false := c9
                refine r_iconst (v := nI 0) C (dx dX7_both 31 rfl) rfl ?_
                exact F.1 _ _ _ _ .int rfl rfl (dx dX7_both 32 rfl) rfl ⟨⟨_, rfl⟩, ⟨_, hm⟩, Kp.rf⟩
              ·
                have c9 : x8 = true := c9
                refine r_iconst (v := nI 1) C (dx dX7_both 29 rfl) rfl ?_
                refine r_goto (tgt := 57) C (dx dX7_both 30 rfl) (by decide) ?_
                exact F.1 _ _ _ _ .int rfl rfl (dx dX7_both 32 rfl) rfl ⟨⟨_, rfl⟩, ⟨_, hm⟩, Kp.rf⟩
            ·
              have c7 : (inR x (2 ^ vN v)) = false := c7
              refine r_aload_n C (dx dX7_both 19 rfl) rfl ?_
              refine r_bipush (v := -2) C (dx dX7_both 20 rfl) rfl ?_
              refine r_cv (as := [vi (-2)]) (st := []) C X I_X7_refuse l_X7_83 (c_X7_refuse hm (x := -2) (j := 2) (by decide) (by decide)) (by decide) (Nat.le_of_ble_eq_true rfl) List.prefix_rfl List.prefix_rfl rfl rfl (Nat.le_of_ble_eq_true rfl) rfl (dx dX7_both 21 rfl) ?_
              rintro _ h10 ⟨rfl, ⟨wh10, m9h10, s9h10⟩, qh10⟩ kkh10
              obtain ⟨vh10, mh10, zh10⟩ : ∃ v9, MilAt h10 k v9 ∧ Sz v v9 := ⟨_, m9h10, s9h10⟩
              have ph10 : Kp k h h10 := qh10
              have kh10 : xK h10 = xK h := kkh10
              obtain ⟨ah10, bh10, ch10⟩ := zh10
              exact F.1 _ _ _ _ .int rfl rfl (dx dX7_both 22 rfl) kh10 ⟨⟨_, rfl⟩, ⟨_, mh10⟩, ph10⟩)
set_option maxHeartbeats 4000000 in
theorem c_X7_odds {l : Launch} {h : Hp} {k : Nat} {v : Vg} (hm : MilAt h k v) (m : Int32) : Ms l yX7_odds cX7_odds 2 (some .long) 8 [vr 7 k, vi m] h (xK h) (fun r h' => PL r ∧ (∃ v', MilAt h' k v') ∧ Kp k h h') := by
  refine Ms.of (by decide) (Nat.le_of_ble_eq_true rfl) (fun G C X F => ?_)
  have C : Cx G cX7_odds 2 RX7 := C
  show Rr G 0 [(0, vr 7 k), (1, vi m)] [] h
  have bP := hm.bP
  have bM := hm.bM
  have bN := hm.bN
  refine r_aload_n C (dx dX7_odds 0 rfl) rfl ?_
  refine r_iload_n C (dx dX7_odds 1 rfl) rfl ?_
  refine r_cvP (as := [vi m]) (st := []) (v := vi (b2i (inR m (vM v)))) C X I_X7_isMachine l_X7_241 (c_X7_isMachine hm _) (by decide) (Nat.le_of_ble_eq_true rfl) List.prefix_rfl rfl rfl (Nat.le_of_ble_eq_true rfl) rfl (dx dX7_odds 2 rfl) ?_
  refine rb_eq (b := inR m (vM v)) (tgt := 17) C (dx dX7_odds 3 rfl) (by decide) (fun c1 => ?_) (fun c1 => ?_)
  ·
    have c1 : (inR m (vM v)) = false := c1
    refine r_aload_n C (dx dX7_odds 9 rfl) rfl ?_
    refine r_bipush (v := -2) C (dx dX7_odds 10 rfl) rfl ?_
    refine r_cv (as := [vi (-2)]) (st := []) C X I_X7_refuse l_X7_83 (c_X7_refuse hm (x := -2) (j := 2) (by decide) (by decide)) (by decide) (Nat.le_of_ble_eq_true rfl) List.prefix_rfl List.prefix_rfl rfl rfl (Nat.le_of_ble_eq_true rfl) rfl (dx dX7_odds 11 rfl) ?_
    rintro _ h2 ⟨rfl, ⟨wh2, m9h2, s9h2⟩, qh2⟩ kkh2
    obtain ⟨vh2, mh2, zh2⟩ : ∃ v9, MilAt h2 k v9 ∧ Sz v v9 := ⟨_, m9h2, s9h2⟩
    have ph2 : Kp k h h2 := qh2
    have kh2 : xK h2 = xK h := kkh2
    obtain ⟨ah2, bh2, ch2⟩ := zh2
    refine r_i2l C (dx dX7_odds 12 rfl) ?_
    exact F.2.1 _ _ _ _ rfl (dx dX7_odds 13 rfl) kh2 ⟨⟨_, rfl⟩, ⟨_, mh2⟩, ph2⟩
  ·
    have c1 : (inR m (vM v)) = true := c1
    obtain ⟨μ, hμ, rfl⟩ := inR_ex (n := (vM v)) (by omega) c1
    refine r_aload_n C (dx dX7_odds 4 rfl) rfl ?_
    refine r_iload_n C (dx dX7_odds 5 rfl) rfl ?_
    refine r_iload_n C (dx dX7_odds 6 rfl) rfl ?_
    refine r_cvW (as := [vi (nI μ), vi (nI μ)]) (st := []) C X I_X7_sumOf l_X7_264 (c_X7_sumOf hm (m := μ) (n := μ) (by omega) (by omega)) (by decide) (Nat.le_of_ble_eq_true rfl) List.prefix_rfl rfl rfl (Nat.le_of_ble_eq_true rfl) rfl (dx dX7_odds 7 rfl) ?_
    rintro _ ⟨x3, rfl⟩
    refine r_goto (tgt := 24) C (dx dX7_odds 8 rfl) (by decide) ?_
    exact F.2.1 _ _ _ _ rfl (dx dX7_odds 13 rfl) rfl ⟨⟨_, rfl⟩, ⟨_, hm⟩, Kp.rf⟩
set_option maxHeartbeats 4000000 in
theorem c_X7_atOnce {l : Launch} {h : Hp} {k : Nat} {v : Vg} (hm : MilAt h k v) (m n : Int32) : Ms l yX7_atOnce cX7_atOnce 3 (some .long) 8 [vr 7 k, vi m, vi n] h (xK h) (fun r h' => PL r ∧ (∃ v', MilAt h' k v') ∧ Kp k h h') := by
  refine Ms.of (by decide) (Nat.le_of_ble_eq_true rfl) (fun G C X F => ?_)
  have C : Cx G cX7_atOnce 3 RX7 := C
  show Rr G 0 [(0, vr 7 k), (1, vi m), (2, vi n)] [] h
  have bP := hm.bP
  have bM := hm.bM
  have bN := hm.bN
  refine r_aload_n C (dx dX7_atOnce 0 rfl) rfl ?_
  refine r_iload_n C (dx dX7_atOnce 1 rfl) rfl ?_
  refine r_cvP (as := [vi m]) (st := []) (v := vi (b2i (inR m (vM v)))) C X I_X7_isMachine l_X7_241 (c_X7_isMachine hm _) (by decide) (Nat.le_of_ble_eq_true rfl) List.prefix_rfl rfl rfl (Nat.le_of_ble_eq_true rfl) rfl (dx dX7_atOnce 2 rfl) ?_
  refine rb_eq (b := inR m (vM v)) (tgt := 30) C (dx dX7_atOnce 3 rfl) (by decide) (fun c1 => ?_) (fun c1 => ?_)
  ·
    have c1 : (inR m (vM v)) = false := c1
    refine r_aload_n C (dx dX7_atOnce 16 rfl) rfl ?_
    refine r_bipush (v := -2) C (dx dX7_atOnce 17 rfl) rfl ?_
    refine r_cv (as := [vi (-2)]) (st := []) C X I_X7_refuse l_X7_83 (c_X7_refuse hm (x := -2) (j := 2) (by decide) (by decide)) (by decide) (Nat.le_of_ble_eq_true rfl) List.prefix_rfl List.prefix_rfl rfl rfl (Nat.le_of_ble_eq_true rfl) rfl (dx dX7_atOnce 18 rfl) ?_
    rintro _ h2 ⟨rfl, ⟨wh2, m9h2, s9h2⟩, qh2⟩ kkh2
    obtain ⟨vh2, mh2, zh2⟩ : ∃ v9, MilAt h2 k v9 ∧ Sz v v9 := ⟨_, m9h2, s9h2⟩
    have ph2 : Kp k h h2 := qh2
    have kh2 : xK h2 = xK h := kkh2
    obtain ⟨ah2, bh2, ch2⟩ := zh2
    refine r_i2l C (dx dX7_atOnce 19 rfl) ?_
    exact F.2.1 _ _ _ _ rfl (dx dX7_atOnce 20 rfl) kh2 ⟨⟨_, rfl⟩, ⟨_, mh2⟩, ph2⟩
  ·
    have c1 : (inR m (vM v)) = true := c1
    obtain ⟨μ, hμ, rfl⟩ := inR_ex (n := (vM v)) (by omega) c1
    refine r_aload_n C (dx dX7_atOnce 4 rfl) rfl ?_
    refine r_iload_n C (dx dX7_atOnce 5 rfl) rfl ?_
    refine r_cvP (as := [vi n]) (st := []) (v := vi (b2i (inR n (vM v)))) C X I_X7_isMachine l_X7_241 (c_X7_isMachine hm _) (by decide) (Nat.le_of_ble_eq_true rfl) List.prefix_rfl rfl rfl (Nat.le_of_ble_eq_true rfl) rfl (dx dX7_atOnce 6 rfl) ?_
    refine rb_eq (b := inR n (vM v)) (tgt := 30) C (dx dX7_atOnce 7 rfl) (by decide) (fun c3 => ?_) (fun c3 => ?_)
    ·
      have c3 : (inR n (vM v)) = false := c3
      refine r_aload_n C (dx dX7_atOnce 16 rfl) rfl ?_
      refine r_bipush (v := -2) C (dx dX7_atOnce 17 rfl) rfl ?_
      refine r_cv (as := [vi (-2)]) (st := []) C X I_X7_refuse l_X7_83 (c_X7_refuse hm (x := -2) (j := 2) (by decide) (by decide)) (by decide) (Nat.le_of_ble_eq_true rfl) List.prefix_rfl List.prefix_rfl rfl rfl (Nat.le_of_ble_eq_true rfl) rfl (dx dX7_atOnce 18 rfl) ?_
      rintro _ h4 ⟨rfl, ⟨wh4, m9h4, s9h4⟩, qh4⟩ kkh4
      obtain ⟨vh4, mh4, zh4⟩ : ∃ v9, MilAt h4 k v9 ∧ Sz v v9 := ⟨_, m9h4, s9h4⟩
      have ph4 : Kp k h h4 := qh4
      have kh4 : xK h4 = xK h := kkh4
      obtain ⟨ah4, bh4, ch4⟩ := zh4
      refine r_i2l C (dx dX7_atOnce 19 rfl) ?_
      exact F.2.1 _ _ _ _ rfl (dx dX7_atOnce 20 rfl) kh4 ⟨⟨_, rfl⟩, ⟨_, mh4⟩, ph4⟩
    ·
      have c3 : (inR n (vM v)) = true := c3
      obtain ⟨ν, hν, rfl⟩ := inR_ex (n := (vM v)) (by omega) c3
      refine r_iload_n C (dx dX7_atOnce 8 rfl) rfl ?_
      refine r_iload_n C (dx dX7_atOnce 9 rfl) rfl ?_
      refine rn_eq (a := μ) (b := ν) (tgt := 30) C (by omega) (by omega) (dx dX7_atOnce 10 rfl) (by decide) (fun c5 => ?_) (fun c5 => ?_)
      · first
        | (omega; done)
        | (
            have c5 : μ = ν := c5
            refine r_aload_n C (dx dX7_atOnce 16 rfl) rfl ?_
            refine r_bipush (v := -2) C (dx dX7_atOnce 17 rfl) rfl ?_
            refine r_cv (as := [vi (-2)]) (st := []) C X I_X7_refuse l_X7_83 (c_X7_refuse hm (x := -2) (j := 2) (by decide) (by decide)) (by decide) (Nat.le_of_ble_eq_true rfl) List.prefix_rfl List.prefix_rfl rfl rfl (Nat.le_of_ble_eq_true rfl) rfl (dx dX7_atOnce 18 rfl) ?_
            rintro _ h6 ⟨rfl, ⟨wh6, m9h6, s9h6⟩, qh6⟩ kkh6
            obtain ⟨vh6, mh6, zh6⟩ : ∃ v9, MilAt h6 k v9 ∧ Sz v v9 := ⟨_, m9h6, s9h6⟩
            have ph6 : Kp k h h6 := qh6
            have kh6 : xK h6 = xK h := kkh6
            obtain ⟨ah6, bh6, ch6⟩ := zh6
            refine r_i2l C (dx dX7_atOnce 19 rfl) ?_
            exact F.2.1 _ _ _ _ rfl (dx dX7_atOnce 20 rfl) kh6 ⟨⟨_, rfl⟩, ⟨_, mh6⟩, ph6⟩)
      · first
        | (omega; done)
        | (
            have c5 : ¬ μ = ν := c5
            refine r_aload_n C (dx dX7_atOnce 11 rfl) rfl ?_
            refine r_iload_n C (dx dX7_atOnce 12 rfl) rfl ?_
            refine r_iload_n C (dx dX7_atOnce 13 rfl) rfl ?_
            refine r_cvW (as := [vi (nI μ), vi (nI ν)]) (st := []) C X I_X7_sumOf l_X7_264 (c_X7_sumOf hm (m := μ) (n := ν) (by omega) (by omega)) (by decide) (Nat.le_of_ble_eq_true rfl) List.prefix_rfl rfl rfl (Nat.le_of_ble_eq_true rfl) rfl (dx dX7_atOnce 14 rfl) ?_
            rintro _ ⟨x7, rfl⟩
            refine r_goto (tgt := 37) C (dx dX7_atOnce 15 rfl) (by decide) ?_
            exact F.2.1 _ _ _ _ rfl (dx dX7_atOnce 20 rfl) rfl ⟨⟨_, rfl⟩, ⟨_, hm⟩, Kp.rf⟩)
set_option maxHeartbeats 4000000 in
theorem c_X7_power {l : Launch} {h : Hp} {k : Nat} {v : Vg} (hm : MilAt h k v) (m o1 : Int32) : Ms l yX7_power cX7_power 3 (some .int) 8 [vr 7 k, vi m, vi o1] h (xK h) (fun r h' => PI r ∧ (∃ v', MilAt h' k v') ∧ Kp k h h') := by
  refine Ms.of (by decide) (Nat.le_of_ble_eq_true rfl) (fun G C X F => ?_)
  have C : Cx G cX7_power 3 RX7 := C
  show Rr G 0 [(0, vr 7 k), (1, vi m), (2, vi o1)] [] h
  have bP := hm.bP
  have bM := hm.bM
  have bN := hm.bN
  refine r_aload_n C (dx dX7_power 0 rfl) rfl ?_
  refine r_iload_n C (dx dX7_power 1 rfl) rfl ?_
  refine r_cvP (as := [vi m]) (st := []) (v := vi (b2i (inR m (vM v)))) C X I_X7_isMachine l_X7_241 (c_X7_isMachine hm _) (by decide) (Nat.le_of_ble_eq_true rfl) List.prefix_rfl rfl rfl (Nat.le_of_ble_eq_true rfl) rfl (dx dX7_power 2 rfl) ?_
  refine rb_eq (b := inR m (vM v)) (tgt := 25) C (dx dX7_power 3 rfl) (by decide) (fun c1 => ?_) (fun c1 => ?_)
  ·
    have c1 : (inR m (vM v)) = false := c1
    refine r_aload_n C (dx dX7_power 13 rfl) rfl ?_
    refine r_bipush (v := -2) C (dx dX7_power 14 rfl) rfl ?_
    refine r_cv (as := [vi (-2)]) (st := []) C X I_X7_refuse l_X7_83 (c_X7_refuse hm (x := -2) (j := 2) (by decide) (by decide)) (by decide) (Nat.le_of_ble_eq_true rfl) List.prefix_rfl List.prefix_rfl rfl rfl (Nat.le_of_ble_eq_true rfl) rfl (dx dX7_power 15 rfl) ?_
    rintro _ h2 ⟨rfl, ⟨wh2, m9h2, s9h2⟩, qh2⟩ kkh2
    obtain ⟨vh2, mh2, zh2⟩ : ∃ v9, MilAt h2 k v9 ∧ Sz v v9 := ⟨_, m9h2, s9h2⟩
    have ph2 : Kp k h h2 := qh2
    have kh2 : xK h2 = xK h := kkh2
    obtain ⟨ah2, bh2, ch2⟩ := zh2
    exact F.1 _ _ _ _ .int rfl rfl (dx dX7_power 16 rfl) kh2 ⟨⟨_, rfl⟩, ⟨_, mh2⟩, ph2⟩
  ·
    have c1 : (inR m (vM v)) = true := c1
    obtain ⟨μ, hμ, rfl⟩ := inR_ex (n := (vM v)) (by omega) c1
    refine r_aload_n C (dx dX7_power 4 rfl) rfl ?_
    refine r_iload_n C (dx dX7_power 5 rfl) rfl ?_
    refine r_cvP (as := [vi o1]) (st := []) (v := vi (b2i (inR o1 (vN v)))) C X I_X7_isOne l_X7_125 (c_X7_isOne hm _) (by decide) (Nat.le_of_ble_eq_true rfl) List.prefix_rfl rfl rfl (Nat.le_of_ble_eq_true rfl) rfl (dx dX7_power 6 rfl) ?_
    refine rb_eq (b := inR o1 (vN v)) (tgt := 25) C (dx dX7_power 7 rfl) (by decide) (fun c3 => ?_) (fun c3 => ?_)
    ·
      have c3 : (inR o1 (vN v)) = false := c3
      refine r_aload_n C (dx dX7_power 13 rfl) rfl ?_
      refine r_bipush (v := -2) C (dx dX7_power 14 rfl) rfl ?_
      refine r_cv (as := [vi (-2)]) (st := []) C X I_X7_refuse l_X7_83 (c_X7_refuse hm (x := -2) (j := 2) (by decide) (by decide)) (by decide) (Nat.le_of_ble_eq_true rfl) List.prefix_rfl List.prefix_rfl rfl rfl (Nat.le_of_ble_eq_true rfl) rfl (dx dX7_power 15 rfl) ?_
      rintro _ h4 ⟨rfl, ⟨wh4, m9h4, s9h4⟩, qh4⟩ kkh4
      obtain ⟨vh4, mh4, zh4⟩ : ∃ v9, MilAt h4 k v9 ∧ Sz v v9 := ⟨_, m9h4, s9h4⟩
      have ph4 : Kp k h h4 := qh4
      have kh4 : xK h4 = xK h := kkh4
      obtain ⟨ah4, bh4, ch4⟩ := zh4
      exact F.1 _ _ _ _ .int rfl rfl (dx dX7_power 16 rfl) kh4 ⟨⟨_, rfl⟩, ⟨_, mh4⟩, ph4⟩
    ·
      have c3 : (inR o1 (vN v)) = true := c3
      obtain ⟨o19, ho19, rfl⟩ := inR_ex (n := (vN v)) (by omega) c3
      refine r_aload_n C (dx dX7_power 8 rfl) rfl ?_
      refine r_iload_n C (dx dX7_power 9 rfl) rfl ?_
      refine r_iload_n C (dx dX7_power 10 rfl) rfl ?_
      refine r_cvW (as := [vi (nI μ), vi (nI o19)]) (st := []) C X I_X7_powerOf l_X7_274 (c_X7_powerOf hm (m := μ) (o := o19) (by omega) (by omega)) (by decide) (Nat.le_of_ble_eq_true rfl) List.prefix_rfl rfl rfl (Nat.le_of_ble_eq_true rfl) rfl (dx dX7_power 11 rfl) ?_
      rintro _ ⟨x5, rfl⟩
      refine r_goto (tgt := 31) C (dx dX7_power 12 rfl) (by decide) ?_
      exact F.1 _ _ _ _ .int rfl rfl (dx dX7_power 16 rfl) rfl ⟨⟨_, rfl⟩, ⟨_, hm⟩, Kp.rf⟩
