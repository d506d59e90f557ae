section
/-! PART 09: the class of villages: what writes -/
set_option maxHeartbeats 4000000 in
theorem c_X5_addPart {l : Launch} {h : Hp} {k : Nat} {v : Vg} (hv : VilAt h k v) (hp : vP v < 12) : Mw l yX5_addPart cX5_addPart 1 (some .int) 1 [vr 5 k] h (some (vi (nI (vP v)))) k (addPartV v) := by
  refine Ms.of (by decide) (Nat.le_of_ble_eq_true rfl) (fun G C X F => ?_)
  have C : Cx G cX5_addPart 1 RX5 := C
  show Rr G 0 [(0, vr 5 k)] [] h
  have bP := hv.bP
  have bM := hv.bM
  have bN := hv.bN
  refine r_aload_n C (dx dX5_addPart 0 rfl) rfl ?_
  refine g_X5_9 (x := nI (vP v)) C (dx dX5_addPart 1 rfl) hv.eP ?_
  refine r_bipush (v := nI 12) C (dx dX5_addPart 2 rfl) rfl ?_
  refine rn_lt (a := vP v) (b := 12) (tgt := 11) C (by omega) (by omega) (dx dX5_addPart 3 rfl) (by decide) (fun c1 => ?_) (fun c1 => ?_)
  · first
    | (omega; done)
    | (
        have c1 : vP v < 12 := c1
        refine r_aload_n C (dx dX5_addPart 6 rfl) rfl ?_
        refine g_X5_15 C (dx dX5_addPart 7 rfl) ?_
        refine r_aload_n C (dx dX5_addPart 8 rfl) rfl ?_
        refine g_X5_9 (x := nI (vP v)) C (dx dX5_addPart 9 rfl) hv.eP ?_
        refine r_iconst (v := -1) C (dx dX5_addPart 10 rfl) rfl ?_
        refine r_iast (j := vP v) C rfl rfl (by decide) rfl (by omega) (dx dX5_addPart 11 rfl) ?_
        have wh2 : VilAt (sI h (k + 1) (vP v) (-1)) k (vset v 0 (vP v) (-1)) := hv.s0 (i := vP v) (x := -1)
        have fh2 : Fr k (k + 9) h (sI h (k + 1) (vP v) (-1)) := Fr.sI (by omega) (by omega)
        have kh2 : xK (sI h (k + 1) (vP v) (-1)) = xK h := rfl
        generalize sI h (k + 1) (vP v) (-1) = h2 at wh2 fh2 kh2 ⊢
        refine r_aload_n C (dx dX5_addPart 12 rfl) rfl ?_
        refine g_X5_19 C (dx dX5_addPart 13 rfl) ?_
        refine r_aload_n C (dx dX5_addPart 14 rfl) rfl ?_
        refine g_X5_9 (x := nI (vP v)) C (dx dX5_addPart 15 rfl) wh2.eP ?_
        refine r_iconst (v := -1) C (dx dX5_addPart 16 rfl) rfl ?_
        refine r_iast (j := vP v) C rfl rfl (by decide) rfl (by omega) (dx dX5_addPart 17 rfl) ?_
        have wh3 : VilAt (sI h2 (k + 2) (vP v) (-1)) k (vset (vset v 0 (vP v) (-1)) 1 (vP v) (-1)) := wh2.s1 (i := vP v) (x := -1)
        have fh3 : Fr k (k + 9) h (sI h2 (k + 2) (vP v) (-1)) := fh2.tr <| Fr.sI (by omega) (by omega)
        have kh3 : xK (sI h2 (k + 2) (vP v) (-1)) = xK h := kh2
        generalize sI h2 (k + 2) (vP v) (-1) = h3 at wh3 fh3 kh3 ⊢
        refine r_aload_n C (dx dX5_addPart 18 rfl) rfl ?_
        refine r_dupR C (dx dX5_addPart 19 rfl) ?_
        refine g_X5_9 (x := nI (vP v)) C (dx dX5_addPart 20 rfl) wh3.eP ?_
        refine r_iconst (v := nI 1) C (dx dX5_addPart 21 rfl) rfl ?_
        refine rn_iadd (a := vP v) (b := 1) C (dx dX5_addPart 22 rfl) ?_
        refine p_X5_9 C (dx dX5_addPart 23 rfl) rfl rfl ?_
        have wh4 : VilAt (sI h3 k 0 (nI (vP v + 1))) k (vsP (vset (vset v 0 (vP v) (-1)) 1 (vP v) (-1)) (vP v + 1)) := wh3.sP (n := vP v + 1) (by first | omega | (simp [vset]; omega))
        have fh4 : Fr k (k + 9) h (sI h3 k 0 (nI (vP v + 1))) := fh3.tr <| Fr.sI (by omega) (by omega)
        have kh4 : xK (sI h3 k 0 (nI (vP v + 1))) = xK h := kh3
        generalize sI h3 k 0 (nI (vP v + 1)) = h4 at wh4 fh4 kh4 ⊢
        refine r_aload_n C (dx dX5_addPart 24 rfl) rfl ?_
        refine g_X5_9 (x := nI (vP v + 1)) C (dx dX5_addPart 25 rfl) wh4.eP ?_
        refine r_iconst (v := nI 1) C (dx dX5_addPart 26 rfl) rfl ?_
        refine rn_isub (a := vP v + 1) (b := 1) C (by omega) (dx dX5_addPart 27 rfl) ?_
        exact F.1 _ _ _ _ _ rfl rfl (dx dX5_addPart 28 rfl) kh4 ⟨congrArg (fun x => some (vi x)) (show nI (vP v + 1 - 1) = nI (vP v) by simp), wh4, fh4⟩)
  · first
    | (omega; done)
    | (
        have c1 : 12 ≤ vP v := c1
        refine r_iconst (v := -1) C (dx dX5_addPart 4 rfl) rfl ?_
        exact F.1 _ _ _ _ _ rfl rfl (dx dX5_addPart 5 rfl) rfl ⟨congrArg (fun x => some (vi x)) (show -1 = nI (vP v) by simp), hv, Fr.rf⟩)
set_option maxHeartbeats 4000000 in
theorem c_X5_addPart_f {l : Launch} {h : Hp} {k : Nat} {v : Vg} (hv : VilAt h k v) (hp : ¬ vP v < 12) : Mp l yX5_addPart cX5_addPart 1 (some .int) 1 [vr 5 k] h (vi (-1)) := by
  refine Ms.of (by decide) (Nat.le_of_ble_eq_true rfl) (fun G C X F => ?_)
  have C : Cx G cX5_addPart 1 RX5 := C
  show Rr G 0 [(0, vr 5 k)] [] h
  have bP := hv.bP
  have bM := hv.bM
  have bN := hv.bN
  refine r_aload_n C (dx dX5_addPart 0 rfl) rfl ?_
  refine g_X5_9 (x := nI (vP v)) C (dx dX5_addPart 1 rfl) hv.eP ?_
  refine r_bipush (v := nI 12) C (dx dX5_addPart 2 rfl) rfl ?_
  refine rn_lt (a := vP v) (b := 12) (tgt := 11) C (by omega) (by omega) (dx dX5_addPart 3 rfl) (by decide) (fun c1 => ?_) (fun c1 => ?_)
  · first
    | (omega; done)
    | (
        have c1 : vP v < 12 := c1
        refine r_aload_n C (dx dX5_addPart 6 rfl) rfl ?_
        refine g_X5_15 C (dx dX5_addPart 7 rfl) ?_
        refine r_aload_n C (dx dX5_addPart 8 rfl) rfl ?_
        refine g_X5_9 (x := nI (vP v)) C (dx dX5_addPart 9 rfl) hv.eP ?_
        refine r_iconst (v := -1) C (dx dX5_addPart 10 rfl) rfl ?_
        refine r_iast (j := vP v) C rfl rfl (by decide) rfl (by omega) (dx dX5_addPart 11 rfl) ?_
        refine r_aload_n C (dx dX5_addPart 12 rfl) rfl ?_
        refine g_X5_19 C (dx dX5_addPart 13 rfl) ?_
        refine r_aload_n C (dx dX5_addPart 14 rfl) rfl ?_
        refine g_X5_9 (x := nI (vP v)) C (dx dX5_addPart 15 rfl) hv.eP ?_
        refine r_iconst (v := -1) C (dx dX5_addPart 16 rfl) rfl ?_
        refine r_iast (j := vP v) C rfl rfl (by decide) rfl (by omega) (dx dX5_addPart 17 rfl) ?_
        refine r_aload_n C (dx dX5_addPart 18 rfl) rfl ?_
        refine r_dupR C (dx dX5_addPart 19 rfl) ?_
        refine g_X5_9 (x := nI (vP v)) C (dx dX5_addPart 20 rfl) hv.eP ?_
        refine r_iconst (v := nI 1) C (dx dX5_addPart 21 rfl) rfl ?_
        refine rn_iadd (a := vP v) (b := 1) C (dx dX5_addPart 22 rfl) ?_
        refine p_X5_9 C (dx dX5_addPart 23 rfl) rfl rfl ?_
        refine r_aload_n C (dx dX5_addPart 24 rfl) rfl ?_
        refine g_X5_9 (x := nI (vP v)) C (dx dX5_addPart 25 rfl) hv.eP ?_
        refine r_iconst (v := nI 1) C (dx dX5_addPart 26 rfl) rfl ?_
        refine rn_isub (a := vP v) (b := 1) C (by omega) (dx dX5_addPart 27 rfl) ?_
        exact F.1 _ _ _ _ _ rfl rfl (dx dX5_addPart 28 rfl) rfl ⟨congrArg (fun x => some (vi x)) (show nI (vP v - 1) = -1 by rfl), rfl⟩)
  · first
    | (omega; done)
    | (
        have c1 : 12 ≤ vP v := c1
        refine r_iconst (v := -1) C (dx dX5_addPart 4 rfl) rfl ?_
        exact F.1 _ _ _ _ _ rfl rfl (dx dX5_addPart 5 rfl) rfl ⟨congrArg (fun x => some (vi x)) rfl, rfl⟩)
set_option maxHeartbeats 4000000 in
theorem c_X5_addMachine {l : Launch} {h : Hp} {k : Nat} {v : Vg} (hv : VilAt h k v) (x w : Int32) (hp : vM v < 6) : Mw l yX5_addMachine cX5_addMachine 3 (some .int) 1 [vr 5 k, vi x, vi w] h (some (vi (nI (vM v)))) k (addMacV v x w) := by
  refine Ms.of (by decide) (Nat.le_of_ble_eq_true rfl) (fun G C X F => ?_)
  have C : Cx G cX5_addMachine 3 RX5 := C
  show Rr G 0 [(0, vr 5 k), (1, vi x), (2, vi w)] [] h
  have bP := hv.bP
  have bM := hv.bM
  have bN := hv.bN
  refine r_aload_n C (dx dX5_addMachine 0 rfl) rfl ?_
  refine g_X5_22 (x := nI (vM v)) C (dx dX5_addMachine 1 rfl) hv.eM ?_
  refine r_bipush (v := nI 6) C (dx dX5_addMachine 2 rfl) rfl ?_
  refine rn_lt (a := vM v) (b := 6) (tgt := 11) C (by omega) (by omega) (dx dX5_addMachine 3 rfl) (by decide) (fun c1 => ?_) (fun c1 => ?_)
  · first
    | (omega; done)
    | (
        have c1 : vM v < 6 := c1
        refine r_aload_n C (dx dX5_addMachine 6 rfl) rfl ?_
        refine g_X5_25 C (dx dX5_addMachine 7 rfl) ?_
        refine r_aload_n C (dx dX5_addMachine 8 rfl) rfl ?_
        refine g_X5_22 (x := nI (vM v)) C (dx dX5_addMachine 9 rfl) hv.eM ?_
        refine r_iload_n C (dx dX5_addMachine 10 rfl) rfl ?_
        refine r_iast (j := vM v) C rfl rfl (by decide) rfl (by omega) (dx dX5_addMachine 11 rfl) ?_
        have wh2 : VilAt (sI h (k + 3) (vM v) x) k (vset v 2 (vM v) x) := hv.s2 (i := vM v) (x := x)
        have fh2 : Fr k (k + 9) h (sI h (k + 3) (vM v) x) := Fr.sI (by omega) (by omega)
        have kh2 : xK (sI h (k + 3) (vM v) x) = xK h := rfl
        generalize sI h (k + 3) (vM v) x = h2 at wh2 fh2 kh2 ⊢
        refine r_aload_n C (dx dX5_addMachine 12 rfl) rfl ?_
        refine g_X5_28 C (dx dX5_addMachine 13 rfl) ?_
        refine r_aload_n C (dx dX5_addMachine 14 rfl) rfl ?_
        refine g_X5_22 (x := nI (vM v)) C (dx dX5_addMachine 15 rfl) wh2.eM ?_
        refine r_iload_n C (dx dX5_addMachine 16 rfl) rfl ?_
        refine r_iast (j := vM v) C rfl rfl (by decide) rfl (by omega) (dx dX5_addMachine 17 rfl) ?_
        have wh3 : VilAt (sI h2 (k + 4) (vM v) w) k (vset (vset v 2 (vM v) x) 3 (vM v) w) := wh2.s3 (i := vM v) (x := w)
        have fh3 : Fr k (k + 9) h (sI h2 (k + 4) (vM v) w) := fh2.tr <| Fr.sI (by omega) (by omega)
        have kh3 : xK (sI h2 (k + 4) (vM v) w) = xK h := kh2
        generalize sI h2 (k + 4) (vM v) w = h3 at wh3 fh3 kh3 ⊢
        refine r_aload_n C (dx dX5_addMachine 18 rfl) rfl ?_
        refine r_dupR C (dx dX5_addMachine 19 rfl) ?_
        refine g_X5_22 (x := nI (vM v)) C (dx dX5_addMachine 20 rfl) wh3.eM ?_
        refine r_iconst (v := nI 1) C (dx dX5_addMachine 21 rfl) rfl ?_
        refine rn_iadd (a := vM v) (b := 1) C (dx dX5_addMachine 22 rfl) ?_
        refine p_X5_22 C (dx dX5_addMachine 23 rfl) rfl rfl ?_
        have wh4 : VilAt (sI h3 k 3 (nI (vM v + 1))) k (vsM (vset (vset v 2 (vM v) x) 3 (vM v) w) (vM v + 1)) := wh3.sM (n := vM v + 1) (by first | omega | (simp [vset]; omega))
        have fh4 : Fr k (k + 9) h (sI h3 k 3 (nI (vM v + 1))) := fh3.tr <| Fr.sI (by omega) (by omega)
        have kh4 : xK (sI h3 k 3 (nI (vM v + 1))) = xK h := kh3
        generalize sI h3 k 3 (nI (vM v + 1)) = h4 at wh4 fh4 kh4 ⊢
        refine r_aload_n C (dx dX5_addMachine 24 rfl) rfl ?_
        refine g_X5_22 (x := nI (vM v + 1)) C (dx dX5_addMachine 25 rfl) wh4.eM ?_
        refine r_iconst (v := nI 1) C (dx dX5_addMachine 26 rfl) rfl ?_
        refine rn_isub (a := vM v + 1) (b := 1) C (by omega) (dx dX5_addMachine 27 rfl) ?_
        exact F.1 _ _ _ _ _ rfl rfl (dx dX5_addMachine 28 rfl) kh4 ⟨congrArg (fun x => some (vi x)) (show nI (vM v + 1 - 1) = nI (vM v) by simp), wh4, fh4⟩)
  · first
    | (omega; done)
    | (
        have c1 : 6 ≤ vM v := c1
        refine r_iconst (v := -1) C (dx dX5_addMachine 4 rfl) rfl ?_
        exact F.1 _ _ _ _ _ rfl rfl (dx dX5_addMachine 5 rfl) rfl ⟨congrArg (fun x => some (vi x)) (show -1 = nI (vM v) by simp), hv, Fr.rf⟩)
set_option maxHeartbeats 4000000 in
theorem c_X5_addOne {l : Launch} {h : Hp} {k : Nat} {v : Vg} (hv : VilAt h k v) (x w : Int32) (hp : vN v < 8) : Mw l yX5_addOne cX5_addOne 3 (some .int) 1 [vr 5 k, vi x, vi w] h (some (vi (nI (vN v)))) k (addOneV v x w) := by
  refine Ms.of (by decide) (Nat.le_of_ble_eq_true rfl) (fun G C X F => ?_)
  have C : Cx G cX5_addOne 3 RX5 := C
  show Rr G 0 [(0, vr 5 k), (1, vi x), (2, vi w)] [] h
  have bP := hv.bP
  have bM := hv.bM
  have bN := hv.bN
  refine r_aload_n C (dx dX5_addOne 0 rfl) rfl ?_
  refine g_X5_31 (x := nI (vN v)) C (dx dX5_addOne 1 rfl) hv.eN ?_
  refine r_bipush (v := nI 8) C (dx dX5_addOne 2 rfl) rfl ?_
  refine rn_lt (a := vN v) (b := 8) (tgt := 11) C (by omega) (by omega) (dx dX5_addOne 3 rfl) (by decide) (fun c1 => ?_) (fun c1 => ?_)
  · first
    | (omega; done)
    | (
        have c1 : vN v < 8 := c1
        refine r_aload_n C (dx dX5_addOne 6 rfl) rfl ?_
        refine g_X5_34 C (dx dX5_addOne 7 rfl) ?_
        refine r_aload_n C (dx dX5_addOne 8 rfl) rfl ?_
        refine g_X5_31 (x := nI (vN v)) C (dx dX5_addOne 9 rfl) hv.eN ?_
        refine r_iload_n C (dx dX5_addOne 10 rfl) rfl ?_
        refine r_iast (j := vN v) C rfl rfl (by decide) rfl (by omega) (dx dX5_addOne 11 rfl) ?_
        have wh2 : VilAt (sI h (k + 5) (vN v) x) k (vset v 4 (vN v) x) := hv.s4 (i := vN v) (x := x)
        have fh2 : Fr k (k + 9) h (sI h (k + 5) (vN v) x) := Fr.sI (by omega) (by omega)
        have kh2 : xK (sI h (k + 5) (vN v) x) = xK h := rfl
        generalize sI h (k + 5) (vN v) x = h2 at wh2 fh2 kh2 ⊢
        refine r_aload_n C (dx dX5_addOne 12 rfl) rfl ?_
        refine g_X5_37 C (dx dX5_addOne 13 rfl) ?_
        refine r_aload_n C (dx dX5_addOne 14 rfl) rfl ?_
        refine g_X5_31 (x := nI (vN v)) C (dx dX5_addOne 15 rfl) wh2.eN ?_
        refine r_iload_n C (dx dX5_addOne 16 rfl) rfl ?_
        refine r_iast (j := vN v) C rfl rfl (by decide) rfl (by omega) (dx dX5_addOne 17 rfl) ?_
        have wh3 : VilAt (sI h2 (k + 6) (vN v) w) k (vset (vset v 4 (vN v) x) 5 (vN v) w) := wh2.s5 (i := vN v) (x := w)
        have fh3 : Fr k (k + 9) h (sI h2 (k + 6) (vN v) w) := fh2.tr <| Fr.sI (by omega) (by omega)
        have kh3 : xK (sI h2 (k + 6) (vN v) w) = xK h := kh2
        generalize sI h2 (k + 6) (vN v) w = h3 at wh3 fh3 kh3 ⊢
        refine r_aload_n C (dx dX5_addOne 18 rfl) rfl ?_
        refine g_X5_40 C (dx dX5_addOne 19 rfl) ?_
        refine r_aload_n C (dx dX5_addOne 20 rfl) rfl ?_
        refine g_X5_31 (x := nI (vN v)) C (dx dX5_addOne 21 rfl) wh3.eN ?_
        refine r_iconst (v := nI 0) C (dx dX5_addOne 22 rfl) rfl ?_
        refine r_zast (j := vN v) C rfl rfl (by decide) rfl (by omega) (dx dX5_addOne 23 rfl) ?_
        have wh4 : VilAt (sI h3 (k + 7) (vN v) (vp_nar .boolean (nI 0))) k (vset (vset (vset v 4 (vN v) x) 5 (vN v) w) 6 (vN v) (vp_nar .boolean (nI 0))) := wh3.s6 (i := vN v) (x := vp_nar .boolean (nI 0)) rfl
        have fh4 : Fr k (k + 9) h (sI h3 (k + 7) (vN v) (vp_nar .boolean (nI 0))) := fh3.tr <| Fr.sI (by omega) (by omega)
        have kh4 : xK (sI h3 (k + 7) (vN v) (vp_nar .boolean (nI 0))) = xK h := kh3
        generalize sI h3 (k + 7) (vN v) (vp_nar .boolean (nI 0)) = h4 at wh4 fh4 kh4 ⊢
        refine r_aload_n C (dx dX5_addOne 24 rfl) rfl ?_
        refine g_X5_44 C (dx dX5_addOne 25 rfl) ?_
        refine r_aload_n C (dx dX5_addOne 26 rfl) rfl ?_
        refine g_X5_31 (x := nI (vN v)) C (dx dX5_addOne 27 rfl) wh4.eN ?_
        refine r_iconst (v := nI 0) C (dx dX5_addOne 28 rfl) rfl ?_
        refine r_iast (j := vN v) C rfl rfl (by decide) rfl (by omega) (dx dX5_addOne 29 rfl) ?_
        have wh5 : VilAt (sI h4 (k + 8) (vN v) (nI 0)) k (vset (vset (vset (vset v 4 (vN v) x) 5 (vN v) w) 6 (vN v) (vp_nar .boolean (nI 0))) 7 (vN v) (nI 0)) := wh4.s7 (i := vN v) (x := nI 0)
        have fh5 : Fr k (k + 9) h (sI h4 (k + 8) (vN v) (nI 0)) := fh4.tr <| Fr.sI (by omega) (by omega)
        have kh5 : xK (sI h4 (k + 8) (vN v) (nI 0)) = xK h := kh4
        generalize sI h4 (k + 8) (vN v) (nI 0) = h5 at wh5 fh5 kh5 ⊢
        refine r_aload_n C (dx dX5_addOne 30 rfl) rfl ?_
        refine r_dupR C (dx dX5_addOne 31 rfl) ?_
        refine g_X5_31 (x := nI (vN v)) C (dx dX5_addOne 32 rfl) wh5.eN ?_
        refine r_iconst (v := nI 1) C (dx dX5_addOne 33 rfl) rfl ?_
        refine rn_iadd (a := vN v) (b := 1) C (dx dX5_addOne 34 rfl) ?_
        refine p_X5_31 C (dx dX5_addOne 35 rfl) rfl rfl ?_
        have wh6 : VilAt (sI h5 k 6 (nI (vN v + 1))) k (vsN (vset (vset (vset (vset v 4 (vN v) x) 5 (vN v) w) 6 (vN v) (vp_nar .boolean (nI 0))) 7 (vN v) (nI 0)) (vN v + 1)) := wh5.sN (n := vN v + 1) (by first | omega | (simp [vset]; omega))
        have fh6 : Fr k (k + 9) h (sI h5 k 6 (nI (vN v + 1))) := fh5.tr <| Fr.sI (by omega) (by omega)
        have kh6 : xK (sI h5 k 6 (nI (vN v + 1))) = xK h := kh5
        generalize sI h5 k 6 (nI (vN v + 1)) = h6 at wh6 fh6 kh6 ⊢
        refine r_aload_n C (dx dX5_addOne 36 rfl) rfl ?_
        refine g_X5_31 (x := nI (vN v + 1)) C (dx dX5_addOne 37 rfl) wh6.eN ?_
        refine r_iconst (v := nI 1) C (dx dX5_addOne 38 rfl) rfl ?_
        refine rn_isub (a := vN v + 1) (b := 1) C (by omega) (dx dX5_addOne 39 rfl) ?_
        exact F.1 _ _ _ _ _ rfl rfl (dx dX5_addOne 40 rfl) kh6 ⟨congrArg (fun x => some (vi x)) (show nI (vN v + 1 - 1) = nI (vN v) by simp), wh6, fh6⟩)
  · first
    | (omega; done)
    | (
        have c1 : 8 ≤ vN v := c1
        refine r_iconst (v := -1) C (dx dX5_addOne 4 rfl) rfl ?_
        exact F.1 _ _ _ _ _ rfl rfl (dx dX5_addOne 5 rfl) rfl ⟨congrArg (fun x => some (vi x)) (show -1 = nI (vN v) by simp), hv, Fr.rf⟩)
set_option maxHeartbeats 4000000 in
theorem c_X5_handOver {l : Launch} {h : Hp} {k : Nat} {v : Vg} (hv : VilAt h k v) (a b : Int32) : Mw l yX5_handOver cX5_handOver 4 none 1 [vr 5 k, vi a, vi b] h none k (handV v a b (vP v)) := by
  refine Ms.of (by decide) (Nat.le_of_ble_eq_true rfl) (fun G C X F => ?_)
  have C : Cx G cX5_handOver 4 RX5 := C
  show Rr G 0 [(0, vr 5 k), (1, vi a), (2, vi b)] [] h
  have bP := hv.bP
  have bM := hv.bM
  have bN := hv.bN
  refine r_iconst (v := nI 0) C (dx dX5_handOver 0 rfl) rfl ?_
  refine r_istore_n (ls' := [(0, vr 5 k), (1, vi a), (2, vi b), (3, vi (nI 0))]) C (dx dX5_handOver 1 rfl) (by decide) [1, 2, 3, 0] rfl ?_
  refine loopU (Φ := fun p => ∀ h9, VilAt h9 k (handV v a b p) → Fr k (k + 9) h h9 → xK h9 = xK h → Rr G 2 [(0, vr 5 k), (1, vi a), (2, vi b), (3, vi (nI p))] [] h9) (N := vP v) ?_ ?_ 0 (Nat.zero_le _) _ hv Fr.rf rfl
  ·
    intro  h2 wh2 fh2 kh2
    refine r_iload_n C (dx dX5_handOver 2 rfl) rfl ?_
    refine r_aload_n C (dx dX5_handOver 3 rfl) rfl ?_
    refine g_X5_9 (x := nI (vP v)) C (dx dX5_handOver 4 rfl) wh2.eP ?_
    refine rn_ge (a := vP v) (b := vP v) (tgt := 50) C (by omega) (by omega) (dx dX5_handOver 5 rfl) (by decide) (fun c3 => ?_) (fun c3 => ?_)
    · first
      | (omega; done)
      | (
          have c3 : vP v ≤ vP v := c3
          exact F.2.2.1 _ _ _ rfl (dx dX5_handOver 30 rfl) kh2 ⟨rfl, wh2, fh2⟩)
    · first
      | (omega; done)
      | (
          have c3 : vP v < vP v := c3
          refine r_aload_n C (dx dX5_handOver 6 rfl) rfl ?_
          refine g_X5_15 C (dx dX5_handOver 7 rfl) ?_
          refine r_iload_n C (dx dX5_handOver 8 rfl) rfl ?_
          refine r_iald (j := vP v) (x := vF (handV v a b (vP v)) 0 (vP v)) C rfl rfl (by decide) rfl (by omega) (dx dX5_handOver 9 rfl) (wh2.e0 (by omega)) ?_
          refine r_iload_n C (dx dX5_handOver 10 rfl) rfl ?_
          refine r_icmp_ne (tgt := 27) C (dx dX5_handOver 11 rfl) (by decide) (fun c4 => ?_) (fun c4 => ?_)
          ·
            have c4 : ¬ vF (handV v a b (vP v)) 0 (vP v) = a := c4
            refine r_aload_n C (dx dX5_handOver 17 rfl) rfl ?_
            refine g_X5_19 C (dx dX5_handOver 18 rfl) ?_
            refine r_iload_n C (dx dX5_handOver 19 rfl) rfl ?_
            refine r_iald (j := vP v) (x := vF (handV v a b (vP v)) 1 (vP v)) C rfl rfl (by decide) rfl (by omega) (dx dX5_handOver 20 rfl) (wh2.e1 (by omega)) ?_
            refine r_iload_n C (dx dX5_handOver 21 rfl) rfl ?_
            refine r_icmp_ne (tgt := 44) C (dx dX5_handOver 22 rfl) (by decide) (fun c5 => ?_) (fun c5 => ?_)
            ·
              have c5 : ¬ vF (handV v a b (vP v)) 1 (vP v) = a := c5
              refine rn_iinc (a := vP v) (k := 1) (ls' := [(0, vr 5 k), (1, vi a), (2, vi b), (3, vi (nI (vP v + 1)))]) C (dx dX5_handOver 28 rfl) rfl rfl (by decide) [1, 2, 3, 0] rfl ?_
              refine r_goto (tgt := 2) C (dx dX5_handOver 29 rfl) (by decide) ?_
              have e9 : handV v a b (vP v) = handV v a b (vP v + 1) := by rw [handV_s]; simp only [c4, if_true, if_false]; first | exact (if_pos c5).symm | exact (if_neg c5).symm | rfl
              rw [e9] at wh2
              exact ih _ wh2 fh2 kh2
            ·
              have c5 : vF (handV v a b (vP v)) 1 (vP v) = a := c5
              refine r_aload_n C (dx dX5_handOver 23 rfl) rfl ?_
              refine g_X5_19 C (dx dX5_handOver 24 rfl) ?_
              refine r_iload_n C (dx dX5_handOver 25 rfl) rfl ?_
              refine r_iload_n C (dx dX5_handOver 26 rfl) rfl ?_
              refine r_iast (j := vP v) C rfl rfl (by decide) rfl (by omega) (dx dX5_handOver 27 rfl) ?_
              have wh6 : VilAt (sI h2 (k + 2) (vP v) b) k (vset (handV v a b (vP v)) 1 (vP v) b) := wh2.s1 (i := vP v) (x := b)
              have fh6 : Fr k (k + 9) h (sI h2 (k + 2) (vP v) b) := fh2.tr <| Fr.sI (by omega) (by omega)
              have kh6 : xK (sI h2 (k + 2) (vP v) b) = xK h := kh2
              generalize sI h2 (k + 2) (vP v) b = h6 at wh6 fh6 kh6 ⊢
              refine rn_iinc (a := vP v) (k := 1) (ls' := [(0, vr 5 k), (1, vi a), (2, vi b), (3, vi (nI (vP v + 1)))]) C (dx dX5_handOver 28 rfl) rfl rfl (by decide) [1, 2, 3, 0] rfl ?_
              refine r_goto (tgt := 2) C (dx dX5_handOver 29 rfl) (by decide) ?_
              have e9 : vset (handV v a b (vP v)) 1 (vP v) b = handV v a b (vP v + 1) := by rw [handV_s]; simp only [c4, if_true, if_false]; first | exact (if_pos c5).symm | exact (if_neg c5).symm | rfl
              rw [e9] at wh6
              exact ih _ wh6 fh6 kh6
          ·
            have c4 : vF (handV v a b (vP v)) 0 (vP v) = a := c4
            refine r_aload_n C (dx dX5_handOver 12 rfl) rfl ?_
            refine g_X5_15 C (dx dX5_handOver 13 rfl) ?_
            refine r_iload_n C (dx dX5_handOver 14 rfl) rfl ?_
            refine r_iload_n C (dx dX5_handOver 15 rfl) rfl ?_
            refine r_iast (j := vP v) C rfl rfl (by decide) rfl (by omega) (dx dX5_handOver 16 rfl) ?_
            have wh7 : VilAt (sI h2 (k + 1) (vP v) b) k (vset (handV v a b (vP v)) 0 (vP v) b) := wh2.s0 (i := vP v) (x := b)
            have fh7 : Fr k (k + 9) h (sI h2 (k + 1) (vP v) b) := fh2.tr <| Fr.sI (by omega) (by omega)
            have kh7 : xK (sI h2 (k + 1) (vP v) b) = xK h := kh2
            generalize sI h2 (k + 1) (vP v) b = h7 at wh7 fh7 kh7 ⊢
            refine r_aload_n C (dx dX5_handOver 17 rfl) rfl ?_
            refine g_X5_19 C (dx dX5_handOver 18 rfl) ?_
            refine r_iload_n C (dx dX5_handOver 19 rfl) rfl ?_
            refine r_iald (j := vP v) (x := vF (handV v a b (vP v)) 1 (vP v)) C rfl rfl (by decide) rfl (by omega) (dx dX5_handOver 20 rfl) (wh7.e1 (by omega)) ?_
            refine r_iload_n C (dx dX5_handOver 21 rfl) rfl ?_
            refine r_icmp_ne (tgt := 44) C (dx dX5_handOver 22 rfl) (by decide) (fun c8 => ?_) (fun c8 => ?_)
            ·
              have c8 : ¬ vF (handV v a b (vP v)) 1 (vP v) = a := c8
              refine rn_iinc (a := vP v) (k := 1) (ls' := [(0, vr 5 k), (1, vi a), (2, vi b), (3, vi (nI (vP v + 1)))]) C (dx dX5_handOver 28 rfl) rfl rfl (by decide) [1, 2, 3, 0] rfl ?_
              refine r_goto (tgt := 2) C (dx dX5_handOver 29 rfl) (by decide) ?_
              have e9 : vset (handV v a b (vP v)) 0 (vP v) b = handV v a b (vP v + 1) := by rw [handV_s]; simp only [c4, if_true, if_false]; first | exact (if_pos c8).symm | exact (if_neg c8).symm | rfl
              rw [e9] at wh7
              exact ih _ wh7 fh7 kh7
            ·
              have c8 : vF (handV v a b (vP v)) 1 (vP v) = a := c8
              refine r_aload_n C (dx dX5_handOver 23 rfl) rfl ?_
              refine g_X5_19 C (dx dX5_handOver 24 rfl) ?_
              refine r_iload_n C (dx dX5_handOver 25 rfl) rfl ?_
              refine r_iload_n C (dx dX5_handOver 26 rfl) rfl ?_
              refine r_iast (j := vP v) C rfl rfl (by decide) rfl (by omega) (dx dX5_handOver 27 rfl) ?_
              have wh9 : VilAt (sI h7 (k + 2) (vP v) b) k (vset (vset (handV v a b (vP v)) 0 (vP v) b) 1 (vP v) b) := wh7.s1 (i := vP v) (x := b)
              have fh9 : Fr k (k + 9) h (sI h7 (k + 2) (vP v) b) := fh7.tr <| Fr.sI (by omega) (by omega)
              have kh9 : xK (sI h7 (k + 2) (vP v) b) = xK h := kh7
              generalize sI h7 (k + 2) (vP v) b = h9 at wh9 fh9 kh9 ⊢
              refine rn_iinc (a := vP v) (k := 1) (ls' := [(0, vr 5 k), (1, vi a), (2, vi b), (3, vi (nI (vP v + 1)))]) C (dx dX5_handOver 28 rfl) rfl rfl (by decide) [1, 2, 3, 0] rfl ?_
              refine r_goto (tgt := 2) C (dx dX5_handOver 29 rfl) (by decide) ?_
              have e9 : vset (vset (handV v a b (vP v)) 0 (vP v) b) 1 (vP v) b = handV v a b (vP v + 1) := by rw [handV_s]; simp only [c4, if_true, if_false]; first | exact (if_pos c8).symm | exact (if_neg c8).symm | rfl
              rw [e9] at wh9
              exact ih _ wh9 fh9 kh9)
  ·
    intro p hp ih h10 wh10 fh10 kh10
    refine r_iload_n C (dx dX5_handOver 2 rfl) rfl ?_
    refine r_aload_n C (dx dX5_handOver 3 rfl) rfl ?_
    refine g_X5_9 (x := nI (vP v)) C (dx dX5_handOver 4 rfl) wh10.eP ?_
    refine rn_ge (a := p) (b := vP v) (tgt := 50) C (by omega) (by omega) (dx dX5_handOver 5 rfl) (by decide) (fun c11 => ?_) (fun c11 => ?_)
    · first
      | (omega; done)
      | (
          have c11 : vP v ≤ p := c11
          exact F.2.2.1 _ _ _ rfl (dx dX5_handOver 30 rfl) kh10 ⟨rfl, wh10, fh10⟩)
    · first
      | (omega; done)
      | (
          have c11 : p < vP v := c11
          refine r_aload_n C (dx dX5_handOver 6 rfl) rfl ?_
          refine g_X5_15 C (dx dX5_handOver 7 rfl) ?_
          refine r_iload_n C (dx dX5_handOver 8 rfl) rfl ?_
          refine r_iald (j := p) (x := vF (handV v a b p) 0 p) C rfl rfl (by decide) rfl (by omega) (dx dX5_handOver 9 rfl) (wh10.e0 (by omega)) ?_
          refine r_iload_n C (dx dX5_handOver 10 rfl) rfl ?_
          refine r_icmp_ne (tgt := 27) C (dx dX5_handOver 11 rfl) (by decide) (fun c12 => ?_) (fun c12 => ?_)
          ·
            have c12 : ¬ vF (handV v a b p) 0 p = a := c12
            refine r_aload_n C (dx dX5_handOver 17 rfl) rfl ?_
            refine g_X5_19 C (dx dX5_handOver 18 rfl) ?_
            refine r_iload_n C (dx dX5_handOver 19 rfl) rfl ?_
            refine r_iald (j := p) (x := vF (handV v a b p) 1 p) C rfl rfl (by decide) rfl (by omega) (dx dX5_handOver 20 rfl) (wh10.e1 (by omega)) ?_
            refine r_iload_n C (dx dX5_handOver 21 rfl) rfl ?_
            refine r_icmp_ne (tgt := 44) C (dx dX5_handOver 22 rfl) (by decide) (fun c13 => ?_) (fun c13 => ?_)
            ·
              have c13 : ¬ vF (handV v a b p) 1 p = a := c13
              refine rn_iinc (a := p) (k := 1) (ls' := [(0, vr 5 k), (1, vi a), (2, vi b), (3, vi (nI (p + 1)))]) C (dx dX5_handOver 28 rfl) rfl rfl (by decide) [1, 2, 3, 0] rfl ?_
              refine r_goto (tgt := 2) C (dx dX5_handOver 29 rfl) (by decide) ?_
              have e9 : handV v a b p = handV v a b (p + 1) := by rw [handV_s]; simp only [c12, if_true, if_false]; first | exact (if_pos c13).symm | exact (if_neg c13).symm | rfl
              rw [e9] at wh10
              exact ih _ wh10 fh10 kh10
            ·
              have c13 : vF (handV v a b p) 1 p = a := c13
              refine r_aload_n C (dx dX5_handOver 23 rfl) rfl ?_
              refine g_X5_19 C (dx dX5_handOver 24 rfl) ?_
              refine r_iload_n C (dx dX5_handOver 25 rfl) rfl ?_
              refine r_iload_n C (dx dX5_handOver 26 rfl) rfl ?_
              refine r_iast (j := p) C rfl rfl (by decide) rfl (by omega) (dx dX5_handOver 27 rfl) ?_
              have wh14 : VilAt (sI h10 (k + 2) p b) k (vset (handV v a b p) 1 p b) := wh10.s1 (i := p) (x := b)
              have fh14 : Fr k (k + 9) h (sI h10 (k + 2) p b) := fh10.tr <| Fr.sI (by omega) (by omega)
              have kh14 : xK (sI h10 (k + 2) p b) = xK h := kh10
              generalize sI h10 (k + 2) p b = h14 at wh14 fh14 kh14 ⊢
              refine rn_iinc (a := p) (k := 1) (ls' := [(0, vr 5 k), (1, vi a), (2, vi b), (3, vi (nI (p + 1)))]) C (dx dX5_handOver 28 rfl) rfl rfl (by decide) [1, 2, 3, 0] rfl ?_
              refine r_goto (tgt := 2) C (dx dX5_handOver 29 rfl) (by decide) ?_
              have e9 : vset (handV v a b p) 1 p b = handV v a b (p + 1) := by rw [handV_s]; simp only [c12, if_true, if_false]; first | exact (if_pos c13).symm | exact (if_neg c13).symm | rfl
              rw [e9] at wh14
              exact ih _ wh14 fh14 kh14
          ·
            have c12 : vF (handV v a b p) 0 p = a := c12
            refine r_aload_n C (dx dX5_handOver 12 rfl) rfl ?_
            refine g_X5_15 C (dx dX5_handOver 13 rfl) ?_
            refine r_iload_n C (dx dX5_handOver 14 rfl) rfl ?_
            refine r_iload_n C (dx dX5_handOver 15 rfl) rfl ?_
            refine r_iast (j := p) C rfl rfl (by decide) rfl (by omega) (dx dX5_handOver 16 rfl) ?_
            have wh15 : VilAt (sI h10 (k + 1) p b) k (vset (handV v a b p) 0 p b) := wh10.s0 (i := p) (x := b)
            have fh15 : Fr k (k + 9) h (sI h10 (k + 1) p b) := fh10.tr <| Fr.sI (by omega) (by omega)
            have kh15 : xK (sI h10 (k + 1) p b) = xK h := kh10
            generalize sI h10 (k + 1) p b = h15 at wh15 fh15 kh15 ⊢
            refine r_aload_n C (dx dX5_handOver 17 rfl) rfl ?_
            refine g_X5_19 C (dx dX5_handOver 18 rfl) ?_
            refine r_iload_n C (dx dX5_handOver 19 rfl) rfl ?_
            refine r_iald (j := p) (x := vF (handV v a b p) 1 p) C rfl rfl (by decide) rfl (by omega) (dx dX5_handOver 20 rfl) (wh15.e1 (by omega)) ?_
            refine r_iload_n C (dx dX5_handOver 21 rfl) rfl ?_
            refine r_icmp_ne (tgt := 44) C (dx dX5_handOver 22 rfl) (by decide) (fun c16 => ?_) (fun c16 => ?_)
            ·
              have c16 : ¬ vF (handV v a b p) 1 p = a := c16
              refine rn_iinc (a := p) (k := 1) (ls' := [(0, vr 5 k), (1, vi a), (2, vi b), (3, vi (nI (p + 1)))]) C (dx dX5_handOver 28 rfl) rfl rfl (by decide) [1, 2, 3, 0] rfl ?_
              refine r_goto (tgt := 2) C (dx dX5_handOver 29 rfl) (by decide) ?_
              have e9 : vset (handV v a b p) 0 p b = handV v a b (p + 1) := by rw [handV_s]; simp only [c12, if_true, if_false]; first | exact (if_pos c16).symm | exact (if_neg c16).symm | rfl
              rw [e9] at wh15
              exact ih _ wh15 fh15 kh15
            ·
              have c16 : vF (handV v a b p) 1 p = a := c16
              refine r_aload_n C (dx dX5_handOver 23 rfl) rfl ?_
              refine g_X5_19 C (dx dX5_handOver 24 rfl) ?_
              refine r_iload_n C (dx dX5_handOver 25 rfl) rfl ?_
              refine r_iload_n C (dx dX5_handOver 26 rfl) rfl ?_
              refine r_iast (j := p) C rfl rfl (by decide) rfl (by omega) (dx dX5_handOver 27 rfl) ?_
              have wh17 : VilAt (sI h15 (k + 2) p b) k (vset (vset (handV v a b p) 0 p b) 1 p b) := wh15.s1 (i := p) (x := b)
              have fh17 : Fr k (k + 9) h (sI h15 (k + 2) p b) := fh15.tr <| Fr.sI (by omega) (by omega)
              have kh17 : xK (sI h15 (k + 2) p b) = xK h := kh15
              generalize sI h15 (k + 2) p b = h17 at wh17 fh17 kh17 ⊢
              refine rn_iinc (a := p) (k := 1) (ls' := [(0, vr 5 k), (1, vi a), (2, vi b), (3, vi (nI (p + 1)))]) C (dx dX5_handOver 28 rfl) rfl rfl (by decide) [1, 2, 3, 0] rfl ?_
              refine r_goto (tgt := 2) C (dx dX5_handOver 29 rfl) (by decide) ?_
              have e9 : vset (vset (handV v a b p) 0 p b) 1 p b = handV v a b (p + 1) := by rw [handV_s]; simp only [c12, if_true, if_false]; first | exact (if_pos c16).symm | exact (if_neg c16).symm | rfl
              rw [e9] at wh17
              exact ih _ wh17 fh17 kh17)
set_option maxHeartbeats 4000000 in
theorem c_X5_drawTenth {l : Launch} {h : Hp} {k : Nat} {v : Vg} (hv : VilAt h k v)  : Mw l yX5_drawTenth cX5_drawTenth 1 (some .int) 1 [vr 5 k] h (some (vi (drw (vS v)))) k (vsS v (lcg (vS v))) := by
  refine Ms.of (by decide) (Nat.le_of_ble_eq_true rfl) (fun G C X F => ?_)
  have C : Cx G cX5_drawTenth 1 RX5 := C
  show Rr G 0 [(0, vr 5 k)] [] h
  have bP := hv.bP
  have bM := hv.bM
  have bN := hv.bN
  refine r_aload_n C (dx dX5_drawTenth 0 rfl) rfl ?_
  refine r_aload_n C (dx dX5_drawTenth 1 rfl) rfl ?_
  refine g_X5_47 (x := vS v) C (dx dX5_drawTenth 2 rfl) hv.eS ?_
  refine r_ldc C n_X5_100 (dx dX5_drawTenth 3 rfl) ?_
  refine r_imul C (dx dX5_drawTenth 4 rfl) ?_
  refine r_sipush (v := nI 12345) C (dx dX5_drawTenth 5 rfl) rfl ?_
  refine r_iadd C (dx dX5_drawTenth 6 rfl) ?_
  refine p_X5_47 C (dx dX5_drawTenth 7 rfl) rfl rfl ?_
  have wh1 : VilAt (sI h k 11 (((vS v) * 1103515245) + (nI 12345))) k (vsS v (((vS v) * 1103515245) + (nI 12345))) := hv.sS (x := ((vS v) * 1103515245) + (nI 12345))
  have fh1 : Fr k (k + 9) h (sI h k 11 (((vS v) * 1103515245) + (nI 12345))) := Fr.sI (by omega) (by omega)
  have kh1 : xK (sI h k 11 (((vS v) * 1103515245) + (nI 12345))) = xK h := rfl
  generalize sI h k 11 (((vS v) * 1103515245) + (nI 12345)) = h1 at wh1 fh1 kh1 ⊢
  refine r_aload_n C (dx dX5_drawTenth 8 rfl) rfl ?_
  refine g_X5_47 (x := (((vS v) * 1103515245) + (nI 12345))) C (dx dX5_drawTenth 9 rfl) wh1.eS ?_
  refine r_bipush (v := nI 16) C (dx dX5_drawTenth 10 rfl) rfl ?_
  refine r_iushr C (dx dX5_drawTenth 11 rfl) ?_
  refine r_bipush (v := nI 10) C (dx dX5_drawTenth 12 rfl) rfl ?_
  refine r_irem C (dx dX5_drawTenth 13 rfl) (by decide) ?_
  exact F.1 _ _ _ _ _ rfl rfl (dx dX5_drawTenth 14 rfl) kh1 ⟨congrArg (fun x => some (vi x)) (show (((((vS v) * 1103515245) + (nI 12345)).toUInt32 >>> ((nI 16).toUInt32 &&& Int32.toUInt32 31)).toInt32) - (((((vS v) * 1103515245) + (nI 12345)).toUInt32 >>> ((nI 16).toUInt32 &&& Int32.toUInt32 31)).toInt32) / (nI 10) * (nI 10) = drw (vS v) by rfl), wh1, fh1⟩
set_option maxHeartbeats 4000000 in
theorem c_X5_takeOver {l : Launch} {h : Hp} {k k2 : Nat} {u v : Vg} (hu : VilAt h k u) (hv : VilAt h k2 v) (hd : k + 9 ≤ k2 ∨ k2 + 9 ≤ k) : Mw l yX5_takeOver cX5_takeOver 2 none 1 [vr 5 k, vr 5 k2] h none k v := by
  refine Ms.of (by decide) (Nat.le_of_ble_eq_true rfl) (fun G C X F => ?_)
  have C : Cx G cX5_takeOver 2 RX5 := C
  show Rr G 0 [(0, vr 5 k), (1, vr 5 k2)] [] h
  have bP := hv.bP
  have bM := hv.bM
  have bN := hv.bN
  refine r_aload_n C (dx dX5_takeOver 0 rfl) rfl ?_
  refine r_aload_n C (dx dX5_takeOver 1 rfl) rfl ?_
  refine g_X5_9 (x := nI (vP v)) C (dx dX5_takeOver 2 rfl) hv.eP ?_
  refine p_X5_9 C (dx dX5_takeOver 3 rfl) rfl rfl ?_
  have wh1 : VilAt (sI h k 0 (nI (vP v))) k (vsP u (vP v)) := hu.sP (n := vP v) (by omega)
  have fh1 : Fr k (k + 9) h (sI h k 0 (nI (vP v))) := Fr.sI (by omega) (by omega)
  have kh1 : xK (sI h k 0 (nI (vP v))) = xK h := rfl
  generalize sI h k 0 (nI (vP v)) = h1 at wh1 fh1 kh1 ⊢
  have uh1 := hv.fr fh1 (by omega)
  refine r_aload_n C (dx dX5_takeOver 4 rfl) rfl ?_
  refine g_X5_15 C (dx dX5_takeOver 5 rfl) ?_
  refine r_iconst (v := nI 0) C (dx dX5_takeOver 6 rfl) rfl ?_
  refine r_aload_n C (dx dX5_takeOver 7 rfl) rfl ?_
  refine g_X5_15 C (dx dX5_takeOver 8 rfl) ?_
  refine r_iconst (v := nI 0) C (dx dX5_takeOver 9 rfl) rfl ?_
  refine r_bipush (v := nI 12) C (dx dX5_takeOver 10 rfl) rfl ?_
  refine r_copyI (sp := 0) (dp := 0) (n := 12) C X (by decide) (Nat.le_of_ble_eq_true rfl) l_X5_50 q_cp rfl rfl rfl rfl rfl rfl rfl (by decide) (by decide) (by decide) (by decide) (by decide) (dx dX5_takeOver 11 rfl) ?_
  have wh2 : VilAt (cpI h1 (k2 + 1) (k + 1) 0 0 12) k (vcp (vsP u (vP v)) 0 v) := wh1.c0 uh1
  have fh2 : Fr k (k + 9) h (cpI h1 (k2 + 1) (k + 1) 0 0 12) := fh1.tr <| Fr.cpI (by omega) (by omega)
  have kh2 : xK (cpI h1 (k2 + 1) (k + 1) 0 0 12) = xK h := kh1
  generalize cpI h1 (k2 + 1) (k + 1) 0 0 12 = h2 at wh2 fh2 kh2 ⊢
  have uh2 := hv.fr fh2 (by omega)
  refine r_aload_n C (dx dX5_takeOver 12 rfl) rfl ?_
  refine g_X5_19 C (dx dX5_takeOver 13 rfl) ?_
  refine r_iconst (v := nI 0) C (dx dX5_takeOver 14 rfl) rfl ?_
  refine r_aload_n C (dx dX5_takeOver 15 rfl) rfl ?_
  refine g_X5_19 C (dx dX5_takeOver 16 rfl) ?_
  refine r_iconst (v := nI 0) C (dx dX5_takeOver 17 rfl) rfl ?_
  refine r_bipush (v := nI 12) C (dx dX5_takeOver 18 rfl) rfl ?_
  refine r_copyI (sp := 0) (dp := 0) (n := 12) C X (by decide) (Nat.le_of_ble_eq_true rfl) l_X5_50 q_cp rfl rfl rfl rfl rfl rfl rfl (by decide) (by decide) (by decide) (by decide) (by decide) (dx dX5_takeOver 19 rfl) ?_
  have wh3 : VilAt (cpI h2 (k2 + 2) (k + 2) 0 0 12) k (vcp (vcp (vsP u (vP v)) 0 v) 1 v) := wh2.c1 uh2
  have fh3 : Fr k (k + 9) h (cpI h2 (k2 + 2) (k + 2) 0 0 12) := fh2.tr <| Fr.cpI (by omega) (by omega)
  have kh3 : xK (cpI h2 (k2 + 2) (k + 2) 0 0 12) = xK h := kh2
  generalize cpI h2 (k2 + 2) (k + 2) 0 0 12 = h3 at wh3 fh3 kh3 ⊢
  have uh3 := hv.fr fh3 (by omega)
  refine r_aload_n C (dx dX5_takeOver 20 rfl) rfl ?_
  refine r_aload_n C (dx dX5_takeOver 21 rfl) rfl ?_
  refine g_X5_22 (x := nI (vM v)) C (dx dX5_takeOver 22 rfl) uh3.eM ?_
  refine p_X5_22 C (dx dX5_takeOver 23 rfl) rfl rfl ?_
  have wh4 : VilAt (sI h3 k 3 (nI (vM v))) k (vsM (vcp (vcp (vsP u (vP v)) 0 v) 1 v) (vM v)) := wh3.sM (n := vM v) (by omega)
  have fh4 : Fr k (k + 9) h (sI h3 k 3 (nI (vM v))) := fh3.tr <| Fr.sI (by omega) (by omega)
  have kh4 : xK (sI h3 k 3 (nI (vM v))) = xK h := kh3
  generalize sI h3 k 3 (nI (vM v)) = h4 at wh4 fh4 kh4 ⊢
  have uh4 := hv.fr fh4 (by omega)
  refine r_aload_n C (dx dX5_takeOver 24 rfl) rfl ?_
  refine g_X5_25 C (dx dX5_takeOver 25 rfl) ?_
  refine r_iconst (v := nI 0) C (dx dX5_takeOver 26 rfl) rfl ?_
  refine r_aload_n C (dx dX5_takeOver 27 rfl) rfl ?_
  refine g_X5_25 C (dx dX5_takeOver 28 rfl) ?_
  refine r_iconst (v := nI 0) C (dx dX5_takeOver 29 rfl) rfl ?_
  refine r_bipush (v := nI 6) C (dx dX5_takeOver 30 rfl) rfl ?_
  refine r_copyI (sp := 0) (dp := 0) (n := 6) C X (by decide) (Nat.le_of_ble_eq_true rfl) l_X5_50 q_cp rfl rfl rfl rfl rfl rfl rfl (by decide) (by decide) (by decide) (by decide) (by decide) (dx dX5_takeOver 31 rfl) ?_
  have wh5 : VilAt (cpI h4 (k2 + 3) (k + 3) 0 0 6) k (vcp (vsM (vcp (vcp (vsP u (vP v)) 0 v) 1 v) (vM v)) 2 v) := wh4.c2 uh4
  have fh5 : Fr k (k + 9) h (cpI h4 (k2 + 3) (k + 3) 0 0 6) := fh4.tr <| Fr.cpI (by omega) (by omega)
  have kh5 : xK (cpI h4 (k2 + 3) (k + 3) 0 0 6) = xK h := kh4
  generalize cpI h4 (k2 + 3) (k + 3) 0 0 6 = h5 at wh5 fh5 kh5 ⊢
  have uh5 := hv.fr fh5 (by omega)
  refine r_aload_n C (dx dX5_takeOver 32 rfl) rfl ?_
  refine g_X5_28 C (dx dX5_takeOver 33 rfl) ?_
  refine r_iconst (v := nI 0) C (dx dX5_takeOver 34 rfl) rfl ?_
  refine r_aload_n C (dx dX5_takeOver 35 rfl) rfl ?_
  refine g_X5_28 C (dx dX5_takeOver 36 rfl) ?_
  refine r_iconst (v := nI 0) C (dx dX5_takeOver 37 rfl) rfl ?_
  refine r_bipush (v := nI 6) C (dx dX5_takeOver 38 rfl) rfl ?_
  refine r_copyI (sp := 0) (dp := 0) (n := 6) C X (by decide) (Nat.le_of_ble_eq_true rfl) l_X5_50 q_cp rfl rfl rfl rfl rfl rfl rfl (by decide) (by decide) (by decide) (by decide) (by decide) (dx dX5_takeOver 39 rfl) ?_
  have wh6 : VilAt (cpI h5 (k2 + 4) (k + 4) 0 0 6) k (vcp (vcp (vsM (vcp (vcp (vsP u (vP v)) 0 v) 1 v) (vM v)) 2 v) 3 v) := wh5.c3 uh5
  have fh6 : Fr k (k + 9) h (cpI h5 (k2 + 4) (k + 4) 0 0 6) := fh5.tr <| Fr.cpI (by omega) (by omega)
  have kh6 : xK (cpI h5 (k2 + 4) (k + 4) 0 0 6) = xK h := kh5
  generalize cpI h5 (k2 + 4) (k + 4) 0 0 6 = h6 at wh6 fh6 kh6 ⊢
  have uh6 := hv.fr fh6 (by omega)
  refine r_aload_n C (dx dX5_takeOver 40 rfl) rfl ?_
  refine r_aload_n C (dx dX5_takeOver 41 rfl) rfl ?_
  refine g_X5_31 (x := nI (vN v)) C (dx dX5_takeOver 42 rfl) uh6.eN ?_
  refine p_X5_31 C (dx dX5_takeOver 43 rfl) rfl rfl ?_
  have wh7 : VilAt (sI h6 k 6 (nI (vN v))) k (vsN (vcp (vcp (vsM (vcp (vcp (vsP u (vP v)) 0 v) 1 v) (vM v)) 2 v) 3 v) (vN v)) := wh6.sN (n := vN v) (by omega)
  have fh7 : Fr k (k + 9) h (sI h6 k 6 (nI (vN v))) := fh6.tr <| Fr.sI (by omega) (by omega)
  have kh7 : xK (sI h6 k 6 (nI (vN v))) = xK h := kh6
  generalize sI h6 k 6 (nI (vN v)) = h7 at wh7 fh7 kh7 ⊢
  have uh7 := hv.fr fh7 (by omega)
  refine r_aload_n C (dx dX5_takeOver 44 rfl) rfl ?_
  refine g_X5_34 C (dx dX5_takeOver 45 rfl) ?_
  refine r_iconst (v := nI 0) C (dx dX5_takeOver 46 rfl) rfl ?_
  refine r_aload_n C (dx dX5_takeOver 47 rfl) rfl ?_
  refine g_X5_34 C (dx dX5_takeOver 48 rfl) ?_
  refine r_iconst (v := nI 0) C (dx dX5_takeOver 49 rfl) rfl ?_
  refine r_bipush (v := nI 8) C (dx dX5_takeOver 50 rfl) rfl ?_
  refine r_copyI (sp := 0) (dp := 0) (n := 8) C X (by decide) (Nat.le_of_ble_eq_true rfl) l_X5_50 q_cp rfl rfl rfl rfl rfl rfl rfl (by decide) (by decide) (by decide) (by decide) (by decide) (dx dX5_takeOver 51 rfl) ?_
  have wh8 : VilAt (cpI h7 (k2 + 5) (k + 5) 0 0 8) k (vcp (vsN (vcp (vcp (vsM (vcp (vcp (vsP u (vP v)) 0 v) 1 v) (vM v)) 2 v) 3 v) (vN v)) 4 v) := wh7.c4 uh7
  have fh8 : Fr k (k + 9) h (cpI h7 (k2 + 5) (k + 5) 0 0 8) := fh7.tr <| Fr.cpI (by omega) (by omega)
  have kh8 : xK (cpI h7 (k2 + 5) (k + 5) 0 0 8) = xK h := kh7
  generalize cpI h7 (k2 + 5) (k + 5) 0 0 8 = h8 at wh8 fh8 kh8 ⊢
  have uh8 := hv.fr fh8 (by omega)
  refine r_aload_n C (dx dX5_takeOver 52 rfl) rfl ?_
  refine g_X5_37 C (dx dX5_takeOver 53 rfl) ?_
  refine r_iconst (v := nI 0) C (dx dX5_takeOver 54 rfl) rfl ?_
  refine r_aload_n C (dx dX5_takeOver 55 rfl) rfl ?_
  refine g_X5_37 C (dx dX5_takeOver 56 rfl) ?_
  refine r_iconst (v := nI 0) C (dx dX5_takeOver 57 rfl) rfl ?_
  refine r_bipush (v := nI 8) C (dx dX5_takeOver 58 rfl) rfl ?_
  refine r_copyI (sp := 0) (dp := 0) (n := 8) C X (by decide) (Nat.le_of_ble_eq_true rfl) l_X5_50 q_cp rfl rfl rfl rfl rfl rfl rfl (by decide) (by decide) (by decide) (by decide) (by decide) (dx dX5_takeOver 59 rfl) ?_
  have wh9 : VilAt (cpI h8 (k2 + 6) (k + 6) 0 0 8) k (vcp (vcp (vsN (vcp (vcp (vsM (vcp (vcp (vsP u (vP v)) 0 v) 1 v) (vM v)) 2 v) 3 v) (vN v)) 4 v) 5 v) := wh8.c5 uh8
  have fh9 : Fr k (k + 9) h (cpI h8 (k2 + 6) (k + 6) 0 0 8) := fh8.tr <| Fr.cpI (by omega) (by omega)
  have kh9 : xK (cpI h8 (k2 + 6) (k + 6) 0 0 8) = xK h := kh8
  generalize cpI h8 (k2 + 6) (k + 6) 0 0 8 = h9 at wh9 fh9 kh9 ⊢
  have uh9 := hv.fr fh9 (by omega)
  refine r_aload_n C (dx dX5_takeOver 60 rfl) rfl ?_
  refine g_X5_40 C (dx dX5_takeOver 61 rfl) ?_
  refine r_iconst (v := nI 0) C (dx dX5_takeOver 62 rfl) rfl ?_
  refine r_aload_n C (dx dX5_takeOver 63 rfl) rfl ?_
  refine g_X5_40 C (dx dX5_takeOver 64 rfl) ?_
  refine r_iconst (v := nI 0) C (dx dX5_takeOver 65 rfl) rfl ?_
  refine r_bipush (v := nI 8) C (dx dX5_takeOver 66 rfl) rfl ?_
  refine r_copyZ (sp := 0) (dp := 0) (n := 8) C X (by decide) (Nat.le_of_ble_eq_true rfl) l_X5_50 q_cp rfl rfl rfl rfl rfl rfl rfl (by decide) (by decide) (by decide) (by decide) (by decide) (fun i hi => by rw [uh9.e6 (by omega)]; exact uh9.bC (by omega)) (dx dX5_takeOver 67 rfl) ?_
  have wh10 : VilAt (cpI h9 (k2 + 7) (k + 7) 0 0 8) k (vcp (vcp (vcp (vsN (vcp (vcp (vsM (vcp (vcp (vsP u (vP v)) 0 v) 1 v) (vM v)) 2 v) 3 v) (vN v)) 4 v) 5 v) 6 v) := wh9.c6 uh9
  have fh10 : Fr k (k + 9) h (cpI h9 (k2 + 7) (k + 7) 0 0 8) := fh9.tr <| Fr.cpI (by omega) (by omega)
  have kh10 : xK (cpI h9 (k2 + 7) (k + 7) 0 0 8) = xK h := kh9
  generalize cpI h9 (k2 + 7) (k + 7) 0 0 8 = h10 at wh10 fh10 kh10 ⊢
  have uh10 := hv.fr fh10 (by omega)
  refine r_aload_n C (dx dX5_takeOver 68 rfl) rfl ?_
  refine g_X5_44 C (dx dX5_takeOver 69 rfl) ?_
  refine r_iconst (v := nI 0) C (dx dX5_takeOver 70 rfl) rfl ?_
  refine r_aload_n C (dx dX5_takeOver 71 rfl) rfl ?_
  refine g_X5_44 C (dx dX5_takeOver 72 rfl) ?_
  refine r_iconst (v := nI 0) C (dx dX5_takeOver 73 rfl) rfl ?_
  refine r_bipush (v := nI 8) C (dx dX5_takeOver 74 rfl) rfl ?_
  refine r_copyI (sp := 0) (dp := 0) (n := 8) C X (by decide) (Nat.le_of_ble_eq_true rfl) l_X5_50 q_cp rfl rfl rfl rfl rfl rfl rfl (by decide) (by decide) (by decide) (by decide) (by decide) (dx dX5_takeOver 75 rfl) ?_
  have wh11 : VilAt (cpI h10 (k2 + 8) (k + 8) 0 0 8) k (vcp (vcp (vcp (vcp (vsN (vcp (vcp (vsM (vcp (vcp (vsP u (vP v)) 0 v) 1 v) (vM v)) 2 v) 3 v) (vN v)) 4 v) 5 v) 6 v) 7 v) := wh10.c7 uh10
  have fh11 : Fr k (k + 9) h (cpI h10 (k2 + 8) (k + 8) 0 0 8) := fh10.tr <| Fr.cpI (by omega) (by omega)
  have kh11 : xK (cpI h10 (k2 + 8) (k + 8) 0 0 8) = xK h := kh10
  generalize cpI h10 (k2 + 8) (k + 8) 0 0 8 = h11 at wh11 fh11 kh11 ⊢
  have uh11 := hv.fr fh11 (by omega)
  refine r_aload_n C (dx dX5_takeOver 76 rfl) rfl ?_
  refine r_aload_n C (dx dX5_takeOver 77 rfl) rfl ?_
  refine g_X5_47 (x := vS v) C (dx dX5_takeOver 78 rfl) uh11.eS ?_
  refine p_X5_47 C (dx dX5_takeOver 79 rfl) rfl rfl ?_
  have wh12 : VilAt (sI h11 k 11 (vS v)) k (vsS (vcp (vcp (vcp (vcp (vsN (vcp (vcp (vsM (vcp (vcp (vsP u (vP v)) 0 v) 1 v) (vM v)) 2 v) 3 v) (vN v)) 4 v) 5 v) 6 v) 7 v) (vS v)) := wh11.sS (x := vS v)
  have fh12 : Fr k (k + 9) h (sI h11 k 11 (vS v)) := fh11.tr <| Fr.sI (by omega) (by omega)
  have kh12 : xK (sI h11 k 11 (vS v)) = xK h := kh11
  generalize sI h11 k 11 (vS v) = h12 at wh12 fh12 kh12 ⊢
  have uh12 := hv.fr fh12 (by omega)
  exact F.2.2.1 _ _ _ rfl (dx dX5_takeOver 80 rfl) kh12 ⟨rfl, wh12.to rfl rfl rfl (fun c i hc => c8 (P := fun c => vF (vsS (vcp (vcp (vcp (vcp (vsN (vcp (vcp (vsM (vcp (vcp (vsP u (vP v)) 0 v) 1 v) (vM v)) 2 v) 3 v) (vN v)) 4 v) 5 v) 6 v) 7 v) (vS v)) c i = vF v c i) rfl rfl rfl rfl rfl rfl rfl rfl c hc) rfl, fh12⟩
set_option maxHeartbeats 4000000 in
theorem c_X5_shareOut {l : Launch} {h : Hp} {k : Nat} {v : Vg} (hv : VilAt h k v) (nd : Int32) : Mw l yX5_shareOut cX5_shareOut 4 none 1 [vr 5 k, vi nd] h none k (shrV v nd (vN v)) := by
  refine Ms.of (by decide) (Nat.le_of_ble_eq_true rfl) (fun G C X F => ?_)
  have C : Cx G cX5_shareOut 4 RX5 := C
  show Rr G 0 [(0, vr 5 k), (1, vi nd)] [] h
  have bP := hv.bP
  have bM := hv.bM
  have bN := hv.bN
  refine r_iconst (v := nI 0) C (dx dX5_shareOut 0 rfl) rfl ?_
  refine r_istore_n (ls' := [(0, vr 5 k), (1, vi nd), (2, vi (nI 0))]) C (dx dX5_shareOut 1 rfl) (by decide) [1, 2, 0] rfl ?_
  refine r_iconst (v := nI 0) C (dx dX5_shareOut 2 rfl) rfl ?_
  refine r_istore_n (ls' := [(0, vr 5 k), (1, vi nd), (2, vi (nI 0)), (3, vi (nI 0))]) C (dx dX5_shareOut 3 rfl) (by decide) [1, 2, 3, 0] rfl ?_
  refine loopU (Φ := fun p => Rr G 4 [(0, vr 5 k), (1, vi nd), (2, vi (ownS v nd p)), (3, vi (nI p))] [] h) (N := vP v) ?_ ?_ 0 (Nat.zero_le _)
  ·
    refine r_iload_n C (dx dX5_shareOut 4 rfl) rfl ?_
    refine r_aload_n C (dx dX5_shareOut 5 rfl) rfl ?_
    refine g_X5_9 (x := nI (vP v)) C (dx dX5_shareOut 6 rfl) hv.eP ?_
    refine rn_ge (a := vP v) (b := vP v) (tgt := 47) C (by omega) (by omega) (dx dX5_shareOut 7 rfl) (by decide) (fun c1 => ?_) (fun c1 => ?_)
    · first
      | (omega; done)
      | (
          have c1 : vP v ≤ vP v := c1
          refine r_iconst (v := nI 0) C (dx dX5_shareOut 31 rfl) rfl ?_
          refine r_istore_n (ls' := [(0, vr 5 k), (1, vi nd), (2, vi (ownS v nd (vP v))), (3, vi (nI 0))]) C (dx dX5_shareOut 32 rfl) (by decide) [1, 2, 3, 0] rfl ?_
          refine loopU (Φ := fun p => ∀ h9, VilAt h9 k (shrV v nd p) → Fr k (k + 9) h h9 → xK h9 = xK h → Rr G 49 [(0, vr 5 k), (1, vi nd), (2, vi (ownS v nd (vP v))), (3, vi (nI p))] [] h9) (N := vN v) ?_ ?_ 0 (Nat.zero_le _) _ hv Fr.rf rfl
          ·
            intro  h3 wh3 fh3 kh3
            refine r_iload_n C (dx dX5_shareOut 33 rfl) rfl ?_
            refine r_aload_n C (dx dX5_shareOut 34 rfl) rfl ?_
            refine g_X5_31 (x := nI (vN v)) C (dx dX5_shareOut 35 rfl) wh3.eN ?_
            refine rn_ge (a := vN v) (b := vN v) (tgt := 81) C (by omega) (by omega) (dx dX5_shareOut 36 rfl) (by decide) (fun c4 => ?_) (fun c4 => ?_)
            · first
              | (omega; done)
              | (
                  have c4 : vN v ≤ vN v := c4
                  exact F.2.2.1 _ _ _ rfl (dx dX5_shareOut 53 rfl) kh3 ⟨rfl, wh3, fh3⟩)
            · first
              | (omega; done)
              | (
                  have c4 : vN v < vN v := c4
                  refine r_iload_n C (dx dX5_shareOut 37 rfl) rfl ?_
                  refine r_iconst (v := nI 1) C (dx dX5_shareOut 38 rfl) rfl ?_
                  refine r_iload_n C (dx dX5_shareOut 39 rfl) rfl ?_
                  refine r_ishl C (dx dX5_shareOut 40 rfl) ?_
                  refine r_iand C (dx dX5_shareOut 41 rfl) ?_
                  refine r_if_eq (tgt := 75) C (dx dX5_shareOut 42 rfl) (by decide) (fun c5 => ?_) (fun c5 => ?_)
                  ·
                    have c5 : (ownS v nd (vP v)) &&& ((nI 1) <<< ((nI (vN v)) &&& 31)) = 0 := c5
                    refine rn_iinc (a := vN v) (k := 1) (ls' := [(0, vr 5 k), (1, vi nd), (2, vi (ownS v nd (vP v))), (3, vi (nI (vN v + 1)))]) C (dx dX5_shareOut 51 rfl) rfl rfl (by decide) [1, 2, 3, 0] rfl ?_
                    refine r_goto (tgt := 49) C (dx dX5_shareOut 52 rfl) (by decide) ?_
                    have e9 : shrV v nd (vN v) = shrV v nd (vN v + 1) := by rw [shrV_s]; first | exact (if_pos c5).symm | exact (if_neg (fun q => q c5)).symm
                    rw [e9] at wh3
                    exact ih _ wh3 fh3 kh3
                  ·
                    have c5 : ¬ (ownS v nd (vP v)) &&& ((nI 1) <<< ((nI (vN v)) &&& 31)) = 0 := c5
                    refine r_aload_n C (dx dX5_shareOut 43 rfl) rfl ?_
                    refine g_X5_44 C (dx dX5_shareOut 44 rfl) ?_
                    refine r_iload_n C (dx dX5_shareOut 45 rfl) rfl ?_
                    refine r_dup2 C (dx dX5_shareOut 46 rfl) ?_
                    refine r_iald (j := vN v) (x := vF (shrV v nd (vN v)) 7 (vN v)) C rfl rfl (by decide) rfl (by omega) (dx dX5_shareOut 47 rfl) (wh3.e7 (by omega)) ?_
                    refine r_iconst (v := nI 1) C (dx dX5_shareOut 48 rfl) rfl ?_
                    refine r_iadd C (dx dX5_shareOut 49 rfl) ?_
                    refine r_iast (j := vN v) C rfl rfl (by decide) rfl (by omega) (dx dX5_shareOut 50 rfl) ?_
                    have wh6 : VilAt (sI h3 (k + 8) (vN v) ((vF (shrV v nd (vN v)) 7 (vN v)) + (nI 1))) k (vset (shrV v nd (vN v)) 7 (vN v) ((vF (shrV v nd (vN v)) 7 (vN v)) + (nI 1))) := wh3.s7 (i := vN v) (x := (vF (shrV v nd (vN v)) 7 (vN v)) + (nI 1))
                    have fh6 : Fr k (k + 9) h (sI h3 (k + 8) (vN v) ((vF (shrV v nd (vN v)) 7 (vN v)) + (nI 1))) := fh3.tr <| Fr.sI (by omega) (by omega)
                    have kh6 : xK (sI h3 (k + 8) (vN v) ((vF (shrV v nd (vN v)) 7 (vN v)) + (nI 1))) = xK h := kh3
                    generalize sI h3 (k + 8) (vN v) ((vF (shrV v nd (vN v)) 7 (vN v)) + (nI 1)) = h6 at wh6 fh6 kh6 ⊢
                    refine rn_iinc (a := vN v) (k := 1) (ls' := [(0, vr 5 k), (1, vi nd), (2, vi (ownS v nd (vP v))), (3, vi (nI (vN v + 1)))]) C (dx dX5_shareOut 51 rfl) rfl rfl (by decide) [1, 2, 3, 0] rfl ?_
                    refine r_goto (tgt := 49) C (dx dX5_shareOut 52 rfl) (by decide) ?_
                    have e9 : vset (shrV v nd (vN v)) 7 (vN v) ((vF (shrV v nd (vN v)) 7 (vN v)) + (nI 1)) = shrV v nd (vN v + 1) := by rw [shrV_s]; first | exact (if_pos c5).symm | exact (if_neg (fun q => q c5)).symm
                    rw [e9] at wh6
                    exact ih _ wh6 fh6 kh6)
          ·
            intro p hp ih h7 wh7 fh7 kh7
            refine r_iload_n C (dx dX5_shareOut 33 rfl) rfl ?_
            refine r_aload_n C (dx dX5_shareOut 34 rfl) rfl ?_
            refine g_X5_31 (x := nI (vN v)) C (dx dX5_shareOut 35 rfl) wh7.eN ?_
            refine rn_ge (a := p) (b := vN v) (tgt := 81) C (by omega) (by omega) (dx dX5_shareOut 36 rfl) (by decide) (fun c8 => ?_) (fun c8 => ?_)
            · first
              | (omega; done)
              | (
                  have c8 : vN v ≤ p := c8
                  exact F.2.2.1 _ _ _ rfl (dx dX5_shareOut 53 rfl) kh7 ⟨rfl, wh7, fh7⟩)
            · first
              | (omega; done)
              | (
                  have c8 : p < vN v := c8
                  refine r_iload_n C (dx dX5_shareOut 37 rfl) rfl ?_
                  refine r_iconst (v := nI 1) C (dx dX5_shareOut 38 rfl) rfl ?_
                  refine r_iload_n C (dx dX5_shareOut 39 rfl) rfl ?_
                  refine r_ishl C (dx dX5_shareOut 40 rfl) ?_
                  refine r_iand C (dx dX5_shareOut 41 rfl) ?_
                  refine r_if_eq (tgt := 75) C (dx dX5_shareOut 42 rfl) (by decide) (fun c9 => ?_) (fun c9 => ?_)
                  ·
                    have c9 : (ownS v nd (vP v)) &&& ((nI 1) <<< ((nI p) &&& 31)) = 0 := c9
                    refine rn_iinc (a := p) (k := 1) (ls' := [(0, vr 5 k), (1, vi nd), (2, vi (ownS v nd (vP v))), (3, vi (nI (p + 1)))]) C (dx dX5_shareOut 51 rfl) rfl rfl (by decide) [1, 2, 3, 0] rfl ?_
                    refine r_goto (tgt := 49) C (dx dX5_shareOut 52 rfl) (by decide) ?_
                    have e9 : shrV v nd p = shrV v nd (p + 1) := by rw [shrV_s]; first | exact (if_pos c9).symm | exact (if_neg (fun q => q c9)).symm
                    rw [e9] at wh7
                    exact ih _ wh7 fh7 kh7
                  ·
                    have c9 : ¬ (ownS v nd (vP v)) &&& ((nI 1) <<< ((nI p) &&& 31)) = 0 := c9
                    refine r_aload_n C (dx dX5_shareOut 43 rfl) rfl ?_
                    refine g_X5_44 C (dx dX5_shareOut 44 rfl) ?_
                    refine r_iload_n C (dx dX5_shareOut 45 rfl) rfl ?_
                    refine r_dup2 C (dx dX5_shareOut 46 rfl) ?_
                    refine r_iald (j := p) (x := vF (shrV v nd p) 7 p) C rfl rfl (by decide) rfl (by omega) (dx dX5_shareOut 47 rfl) (wh7.e7 (by omega)) ?_
                    refine r_iconst (v := nI 1) C (dx dX5_shareOut 48 rfl) rfl ?_
                    refine r_iadd C (dx dX5_shareOut 49 rfl) ?_
                    refine r_iast (j := p) C rfl rfl (by decide) rfl (by omega) (dx dX5_shareOut 50 rfl) ?_
                    have wh10 : VilAt (sI h7 (k + 8) p ((vF (shrV v nd p) 7 p) + (nI 1))) k (vset (shrV v nd p) 7 p ((vF (shrV v nd p) 7 p) + (nI 1))) := wh7.s7 (i := p) (x := (vF (shrV v nd p) 7 p) + (nI 1))
                    have fh10 : Fr k (k + 9) h (sI h7 (k + 8) p ((vF (shrV v nd p) 7 p) + (nI 1))) := fh7.tr <| Fr.sI (by omega) (by omega)
                    have kh10 : xK (sI h7 (k + 8) p ((vF (shrV v nd p) 7 p) + (nI 1))) = xK h := kh7
                    generalize sI h7 (k + 8) p ((vF (shrV v nd p) 7 p) + (nI 1)) = h10 at wh10 fh10 kh10 ⊢
                    refine rn_iinc (a := p) (k := 1) (ls' := [(0, vr 5 k), (1, vi nd), (2, vi (ownS v nd (vP v))), (3, vi (nI (p + 1)))]) C (dx dX5_shareOut 51 rfl) rfl rfl (by decide) [1, 2, 3, 0] rfl ?_
                    refine r_goto (tgt := 49) C (dx dX5_shareOut 52 rfl) (by decide) ?_
                    have e9 : vset (shrV v nd p) 7 p ((vF (shrV v nd p) 7 p) + (nI 1)) = shrV v nd (p + 1) := by rw [shrV_s]; first | exact (if_pos c9).symm | exact (if_neg (fun q => q c9)).symm
                    rw [e9] at wh10
                    exact ih _ wh10 fh10 kh10))
    · first
      | (omega; done)
      | (
          have c1 : vP v < vP v := c1
          refine r_iload_n C (dx dX5_shareOut 8 rfl) rfl ?_
          refine r_iconst (v := nI 1) C (dx dX5_shareOut 9 rfl) rfl ?_
          refine r_iload_n C (dx dX5_shareOut 10 rfl) rfl ?_
          refine r_ishl C (dx dX5_shareOut 11 rfl) ?_
          refine r_iand C (dx dX5_shareOut 12 rfl) ?_
          refine r_if_eq (tgt := 41) C (dx dX5_shareOut 13 rfl) (by decide) (fun c11 => ?_) (fun c11 => ?_)
          ·
            have c11 : nd &&& ((nI 1) <<< ((nI (vP v)) &&& 31)) = 0 := c11
            refine rn_iinc (a := vP v) (k := 1) (ls' := [(0, vr 5 k), (1, vi nd), (2, vi (ownS v nd (vP v))), (3, vi (nI (vP v + 1)))]) C (dx dX5_shareOut 29 rfl) rfl rfl (by decide) [1, 2, 3, 0] rfl ?_
            refine r_goto (tgt := 4) C (dx dX5_shareOut 30 rfl) (by decide) ?_
            have e9 : ownS v nd (vP v) = ownS v nd (vP v + 1) := by simp [ownS, c11]
            rw [e9]
            exact ih
          ·
            have c11 : ¬ nd &&& ((nI 1) <<< ((nI (vP v)) &&& 31)) = 0 := c11
            refine r_aload_n C (dx dX5_shareOut 14 rfl) rfl ?_
            refine g_X5_15 C (dx dX5_shareOut 15 rfl) ?_
            refine r_iload_n C (dx dX5_shareOut 16 rfl) rfl ?_
            refine r_iald (j := vP v) (x := vF v 0 (vP v)) C rfl rfl (by decide) rfl (by omega) (dx dX5_shareOut 17 rfl) (hv.e0 (by omega)) ?_
            refine r_iconst (v := -1) C (dx dX5_shareOut 18 rfl) rfl ?_
            refine r_icmp_eq (tgt := 41) C (dx dX5_shareOut 19 rfl) (by decide) (fun c12 => ?_) (fun c12 => ?_)
            ·
              have c12 : vF v 0 (vP v) = -1 := c12
              refine rn_iinc (a := vP v) (k := 1) (ls' := [(0, vr 5 k), (1, vi nd), (2, vi (ownS v nd (vP v))), (3, vi (nI (vP v + 1)))]) C (dx dX5_shareOut 29 rfl) rfl rfl (by decide) [1, 2, 3, 0] rfl ?_
              refine r_goto (tgt := 4) C (dx dX5_shareOut 30 rfl) (by decide) ?_
              have e9 : ownS v nd (vP v) = ownS v nd (vP v + 1) := by simp [ownS, c11, c12]
              rw [e9]
              exact ih
            ·
              have c12 : ¬ vF v 0 (vP v) = -1 := c12
              refine r_iload_n C (dx dX5_shareOut 20 rfl) rfl ?_
              refine r_iconst (v := nI 1) C (dx dX5_shareOut 21 rfl) rfl ?_
              refine r_aload_n C (dx dX5_shareOut 22 rfl) rfl ?_
              refine g_X5_15 C (dx dX5_shareOut 23 rfl) ?_
              refine r_iload_n C (dx dX5_shareOut 24 rfl) rfl ?_
              refine r_iald (j := vP v) (x := vF v 0 (vP v)) C rfl rfl (by decide) rfl (by omega) (dx dX5_shareOut 25 rfl) (hv.e0 (by omega)) ?_
              refine r_ishl C (dx dX5_shareOut 26 rfl) ?_
              refine r_ior C (dx dX5_shareOut 27 rfl) ?_
              refine r_istore_n (ls' := [(0, vr 5 k), (1, vi nd), (2, vi ((ownS v nd (vP v)) ||| ((nI 1) <<< ((vF v 0 (vP v)) &&& 31)))), (3, vi (nI (vP v)))]) C (dx dX5_shareOut 28 rfl) (by decide) [1, 2, 0, 3] rfl ?_
              refine rn_iinc (a := vP v) (k := 1) (ls' := [(0, vr 5 k), (1, vi nd), (2, vi ((ownS v nd (vP v)) ||| ((nI 1) <<< ((vF v 0 (vP v)) &&& 31)))), (3, vi (nI (vP v + 1)))]) C (dx dX5_shareOut 29 rfl) rfl rfl (by decide) [1, 2, 3, 0] rfl ?_
              refine r_goto (tgt := 4) C (dx dX5_shareOut 30 rfl) (by decide) ?_
              have e9 : (ownS v nd (vP v)) ||| ((nI 1) <<< ((vF v 0 (vP v)) &&& 31)) = ownS v nd (vP v + 1) := by simp [ownS, c11, c12]
              rw [e9]
              exact ih)
  ·
    intro p hp ih
    refine r_iload_n C (dx dX5_shareOut 4 rfl) rfl ?_
    refine r_aload_n C (dx dX5_shareOut 5 rfl) rfl ?_
    refine g_X5_9 (x := nI (vP v)) C (dx dX5_shareOut 6 rfl) hv.eP ?_
    refine rn_ge (a := p) (b := vP v) (tgt := 47) C (by omega) (by omega) (dx dX5_shareOut 7 rfl) (by decide) (fun c13 => ?_) (fun c13 => ?_)
    · first
      | (omega; done)
      | (
          have c13 : vP v ≤ p := c13
          refine r_iconst (v := nI 0) C (dx dX5_shareOut 31 rfl) rfl ?_
          refine r_istore_n (ls' := [(0, vr 5 k), (1, vi nd), (2, vi (ownS v nd p)), (3, vi (nI 0))]) C (dx dX5_shareOut 32 rfl) (by decide) [1, 2, 3, 0] rfl ?_
          refine loopU (Φ := fun p => ∀ h9, VilAt h9 k (shrV v nd p) → Fr k (k + 9) h h9 → xK h9 = xK h → Rr G 49 [(0, vr 5 k), (1, vi nd), (2, vi (ownS v nd p)), (3, vi (nI p))] [] h9) (N := vN v) ?_ ?_ 0 (Nat.zero_le _) _ hv Fr.rf rfl
          ·
            intro  h15 wh15 fh15 kh15
            refine r_iload_n C (dx dX5_shareOut 33 rfl) rfl ?_
            refine r_aload_n C (dx dX5_shareOut 34 rfl) rfl ?_
            refine g_X5_31 (x := nI (vN v)) C (dx dX5_shareOut 35 rfl) wh15.eN ?_
            refine rn_ge (a := vN v) (b := vN v) (tgt := 81) C (by omega) (by omega) (dx dX5_shareOut 36 rfl) (by decide) (fun c16 => ?_) (fun c16 => ?_)
            · first
              | (omega; done)
              | (
                  have c16 : vN v ≤ vN v := c16
                  exact F.2.2.1 _ _ _ rfl (dx dX5_shareOut 53 rfl) kh15 ⟨rfl, wh15, fh15⟩)
            · first
              | (omega; done)
              | (
                  have c16 : vN v < vN v := c16
                  refine r_iload_n C (dx dX5_shareOut 37 rfl) rfl ?_
                  refine r_iconst (v := nI 1) C (dx dX5_shareOut 38 rfl) rfl ?_
                  refine r_iload_n C (dx dX5_shareOut 39 rfl) rfl ?_
                  refine r_ishl C (dx dX5_shareOut 40 rfl) ?_
                  refine r_iand C (dx dX5_shareOut 41 rfl) ?_
                  refine r_if_eq (tgt := 75) C (dx dX5_shareOut 42 rfl) (by decide) (fun c17 => ?_) (fun c17 => ?_)
                  ·
                    have c17 : (ownS v nd p) &&& ((nI 1) <<< ((nI (vN v)) &&& 31)) = 0 := c17
                    refine rn_iinc (a := vN v) (k := 1) (ls' := [(0, vr 5 k), (1, vi nd), (2, vi (ownS v nd p)), (3, vi (nI (vN v + 1)))]) C (dx dX5_shareOut 51 rfl) rfl rfl (by decide) [1, 2, 3, 0] rfl ?_
                    refine r_goto (tgt := 49) C (dx dX5_shareOut 52 rfl) (by decide) ?_
                    have e9 : shrV v nd (vN v) = shrV v nd (vN v + 1) := by rw [shrV_s]; first | exact (if_pos c17).symm | exact (if_neg (fun q => q c17)).symm
                    rw [e9] at wh15
                    exact ih _ wh15 fh15 kh15
                  ·
                    have c17 : ¬ (ownS v nd p) &&& ((nI 1) <<< ((nI (vN v)) &&& 31)) = 0 := c17
                    refine r_aload_n C (dx dX5_shareOut 43 rfl) rfl ?_
                    refine g_X5_44 C (dx dX5_shareOut 44 rfl) ?_
                    refine r_iload_n C (dx dX5_shareOut 45 rfl) rfl ?_
                    refine r_dup2 C (dx dX5_shareOut 46 rfl) ?_
                    refine r_iald (j := vN v) (x := vF (shrV v nd (vN v)) 7 (vN v)) C rfl rfl (by decide) rfl (by omega) (dx dX5_shareOut 47 rfl) (wh15.e7 (by omega)) ?_
                    refine r_iconst (v := nI 1) C (dx dX5_shareOut 48 rfl) rfl ?_
                    refine r_iadd C (dx dX5_shareOut 49 rfl) ?_
                    refine r_iast (j := vN v) C rfl rfl (by decide) rfl (by omega) (dx dX5_shareOut 50 rfl) ?_
                    have wh18 : VilAt (sI h15 (k + 8) (vN v) ((vF (shrV v nd (vN v)) 7 (vN v)) + (nI 1))) k (vset (shrV v nd (vN v)) 7 (vN v) ((vF (shrV v nd (vN v)) 7 (vN v)) + (nI 1))) := wh15.s7 (i := vN v) (x := (vF (shrV v nd (vN v)) 7 (vN v)) + (nI 1))
                    have fh18 : Fr k (k + 9) h (sI h15 (k + 8) (vN v) ((vF (shrV v nd (vN v)) 7 (vN v)) + (nI 1))) := fh15.tr <| Fr.sI (by omega) (by omega)
                    have kh18 : xK (sI h15 (k + 8) (vN v) ((vF (shrV v nd (vN v)) 7 (vN v)) + (nI 1))) = xK h := kh15
                    generalize sI h15 (k + 8) (vN v) ((vF (shrV v nd (vN v)) 7 (vN v)) + (nI 1)) = h18 at wh18 fh18 kh18 ⊢
                    refine rn_iinc (a := vN v) (k := 1) (ls' := [(0, vr 5 k), (1, vi nd), (2, vi (ownS v nd p)), (3, vi (nI (vN v + 1)))]) C (dx dX5_shareOut 51 rfl) rfl rfl (by decide) [1, 2, 3, 0] rfl ?_
                    refine r_goto (tgt := 49) C (dx dX5_shareOut 52 rfl) (by decide) ?_
                    have e9 : vset (shrV v nd (vN v)) 7 (vN v) ((vF (shrV v nd (vN v)) 7 (vN v)) + (nI 1)) = shrV v nd (vN v + 1) := by rw [shrV_s]; first | exact (if_pos c17).symm | exact (if_neg (fun q => q c17)).symm
                    rw [e9] at wh18
                    exact ih _ wh18 fh18 kh18)
          ·
            intro p hp ih h19 wh19 fh19 kh19
            refine r_iload_n C (dx dX5_shareOut 33 rfl) rfl ?_
            refine r_aload_n C (dx dX5_shareOut 34 rfl) rfl ?_
            refine g_X5_31 (x := nI (vN v)) C (dx dX5_shareOut 35 rfl) wh19.eN ?_
            refine rn_ge (a := p) (b := vN v) (tgt := 81) C (by omega) (by omega) (dx dX5_shareOut 36 rfl) (by decide) (fun c20 => ?_) (fun c20 => ?_)
            · first
              | (omega; done)
              | (
                  have c20 : vN v ≤ p := c20
                  exact F.2.2.1 _ _ _ rfl (dx dX5_shareOut 53 rfl) kh19 ⟨rfl, wh19, fh19⟩)
            · first
              | (omega; done)
              | (
                  have c20 : p < vN v := c20
                  refine r_iload_n C (dx dX5_shareOut 37 rfl) rfl ?_
                  refine r_iconst (v := nI 1) C (dx dX5_shareOut 38 rfl) rfl ?_
                  refine r_iload_n C (dx dX5_shareOut 39 rfl) rfl ?_
                  refine r_ishl C (dx dX5_shareOut 40 rfl) ?_
                  refine r_iand C (dx dX5_shareOut 41 rfl) ?_
                  refine r_if_eq (tgt := 75) C (dx dX5_shareOut 42 rfl) (by decide) (fun c21 => ?_) (fun c21 => ?_)
                  ·
                    have c21 : (ownS v nd p) &&& ((nI 1) <<< ((nI p) &&& 31)) = 0 := c21
                    refine rn_iinc (a := p) (k := 1) (ls' := [(0, vr 5 k), (1, vi nd), (2, vi (ownS v nd p)), (3, vi (nI (p + 1)))]) C (dx dX5_shareOut 51 rfl) rfl rfl (by decide) [1, 2, 3, 0] rfl ?_
                    refine r_goto (tgt := 49) C (dx dX5_shareOut 52 rfl) (by decide) ?_
                    have e9 : shrV v nd p = shrV v nd (p + 1) := by rw [shrV_s]; first | exact (if_pos c21).symm | exact (if_neg (fun q => q c21)).symm
                    rw [e9] at wh19
                    exact ih _ wh19 fh19 kh19
                  ·
                    have c21 : ¬ (ownS v nd p) &&& ((nI 1) <<< ((nI p) &&& 31)) = 0 := c21
                    refine r_aload_n C (dx dX5_shareOut 43 rfl) rfl ?_
                    refine g_X5_44 C (dx dX5_shareOut 44 rfl) ?_
                    refine r_iload_n C (dx dX5_shareOut 45 rfl) rfl ?_
                    refine r_dup2 C (dx dX5_shareOut 46 rfl) ?_
                    refine r_iald (j := p) (x := vF (shrV v nd p) 7 p) C rfl rfl (by decide) rfl (by omega) (dx dX5_shareOut 47 rfl) (wh19.e7 (by omega)) ?_
                    refine r_iconst (v := nI 1) C (dx dX5_shareOut 48 rfl) rfl ?_
                    refine r_iadd C (dx dX5_shareOut 49 rfl) ?_
                    refine r_iast (j := p) C rfl rfl (by decide) rfl (by omega) (dx dX5_shareOut 50 rfl) ?_
                    have wh22 : VilAt (sI h19 (k + 8) p ((vF (shrV v nd p) 7 p) + (nI 1))) k (vset (shrV v nd p) 7 p ((vF (shrV v nd p) 7 p) + (nI 1))) := wh19.s7 (i := p) (x := (vF (shrV v nd p) 7 p) + (nI 1))
                    have fh22 : Fr k (k + 9) h (sI h19 (k + 8) p ((vF (shrV v nd p) 7 p) + (nI 1))) := fh19.tr <| Fr.sI (by omega) (by omega)
                    have kh22 : xK (sI h19 (k + 8) p ((vF (shrV v nd p) 7 p) + (nI 1))) = xK h := kh19
                    generalize sI h19 (k + 8) p ((vF (shrV v nd p) 7 p) + (nI 1)) = h22 at wh22 fh22 kh22 ⊢
                    refine rn_iinc (a := p) (k := 1) (ls' := [(0, vr 5 k), (1, vi nd), (2, vi (ownS v nd p)), (3, vi (nI (p + 1)))]) C (dx dX5_shareOut 51 rfl) rfl rfl (by decide) [1, 2, 3, 0] rfl ?_
                    refine r_goto (tgt := 49) C (dx dX5_shareOut 52 rfl) (by decide) ?_
                    have e9 : vset (shrV v nd p) 7 p ((vF (shrV v nd p) 7 p) + (nI 1)) = shrV v nd (p + 1) := by rw [shrV_s]; first | exact (if_pos c21).symm | exact (if_neg (fun q => q c21)).symm
                    rw [e9] at wh22
                    exact ih _ wh22 fh22 kh22))
    · first
      | (omega; done)
      | (
          have c13 : p < vP v := c13
          refine r_iload_n C (dx dX5_shareOut 8 rfl) rfl ?_
          refine r_iconst (v := nI 1) C (dx dX5_shareOut 9 rfl) rfl ?_
          refine r_iload_n C (dx dX5_shareOut 10 rfl) rfl ?_
          refine r_ishl C (dx dX5_shareOut 11 rfl) ?_
          refine r_iand C (dx dX5_shareOut 12 rfl) ?_
          refine r_if_eq (tgt := 41) C (dx dX5_shareOut 13 rfl) (by decide) (fun c23 => ?_) (fun c23 => ?_)
          ·
            have c23 : nd &&& ((nI 1) <<< ((nI p) &&& 31)) = 0 := c23
            refine rn_iinc (a := p) (k := 1) (ls' := [(0, vr 5 k), (1, vi nd), (2, vi (ownS v nd p)), (3, vi (nI (p + 1)))]) C (dx dX5_shareOut 29 rfl) rfl rfl (by decide) [1, 2, 3, 0] rfl ?_
            refine r_goto (tgt := 4) C (dx dX5_shareOut 30 rfl) (by decide) ?_
            have e9 : ownS v nd p = ownS v nd (p + 1) := by simp [ownS, c23]
            rw [e9]
            exact ih
          ·
            have c23 : ¬ nd &&& ((nI 1) <<< ((nI p) &&& 31)) = 0 := c23
            refine r_aload_n C (dx dX5_shareOut 14 rfl) rfl ?_
            refine g_X5_15 C (dx dX5_shareOut 15 rfl) ?_
            refine r_iload_n C (dx dX5_shareOut 16 rfl) rfl ?_
            refine r_iald (j := p) (x := vF v 0 p) C rfl rfl (by decide) rfl (by omega) (dx dX5_shareOut 17 rfl) (hv.e0 (by omega)) ?_
            refine r_iconst (v := -1) C (dx dX5_shareOut 18 rfl) rfl ?_
            refine r_icmp_eq (tgt := 41) C (dx dX5_shareOut 19 rfl) (by decide) (fun c24 => ?_) (fun c24 => ?_)
            ·
              have c24 : vF v 0 p = -1 := c24
              refine rn_iinc (a := p) (k := 1) (ls' := [(0, vr 5 k), (1, vi nd), (2, vi (ownS v nd p)), (3, vi (nI (p + 1)))]) C (dx dX5_shareOut 29 rfl) rfl rfl (by decide) [1, 2, 3, 0] rfl ?_
              refine r_goto (tgt := 4) C (dx dX5_shareOut 30 rfl) (by decide) ?_
              have e9 : ownS v nd p = ownS v nd (p + 1) := by simp [ownS, c23, c24]
              rw [e9]
              exact ih
            ·
              have c24 : ¬ vF v 0 p = -1 := c24
              refine r_iload_n C (dx dX5_shareOut 20 rfl) rfl ?_
              refine r_iconst (v := nI 1) C (dx dX5_shareOut 21 rfl) rfl ?_
              refine r_aload_n C (dx dX5_shareOut 22 rfl) rfl ?_
              refine g_X5_15 C (dx dX5_shareOut 23 rfl) ?_
              refine r_iload_n C (dx dX5_shareOut 24 rfl) rfl ?_
              refine r_iald (j := p) (x := vF v 0 p) C rfl rfl (by decide) rfl (by omega) (dx dX5_shareOut 25 rfl) (hv.e0 (by omega)) ?_
              refine r_ishl C (dx dX5_shareOut 26 rfl) ?_
              refine r_ior C (dx dX5_shareOut 27 rfl) ?_
              refine r_istore_n (ls' := [(0, vr 5 k), (1, vi nd), (2, vi ((ownS v nd p) ||| ((nI 1) <<< ((vF v 0 p) &&& 31)))), (3, vi (nI p))]) C (dx dX5_shareOut 28 rfl) (by decide) [1, 2, 0, 3] rfl ?_
              refine rn_iinc (a := p) (k := 1) (ls' := [(0, vr 5 k), (1, vi nd), (2, vi ((ownS v nd p) ||| ((nI 1) <<< ((vF v 0 p) &&& 31)))), (3, vi (nI (p + 1)))]) C (dx dX5_shareOut 29 rfl) rfl rfl (by decide) [1, 2, 3, 0] rfl ?_
              refine r_goto (tgt := 4) C (dx dX5_shareOut 30 rfl) (by decide) ?_
              have e9 : (ownS v nd p) ||| ((nI 1) <<< ((vF v 0 p) &&& 31)) = ownS v nd (p + 1) := by simp [ownS, c23, c24]
              rw [e9]
              exact ih)
set_option maxHeartbeats 4000000 in
theorem c_X5_passDay {l : Launch} {h : Hp} {k : Nat} {v : Vg} (hv : VilAt h k v)  : Mw l yX5_passDay cX5_passDay 4 (some .int) 3 [vr 5 k] h (some (vi (worthS v (dayP v)))) k (dayV v) := by
  refine Ms.of (by decide) (Nat.le_of_ble_eq_true rfl) (fun G C X F => ?_)
  have C : Cx G cX5_passDay 4 RX5 := C
  show Rr G 0 [(0, vr 5 k)] [] h
  have bP := hv.bP
  have bM := hv.bM
  have bN := hv.bN
  refine r_iconst (v := nI 0) C (dx dX5_passDay 0 rfl) rfl ?_
  refine r_istore_n (ls' := [(0, vr 5 k), (1, vi (nI 0))]) C (dx dX5_passDay 1 rfl) (by decide) [1, 0] rfl ?_
  refine r_iconst (v := nI 0) C (dx dX5_passDay 2 rfl) rfl ?_
  refine r_istore_n (ls' := [(0, vr 5 k), (1, vi (nI 0)), (2, vi (nI 0))]) C (dx dX5_passDay 3 rfl) (by decide) [1, 2, 0] rfl ?_
  refine loopU (Φ := fun p => ∀ h9, VilAt h9 k (vsS v (cmS v p).2) → Fr k (k + 9) h h9 → xK h9 = xK h → Rr G 4 [(0, vr 5 k), (1, vi ((cmS v p).1)), (2, vi (nI p))] [] h9) (N := vN v) ?_ ?_ 0 (Nat.zero_le _) _ hv Fr.rf rfl
  ·
    intro  h2 wh2 fh2 kh2
    refine r_iload_n C (dx dX5_passDay 4 rfl) rfl ?_
    refine r_aload_n C (dx dX5_passDay 5 rfl) rfl ?_
    refine g_X5_31 (x := nI (vN v)) C (dx dX5_passDay 6 rfl) wh2.eN ?_
    refine rn_ge (a := vN v) (b := vN v) (tgt := 46) C (by omega) (by omega) (dx dX5_passDay 7 rfl) (by decide) (fun c3 => ?_) (fun c3 => ?_)
    · first
      | (omega; done)
      | (
          have c3 : vN v ≤ vN v := c3
          refine r_aload_n C (dx dX5_passDay 28 rfl) rfl ?_
          refine r_iload_n C (dx dX5_passDay 29 rfl) rfl ?_
          refine r_cvP (as := [vi ((cmS v (vN v)).1)]) (st := []) (v := vi (dayP v)) C X I_X5_partsWith l_X5_84 (c_X5_partsWith wh2 _) (by decide) (Nat.le_of_ble_eq_true rfl) (pfx_eq kh2) rfl rfl (Nat.le_of_ble_eq_true rfl) rfl (dx dX5_passDay 30 rfl) ?_
          refine r_istore_n (ls' := [(0, vr 5 k), (1, vi ((cmS v (vN v)).1)), (2, vi (dayP v))]) C (dx dX5_passDay 31 rfl) (by decide) [1, 2, 0] rfl ?_
          refine r_iconst (v := nI 0) C (dx dX5_passDay 32 rfl) rfl ?_
          refine r_istore_n (ls' := [(0, vr 5 k), (1, vi ((cmS v (vN v)).1)), (2, vi (dayP v)), (3, vi (nI 0))]) C (dx dX5_passDay 33 rfl) (by decide) [1, 2, 3, 0] rfl ?_
          refine loopU (Φ := fun p => ∀ h9, VilAt h9 k (goV v (dayP v) (cmS v (vN v)).2 p) → Fr k (k + 9) h h9 → xK h9 = xK h → Rr G 54 [(0, vr 5 k), (1, vi ((cmS v (vN v)).1)), (2, vi (dayP v)), (3, vi (nI p))] [] h9) (N := vM v) ?_ ?_ 0 (Nat.zero_le _) _ wh2 fh2 kh2
          ·
            intro  h5 wh5 fh5 kh5
            refine r_iload_n C (dx dX5_passDay 34 rfl) rfl ?_
            refine r_aload_n C (dx dX5_passDay 35 rfl) rfl ?_
            refine g_X5_22 (x := nI (vM v)) C (dx dX5_passDay 36 rfl) wh5.eM ?_
            refine rn_ge (a := vM v) (b := vM v) (tgt := 91) C (by omega) (by omega) (dx dX5_passDay 37 rfl) (by decide) (fun c6 => ?_) (fun c6 => ?_)
            · first
              | (omega; done)
              | (
                  have c6 : vM v ≤ vM v := c6
                  refine r_aload_n C (dx dX5_passDay 55 rfl) rfl ?_
                  refine r_iload_n C (dx dX5_passDay 56 rfl) rfl ?_
                  refine r_cvP (as := [vi (dayP v)]) (st := []) (v := vi (worthS (goV v (dayP v) (cmS v (vN v)).2 (vM v)) (dayP v))) C X I_X5_worthWith l_X5_97 (c_X5_worthWith wh5 _) (by decide) (Nat.le_of_ble_eq_true rfl) (pfx_eq kh5) rfl rfl (Nat.le_of_ble_eq_true rfl) rfl (dx dX5_passDay 57 rfl) ?_
                  exact F.1 _ _ _ _ _ rfl rfl (dx dX5_passDay 58 rfl) kh5 ⟨congrArg (fun x => some (vi x)) (show worthS (goV v (dayP v) (cmS v (vN v)).2 (vM v)) (dayP v) = worthS v (dayP v) by exact worthS_c (u := goV v (dayP v) (cmS v (vN v)).2 (vM v)) (v := v) rfl (fun i => goV_c _ _ _ (c := 2) (by decide) i _) (fun i => goV_c _ _ _ (c := 3) (by decide) i _) _), wh5, fh5⟩)
            · first
              | (omega; done)
              | (
                  have c6 : vM v < vM v := c6
                  refine r_aload_n C (dx dX5_passDay 38 rfl) rfl ?_
                  refine g_X5_25 C (dx dX5_passDay 39 rfl) ?_
                  refine r_iload_n C (dx dX5_passDay 40 rfl) rfl ?_
                  refine r_iald (j := vM v) (x := vF (goV v (dayP v) (cmS v (vN v)).2 (vM v)) 2 (vM v)) C rfl rfl (by decide) rfl (by omega) (dx dX5_passDay 41 rfl) (wh5.e2 (by omega)) ?_
                  refine r_iload_n C (dx dX5_passDay 42 rfl) rfl ?_
                  refine r_iconst (v := -1) C (dx dX5_passDay 43 rfl) rfl ?_
                  refine r_ixor C (dx dX5_passDay 44 rfl) ?_
                  refine r_iand C (dx dX5_passDay 45 rfl) ?_
                  refine r_if_ne (tgt := 85) C (dx dX5_passDay 46 rfl) (by decide) (fun c7 => ?_) (fun c7 => ?_)
                  ·
                    have c7 : ¬ (vF (goV v (dayP v) (cmS v (vN v)).2 (vM v)) 2 (vM v)) &&& ((dayP v) ^^^ (-1)) = 0 := c7
                    refine rn_iinc (a := vM v) (k := 1) (ls' := [(0, vr 5 k), (1, vi ((cmS v (vN v)).1)), (2, vi (dayP v)), (3, vi (nI (vM v + 1)))]) C (dx dX5_passDay 53 rfl) rfl rfl (by decide) [1, 2, 3, 0] rfl ?_
                    refine r_goto (tgt := 54) C (dx dX5_passDay 54 rfl) (by decide) ?_
                    have e9 : goV v (dayP v) (cmS v (vN v)).2 (vM v) = goV v (dayP v) (cmS v (vN v)).2 (vM v + 1) := by rw [goV_s]; have e7 := goV_c v (dayP v) (cmS v (vN v)).2 (c := 2) (by decide) p p; (first | rw [e7] at c7 | skip); simp_all [needW]
                    rw [e9] at wh5
                    exact ih _ wh5 fh5 kh5
                  ·
                    have c7 : (vF (goV v (dayP v) (cmS v (vN v)).2 (vM v)) 2 (vM v)) &&& ((dayP v) ^^^ (-1)) = 0 := c7
                    refine r_aload_n C (dx dX5_passDay 47 rfl) rfl ?_
                    refine r_aload_n C (dx dX5_passDay 48 rfl) rfl ?_
                    refine g_X5_25 C (dx dX5_passDay 49 rfl) ?_
                    refine r_iload_n C (dx dX5_passDay 50 rfl) rfl ?_
                    refine r_iald (j := vM v) (x := vF (goV v (dayP v) (cmS v (vN v)).2 (vM v)) 2 (vM v)) C rfl rfl (by decide) rfl (by omega) (dx dX5_passDay 51 rfl) (wh5.e2 (by omega)) ?_
                    refine r_cv (as := [vi (vF (goV v (dayP v) (cmS v (vN v)).2 (vM v)) 2 (vM v))]) (st := []) C X I_X5_shareOut l_X5_93 (c_X5_shareOut wh5 _) (by decide) (Nat.le_of_ble_eq_true rfl) List.prefix_rfl (pfx_eq kh5) rfl rfl (Nat.le_of_ble_eq_true rfl) rfl (dx dX5_passDay 52 rfl) ?_
                    intro rh8 h8 hph8 kkh8
                    obtain ⟨rfl, wh8, gh8⟩ := hph8
                    have fh8 : Fr k (k + 9) h h8 := fh5.tr gh8
                    have kh8 : xK h8 = xK h := kkh8.trans kh5
                    have wh8 : VilAt h8 k (shrV (goV v (dayP v) (cmS v (vN v)).2 (vM v)) (vF (goV v (dayP v) (cmS v (vN v)).2 (vM v)) 2 (vM v)) (vN v)) := wh8
                    refine rn_iinc (a := vM v) (k := 1) (ls' := [(0, vr 5 k), (1, vi ((cmS v (vN v)).1)), (2, vi (dayP v)), (3, vi (nI (vM v + 1)))]) C (dx dX5_passDay 53 rfl) rfl rfl (by decide) [1, 2, 3, 0] rfl ?_
                    refine r_goto (tgt := 54) C (dx dX5_passDay 54 rfl) (by decide) ?_
                    have e9 : shrV (goV v (dayP v) (cmS v (vN v)).2 (vM v)) (vF (goV v (dayP v) (cmS v (vN v)).2 (vM v)) 2 (vM v)) (vN v) = goV v (dayP v) (cmS v (vN v)).2 (vM v + 1) := by rw [goV_s]; have e7 := goV_c v (dayP v) (cmS v (vN v)).2 (c := 2) (by decide) p p; (first | rw [e7] at c7 | skip); simp_all [needW]
                    rw [e9] at wh8
                    exact ih _ wh8 fh8 kh8)
          ·
            intro p hp ih h9 wh9 fh9 kh9
            refine r_iload_n C (dx dX5_passDay 34 rfl) rfl ?_
            refine r_aload_n C (dx dX5_passDay 35 rfl) rfl ?_
            refine g_X5_22 (x := nI (vM v)) C (dx dX5_passDay 36 rfl) wh9.eM ?_
            refine rn_ge (a := p) (b := vM v) (tgt := 91) C (by omega) (by omega) (dx dX5_passDay 37 rfl) (by decide) (fun c10 => ?_) (fun c10 => ?_)
            · first
              | (omega; done)
              | (
                  have c10 : vM v ≤ p := c10
                  refine r_aload_n C (dx dX5_passDay 55 rfl) rfl ?_
                  refine r_iload_n C (dx dX5_passDay 56 rfl) rfl ?_
                  refine r_cvP (as := [vi (dayP v)]) (st := []) (v := vi (worthS (goV v (dayP v) (cmS v (vN v)).2 p) (dayP v))) C X I_X5_worthWith l_X5_97 (c_X5_worthWith wh9 _) (by decide) (Nat.le_of_ble_eq_true rfl) (pfx_eq kh9) rfl rfl (Nat.le_of_ble_eq_true rfl) rfl (dx dX5_passDay 57 rfl) ?_
                  exact F.1 _ _ _ _ _ rfl rfl (dx dX5_passDay 58 rfl) kh9 ⟨congrArg (fun x => some (vi x)) (show worthS (goV v (dayP v) (cmS v (vN v)).2 p) (dayP v) = worthS v (dayP v) by exact worthS_c (u := goV v (dayP v) (cmS v (vN v)).2 (vM v)) (v := v) rfl (fun i => goV_c _ _ _ (c := 2) (by decide) i _) (fun i => goV_c _ _ _ (c := 3) (by decide) i _) _), wh9, fh9⟩)
            · first
              | (omega; done)
              | (
                  have c10 : p < vM v := c10
                  refine r_aload_n C (dx dX5_passDay 38 rfl) rfl ?_
                  refine g_X5_25 C (dx dX5_passDay 39 rfl) ?_
                  refine r_iload_n C (dx dX5_passDay 40 rfl) rfl ?_
                  refine r_iald (j := p) (x := vF (goV v (dayP v) (cmS v (vN v)).2 p) 2 p) C rfl rfl (by decide) rfl (by omega) (dx dX5_passDay 41 rfl) (wh9.e2 (by omega)) ?_
                  refine r_iload_n C (dx dX5_passDay 42 rfl) rfl ?_
                  refine r_iconst (v := -1) C (dx dX5_passDay 43 rfl) rfl ?_
                  refine r_ixor C (dx dX5_passDay 44 rfl) ?_
                  refine r_iand C (dx dX5_passDay 45 rfl) ?_
                  refine r_if_ne (tgt := 85) C (dx dX5_passDay 46 rfl) (by decide) (fun c11 => ?_) (fun c11 => ?_)
                  ·
                    have c11 : ¬ (vF (goV v (dayP v) (cmS v (vN v)).2 p) 2 p) &&& ((dayP v) ^^^ (-1)) = 0 := c11
                    refine rn_iinc (a := p) (k := 1) (ls' := [(0, vr 5 k), (1, vi ((cmS v (vN v)).1)), (2, vi (dayP v)), (3, vi (nI (p + 1)))]) C (dx dX5_passDay 53 rfl) rfl rfl (by decide) [1, 2, 3, 0] rfl ?_
                    refine r_goto (tgt := 54) C (dx dX5_passDay 54 rfl) (by decide) ?_
                    have e9 : goV v (dayP v) (cmS v (vN v)).2 p = goV v (dayP v) (cmS v (vN v)).2 (p + 1) := by rw [goV_s]; have e7 := goV_c v (dayP v) (cmS v (vN v)).2 (c := 2) (by decide) p p; (first | rw [e7] at c11 | skip); simp_all [needW]
                    rw [e9] at wh9
                    exact ih _ wh9 fh9 kh9
                  ·
                    have c11 : (vF (goV v (dayP v) (cmS v (vN v)).2 p) 2 p) &&& ((dayP v) ^^^ (-1)) = 0 := c11
                    refine r_aload_n C (dx dX5_passDay 47 rfl) rfl ?_
                    refine r_aload_n C (dx dX5_passDay 48 rfl) rfl ?_
                    refine g_X5_25 C (dx dX5_passDay 49 rfl) ?_
                    refine r_iload_n C (dx dX5_passDay 50 rfl) rfl ?_
                    refine r_iald (j := p) (x := vF (goV v (dayP v) (cmS v (vN v)).2 p) 2 p) C rfl rfl (by decide) rfl (by omega) (dx dX5_passDay 51 rfl) (wh9.e2 (by omega)) ?_
                    refine r_cv (as := [vi (vF (goV v (dayP v) (cmS v (vN v)).2 p) 2 p)]) (st := []) C X I_X5_shareOut l_X5_93 (c_X5_shareOut wh9 _) (by decide) (Nat.le_of_ble_eq_true rfl) List.prefix_rfl (pfx_eq kh9) rfl rfl (Nat.le_of_ble_eq_true rfl) rfl (dx dX5_passDay 52 rfl) ?_
                    intro rh12 h12 hph12 kkh12
                    obtain ⟨rfl, wh12, gh12⟩ := hph12
                    have fh12 : Fr k (k + 9) h h12 := fh9.tr gh12
                    have kh12 : xK h12 = xK h := kkh12.trans kh9
                    have wh12 : VilAt h12 k (shrV (goV v (dayP v) (cmS v (vN v)).2 p) (vF (goV v (dayP v) (cmS v (vN v)).2 p) 2 p) (vN v)) := wh12
                    refine rn_iinc (a := p) (k := 1) (ls' := [(0, vr 5 k), (1, vi ((cmS v (vN v)).1)), (2, vi (dayP v)), (3, vi (nI (p + 1)))]) C (dx dX5_passDay 53 rfl) rfl rfl (by decide) [1, 2, 3, 0] rfl ?_
                    refine r_goto (tgt := 54) C (dx dX5_passDay 54 rfl) (by decide) ?_
                    have e9 : shrV (goV v (dayP v) (cmS v (vN v)).2 p) (vF (goV v (dayP v) (cmS v (vN v)).2 p) 2 p) (vN v) = goV v (dayP v) (cmS v (vN v)).2 (p + 1) := by rw [goV_s]; have e7 := goV_c v (dayP v) (cmS v (vN v)).2 (c := 2) (by decide) p p; (first | rw [e7] at c11 | skip); simp_all [needW]
                    rw [e9] at wh12
                    exact ih _ wh12 fh12 kh12))
    · first
      | (omega; done)
      | (
          have c3 : vN v < vN v := c3
          refine r_aload_n C (dx dX5_passDay 8 rfl) rfl ?_
          refine g_X5_40 C (dx dX5_passDay 9 rfl) ?_
          refine r_iload_n C (dx dX5_passDay 10 rfl) rfl ?_
          refine r_zald (j := vN v) (x := vF v 6 (vN v)) C rfl rfl (by decide) rfl (by omega) (dx dX5_passDay 11 rfl) (wh2.e6 (by omega)) ?_
          refine r_if_ne (tgt := 40) C (dx dX5_passDay 12 rfl) (by decide) (fun c13 => ?_) (fun c13 => ?_)
          ·
            have c13 : ¬ vF v 6 (vN v) = 0 := c13
            refine rn_iinc (a := vN v) (k := 1) (ls' := [(0, vr 5 k), (1, vi ((cmS v (vN v)).1)), (2, vi (nI (vN v + 1)))]) C (dx dX5_passDay 26 rfl) rfl rfl (by decide) [1, 2, 0] rfl ?_
            refine r_goto (tgt := 4) C (dx dX5_passDay 27 rfl) (by decide) ?_
            have e8 : (cmS v (vN v)).1 = (cmS v (vN v + 1)).1 := by simp [cmS, c13]
            rw [e8]
            have e9 : vsS v (cmS v (vN v)).2 = vsS v (cmS v (vN v + 1)).2 := by simp [cmS, vsS, c13]
            rw [e9] at wh2
            exact ih _ wh2 fh2 kh2
          ·
            have c13 : vF v 6 (vN v) = 0 := c13
            refine r_aload_n C (dx dX5_passDay 13 rfl) rfl ?_
            refine r_cv (as := []) (st := []) C X I_X5_drawTenth l_X5_90 (c_X5_drawTenth wh2) (by decide) (Nat.le_of_ble_eq_true rfl) List.prefix_rfl (pfx_eq kh2) rfl rfl (Nat.le_of_ble_eq_true rfl) rfl (dx dX5_passDay 14 rfl) ?_
            intro rh14 h14 hph14 kkh14
            obtain ⟨rfl, wh14, gh14⟩ := hph14
            have fh14 : Fr k (k + 9) h h14 := fh2.tr gh14
            have kh14 : xK h14 = xK h := kkh14.trans kh2
            have wh14 : VilAt h14 k (vsS (vsS v (cmS v (vN v)).2) (lcg ((cmS v (vN v)).2))) := wh14
            refine r_aload_n C (dx dX5_passDay 15 rfl) rfl ?_
            refine g_X5_37 C (dx dX5_passDay 16 rfl) ?_
            refine r_iload_n C (dx dX5_passDay 17 rfl) rfl ?_
            refine r_iald (j := vN v) (x := vF v 5 (vN v)) C rfl rfl (by decide) rfl (by omega) (dx dX5_passDay 18 rfl) (wh14.e5 (by omega)) ?_
            refine r_icmp_lt (tgt := 40) C (dx dX5_passDay 19 rfl) (by decide) (fun c15 => ?_) (fun c15 => ?_)
            ·
              have c15 : drw ((cmS v (vN v)).2) < vF v 5 (vN v) := c15
              refine rn_iinc (a := vN v) (k := 1) (ls' := [(0, vr 5 k), (1, vi ((cmS v (vN v)).1)), (2, vi (nI (vN v + 1)))]) C (dx dX5_passDay 26 rfl) rfl rfl (by decide) [1, 2, 0] rfl ?_
              refine r_goto (tgt := 4) C (dx dX5_passDay 27 rfl) (by decide) ?_
              have e8 : (cmS v (vN v)).1 = (cmS v (vN v + 1)).1 := by simp [cmS, c13, c15]
              rw [e8]
              have e9 : vsS (vsS v (cmS v (vN v)).2) (lcg ((cmS v (vN v)).2)) = vsS v (cmS v (vN v + 1)).2 := by simp [cmS, vsS, c13, c15]
              rw [e9] at wh14
              exact ih _ wh14 fh14 kh14
            ·
              have c15 : ¬ drw ((cmS v (vN v)).2) < vF v 5 (vN v) := c15
              refine r_iload_n C (dx dX5_passDay 20 rfl) rfl ?_
              refine r_iconst (v := nI 1) C (dx dX5_passDay 21 rfl) rfl ?_
              refine r_iload_n C (dx dX5_passDay 22 rfl) rfl ?_
              refine r_ishl C (dx dX5_passDay 23 rfl) ?_
              refine r_ior C (dx dX5_passDay 24 rfl) ?_
              refine r_istore_n (ls' := [(0, vr 5 k), (1, vi (((cmS v (vN v)).1) ||| ((nI 1) <<< ((nI (vN v)) &&& 31)))), (2, vi (nI (vN v)))]) C (dx dX5_passDay 25 rfl) (by decide) [1, 0, 2] rfl ?_
              refine rn_iinc (a := vN v) (k := 1) (ls' := [(0, vr 5 k), (1, vi (((cmS v (vN v)).1) ||| ((nI 1) <<< ((nI (vN v)) &&& 31)))), (2, vi (nI (vN v + 1)))]) C (dx dX5_passDay 26 rfl) rfl rfl (by decide) [1, 2, 0] rfl ?_
              refine r_goto (tgt := 4) C (dx dX5_passDay 27 rfl) (by decide) ?_
              have e8 : ((cmS v (vN v)).1) ||| ((nI 1) <<< ((nI (vN v)) &&& 31)) = (cmS v (vN v + 1)).1 := by simp [cmS, c13, c15]
              rw [e8]
              have e9 : vsS (vsS v (cmS v (vN v)).2) (lcg ((cmS v (vN v)).2)) = vsS v (cmS v (vN v + 1)).2 := by simp [cmS, vsS, c13, c15]
              rw [e9] at wh14
              exact ih _ wh14 fh14 kh14)
  ·
    intro p hp ih h16 wh16 fh16 kh16
    refine r_iload_n C (dx dX5_passDay 4 rfl) rfl ?_
    refine r_aload_n C (dx dX5_passDay 5 rfl) rfl ?_
    refine g_X5_31 (x := nI (vN v)) C (dx dX5_passDay 6 rfl) wh16.eN ?_
    refine rn_ge (a := p) (b := vN v) (tgt := 46) C (by omega) (by omega) (dx dX5_passDay 7 rfl) (by decide) (fun c17 => ?_) (fun c17 => ?_)
    · first
      | (omega; done)
      | (
          have c17 : vN v ≤ p := c17
          refine r_aload_n C (dx dX5_passDay 28 rfl) rfl ?_
          refine r_iload_n C (dx dX5_passDay 29 rfl) rfl ?_
          refine r_cvP (as := [vi ((cmS v p).1)]) (st := []) (v := vi (dayP v)) C X I_X5_partsWith l_X5_84 (c_X5_partsWith wh16 _) (by decide) (Nat.le_of_ble_eq_true rfl) (pfx_eq kh16) rfl rfl (Nat.le_of_ble_eq_true rfl) rfl (dx dX5_passDay 30 rfl) ?_
          refine r_istore_n (ls' := [(0, vr 5 k), (1, vi ((cmS v p).1)), (2, vi (dayP v))]) C (dx dX5_passDay 31 rfl) (by decide) [1, 2, 0] rfl ?_
          refine r_iconst (v := nI 0) C (dx dX5_passDay 32 rfl) rfl ?_
          refine r_istore_n (ls' := [(0, vr 5 k), (1, vi ((cmS v p).1)), (2, vi (dayP v)), (3, vi (nI 0))]) C (dx dX5_passDay 33 rfl) (by decide) [1, 2, 3, 0] rfl ?_
          refine loopU (Φ := fun p => ∀ h9, VilAt h9 k (goV v (dayP v) (cmS v (vN v)).2 p) → Fr k (k + 9) h h9 → xK h9 = xK h → Rr G 54 [(0, vr 5 k), (1, vi ((cmS v p).1)), (2, vi (dayP v)), (3, vi (nI p))] [] h9) (N := vM v) ?_ ?_ 0 (Nat.zero_le _) _ wh16 fh16 kh16
          ·
            intro  h19 wh19 fh19 kh19
            refine r_iload_n C (dx dX5_passDay 34 rfl) rfl ?_
            refine r_aload_n C (dx dX5_passDay 35 rfl) rfl ?_
            refine g_X5_22 (x := nI (vM v)) C (dx dX5_passDay 36 rfl) wh19.eM ?_
            refine rn_ge (a := vM v) (b := vM v) (tgt := 91) C (by omega) (by omega) (dx dX5_passDay 37 rfl) (by decide) (fun c20 => ?_) (fun c20 => ?_)
            · first
              | (omega; done)
              | (
                  have c20 : vM v ≤ vM v := c20
                  refine r_aload_n C (dx dX5_passDay 55 rfl) rfl ?_
                  refine r_iload_n C (dx dX5_passDay 56 rfl) rfl ?_
                  refine r_cvP (as := [vi (dayP v)]) (st := []) (v := vi (worthS (goV v (dayP v) (cmS v (vN v)).2 (vM v)) (dayP v))) C X I_X5_worthWith l_X5_97 (c_X5_worthWith wh19 _) (by decide) (Nat.le_of_ble_eq_true rfl) (pfx_eq kh19) rfl rfl (Nat.le_of_ble_eq_true rfl) rfl (dx dX5_passDay 57 rfl) ?_
                  exact F.1 _ _ _ _ _ rfl rfl (dx dX5_passDay 58 rfl) kh19 ⟨congrArg (fun x => some (vi x)) (show worthS (goV v (dayP v) (cmS v (vN v)).2 (vM v)) (dayP v) = worthS v (dayP v) by exact worthS_c (u := goV v (dayP v) (cmS v (vN v)).2 (vM v)) (v := v) rfl (fun i => goV_c _ _ _ (c := 2) (by decide) i _) (fun i => goV_c _ _ _ (c := 3) (by decide) i _) _), wh19, fh19⟩)
            · first
              | (omega; done)
              | (
                  have c20 : vM v < vM v := c20
                  refine r_aload_n C (dx dX5_passDay 38 rfl) rfl ?_
                  refine g_X5_25 C (dx dX5_passDay 39 rfl) ?_
                  refine r_iload_n C (dx dX5_passDay 40 rfl) rfl ?_
                  refine r_iald (j := vM v) (x := vF (goV v (dayP v) (cmS v (vN v)).2 (vM v)) 2 (vM v)) C rfl rfl (by decide) rfl (by omega) (dx dX5_passDay 41 rfl) (wh19.e2 (by omega)) ?_
                  refine r_iload_n C (dx dX5_passDay 42 rfl) rfl ?_
                  refine r_iconst (v := -1) C (dx dX5_passDay 43 rfl) rfl ?_
                  refine r_ixor C (dx dX5_passDay 44 rfl) ?_
                  refine r_iand C (dx dX5_passDay 45 rfl) ?_
                  refine r_if_ne (tgt := 85) C (dx dX5_passDay 46 rfl) (by decide) (fun c21 => ?_) (fun c21 => ?_)
                  ·
                    have c21 : ¬ (vF (goV v (dayP v) (cmS v (vN v)).2 (vM v)) 2 (vM v)) &&& ((dayP v) ^^^ (-1)) = 0 := c21
                    refine rn_iinc (a := vM v) (k := 1) (ls' := [(0, vr 5 k), (1, vi ((cmS v p).1)), (2, vi (dayP v)), (3, vi (nI (vM v + 1)))]) C (dx dX5_passDay 53 rfl) rfl rfl (by decide) [1, 2, 3, 0] rfl ?_
                    refine r_goto (tgt := 54) C (dx dX5_passDay 54 rfl) (by decide) ?_
                    have e9 : goV v (dayP v) (cmS v (vN v)).2 (vM v) = goV v (dayP v) (cmS v (vN v)).2 (vM v + 1) := by rw [goV_s]; have e7 := goV_c v (dayP v) (cmS v (vN v)).2 (c := 2) (by decide) p p; (first | rw [e7] at c21 | skip); simp_all [needW]
                    rw [e9] at wh19
                    exact ih _ wh19 fh19 kh19
                  ·
                    have c21 : (vF (goV v (dayP v) (cmS v (vN v)).2 (vM v)) 2 (vM v)) &&& ((dayP v) ^^^ (-1)) = 0 := c21
                    refine r_aload_n C (dx dX5_passDay 47 rfl) rfl ?_
                    refine r_aload_n C (dx dX5_passDay 48 rfl) rfl ?_
                    refine g_X5_25 C (dx dX5_passDay 49 rfl) ?_
                    refine r_iload_n C (dx dX5_passDay 50 rfl) rfl ?_
                    refine r_iald (j := vM v) (x := vF (goV v (dayP v) (cmS v (vN v)).2 (vM v)) 2 (vM v)) C rfl rfl (by decide) rfl (by omega) (dx dX5_passDay 51 rfl) (wh19.e2 (by omega)) ?_
                    refine r_cv (as := [vi (vF (goV v (dayP v) (cmS v (vN v)).2 (vM v)) 2 (vM v))]) (st := []) C X I_X5_shareOut l_X5_93 (c_X5_shareOut wh19 _) (by decide) (Nat.le_of_ble_eq_true rfl) List.prefix_rfl (pfx_eq kh19) rfl rfl (Nat.le_of_ble_eq_true rfl) rfl (dx dX5_passDay 52 rfl) ?_
                    intro rh22 h22 hph22 kkh22
                    obtain ⟨rfl, wh22, gh22⟩ := hph22
                    have fh22 : Fr k (k + 9) h h22 := fh19.tr gh22
                    have kh22 : xK h22 = xK h := kkh22.trans kh19
                    have wh22 : VilAt h22 k (shrV (goV v (dayP v) (cmS v (vN v)).2 (vM v)) (vF (goV v (dayP v) (cmS v (vN v)).2 (vM v)) 2 (vM v)) (vN v)) := wh22
                    refine rn_iinc (a := vM v) (k := 1) (ls' := [(0, vr 5 k), (1, vi ((cmS v p).1)), (2, vi (dayP v)), (3, vi (nI (vM v + 1)))]) C (dx dX5_passDay 53 rfl) rfl rfl (by decide) [1, 2, 3, 0] rfl ?_
                    refine r_goto (tgt := 54) C (dx dX5_passDay 54 rfl) (by decide) ?_
                    have e9 : shrV (goV v (dayP v) (cmS v (vN v)).2 (vM v)) (vF (goV v (dayP v) (cmS v (vN v)).2 (vM v)) 2 (vM v)) (vN v) = goV v (dayP v) (cmS v (vN v)).2 (vM v + 1) := by rw [goV_s]; have e7 := goV_c v (dayP v) (cmS v (vN v)).2 (c := 2) (by decide) p p; (first | rw [e7] at c21 | skip); simp_all [needW]
                    rw [e9] at wh22
                    exact ih _ wh22 fh22 kh22)
          ·
            intro p hp ih h23 wh23 fh23 kh23
            refine r_iload_n C (dx dX5_passDay 34 rfl) rfl ?_
            refine r_aload_n C (dx dX5_passDay 35 rfl) rfl ?_
            refine g_X5_22 (x := nI (vM v)) C (dx dX5_passDay 36 rfl) wh23.eM ?_
            refine rn_ge (a := p) (b := vM v) (tgt := 91) C (by omega) (by omega) (dx dX5_passDay 37 rfl) (by decide) (fun c24 => ?_) (fun c24 => ?_)
            · first
              | (omega; done)
              | (
                  have c24 : vM v ≤ p := c24
                  refine r_aload_n C (dx dX5_passDay 55 rfl) rfl ?_
                  refine r_iload_n C (dx dX5_passDay 56 rfl) rfl ?_
                  refine r_cvP (as := [vi (dayP v)]) (st := []) (v := vi (worthS (goV v (dayP v) (cmS v (vN v)).2 p) (dayP v))) C X I_X5_worthWith l_X5_97 (c_X5_worthWith wh23 _) (by decide) (Nat.le_of_ble_eq_true rfl) (pfx_eq kh23) rfl rfl (Nat.le_of_ble_eq_true rfl) rfl (dx dX5_passDay 57 rfl) ?_
                  exact F.1 _ _ _ _ _ rfl rfl (dx dX5_passDay 58 rfl) kh23 ⟨congrArg (fun x => some (vi x)) (show worthS (goV v (dayP v) (cmS v (vN v)).2 p) (dayP v) = worthS v (dayP v) by exact worthS_c (u := goV v (dayP v) (cmS v (vN v)).2 (vM v)) (v := v) rfl (fun i => goV_c _ _ _ (c := 2) (by decide) i _) (fun i => goV_c _ _ _ (c := 3) (by decide) i _) _), wh23, fh23⟩)
            · first
              | (omega; done)
              | (
                  have c24 : p < vM v := c24
                  refine r_aload_n C (dx dX5_passDay 38 rfl) rfl ?_
                  refine g_X5_25 C (dx dX5_passDay 39 rfl) ?_
                  refine r_iload_n C (dx dX5_passDay 40 rfl) rfl ?_
                  refine r_iald (j := p) (x := vF (goV v (dayP v) (cmS v (vN v)).2 p) 2 p) C rfl rfl (by decide) rfl (by omega) (dx dX5_passDay 41 rfl) (wh23.e2 (by omega)) ?_
                  refine r_iload_n C (dx dX5_passDay 42 rfl) rfl ?_
                  refine r_iconst (v := -1) C (dx dX5_passDay 43 rfl) rfl ?_
                  refine r_ixor C (dx dX5_passDay 44 rfl) ?_
                  refine r_iand C (dx dX5_passDay 45 rfl) ?_
                  refine r_if_ne (tgt := 85) C (dx dX5_passDay 46 rfl) (by decide) (fun c25 => ?_) (fun c25 => ?_)
                  ·
                    have c25 : ¬ (vF (goV v (dayP v) (cmS v (vN v)).2 p) 2 p) &&& ((dayP v) ^^^ (-1)) = 0 := c25
                    refine rn_iinc (a := p) (k := 1) (ls' := [(0, vr 5 k), (1, vi ((cmS v p).1)), (2, vi (dayP v)), (3, vi (nI (p + 1)))]) C (dx dX5_passDay 53 rfl) rfl rfl (by decide) [1, 2, 3, 0] rfl ?_
                    refine r_goto (tgt := 54) C (dx dX5_passDay 54 rfl) (by decide) ?_
                    have e9 : goV v (dayP v) (cmS v (vN v)).2 p = goV v (dayP v) (cmS v (vN v)).2 (p + 1) := by rw [goV_s]; have e7 := goV_c v (dayP v) (cmS v (vN v)).2 (c := 2) (by decide) p p; (first | rw [e7] at c25 | skip); simp_all [needW]
                    rw [e9] at wh23
                    exact ih _ wh23 fh23 kh23
                  ·
                    have c25 : (vF (goV v (dayP v) (cmS v (vN v)).2 p) 2 p) &&& ((dayP v) ^^^ (-1)) = 0 := c25
                    refine r_aload_n C (dx dX5_passDay 47 rfl) rfl ?_
                    refine r_aload_n C (dx dX5_passDay 48 rfl) rfl ?_
                    refine g_X5_25 C (dx dX5_passDay 49 rfl) ?_
                    refine r_iload_n C (dx dX5_passDay 50 rfl) rfl ?_
                    refine r_iald (j := p) (x := vF (goV v (dayP v) (cmS v (vN v)).2 p) 2 p) C rfl rfl (by decide) rfl (by omega) (dx dX5_passDay 51 rfl) (wh23.e2 (by omega)) ?_
                    refine r_cv (as := [vi (vF (goV v (dayP v) (cmS v (vN v)).2 p) 2 p)]) (st := []) C X I_X5_shareOut l_X5_93 (c_X5_shareOut wh23 _) (by decide) (Nat.le_of_ble_eq_true rfl) List.prefix_rfl (pfx_eq kh23) rfl rfl (Nat.le_of_ble_eq_true rfl) rfl (dx dX5_passDay 52 rfl) ?_
                    intro rh26 h26 hph26 kkh26
                    obtain ⟨rfl, wh26, gh26⟩ := hph26
                    have fh26 : Fr k (k + 9) h h26 := fh23.tr gh26
                    have kh26 : xK h26 = xK h := kkh26.trans kh23
                    have wh26 : VilAt h26 k (shrV (goV v (dayP v) (cmS v (vN v)).2 p) (vF (goV v (dayP v) (cmS v (vN v)).2 p) 2 p) (vN v)) := wh26
                    refine rn_iinc (a := p) (k := 1) (ls' := [(0, vr 5 k), (1, vi ((cmS v p).1)), (2, vi (dayP v)), (3, vi (nI (p + 1)))]) C (dx dX5_passDay 53 rfl) rfl rfl (by decide) [1, 2, 3, 0] rfl ?_
                    refine r_goto (tgt := 54) C (dx dX5_passDay 54 rfl) (by decide) ?_
                    have e9 : shrV (goV v (dayP v) (cmS v (vN v)).2 p) (vF (goV v (dayP v) (cmS v (vN v)).2 p) 2 p) (vN v) = goV v (dayP v) (cmS v (vN v)).2 (p + 1) := by rw [goV_s]; have e7 := goV_c v (dayP v) (cmS v (vN v)).2 (c := 2) (by decide) p p; (first | rw [e7] at c25 | skip); simp_all [needW]
                    rw [e9] at wh26
                    exact ih _ wh26 fh26 kh26))
    · first
      | (omega; done)
      | (
          have c17 : p < vN v := c17
          refine r_aload_n C (dx dX5_passDay 8 rfl) rfl ?_
          refine g_X5_40 C (dx dX5_passDay 9 rfl) ?_
          refine r_iload_n C (dx dX5_passDay 10 rfl) rfl ?_
          refine r_zald (j := p) (x := vF v 6 p) C rfl rfl (by decide) rfl (by omega) (dx dX5_passDay 11 rfl) (wh16.e6 (by omega)) ?_
          refine r_if_ne (tgt := 40) C (dx dX5_passDay 12 rfl) (by decide) (fun c27 => ?_) (fun c27 => ?_)
          ·
            have c27 : ¬ vF v 6 p = 0 := c27
            refine rn_iinc (a := p) (k := 1) (ls' := [(0, vr 5 k), (1, vi ((cmS v p).1)), (2, vi (nI (p + 1)))]) C (dx dX5_passDay 26 rfl) rfl rfl (by decide) [1, 2, 0] rfl ?_
            refine r_goto (tgt := 4) C (dx dX5_passDay 27 rfl) (by decide) ?_
            have e8 : (cmS v p).1 = (cmS v (p + 1)).1 := by simp [cmS, c27]
            rw [e8]
            have e9 : vsS v (cmS v p).2 = vsS v (cmS v (p + 1)).2 := by simp [cmS, vsS, c27]
            rw [e9] at wh16
            exact ih _ wh16 fh16 kh16
          ·
            have c27 : vF v 6 p = 0 := c27
            refine r_aload_n C (dx dX5_passDay 13 rfl) rfl ?_
            refine r_cv (as := []) (st := []) C X I_X5_drawTenth l_X5_90 (c_X5_drawTenth wh16) (by decide) (Nat.le_of_ble_eq_true rfl) List.prefix_rfl (pfx_eq kh16) rfl rfl (Nat.le_of_ble_eq_true rfl) rfl (dx dX5_passDay 14 rfl) ?_
            intro rh28 h28 hph28 kkh28
            obtain ⟨rfl, wh28, gh28⟩ := hph28
            have fh28 : Fr k (k + 9) h h28 := fh16.tr gh28
            have kh28 : xK h28 = xK h := kkh28.trans kh16
            have wh28 : VilAt h28 k (vsS (vsS v (cmS v p).2) (lcg ((cmS v p).2))) := wh28
            refine r_aload_n C (dx dX5_passDay 15 rfl) rfl ?_
            refine g_X5_37 C (dx dX5_passDay 16 rfl) ?_
            refine r_iload_n C (dx dX5_passDay 17 rfl) rfl ?_
            refine r_iald (j := p) (x := vF v 5 p) C rfl rfl (by decide) rfl (by omega) (dx dX5_passDay 18 rfl) (wh28.e5 (by omega)) ?_
            refine r_icmp_lt (tgt := 40) C (dx dX5_passDay 19 rfl) (by decide) (fun c29 => ?_) (fun c29 => ?_)
            ·
              have c29 : drw ((cmS v p).2) < vF v 5 p := c29
              refine rn_iinc (a := p) (k := 1) (ls' := [(0, vr 5 k), (1, vi ((cmS v p).1)), (2, vi (nI (p + 1)))]) C (dx dX5_passDay 26 rfl) rfl rfl (by decide) [1, 2, 0] rfl ?_
              refine r_goto (tgt := 4) C (dx dX5_passDay 27 rfl) (by decide) ?_
              have e8 : (cmS v p).1 = (cmS v (p + 1)).1 := by simp [cmS, c27, c29]
              rw [e8]
              have e9 : vsS (vsS v (cmS v p).2) (lcg ((cmS v p).2)) = vsS v (cmS v (p + 1)).2 := by simp [cmS, vsS, c27, c29]
              rw [e9] at wh28
              exact ih _ wh28 fh28 kh28
            ·
              have c29 : ¬ drw ((cmS v p).2) < vF v 5 p := c29
              refine r_iload_n C (dx dX5_passDay 20 rfl) rfl ?_
              refine r_iconst (v := nI 1) C (dx dX5_passDay 21 rfl) rfl ?_
              refine r_iload_n C (dx dX5_passDay 22 rfl) rfl ?_
              refine r_ishl C (dx dX5_passDay 23 rfl) ?_
              refine r_ior C (dx dX5_passDay 24 rfl) ?_
              refine r_istore_n (ls' := [(0, vr 5 k), (1, vi (((cmS v p).1) ||| ((nI 1) <<< ((nI p) &&& 31)))), (2, vi (nI p))]) C (dx dX5_passDay 25 rfl) (by decide) [1, 0, 2] rfl ?_
              refine rn_iinc (a := p) (k := 1) (ls' := [(0, vr 5 k), (1, vi (((cmS v p).1) ||| ((nI 1) <<< ((nI p) &&& 31)))), (2, vi (nI (p + 1)))]) C (dx dX5_passDay 26 rfl) rfl rfl (by decide) [1, 2, 0] rfl ?_
              refine r_goto (tgt := 4) C (dx dX5_passDay 27 rfl) (by decide) ?_
              have e8 : ((cmS v p).1) ||| ((nI 1) <<< ((nI p) &&& 31)) = (cmS v (p + 1)).1 := by simp [cmS, c27, c29]
              rw [e8]
              have e9 : vsS (vsS v (cmS v p).2) (lcg ((cmS v p).2)) = vsS v (cmS v (p + 1)).2 := by simp [cmS, vsS, c27, c29]
              rw [e9] at wh28
              exact ih _ wh28 fh28 kh28)
end
section
/-! PART 10: sets as bits; how likely sets are; what they have -/
theorem sh1 {o : Nat} (h : o < 13) : nI 1 <<< (nI o &&& 31) = nI (2 ^ o) := by
  have key : ∀ m : Fin 13, nI 1 <<< (nI m &&& 31) = nI (2 ^ m.val) := by decide +kernel
  exact key ⟨o, h⟩
theorem or_pow {a o : Nat} (h : o < 8) (ha : a < 2 ^ o) : nI a ||| nI (2 ^ o) = nI (a + 2 ^ o) := by
  have key : ∀ m : Fin 8, ∀ b : Fin 128, b.val < 2 ^ m.val → nI b ||| nI (2 ^ m.val) = nI (b + 2 ^ m.val) := by decide +kernel
  have h2 : 2 ^ o ≤ 2 ^ 7 := Nat.pow_le_pow_right (by omega) (by omega)
  exact key ⟨o, h⟩ ⟨a, by omega⟩ ha
theorem and_pow {a o : Nat} (h : o < 8) (ha : a < 256) : (nI a &&& nI (2 ^ o) = 0) ↔ a.testBit o = false := by
  have key : ∀ m : Fin 8, ∀ b : Fin 256, (nI b &&& nI (2 ^ m.val) = 0) ↔ b.val.testBit m.val = false := by decide +kernel
  exact key ⟨o, h⟩ ⟨a, ha⟩
theorem pow8 {n : Nat} (h : n ≤ 8) : 1 ≤ 2 ^ n ∧ 2 ^ n ≤ 256 := ⟨Nat.one_le_two_pow, Nat.le_trans (Nat.pow_le_pow_right (by omega) h) (by decide)⟩
theorem pow_s (n : Nat) : 2 ^ (n + 1) = 2 ^ n + 2 ^ n := by rw [Nat.pow_succ]; omega
/-- tenths of the days on which one is away, or comes -/
def fac (v : Vg) (o : Nat) (c : Bool) : Int32 := if c then nI 10 - (if vF v 6 o = 0 then vF v 5 o else nI 10) else (if vF v 6 o = 0 then vF v 5 o else nI 10)
/-- how likely just a set of the first n comes -/
def wgt (v : Vg) (s : Nat) : Nat → Int64
  | 0 => 1
  | n + 1 => wgt v s n * (fac v n (s.testBit n)).toInt64
theorem wgt_lo (v : Vg) (s m : Nat) : ∀ n, n ≤ m → wgt v (s + 2 ^ m) n = wgt v s n
  | 0, _ => rfl
  | n + 1, h => by
    simp only [wgt, wgt_lo v s m n (by omega)]
    rw [Nat.add_comm s, Nat.testBit_two_pow_add_gt (by omega)]
theorem wgt_hi (v : Vg) {s n : Nat} (hs : s < 2 ^ n) : wgt v (s + 2 ^ n) (n + 1) = wgt v s n * (fac v n true).toInt64 := by
  simp only [wgt, wgt_lo v s n n (Nat.le_refl _)]
  rw [Nat.add_comm s, Nat.testBit_two_pow_add_eq, Nat.testBit_lt_two_pow hs]; rfl
theorem wgt_at (v : Vg) {s n : Nat} (hs : s < 2 ^ n) : wgt v s (n + 1) = wgt v s n * (fac v n false).toInt64 := by
  simp only [wgt]; rw [Nat.testBit_lt_two_pow hs]
/-- the parts that a set of the first n has -/
def gat (v : Vg) (s : Nat) : Nat → Int32
  | 0 => nI 0
  | n + 1 => if s.testBit n then gat v s n ||| ownP v (nI n) else gat v s n
theorem gat_lo (v : Vg) (s m : Nat) : ∀ n, n ≤ m → gat v (s + 2 ^ m) n = gat v s n
  | 0, _ => rfl
  | n + 1, h => by
    simp only [gat, gat_lo v s m n (by omega)]
    rw [Nat.add_comm s, Nat.testBit_two_pow_add_gt (by omega)]
theorem gat_hi (v : Vg) {s n : Nat} (hs : s < 2 ^ n) : gat v (s + 2 ^ n) (n + 1) = gat v s n ||| ownP v (nI n) := by
  simp only [gat, gat_lo v s n n (Nat.le_refl _)]
  rw [Nat.add_comm s, Nat.testBit_two_pow_add_eq, Nat.testBit_lt_two_pow hs]; rfl
theorem gat_at (v : Vg) {s n : Nat} (hs : s < 2 ^ n) : gat v s (n + 1) = gat v s n := by
  simp only [gat]; rw [Nat.testBit_lt_two_pow hs]; rfl
/-- bit i of a set of bits -/
def bt (x : Int32) (i : Nat) : Bool := x.toBitVec.getLsbD i
theorem bt_ext {x y : Int32} (h : ∀ i, i < 32 → bt x i = bt y i) : x = y := by
  apply Int32.toBitVec_inj.mp
  apply BitVec.eq_of_getLsbD_eq
  intro i hi
  exact h i hi
theorem bt_or (x y : Int32) (i : Nat) : bt (x ||| y) i = (bt x i || bt y i) := by simp [bt]
theorem bt_0 (i : Nat) : bt (nI 0) i = false := by simp [bt, nI_0]
theorem bt_pow {n i : Nat} (hn : n < 13) (hi : i < 32) : bt (nI 1 <<< (nI n &&& 31)) i = decide (i = n) := by
  have key : ∀ m : Fin 13, ∀ j : Fin 32, bt (nI 1 <<< (nI m &&& 31)) j = decide (j.val = m.val) := by decide +kernel
  exact key ⟨n, hn⟩ ⟨i, hi⟩
def sumL (f : Nat → Int64) : Nat → Int64
  | 0 => 0
  | n + 1 => sumL f n + f n
end
section
/-! PART 11: teams -/
theorem rn_sh1 {G : Gt} {cc : ByteArray} {nL pc : Nat} {own : String} {ls : List (Nat × V)} {st : List V} {h : Hp} (C : Cx G cc nL own) {o : Nat} (ho : o < 13) (dd : decode cc pc = .ok (.ishl, 1)) (kk : Rr G (pc + 1) ls (vi (nI (2 ^ o)) :: st) h) : Rr G pc ls (vi (nI o) :: vi (nI 1) :: st) h :=
  r_ishl C dd (by rw [sh1 ho]; exact kk)
theorem c_allS {l : Launch} {h : Hp} {k S : Nat} {v : Vg} (hv : VilAt h k v) (hS : S = 2 ^ vN v) : Mp l yX5_allPeople cX5_allPeople 1 (some .int) 1 [vr 5 k] h (vi (nI (S - 1))) := by subst hS; exact c_X5_allPeople hv
def sumIfL (p : Nat → Bool) (f : Nat → Int64) : Nat → Int64
  | 0 => 0
  | n + 1 => if p n then sumIfL p f n + f n else sumIfL p f n
def oddsC (v : Vg) (m : Nat) : Int64 := sumIfL (fun s => needW v (gat v s (vN v)) m) (fun s => wgt v s (vN v)) (2 ^ vN v)
def oddsPC (v : Vg) (m o : Nat) : Int64 := sumIfL (fun s => bothW v m o (nI s)) (fun s => wgt v s (vN v)) (2 ^ vN v)
def dayC (v : Vg) : Int64 := sumL (fun s => wgt v s (vN v) * (worthS v (gat v s (vN v))).toInt64) (2 ^ vN v)
set_option maxHeartbeats 4000000 in
theorem c_X4_weigh {l : Launch} {h : Hp} {k kv : Nat} {v : Vg} (hv : VilAt h kv v) (hd : kv + 9 ≤ k ∨ k + 4 ≤ kv) : Ms l yX4_weigh cX4_weigh 6 none 1 [vr 4 k, vr 5 kv] h (xK h) (fun r h' => r = none ∧ (∀ s, s < 2 ^ vN v → xL h' (k + 1) s = wgt v s (vN v)) ∧ Fr (k + 1) (k + 2) h h') := by
  refine Ms.of (by decide) (Nat.le_of_ble_eq_true rfl) (fun G C X F => ?_)
  have C : Cx G cX4_weigh 6 RX4 := C
  show Rr G 0 [(0, vr 4 k), (1, vr 5 kv)] [] h
  have bP := hv.bP
  have bM := hv.bM
  have bN := hv.bN
  have p8 := pow8 bN
  refine r_aload_n C (dx dX4_weigh 0 rfl) rfl ?_
  refine g_X4_9 C (dx dX4_weigh 1 rfl) ?_
  refine r_iconst (v := nI 0) C (dx dX4_weigh 2 rfl) rfl ?_
  refine r_lconst (v := 1) C (dx dX4_weigh 3 rfl) rfl ?_
  refine r_last (j := 0) C rfl rfl (by decide) rfl (by omega) (dx dX4_weigh 4 rfl) ?_
  have eh1 : ∀ i, xL (sL h (k + 1) 0 1) (k + 1) i = if i = 0 then 1 else xL h (k + 1) i := fun i => sL_at
  have fh1 : Fr (k + 1) (k + 2) h (sL h (k + 1) 0 1) := Fr.sL (by omega) (by omega)
  have kh1 : xK (sL h (k + 1) 0 1) = xK h := rfl
  have uh1 : VilAt (sL h (k + 1) 0 1) kv v := hv.fr fh1 (by omega)
  generalize sL h (k + 1) 0 1 = h1 at eh1 fh1 kh1 uh1 ⊢
  refine r_iconst (v := nI 0) C (dx dX4_weigh 5 rfl) rfl ?_
  refine r_istore_n (ls' := [(0, vr 4 k), (1, vr 5 kv), (2, vi (nI 0))]) C (dx dX4_weigh 6 rfl) (by decide) [1, 2, 0] rfl ?_
  have q0 : ∀ s, s < 2 ^ 0 → xL h1 (k + 1) s = wgt v s 0 := fun s hs => by rw [show s = 0 by omega]; exact ((eh1 _).trans (if_pos rfl))
  refine loopU (Φ := fun o => ∀ h9, (∀ s, s < 2 ^ o → xL h9 (k + 1) s = wgt v s o) → Fr (k + 1) (k + 2) h h9 → xK h9 = xK h → Rr G 9 [(0, vr 4 k), (1, vr 5 kv), (2, vi (nI o))] [] h9) (N := vN v) ?_ ?_ 0 (Nat.zero_le _) _ q0 fh1 kh1
  ·
    intro  h2 qh2 fh2 kh2
    have uh2 : VilAt h2 kv v := hv.fr fh2 (by omega)
    refine r_iload_n C (dx dX4_weigh 7 rfl) rfl ?_
    refine r_aload_n C (dx dX4_weigh 8 rfl) rfl ?_
    refine g_X4_22 (x := nI (vN v)) C (dx dX4_weigh 9 rfl) uh2.eN ?_
    refine rn_ge (a := vN v) (b := vN v) (tgt := 105) C (by omega) (by omega) (dx dX4_weigh 10 rfl) (by decide) (fun c3 => ?_) (fun c3 => ?_)
    · first
      | (omega; done)
      | (
          have c3 : vN v ≤ vN v := c3
          exact F.2.2.1 _ _ _ rfl (dx dX4_weigh 62 rfl) kh2 ⟨rfl, qh2, fh2⟩)
    · first
      | (omega; done)
      | (
          have c3 : vN v < vN v := c3
          refine r_aload_n C (dx dX4_weigh 11 rfl) rfl ?_
          refine g_X4_28 C (dx dX4_weigh 12 rfl) ?_
          refine r_iload_n C (dx dX4_weigh 13 rfl) rfl ?_
          refine r_zald (j := vN v) (x := vF v 6 (vN v)) C rfl rfl (by decide) rfl (by omega) (dx dX4_weigh 14 rfl) (uh2.e6 (by omega)) ?_
          refine r_if_eq (tgt := 31) C (dx dX4_weigh 15 rfl) (by decide) (fun c4 => ?_) (fun c4 => ?_)
          ·
            have c4 : vF v 6 (vN v) = 0 := c4
            refine r_aload_n C (dx dX4_weigh 18 rfl) rfl ?_
            refine g_X4_32 C (dx dX4_weigh 19 rfl) ?_
            refine r_iload_n C (dx dX4_weigh 20 rfl) rfl ?_
            refine r_iald (j := vN v) (x := vF v 5 (vN v)) C rfl rfl (by decide) rfl (by omega) (dx dX4_weigh 21 rfl) (uh2.e5 (by omega)) ?_
            refine r_istore_n (ls' := [(0, vr 4 k), (1, vr 5 kv), (2, vi (nI (vN v))), (3, vi (vF v 5 (vN v)))]) C (dx dX4_weigh 22 rfl) (by decide) [1, 2, 3, 0] rfl ?_
            refine r_iconst (v := nI 1) C (dx dX4_weigh 23 rfl) rfl ?_
            refine r_iload_n C (dx dX4_weigh 24 rfl) rfl ?_
            refine rn_sh1 (o := vN v) C (by omega) (dx dX4_weigh 25 rfl) ?_
            refine r_istore (ls' := [(0, vr 4 k), (1, vr 5 kv), (2, vi (nI (vN v))), (3, vi (vF v 5 (vN v))), (4, vi (nI (2 ^ (vN v))))]) C (dx dX4_weigh 26 rfl) (by decide) [1, 2, 3, 4, 0] rfl ?_
            refine r_iconst (v := nI 0) C (dx dX4_weigh 27 rfl) rfl ?_
            refine r_istore (ls' := [(0, vr 4 k), (1, vr 5 kv), (2, vi (nI (vN v))), (3, vi (vF v 5 (vN v))), (4, vi (nI (2 ^ (vN v)))), (5, vi (nI 0))]) C (dx dX4_weigh 28 rfl) (by decide) [1, 2, 3, 4, 5, 0] rfl ?_
            have fcF : fac v o false = vF v 5 (vN v) := by simp [fac, c4]
            have fcT : fac v o true = nI 10 - (vF v 5 (vN v)) := by simp [fac, c4]
            refine loopU (Φ := fun s => ∀ h9, (∀ i, i < s → xL h9 (k + 1) i = wgt v i (o + 1) ∧ xL h9 (k + 1) (i + 2 ^ o) = wgt v (i + 2 ^ o) (o + 1)) → (∀ i, s ≤ i → i < 2 ^ o → xL h9 (k + 1) i = wgt v i o) → Fr (k + 1) (k + 2) h h9 → xK h9 = xK h → Rr G 46 [(0, vr 4 k), (1, vr 5 kv), (2, vi (nI (vN v))), (3, vi (vF v 5 (vN v))), (4, vi (nI (2 ^ (vN v)))), (5, vi (nI s))] [] h9) (N := 2 ^ o) ?_ ?_ 0 (Nat.zero_le _) _ (fun i hi => absurd hi (by omega)) (fun i _ hi => qh2 i hi) fh2 kh2
            ·
              intro  h5 qa qb fh5 kh5
              have uh5 : VilAt h5 kv v := hv.fr fh5 (by omega)
              have qh5 : ∀ s, s < 2 ^ (o + 1) → xL h5 (k + 1) s = wgt v s (o + 1) := fun s hs => by
                have := pow_s o
                by_cases hs2 : s < 2 ^ o
                · exact (qa s hs2).1
                · have q := (qa (s - 2 ^ o) (by omega)).2
                  rw [show s - 2 ^ o + 2 ^ o = s by omega] at q; exact q
              refine r_iload C (dx dX4_weigh 29 rfl) rfl ?_
              refine r_iload C (dx dX4_weigh 30 rfl) rfl ?_
              refine rn_ge (a := 2 ^ o) (b := 2 ^ (vN v)) (tgt := 99) C (by omega) (by omega) (dx dX4_weigh 31 rfl) (by decide) (fun c6 => ?_) (fun c6 => ?_)
              · first
                | (omega; done)
              · first
                | (omega; done)
            ·
              intro s hs ih h9 qa qb fh9 kh9
              have uh9 : VilAt h9 kv v := hv.fr fh9 (by omega)
              refine r_iload C (dx dX4_weigh 29 rfl) rfl ?_
              refine r_iload C (dx dX4_weigh 30 rfl) rfl ?_
              refine rn_ge (a := s) (b := 2 ^ (vN v)) (tgt := 99) C (by omega) (by omega) (dx dX4_weigh 31 rfl) (by decide) (fun c10 => ?_) (fun c10 => ?_)
              · first
                | (omega; done)
              · first
                | (omega; done)
                | (
                    have c10 : s < 2 ^ (vN v) := c10
                    refine r_aload_n C (dx dX4_weigh 32 rfl) rfl ?_
                    refine g_X4_9 C (dx dX4_weigh 33 rfl) ?_
                    refine r_iload C (dx dX4_weigh 34 rfl) rfl ?_
                    refine r_iload C (dx dX4_weigh 35 rfl) rfl ?_
                    refine r_ior C (dx dX4_weigh 36 rfl) ?_
                    refine r_aload_n C (dx dX4_weigh 37 rfl) rfl ?_
                    refine g_X4_9 C (dx dX4_weigh 38 rfl) ?_
                    refine r_iload C (dx dX4_weigh 39 rfl) rfl ?_
                    refine r_lald (j := s) (x := wgt v s o) C rfl rfl (by decide) rfl (by omega) (dx dX4_weigh 40 rfl) (qb s (Nat.le_refl _) hs) ?_
                    refine r_bipush (v := nI 10) C (dx dX4_weigh 41 rfl) rfl ?_
                    refine r_iload_n C (dx dX4_weigh 42 rfl) rfl ?_
                    refine r_isub C (dx dX4_weigh 43 rfl) ?_
                    refine r_i2l C (dx dX4_weigh 44 rfl) ?_
                    refine r_lmul C (dx dX4_weigh 45 rfl) ?_
                    refine r_last (j := s + 2 ^ o) C rfl rfl (by decide) (or_pow (by omega) hs) (by omega) (dx dX4_weigh 46 rfl) ?_
                    have eh11 : ∀ i, xL (sL h9 (k + 1) (s + 2 ^ o) ((wgt v s o) * (((nI 10) - (vF v 5 (vN v))).toInt64))) (k + 1) i = if i = s + 2 ^ o then (wgt v s o) * (((nI 10) - (vF v 5 (vN v))).toInt64) else xL h9 (k + 1) i := fun i => sL_at
                    have fh11 : Fr (k + 1) (k + 2) h (sL h9 (k + 1) (s + 2 ^ o) ((wgt v s o) * (((nI 10) - (vF v 5 (vN v))).toInt64))) := fh9.tr <| Fr.sL (by omega) (by omega)
                    have kh11 : xK (sL h9 (k + 1) (s + 2 ^ o) ((wgt v s o) * (((nI 10) - (vF v 5 (vN v))).toInt64))) = xK h := kh9
                    have uh11 : VilAt (sL h9 (k + 1) (s + 2 ^ o) ((wgt v s o) * (((nI 10) - (vF v 5 (vN v))).toInt64))) kv v := hv.fr fh11 (by omega)
                    generalize sL h9 (k + 1) (s + 2 ^ o) ((wgt v s o) * (((nI 10) - (vF v 5 (vN v))).toInt64)) = h11 at eh11 fh11 kh11 uh11 ⊢
                    refine r_aload_n C (dx dX4_weigh 47 rfl) rfl ?_
                    refine g_X4_9 C (dx dX4_weigh 48 rfl) ?_
                    refine r_iload C (dx dX4_weigh 49 rfl) rfl ?_
                    refine r_aload_n C (dx dX4_weigh 50 rfl) rfl ?_
                    refine g_X4_9 C (dx dX4_weigh 51 rfl) ?_
                    refine r_iload C (dx dX4_weigh 52 rfl) rfl ?_
                    refine r_lald (j := s) (x := wgt v s o) C rfl rfl (by decide) rfl (by omega) (dx dX4_weigh 53 rfl) ((eh11 _).trans ((if_neg (by omega)).trans (qb s (Nat.le_refl _) hs))) ?_
                    refine r_iload_n C (dx dX4_weigh 54 rfl) rfl ?_
                    refine r_i2l C (dx dX4_weigh 55 rfl) ?_
                    refine r_lmul C (dx dX4_weigh 56 rfl) ?_
                    refine r_last (j := s) C rfl rfl (by decide) rfl (by omega) (dx dX4_weigh 57 rfl) ?_
                    have eh12 : ∀ i, xL (sL h11 (k + 1) s ((wgt v s o) * ((vF v 5 (vN v)).toInt64))) (k + 1) i = if i = s then (wgt v s o) * ((vF v 5 (vN v)).toInt64) else xL h11 (k + 1) i := fun i => sL_at
                    have fh12 : Fr (k + 1) (k + 2) h (sL h11 (k + 1) s ((wgt v s o) * ((vF v 5 (vN v)).toInt64))) := fh11.tr <| Fr.sL (by omega) (by omega)
                    have kh12 : xK (sL h11 (k + 1) s ((wgt v s o) * ((vF v 5 (vN v)).toInt64))) = xK h := kh11
                    have uh12 : VilAt (sL h11 (k + 1) s ((wgt v s o) * ((vF v 5 (vN v)).toInt64))) kv v := hv.fr fh12 (by omega)
                    generalize sL h11 (k + 1) s ((wgt v s o) * ((vF v 5 (vN v)).toInt64)) = h12 at eh12 fh12 kh12 uh12 ⊢
                    refine rn_iinc (a := s) (k := 1) (ls' := [(0, vr 4 k), (1, vr 5 kv), (2, vi (nI (vN v))), (3, vi (vF v 5 (vN v))), (4, vi (nI (2 ^ (vN v)))), (5, vi (nI (s + 1)))]) C (dx dX4_weigh 58 rfl) rfl rfl (by decide) [1, 2, 3, 4, 5, 0] rfl ?_
                    refine r_goto (tgt := 46) C (dx dX4_weigh 59 rfl) (by decide) ?_
                    refine ih _ (fun i hi => ?_) (fun i h1 h2 => ?_) fh12 kh12
                    · by_cases hi2 : i = s
                      · subst hi2
                        refine ⟨(eh12 _).trans ((if_pos rfl).trans ?_), (eh12 _).trans ((if_neg (by omega)).trans ((eh11 _).trans ((if_pos rfl).trans ?_)))⟩
                        · rw [wgt_at v hs, fcF]
                        · rw [wgt_hi v hs, fcT]
                      · have q := qa i (by omega)
                        exact ⟨(eh12 _).trans ((if_neg (by omega)).trans ((eh11 _).trans ((if_neg (by omega)).trans q.1))), (eh12 _).trans ((if_neg (by omega)).trans ((eh11 _).trans ((if_neg (by omega)).trans q.2)))⟩
                    · exact (eh12 _).trans ((if_neg (by omega)).trans ((eh11 _).trans ((if_neg (by omega)).trans (qb i (by omega) h2)))))
          ·
            have c4 : ¬ vF v 6 (vN v) = 0 := c4
            refine r_bipush (v := nI 10) C (dx dX4_weigh 16 rfl) rfl ?_
            refine r_goto (tgt := 37) C (dx dX4_weigh 17 rfl) (by decide) ?_
            refine r_istore_n (ls' := [(0, vr 4 k), (1, vr 5 kv), (2, vi (nI (vN v))), (3, vi (nI 10))]) C (dx dX4_weigh 22 rfl) (by decide) [1, 2, 3, 0] rfl ?_
            refine r_iconst (v := nI 1) C (dx dX4_weigh 23 rfl) rfl ?_
            refine r_iload_n C (dx dX4_weigh 24 rfl) rfl ?_
            refine rn_sh1 (o := vN v) C (by omega) (dx dX4_weigh 25 rfl) ?_
            refine r_istore (ls' := [(0, vr 4 k), (1, vr 5 kv), (2, vi (nI (vN v))), (3, vi (nI 10)), (4, vi (nI (2 ^ (vN v))))]) C (dx dX4_weigh 26 rfl) (by decide) [1, 2, 3, 4, 0] rfl ?_
            refine r_iconst (v := nI 0) C (dx dX4_weigh 27 rfl) rfl ?_
            refine r_istore (ls' := [(0, vr 4 k), (1, vr 5 kv), (2, vi (nI (vN v))), (3, vi (nI 10)), (4, vi (nI (2 ^ (vN v)))), (5, vi (nI 0))]) C (dx dX4_weigh 28 rfl) (by decide) [1, 2, 3, 4, 5, 0] rfl ?_
            have fcF : fac v o false = nI 10 := by simp [fac, c4]
            have fcT : fac v o true = nI 10 - (nI 10) := by simp [fac, c4]
            refine loopU (Φ := fun s => ∀ h9, (∀ i, i < s → xL h9 (k + 1) i = wgt v i (o + 1) ∧ xL h9 (k + 1) (i + 2 ^ o) = wgt v (i + 2 ^ o) (o + 1)) → (∀ i, s ≤ i → i < 2 ^ o → xL h9 (k + 1) i = wgt v i o) → Fr (k + 1) (k + 2) h h9 → xK h9 = xK h → Rr G 46 [(0, vr 4 k), (1, vr 5 kv), (2, vi (nI (vN v))), (3, vi (nI 10)), (4, vi (nI (2 ^ (vN v)))), (5, vi (nI s))] [] h9) (N := 2 ^ o) ?_ ?_ 0 (Nat.zero_le _) _ (fun i hi => absurd hi (by omega)) (fun i _ hi => qh2 i hi) fh2 kh2
            ·
              intro  h13 qa qb fh13 kh13
              have uh13 : VilAt h13 kv v := hv.fr fh13 (by omega)
              have qh13 : ∀ s, s < 2 ^ (o + 1) → xL h13 (k + 1) s = wgt v s (o + 1) := fun s hs => by
                have := pow_s o
                by_cases hs2 : s < 2 ^ o
                · exact (qa s hs2).1
                · have q := (qa (s - 2 ^ o) (by omega)).2
                  rw [show s - 2 ^ o + 2 ^ o = s by omega] at q; exact q
              refine r_iload C (dx dX4_weigh 29 rfl) rfl ?_
              refine r_iload C (dx dX4_weigh 30 rfl) rfl ?_
              refine rn_ge (a := 2 ^ o) (b := 2 ^ (vN v)) (tgt := 99) C (by omega) (by omega) (dx dX4_weigh 31 rfl) (by decide) (fun c14 => ?_) (fun c14 => ?_)
              · first
                | (omega; done)
              · first
                | (omega; done)
            ·
              intro s hs ih h17 qa qb fh17 kh17
              have uh17 : VilAt h17 kv v := hv.fr fh17 (by omega)
              refine r_iload C (dx dX4_weigh 29 rfl) rfl ?_
              refine r_iload C (dx dX4_weigh 30 rfl) rfl ?_
              refine rn_ge (a := s) (b := 2 ^ (vN v)) (tgt := 99) C (by omega) (by omega) (dx dX4_weigh 31 rfl) (by decide) (fun c18 => ?_) (fun c18 => ?_)
              · first
                | (omega; done)
              · first
                | (omega; done)
                | (
                    have c18 : s < 2 ^ (vN v) := c18
                    refine r_aload_n C (dx dX4_weigh 32 rfl) rfl ?_
                    refine g_X4_9 C (dx dX4_weigh 33 rfl) ?_
                    refine r_iload C (dx dX4_weigh 34 rfl) rfl ?_
                    refine r_iload C (dx dX4_weigh 35 rfl) rfl ?_
                    refine r_ior C (dx dX4_weigh 36 rfl) ?_
                    refine r_aload_n C (dx dX4_weigh 37 rfl) rfl ?_
                    refine g_X4_9 C (dx dX4_weigh 38 rfl) ?_
                    refine r_iload C (dx dX4_weigh 39 rfl) rfl ?_
                    refine r_lald (j := s) (x := wgt v s o) C rfl rfl (by decide) rfl (by omega) (dx dX4_weigh 40 rfl) (qb s (Nat.le_refl _) hs) ?_
                    refine r_bipush (v := nI 10) C (dx dX4_weigh 41 rfl) rfl ?_
                    refine r_iload_n C (dx dX4_weigh 42 rfl) rfl ?_
                    refine r_isub C (dx dX4_weigh 43 rfl) ?_
                    refine r_i2l C (dx dX4_weigh 44 rfl) ?_
                    refine r_lmul C (dx dX4_weigh 45 rfl) ?_
                    refine r_last (j := s + 2 ^ o) C rfl rfl (by decide) (or_pow (by omega) hs) (by omega) (dx dX4_weigh 46 rfl) ?_
                    have eh19 : ∀ i, xL (sL h17 (k + 1) (s + 2 ^ o) ((wgt v s o) * (((nI 10) - (nI 10)).toInt64))) (k + 1) i = if i = s + 2 ^ o then (wgt v s o) * (((nI 10) - (nI 10)).toInt64) else xL h17 (k + 1) i := fun i => sL_at
                    have fh19 : Fr (k + 1) (k + 2) h (sL h17 (k + 1) (s + 2 ^ o) ((wgt v s o) * (((nI 10) - (nI 10)).toInt64))) := fh17.tr <| Fr.sL (by omega) (by omega)
                    have kh19 : xK (sL h17 (k + 1) (s + 2 ^ o) ((wgt v s o) * (((nI 10) - (nI 10)).toInt64))) = xK h := kh17
                    have uh19 : VilAt (sL h17 (k + 1) (s + 2 ^ o) ((wgt v s o) * (((nI 10) - (nI 10)).toInt64))) kv v := hv.fr fh19 (by omega)
                    generalize sL h17 (k + 1) (s + 2 ^ o) ((wgt v s o) * (((nI 10) - (nI 10)).toInt64)) = h19 at eh19 fh19 kh19 uh19 ⊢
                    refine r_aload_n C (dx dX4_weigh 47 rfl) rfl ?_
                    refine g_X4_9 C (dx dX4_weigh 48 rfl) ?_
                    refine r_iload C (dx dX4_weigh 49 rfl) rfl ?_
                    refine r_aload_n C (dx dX4_weigh 50 rfl) rfl ?_
                    refine g_X4_9 C (dx dX4_weigh 51 rfl) ?_
                    refine r_iload C (dx dX4_weigh 52 rfl) rfl ?_
                    refine r_lald (j := s) (x := wgt v s o) C rfl rfl (by decide) rfl (by omega) (dx dX4_weigh 53 rfl) ((eh19 _).trans ((if_neg (by omega)).trans (qb s (Nat.le_refl _) hs))) ?_
                    refine r_iload_n C (dx dX4_weigh 54 rfl) rfl ?_
                    refine r_i2l C (dx dX4_weigh 55 rfl) ?_
                    refine r_lmul C (dx dX4_weigh 56 rfl) ?_
                    refine r_last (j := s) C rfl rfl (by decide) rfl (by omega) (dx dX4_weigh 57 rfl) ?_
                    have eh20 : ∀ i, xL (sL h19 (k + 1) s ((wgt v s o) * ((nI 10).toInt64))) (k + 1) i = if i = s then (wgt v s o) * ((nI 10).toInt64) else xL h19 (k + 1) i := fun i => sL_at
                    have fh20 : Fr (k + 1) (k + 2) h (sL h19 (k + 1) s ((wgt v s o) * ((nI 10).toInt64))) := fh19.tr <| Fr.sL (by omega) (by omega)
                    have kh20 : xK (sL h19 (k + 1) s ((wgt v s o) * ((nI 10).toInt64))) = xK h := kh19
                    have uh20 : VilAt (sL h19 (k + 1) s ((wgt v s o) * ((nI 10).toInt64))) kv v := hv.fr fh20 (by omega)
                    generalize sL h19 (k + 1) s ((wgt v s o) * ((nI 10).toInt64)) = h20 at eh20 fh20 kh20 uh20 ⊢
                    refine rn_iinc (a := s) (k := 1) (ls' := [(0, vr 4 k), (1, vr 5 kv), (2, vi (nI (vN v))), (3, vi (nI 10)), (4, vi (nI (2 ^ (vN v)))), (5, vi (nI (s + 1)))]) C (dx dX4_weigh 58 rfl) rfl rfl (by decide) [1, 2, 3, 4, 5, 0] rfl ?_
                    refine r_goto (tgt := 46) C (dx dX4_weigh 59 rfl) (by decide) ?_
                    refine ih _ (fun i hi => ?_) (fun i h1 h2 => ?_) fh20 kh20
                    · by_cases hi2 : i = s
                      · subst hi2
                        refine ⟨(eh20 _).trans ((if_pos rfl).trans ?_), (eh20 _).trans ((if_neg (by omega)).trans ((eh19 _).trans ((if_pos rfl).trans ?_)))⟩
                        · rw [wgt_at v hs, fcF]
                        · rw [wgt_hi v hs, fcT]
                      · have q := qa i (by omega)
                        exact ⟨(eh20 _).trans ((if_neg (by omega)).trans ((eh19 _).trans ((if_neg (by omega)).trans q.1))), (eh20 _).trans ((if_neg (by omega)).trans ((eh19 _).trans ((if_neg (by omega)).trans q.2)))⟩
                    · exact (eh20 _).trans ((if_neg (by omega)).trans ((eh19 _).trans ((if_neg (by omega)).trans (qb i (by omega) h2))))))
  ·
    intro o ho ih h21 qh21 fh21 kh21
    have uh21 : VilAt h21 kv v := hv.fr fh21 (by omega)
    have p7 : 2 ^ o ≤ 2 ^ 7 := Nat.pow_le_pow_right (by omega) (by omega)
    refine r_iload_n C (dx dX4_weigh 7 rfl) rfl ?_
    refine r_aload_n C (dx dX4_weigh 8 rfl) rfl ?_
    refine g_X4_22 (x := nI (vN v)) C (dx dX4_weigh 9 rfl) uh21.eN ?_
    refine rn_ge (a := o) (b := vN v) (tgt := 105) C (by omega) (by omega) (dx dX4_weigh 10 rfl) (by decide) (fun c22 => ?_) (fun c22 => ?_)
    · first
      | (omega; done)
      | (
          have c22 : vN v ≤ o := c22
          exact F.2.2.1 _ _ _ rfl (dx dX4_weigh 62 rfl) kh21 ⟨rfl, qh21, fh21⟩)
    · first
      | (omega; done)
      | (
          have c22 : o < vN v := c22
          refine r_aload_n C (dx dX4_weigh 11 rfl) rfl ?_
          refine g_X4_28 C (dx dX4_weigh 12 rfl) ?_
          refine r_iload_n C (dx dX4_weigh 13 rfl) rfl ?_
          refine r_zald (j := o) (x := vF v 6 o) C rfl rfl (by decide) rfl (by omega) (dx dX4_weigh 14 rfl) (uh21.e6 (by omega)) ?_
          refine r_if_eq (tgt := 31) C (dx dX4_weigh 15 rfl) (by decide) (fun c23 => ?_) (fun c23 => ?_)
          ·
            have c23 : vF v 6 o = 0 := c23
            refine r_aload_n C (dx dX4_weigh 18 rfl) rfl ?_
            refine g_X4_32 C (dx dX4_weigh 19 rfl) ?_
            refine r_iload_n C (dx dX4_weigh 20 rfl) rfl ?_
            refine r_iald (j := o) (x := vF v 5 o) C rfl rfl (by decide) rfl (by omega) (dx dX4_weigh 21 rfl) (uh21.e5 (by omega)) ?_
            refine r_istore_n (ls' := [(0, vr 4 k), (1, vr 5 kv), (2, vi (nI o)), (3, vi (vF v 5 o))]) C (dx dX4_weigh 22 rfl) (by decide) [1, 2, 3, 0] rfl ?_
            refine r_iconst (v := nI 1) C (dx dX4_weigh 23 rfl) rfl ?_
            refine r_iload_n C (dx dX4_weigh 24 rfl) rfl ?_
            refine rn_sh1 (o := o) C (by omega) (dx dX4_weigh 25 rfl) ?_
            refine r_istore (ls' := [(0, vr 4 k), (1, vr 5 kv), (2, vi (nI o)), (3, vi (vF v 5 o)), (4, vi (nI (2 ^ o)))]) C (dx dX4_weigh 26 rfl) (by decide) [1, 2, 3, 4, 0] rfl ?_
            refine r_iconst (v := nI 0) C (dx dX4_weigh 27 rfl) rfl ?_
            refine r_istore (ls' := [(0, vr 4 k), (1, vr 5 kv), (2, vi (nI o)), (3, vi (vF v 5 o)), (4, vi (nI (2 ^ o))), (5, vi (nI 0))]) C (dx dX4_weigh 28 rfl) (by decide) [1, 2, 3, 4, 5, 0] rfl ?_
            have fcF : fac v o false = vF v 5 o := by simp [fac, c23]
            have fcT : fac v o true = nI 10 - (vF v 5 o) := by simp [fac, c23]
            refine loopU (Φ := fun s => ∀ h9, (∀ i, i < s → xL h9 (k + 1) i = wgt v i (o + 1) ∧ xL h9 (k + 1) (i + 2 ^ o) = wgt v (i + 2 ^ o) (o + 1)) → (∀ i, s ≤ i → i < 2 ^ o → xL h9 (k + 1) i = wgt v i o) → Fr (k + 1) (k + 2) h h9 → xK h9 = xK h → Rr G 46 [(0, vr 4 k), (1, vr 5 kv), (2, vi (nI o)), (3, vi (vF v 5 o)), (4, vi (nI (2 ^ o))), (5, vi (nI s))] [] h9) (N := 2 ^ o) ?_ ?_ 0 (Nat.zero_le _) _ (fun i hi => absurd hi (by omega)) (fun i _ hi => qh21 i hi) fh21 kh21
            ·
              intro  h24 qa qb fh24 kh24
              have uh24 : VilAt h24 kv v := hv.fr fh24 (by omega)
              have qh24 : ∀ s, s < 2 ^ (o + 1) → xL h24 (k + 1) s = wgt v s (o + 1) := fun s hs => by
                have := pow_s o
                by_cases hs2 : s < 2 ^ o
                · exact (qa s hs2).1
                · have q := (qa (s - 2 ^ o) (by omega)).2
                  rw [show s - 2 ^ o + 2 ^ o = s by omega] at q; exact q
              refine r_iload C (dx dX4_weigh 29 rfl) rfl ?_
              refine r_iload C (dx dX4_weigh 30 rfl) rfl ?_
              refine rn_ge (a := 2 ^ o) (b := 2 ^ o) (tgt := 99) C (by omega) (by omega) (dx dX4_weigh 31 rfl) (by decide) (fun c25 => ?_) (fun c25 => ?_)
              · first
                | (omega; done)
                | (
                    have c25 : 2 ^ o ≤ 2 ^ o := c25
                    refine rn_iinc (a := o) (k := 1) (ls' := [(0, vr 4 k), (1, vr 5 kv), (2, vi (nI (o + 1))), (3, vi (vF v 5 o)), (4, vi (nI (2 ^ o))), (5, vi (nI (2 ^ o)))]) C (dx dX4_weigh 60 rfl) rfl rfl (by decide) [1, 2, 0, 3, 4, 5] rfl ?_
                    refine r_goto (tgt := 9) C (dx dX4_weigh 61 rfl) (by decide) ?_
                    refine r_weak C [0, 1, 2] rfl ?_
                    exact ih _ qh24 fh24 kh24)
              · first
                | (omega; done)
            ·
              intro s hs ih h28 qa qb fh28 kh28
              have uh28 : VilAt h28 kv v := hv.fr fh28 (by omega)
              refine r_iload C (dx dX4_weigh 29 rfl) rfl ?_
              refine r_iload C (dx dX4_weigh 30 rfl) rfl ?_
              refine rn_ge (a := s) (b := 2 ^ o) (tgt := 99) C (by omega) (by omega) (dx dX4_weigh 31 rfl) (by decide) (fun c29 => ?_) (fun c29 => ?_)
              · first
                | (omega; done)
              · first
                | (omega; done)
                | (
                    have c29 : s < 2 ^ o := c29
                    refine r_aload_n C (dx dX4_weigh 32 rfl) rfl ?_
                    refine g_X4_9 C (dx dX4_weigh 33 rfl) ?_
                    refine r_iload C (dx dX4_weigh 34 rfl) rfl ?_
                    refine r_iload C (dx dX4_weigh 35 rfl) rfl ?_
                    refine r_ior C (dx dX4_weigh 36 rfl) ?_
                    refine r_aload_n C (dx dX4_weigh 37 rfl) rfl ?_
                    refine g_X4_9 C (dx dX4_weigh 38 rfl) ?_
                    refine r_iload C (dx dX4_weigh 39 rfl) rfl ?_
                    refine r_lald (j := s) (x := wgt v s o) C rfl rfl (by decide) rfl (by omega) (dx dX4_weigh 40 rfl) (qb s (Nat.le_refl _) hs) ?_
                    refine r_bipush (v := nI 10) C (dx dX4_weigh 41 rfl) rfl ?_
                    refine r_iload_n C (dx dX4_weigh 42 rfl) rfl ?_
                    refine r_isub C (dx dX4_weigh 43 rfl) ?_
                    refine r_i2l C (dx dX4_weigh 44 rfl) ?_
                    refine r_lmul C (dx dX4_weigh 45 rfl) ?_
                    refine r_last (j := s + 2 ^ o) C rfl rfl (by decide) (or_pow (by omega) hs) (by omega) (dx dX4_weigh 46 rfl) ?_
                    have eh30 : ∀ i, xL (sL h28 (k + 1) (s + 2 ^ o) ((wgt v s o) * (((nI 10) - (vF v 5 o)).toInt64))) (k + 1) i = if i = s + 2 ^ o then (wgt v s o) * (((nI 10) - (vF v 5 o)).toInt64) else xL h28 (k + 1) i := fun i => sL_at
                    have fh30 : Fr (k + 1) (k + 2) h (sL h28 (k + 1) (s + 2 ^ o) ((wgt v s o) * (((nI 10) - (vF v 5 o)).toInt64))) := fh28.tr <| Fr.sL (by omega) (by omega)
                    have kh30 : xK (sL h28 (k + 1) (s + 2 ^ o) ((wgt v s o) * (((nI 10) - (vF v 5 o)).toInt64))) = xK h := kh28
                    have uh30 : VilAt (sL h28 (k + 1) (s + 2 ^ o) ((wgt v s o) * (((nI 10) - (vF v 5 o)).toInt64))) kv v := hv.fr fh30 (by omega)
                    generalize sL h28 (k + 1) (s + 2 ^ o) ((wgt v s o) * (((nI 10) - (vF v 5 o)).toInt64)) = h30 at eh30 fh30 kh30 uh30 ⊢
                    refine r_aload_n C (dx dX4_weigh 47 rfl) rfl ?_
                    refine g_X4_9 C (dx dX4_weigh 48 rfl) ?_
                    refine r_iload C (dx dX4_weigh 49 rfl) rfl ?_
                    refine r_aload_n C (dx dX4_weigh 50 rfl) rfl ?_
                    refine g_X4_9 C (dx dX4_weigh 51 rfl) ?_
                    refine r_iload C (dx dX4_weigh 52 rfl) rfl ?_
                    refine r_lald (j := s) (x := wgt v s o) C rfl rfl (by decide) rfl (by omega) (dx dX4_weigh 53 rfl) ((eh30 _).trans ((if_neg (by omega)).trans (qb s (Nat.le_refl _) hs))) ?_
                    refine r_iload_n C (dx dX4_weigh 54 rfl) rfl ?_
                    refine r_i2l C (dx dX4_weigh 55 rfl) ?_
                    refine r_lmul C (dx dX4_weigh 56 rfl) ?_
                    refine r_last (j := s) C rfl rfl (by decide) rfl (by omega) (dx dX4_weigh 57 rfl) ?_
                    have eh31 : ∀ i, xL (sL h30 (k + 1) s ((wgt v s o) * ((vF v 5 o).toInt64))) (k + 1) i = if i = s then (wgt v s o) * ((vF v 5 o).toInt64) else xL h30 (k + 1) i := fun i => sL_at
                    have fh31 : Fr (k + 1) (k + 2) h (sL h30 (k + 1) s ((wgt v s o) * ((vF v 5 o).toInt64))) := fh30.tr <| Fr.sL (by omega) (by omega)
                    have kh31 : xK (sL h30 (k + 1) s ((wgt v s o) * ((vF v 5 o).toInt64))) = xK h := kh30
                    have uh31 : VilAt (sL h30 (k + 1) s ((wgt v s o) * ((vF v 5 o).toInt64))) kv v := hv.fr fh31 (by omega)
                    generalize sL h30 (k + 1) s ((wgt v s o) * ((vF v 5 o).toInt64)) = h31 at eh31 fh31 kh31 uh31 ⊢
                    refine rn_iinc (a := s) (k := 1) (ls' := [(0, vr 4 k), (1, vr 5 kv), (2, vi (nI o)), (3, vi (vF v 5 o)), (4, vi (nI (2 ^ o))), (5, vi (nI (s + 1)))]) C (dx dX4_weigh 58 rfl) rfl rfl (by decide) [1, 2, 3, 4, 5, 0] rfl ?_
                    refine r_goto (tgt := 46) C (dx dX4_weigh 59 rfl) (by decide) ?_
                    refine ih _ (fun i hi => ?_) (fun i h1 h2 => ?_) fh31 kh31
                    · by_cases hi2 : i = s
                      · subst hi2
                        refine ⟨(eh31 _).trans ((if_pos rfl).trans ?_), (eh31 _).trans ((if_neg (by omega)).trans ((eh30 _).trans ((if_pos rfl).trans ?_)))⟩
                        · rw [wgt_at v hs, fcF]
                        · rw [wgt_hi v hs, fcT]
                      · have q := qa i (by omega)
                        exact ⟨(eh31 _).trans ((if_neg (by omega)).trans ((eh30 _).trans ((if_neg (by omega)).trans q.1))), (eh31 _).trans ((if_neg (by omega)).trans ((eh30 _).trans ((if_neg (by omega)).trans q.2)))⟩
                    · exact (eh31 _).trans ((if_neg (by omega)).trans ((eh30 _).trans ((if_neg (by omega)).trans (qb i (by omega) h2)))))
          ·
            have c23 : ¬ vF v 6 o = 0 := c23
            refine r_bipush (v := nI 10) C (dx dX4_weigh 16 rfl) rfl ?_
            refine r_goto (tgt := 37) C (dx dX4_weigh 17 rfl) (by decide) ?_
            refine r_istore_n (ls' := [(0, vr 4 k), (1, vr 5 kv), (2, vi (nI o)), (3, vi (nI 10))]) C (dx dX4_weigh 22 rfl) (by decide) [1, 2, 3, 0] rfl ?_
            refine r_iconst (v := nI 1) C (dx dX4_weigh 23 rfl) rfl ?_
            refine r_iload_n C (dx dX4_weigh 24 rfl) rfl ?_
            refine rn_sh1 (o := o) C (by omega) (dx dX4_weigh 25 rfl) ?_
            refine r_istore (ls' := [(0, vr 4 k), (1, vr 5 kv), (2, vi (nI o)), (3, vi (nI 10)), (4, vi (nI (2 ^ o)))]) C (dx dX4_weigh 26 rfl) (by decide) [1, 2, 3, 4, 0] rfl ?_
            refine r_iconst (v := nI 0) C (dx dX4_weigh 27 rfl) rfl ?_
            refine r_istore (ls' := [(0, vr 4 k), (1, vr 5 kv), (2, vi (nI o)), (3, vi (nI 10)), (4, vi (nI (2 ^ o))), (5, vi (nI 0))]) C (dx dX4_weigh 28 rfl) (by decide) [1, 2, 3, 4, 5, 0] rfl ?_
            have fcF : fac v o false = nI 10 := by simp [fac, c23]
            have fcT : fac v o true = nI 10 - (nI 10) := by simp [fac, c23]
            refine loopU (Φ := fun s => ∀ h9, (∀ i, i < s → xL h9 (k + 1) i = wgt v i (o + 1) ∧ xL h9 (k + 1) (i + 2 ^ o) = wgt v (i + 2 ^ o) (o + 1)) → (∀ i, s ≤ i → i < 2 ^ o → xL h9 (k + 1) i = wgt v i o) → Fr (k + 1) (k + 2) h h9 → xK h9 = xK h → Rr G 46 [(0, vr 4 k), (1, vr 5 kv), (2, vi (nI o)), (3, vi (nI 10)), (4, vi (nI (2 ^ o))), (5, vi (nI s))] [] h9) (N := 2 ^ o) ?_ ?_ 0 (Nat.zero_le _) _ (fun i hi => absurd hi (by omega)) (fun i _ hi => qh21 i hi) fh21 kh21
            ·
              intro  h32 qa qb fh32 kh32
              have uh32 : VilAt h32 kv v := hv.fr fh32 (by omega)
              have qh32 : ∀ s, s < 2 ^ (o + 1) → xL h32 (k + 1) s = wgt v s (o + 1) := fun s hs => by
                have := pow_s o
                by_cases hs2 : s < 2 ^ o
                · exact (qa s hs2).1
                · have q := (qa (s - 2 ^ o) (by omega)).2
                  rw [show s - 2 ^ o + 2 ^ o = s by omega] at q; exact q
              refine r_iload C (dx dX4_weigh 29 rfl) rfl ?_
              refine r_iload C (dx dX4_weigh 30 rfl) rfl ?_
              refine rn_ge (a := 2 ^ o) (b := 2 ^ o) (tgt := 99) C (by omega) (by omega) (dx dX4_weigh 31 rfl) (by decide) (fun c33 => ?_) (fun c33 => ?_)
              · first
                | (omega; done)
                | (
                    have c33 : 2 ^ o ≤ 2 ^ o := c33
                    refine rn_iinc (a := o) (k := 1) (ls' := [(0, vr 4 k), (1, vr 5 kv), (2, vi (nI (o + 1))), (3, vi (nI 10)), (4, vi (nI (2 ^ o))), (5, vi (nI (2 ^ o)))]) C (dx dX4_weigh 60 rfl) rfl rfl (by decide) [1, 2, 0, 3, 4, 5] rfl ?_
                    refine r_goto (tgt := 9) C (dx dX4_weigh 61 rfl) (by decide) ?_
                    refine r_weak C [0, 1, 2] rfl ?_
                    exact ih _ qh32 fh32 kh32)
              · first
                | (omega; done)
            ·
              intro s hs ih h36 qa qb fh36 kh36
              have uh36 : VilAt h36 kv v := hv.fr fh36 (by omega)
              refine r_iload C (dx dX4_weigh 29 rfl) rfl ?_
              refine r_iload C (dx dX4_weigh 30 rfl) rfl ?_
              refine rn_ge (a := s) (b := 2 ^ o) (tgt := 99) C (by omega) (by omega) (dx dX4_weigh 31 rfl) (by decide) (fun c37 => ?_) (fun c37 => ?_)
              · first
                | (omega; done)
              · first
                | (omega; done)
                | (
                    have c37 : s < 2 ^ o := c37
                    refine r_aload_n C (dx dX4_weigh 32 rfl) rfl ?_
                    refine g_X4_9 C (dx dX4_weigh 33 rfl) ?_
                    refine r_iload C (dx dX4_weigh 34 rfl) rfl ?_
                    refine r_iload C (dx dX4_weigh 35 rfl) rfl ?_
                    refine r_ior C (dx dX4_weigh 36 rfl) ?_
                    refine r_aload_n C (dx dX4_weigh 37 rfl) rfl ?_
                    refine g_X4_9 C (dx dX4_weigh 38 rfl) ?_
                    refine r_iload C (dx dX4_weigh 39 rfl) rfl ?_
                    refine r_lald (j := s) (x := wgt v s o) C rfl rfl (by decide) rfl (by omega) (dx dX4_weigh 40 rfl) (qb s (Nat.le_refl _) hs) ?_
                    refine r_bipush (v := nI 10) C (dx dX4_weigh 41 rfl) rfl ?_
                    refine r_iload_n C (dx dX4_weigh 42 rfl) rfl ?_
                    refine r_isub C (dx dX4_weigh 43 rfl) ?_
                    refine r_i2l C (dx dX4_weigh 44 rfl) ?_
                    refine r_lmul C (dx dX4_weigh 45 rfl) ?_
                    refine r_last (j := s + 2 ^ o) C rfl rfl (by decide) (or_pow (by omega) hs) (by omega) (dx dX4_weigh 46 rfl) ?_
                    have eh38 : ∀ i, xL (sL h36 (k + 1) (s + 2 ^ o) ((wgt v s o) * (((nI 10) - (nI 10)).toInt64))) (k + 1) i = if i = s + 2 ^ o then (wgt v s o) * (((nI 10) - (nI 10)).toInt64) else xL h36 (k + 1) i := fun i => sL_at
                    have fh38 : Fr (k + 1) (k + 2) h (sL h36 (k + 1) (s + 2 ^ o) ((wgt v s o) * (((nI 10) - (nI 10)).toInt64))) := fh36.tr <| Fr.sL (by omega) (by omega)
                    have kh38 : xK (sL h36 (k + 1) (s + 2 ^ o) ((wgt v s o) * (((nI 10) - (nI 10)).toInt64))) = xK h := kh36
                    have uh38 : VilAt (sL h36 (k + 1) (s + 2 ^ o) ((wgt v s o) * (((nI 10) - (nI 10)).toInt64))) kv v := hv.fr fh38 (by omega)
                    generalize sL h36 (k + 1) (s + 2 ^ o) ((wgt v s o) * (((nI 10) - (nI 10)).toInt64)) = h38 at eh38 fh38 kh38 uh38 ⊢
                    refine r_aload_n C (dx dX4_weigh 47 rfl) rfl ?_
                    refine g_X4_9 C (dx dX4_weigh 48 rfl) ?_
                    refine r_iload C (dx dX4_weigh 49 rfl) rfl ?_
                    refine r_aload_n C (dx dX4_weigh 50 rfl) rfl ?_
                    refine g_X4_9 C (dx dX4_weigh 51 rfl) ?_
                    refine r_iload C (dx dX4_weigh 52 rfl) rfl ?_
                    refine r_lald (j := s) (x := wgt v s o) C rfl rfl (by decide) rfl (by omega) (dx dX4_weigh 53 rfl) ((eh38 _).trans ((if_neg (by omega)).trans (qb s (Nat.le_refl _) hs))) ?_
                    refine r_iload_n C (dx dX4_weigh 54 rfl) rfl ?_
                    refine r_i2l C (dx dX4_weigh 55 rfl) ?_
                    refine r_lmul C (dx dX4_weigh 56 rfl) ?_
                    refine r_last (j := s) C rfl rfl (by decide) rfl (by omega) (dx dX4_weigh 57 rfl) ?_
                    have eh39 : ∀ i, xL (sL h38 (k + 1) s ((wgt v s o) * ((nI 10).toInt64))) (k + 1) i = if i = s then (wgt v s o) * ((nI 10).toInt64) else xL h38 (k + 1) i := fun i => sL_at
                    have fh39 : Fr (k + 1) (k + 2) h (sL h38 (k + 1) s ((wgt v s o) * ((nI 10).toInt64))) := fh38.tr <| Fr.sL (by omega) (by omega)
                    have kh39 : xK (sL h38 (k + 1) s ((wgt v s o) * ((nI 10).toInt64))) = xK h := kh38
                    have uh39 : VilAt (sL h38 (k + 1) s ((wgt v s o) * ((nI 10).toInt64))) kv v := hv.fr fh39 (by omega)
                    generalize sL h38 (k + 1) s ((wgt v s o) * ((nI 10).toInt64)) = h39 at eh39 fh39 kh39 uh39 ⊢
                    refine rn_iinc (a := s) (k := 1) (ls' := [(0, vr 4 k), (1, vr 5 kv), (2, vi (nI o)), (3, vi (nI 10)), (4, vi (nI (2 ^ o))), (5, vi (nI (s + 1)))]) C (dx dX4_weigh 58 rfl) rfl rfl (by decide) [1, 2, 3, 4, 5, 0] rfl ?_
                    refine r_goto (tgt := 46) C (dx dX4_weigh 59 rfl) (by decide) ?_
                    refine ih _ (fun i hi => ?_) (fun i h1 h2 => ?_) fh39 kh39
                    · by_cases hi2 : i = s
                      · subst hi2
                        refine ⟨(eh39 _).trans ((if_pos rfl).trans ?_), (eh39 _).trans ((if_neg (by omega)).trans ((eh38 _).trans ((if_pos rfl).trans ?_)))⟩
                        · rw [wgt_at v hs, fcF]
                        · rw [wgt_hi v hs, fcT]
                      · have q := qa i (by omega)
                        exact ⟨(eh39 _).trans ((if_neg (by omega)).trans ((eh38 _).trans ((if_neg (by omega)).trans q.1))), (eh39 _).trans ((if_neg (by omega)).trans ((eh38 _).trans ((if_neg (by omega)).trans q.2)))⟩
                    · exact (eh39 _).trans ((if_neg (by omega)).trans ((eh38 _).trans ((if_neg (by omega)).trans (qb i (by omega) h2))))))
set_option maxHeartbeats 4000000 in
theorem c_X4_gather {l : Launch} {h : Hp} {k kv : Nat} {v : Vg} (hv : VilAt h kv v) (hd : kv + 9 ≤ k ∨ k + 4 ≤ kv) : Ms l yX4_gather cX4_gather 6 none 2 [vr 4 k, vr 5 kv] h (xK h) (fun r h' => r = none ∧ (∀ s, s < 2 ^ vN v → xI h' (k + 2) s = gat v s (vN v)) ∧ Fr (k + 2) (k + 3) h h') := by
  refine Ms.of (by decide) (Nat.le_of_ble_eq_true rfl) (fun G C X F => ?_)
  have C : Cx G cX4_gather 6 RX4 := C
  show Rr G 0 [(0, vr 4 k), (1, vr 5 kv)] [] h
  have bP := hv.bP
  have bM := hv.bM
  have bN := hv.bN
  have p8 := pow8 bN
  refine r_aload_n C (dx dX4_gather 0 rfl) rfl ?_
  refine g_X4_15 C (dx dX4_gather 1 rfl) ?_
  refine r_iconst (v := nI 0) C (dx dX4_gather 2 rfl) rfl ?_
  refine r_iconst (v := nI 0) C (dx dX4_gather 3 rfl) rfl ?_
  refine r_iast (j := 0) C rfl rfl (by decide) rfl (by omega) (dx dX4_gather 4 rfl) ?_
  have eh1 : ∀ i, xI (sI h (k + 2) 0 (nI 0)) (k + 2) i = if i = 0 then nI 0 else xI h (k + 2) i := fun i => sI_at
  have fh1 : Fr (k + 2) (k + 3) h (sI h (k + 2) 0 (nI 0)) := Fr.sI (by omega) (by omega)
  have kh1 : xK (sI h (k + 2) 0 (nI 0)) = xK h := rfl
  have uh1 : VilAt (sI h (k + 2) 0 (nI 0)) kv v := hv.fr fh1 (by omega)
  generalize sI h (k + 2) 0 (nI 0) = h1 at eh1 fh1 kh1 uh1 ⊢
  refine r_iconst (v := nI 0) C (dx dX4_gather 5 rfl) rfl ?_
  refine r_istore_n (ls' := [(0, vr 4 k), (1, vr 5 kv), (2, vi (nI 0))]) C (dx dX4_gather 6 rfl) (by decide) [1, 2, 0] rfl ?_
  have q0 : ∀ s, s < 2 ^ 0 → xI h1 (k + 2) s = gat v s 0 := fun s hs => by rw [show s = 0 by omega]; exact ((eh1 _).trans (if_pos rfl))
  refine loopU (Φ := fun o => ∀ h9, (∀ s, s < 2 ^ o → xI h9 (k + 2) s = gat v s o) → Fr (k + 2) (k + 3) h h9 → xK h9 = xK h → Rr G 9 [(0, vr 4 k), (1, vr 5 kv), (2, vi (nI o))] [] h9) (N := vN v) ?_ ?_ 0 (Nat.zero_le _) _ q0 fh1 kh1
  ·
    intro  h2 qh2 fh2 kh2
    have uh2 : VilAt h2 kv v := hv.fr fh2 (by omega)
    refine r_iload_n C (dx dX4_gather 7 rfl) rfl ?_
    refine r_aload_n C (dx dX4_gather 8 rfl) rfl ?_
    refine g_X4_22 (x := nI (vN v)) C (dx dX4_gather 9 rfl) uh2.eN ?_
    refine rn_ge (a := vN v) (b := vN v) (tgt := 69) C (by omega) (by omega) (dx dX4_gather 10 rfl) (by decide) (fun c3 => ?_) (fun c3 => ?_)
    · first
      | (omega; done)
      | (
          have c3 : vN v ≤ vN v := c3
          exact F.2.2.1 _ _ _ rfl (dx dX4_gather 40 rfl) kh2 ⟨rfl, qh2, fh2⟩)
    · first
      | (omega; done)
      | (
          have c3 : vN v < vN v := c3
          refine r_aload_n C (dx dX4_gather 11 rfl) rfl ?_
          refine r_iload_n C (dx dX4_gather 12 rfl) rfl ?_
          refine r_cvP (as := [vi (nI (vN v))]) (st := []) (v := vi (ownP v (nI (vN v)))) C X I_X5_partsOfOne l_X4_35 (c_X5_partsOfOne uh2 _) (by decide) (Nat.le_of_ble_eq_true rfl) (pfx_eq kh2) rfl rfl (Nat.le_of_ble_eq_true rfl) rfl (dx dX4_gather 13 rfl) ?_
          refine r_istore_n (ls' := [(0, vr 4 k), (1, vr 5 kv), (2, vi (nI (vN v))), (3, vi (ownP v (nI (vN v))))]) C (dx dX4_gather 14 rfl) (by decide) [1, 2, 3, 0] rfl ?_
          refine r_iconst (v := nI 1) C (dx dX4_gather 15 rfl) rfl ?_
          refine r_iload_n C (dx dX4_gather 16 rfl) rfl ?_
          refine rn_sh1 (o := vN v) C (by omega) (dx dX4_gather 17 rfl) ?_
          refine r_istore (ls' := [(0, vr 4 k), (1, vr 5 kv), (2, vi (nI (vN v))), (3, vi (ownP v (nI (vN v)))), (4, vi (nI (2 ^ (vN v))))]) C (dx dX4_gather 18 rfl) (by decide) [1, 2, 3, 4, 0] rfl ?_
          refine r_iconst (v := nI 0) C (dx dX4_gather 19 rfl) rfl ?_
          refine r_istore (ls' := [(0, vr 4 k), (1, vr 5 kv), (2, vi (nI (vN v))), (3, vi (ownP v (nI (vN v)))), (4, vi (nI (2 ^ (vN v)))), (5, vi (nI 0))]) C (dx dX4_gather 20 rfl) (by decide) [1, 2, 3, 4, 5, 0] rfl ?_
          refine loopU (Φ := fun s => ∀ h9, (∀ i, i < s → xI h9 (k + 2) (i + 2 ^ o) = gat v (i + 2 ^ o) (o + 1)) → (∀ i, i < 2 ^ o → xI h9 (k + 2) i = gat v i o) → Fr (k + 2) (k + 3) h h9 → xK h9 = xK h → Rr G 31 [(0, vr 4 k), (1, vr 5 kv), (2, vi (nI (vN v))), (3, vi (ownP v (nI (vN v)))), (4, vi (nI (2 ^ (vN v)))), (5, vi (nI s))] [] h9) (N := 2 ^ o) ?_ ?_ 0 (Nat.zero_le _) _ (fun i hi => absurd hi (by omega)) (fun i hi => qh2 i hi) fh2 kh2
          ·
            intro  h4 qa qb fh4 kh4
            have uh4 : VilAt h4 kv v := hv.fr fh4 (by omega)
            have qh4 : ∀ s, s < 2 ^ (o + 1) → xI h4 (k + 2) s = gat v s (o + 1) := fun s hs => by
              have := pow_s o
              by_cases hs2 : s < 2 ^ o
              · rw [gat_at v hs2]; exact qb s hs2
              · have q := qa (s - 2 ^ o) (by omega)
                rw [show s - 2 ^ o + 2 ^ o = s by omega] at q; exact q
            refine r_iload C (dx dX4_gather 21 rfl) rfl ?_
            refine r_iload C (dx dX4_gather 22 rfl) rfl ?_
            refine rn_ge (a := 2 ^ o) (b := 2 ^ (vN v)) (tgt := 63) C (by omega) (by omega) (dx dX4_gather 23 rfl) (by decide) (fun c5 => ?_) (fun c5 => ?_)
            · first
              | (omega; done)
            · first
              | (omega; done)
          ·
            intro s hs ih h7 qa qb fh7 kh7
            have uh7 : VilAt h7 kv v := hv.fr fh7 (by omega)
            refine r_iload C (dx dX4_gather 21 rfl) rfl ?_
            refine r_iload C (dx dX4_gather 22 rfl) rfl ?_
            refine rn_ge (a := s) (b := 2 ^ (vN v)) (tgt := 63) C (by omega) (by omega) (dx dX4_gather 23 rfl) (by decide) (fun c8 => ?_) (fun c8 => ?_)
            · first
              | (omega; done)
            · first
              | (omega; done)
              | (
                  have c8 : s < 2 ^ (vN v) := c8
                  refine r_aload_n C (dx dX4_gather 24 rfl) rfl ?_
                  refine g_X4_15 C (dx dX4_gather 25 rfl) ?_
                  refine r_iload C (dx dX4_gather 26 rfl) rfl ?_
                  refine r_iload C (dx dX4_gather 27 rfl) rfl ?_
                  refine r_ior C (dx dX4_gather 28 rfl) ?_
                  refine r_aload_n C (dx dX4_gather 29 rfl) rfl ?_
                  refine g_X4_15 C (dx dX4_gather 30 rfl) ?_
                  refine r_iload C (dx dX4_gather 31 rfl) rfl ?_
                  refine r_iald (j := s) (x := gat v s o) C rfl rfl (by decide) rfl (by omega) (dx dX4_gather 32 rfl) (qb s hs) ?_
                  refine r_iload_n C (dx dX4_gather 33 rfl) rfl ?_
                  refine r_ior C (dx dX4_gather 34 rfl) ?_
                  refine r_iast (j := s + 2 ^ o) C rfl rfl (by decide) (or_pow (by omega) hs) (by omega) (dx dX4_gather 35 rfl) ?_
                  have eh9 : ∀ i, xI (sI h7 (k + 2) (s + 2 ^ o) ((gat v s o) ||| (ownP v (nI (vN v))))) (k + 2) i = if i = s + 2 ^ o then (gat v s o) ||| (ownP v (nI (vN v))) else xI h7 (k + 2) i := fun i => sI_at
                  have fh9 : Fr (k + 2) (k + 3) h (sI h7 (k + 2) (s + 2 ^ o) ((gat v s o) ||| (ownP v (nI (vN v))))) := fh7.tr <| Fr.sI (by omega) (by omega)
                  have kh9 : xK (sI h7 (k + 2) (s + 2 ^ o) ((gat v s o) ||| (ownP v (nI (vN v))))) = xK h := kh7
                  have uh9 : VilAt (sI h7 (k + 2) (s + 2 ^ o) ((gat v s o) ||| (ownP v (nI (vN v))))) kv v := hv.fr fh9 (by omega)
                  generalize sI h7 (k + 2) (s + 2 ^ o) ((gat v s o) ||| (ownP v (nI (vN v)))) = h9 at eh9 fh9 kh9 uh9 ⊢
                  refine rn_iinc (a := s) (k := 1) (ls' := [(0, vr 4 k), (1, vr 5 kv), (2, vi (nI (vN v))), (3, vi (ownP v (nI (vN v)))), (4, vi (nI (2 ^ (vN v)))), (5, vi (nI (s + 1)))]) C (dx dX4_gather 36 rfl) rfl rfl (by decide) [1, 2, 3, 4, 5, 0] rfl ?_
                  refine r_goto (tgt := 31) C (dx dX4_gather 37 rfl) (by decide) ?_
                  refine ih _ (fun i hi => ?_) (fun i hi => ?_) fh9 kh9
                  · by_cases hi2 : i = s
                    · subst hi2
                      exact (eh9 _).trans ((if_pos rfl).trans (gat_hi v hs).symm)
                    · exact (eh9 _).trans ((if_neg (by omega)).trans (qa i (by omega)))
                  · exact (eh9 _).trans ((if_neg (by omega)).trans (qb i hi))))
  ·
    intro o ho ih h10 qh10 fh10 kh10
    have uh10 : VilAt h10 kv v := hv.fr fh10 (by omega)
    have p7 : 2 ^ o ≤ 2 ^ 7 := Nat.pow_le_pow_right (by omega) (by omega)
    refine r_iload_n C (dx dX4_gather 7 rfl) rfl ?_
    refine r_aload_n C (dx dX4_gather 8 rfl) rfl ?_
    refine g_X4_22 (x := nI (vN v)) C (dx dX4_gather 9 rfl) uh10.eN ?_
    refine rn_ge (a := o) (b := vN v) (tgt := 69) C (by omega) (by omega) (dx dX4_gather 10 rfl) (by decide) (fun c11 => ?_) (fun c11 => ?_)
    · first
      | (omega; done)
      | (
          have c11 : vN v ≤ o := c11
          exact F.2.2.1 _ _ _ rfl (dx dX4_gather 40 rfl) kh10 ⟨rfl, qh10, fh10⟩)
    · first
      | (omega; done)
      | (
          have c11 : o < vN v := c11
          refine r_aload_n C (dx dX4_gather 11 rfl) rfl ?_
          refine r_iload_n C (dx dX4_gather 12 rfl) rfl ?_
          refine r_cvP (as := [vi (nI o)]) (st := []) (v := vi (ownP v (nI o))) C X I_X5_partsOfOne l_X4_35 (c_X5_partsOfOne uh10 _) (by decide) (Nat.le_of_ble_eq_true rfl) (pfx_eq kh10) rfl rfl (Nat.le_of_ble_eq_true rfl) rfl (dx dX4_gather 13 rfl) ?_
          refine r_istore_n (ls' := [(0, vr 4 k), (1, vr 5 kv), (2, vi (nI o)), (3, vi (ownP v (nI o)))]) C (dx dX4_gather 14 rfl) (by decide) [1, 2, 3, 0] rfl ?_
          refine r_iconst (v := nI 1) C (dx dX4_gather 15 rfl) rfl ?_
          refine r_iload_n C (dx dX4_gather 16 rfl) rfl ?_
          refine rn_sh1 (o := o) C (by omega) (dx dX4_gather 17 rfl) ?_
          refine r_istore (ls' := [(0, vr 4 k), (1, vr 5 kv), (2, vi (nI o)), (3, vi (ownP v (nI o))), (4, vi (nI (2 ^ o)))]) C (dx dX4_gather 18 rfl) (by decide) [1, 2, 3, 4, 0] rfl ?_
          refine r_iconst (v := nI 0) C (dx dX4_gather 19 rfl) rfl ?_
          refine r_istore (ls' := [(0, vr 4 k), (1, vr 5 kv), (2, vi (nI o)), (3, vi (ownP v (nI o))), (4, vi (nI (2 ^ o))), (5, vi (nI 0))]) C (dx dX4_gather 20 rfl) (by decide) [1, 2, 3, 4, 5, 0] rfl ?_
          refine loopU (Φ := fun s => ∀ h9, (∀ i, i < s → xI h9 (k + 2) (i + 2 ^ o) = gat v (i + 2 ^ o) (o + 1)) → (∀ i, i < 2 ^ o → xI h9 (k + 2) i = gat v i o) → Fr (k + 2) (k + 3) h h9 → xK h9 = xK h → Rr G 31 [(0, vr 4 k), (1, vr 5 kv), (2, vi (nI o)), (3, vi (ownP v (nI o))), (4, vi (nI (2 ^ o))), (5, vi (nI s))] [] h9) (N := 2 ^ o) ?_ ?_ 0 (Nat.zero_le _) _ (fun i hi => absurd hi (by omega)) (fun i hi => qh10 i hi) fh10 kh10
          ·
            intro  h12 qa qb fh12 kh12
            have uh12 : VilAt h12 kv v := hv.fr fh12 (by omega)
            have qh12 : ∀ s, s < 2 ^ (o + 1) → xI h12 (k + 2) s = gat v s (o + 1) := fun s hs => by
              have := pow_s o
              by_cases hs2 : s < 2 ^ o
              · rw [gat_at v hs2]; exact qb s hs2
              · have q := qa (s - 2 ^ o) (by omega)
                rw [show s - 2 ^ o + 2 ^ o = s by omega] at q; exact q
            refine r_iload C (dx dX4_gather 21 rfl) rfl ?_
            refine r_iload C (dx dX4_gather 22 rfl) rfl ?_
            refine rn_ge (a := 2 ^ o) (b := 2 ^ o) (tgt := 63) C (by omega) (by omega) (dx dX4_gather 23 rfl) (by decide) (fun c13 => ?_) (fun c13 => ?_)
            · first
              | (omega; done)
              | (
                  have c13 : 2 ^ o ≤ 2 ^ o := c13
                  refine rn_iinc (a := o) (k := 1) (ls' := [(0, vr 4 k), (1, vr 5 kv), (2, vi (nI (o + 1))), (3, vi (ownP v (nI o))), (4, vi (nI (2 ^ o))), (5, vi (nI (2 ^ o)))]) C (dx dX4_gather 38 rfl) rfl rfl (by decide) [1, 2, 0, 3, 4, 5] rfl ?_
                  refine r_goto (tgt := 9) C (dx dX4_gather 39 rfl) (by decide) ?_
                  refine r_weak C [0, 1, 2] rfl ?_
                  exact ih _ qh12 fh12 kh12)
            · first
              | (omega; done)
          ·
            intro s hs ih h15 qa qb fh15 kh15
            have uh15 : VilAt h15 kv v := hv.fr fh15 (by omega)
            refine r_iload C (dx dX4_gather 21 rfl) rfl ?_
            refine r_iload C (dx dX4_gather 22 rfl) rfl ?_
            refine rn_ge (a := s) (b := 2 ^ o) (tgt := 63) C (by omega) (by omega) (dx dX4_gather 23 rfl) (by decide) (fun c16 => ?_) (fun c16 => ?_)
            · first
              | (omega; done)
            · first
              | (omega; done)
              | (
                  have c16 : s < 2 ^ o := c16
                  refine r_aload_n C (dx dX4_gather 24 rfl) rfl ?_
                  refine g_X4_15 C (dx dX4_gather 25 rfl) ?_
                  refine r_iload C (dx dX4_gather 26 rfl) rfl ?_
                  refine r_iload C (dx dX4_gather 27 rfl) rfl ?_
                  refine r_ior C (dx dX4_gather 28 rfl) ?_
                  refine r_aload_n C (dx dX4_gather 29 rfl) rfl ?_
                  refine g_X4_15 C (dx dX4_gather 30 rfl) ?_
                  refine r_iload C (dx dX4_gather 31 rfl) rfl ?_
                  refine r_iald (j := s) (x := gat v s o) C rfl rfl (by decide) rfl (by omega) (dx dX4_gather 32 rfl) (qb s hs) ?_
                  refine r_iload_n C (dx dX4_gather 33 rfl) rfl ?_
                  refine r_ior C (dx dX4_gather 34 rfl) ?_
                  refine r_iast (j := s + 2 ^ o) C rfl rfl (by decide) (or_pow (by omega) hs) (by omega) (dx dX4_gather 35 rfl) ?_
                  have eh17 : ∀ i, xI (sI h15 (k + 2) (s + 2 ^ o) ((gat v s o) ||| (ownP v (nI o)))) (k + 2) i = if i = s + 2 ^ o then (gat v s o) ||| (ownP v (nI o)) else xI h15 (k + 2) i := fun i => sI_at
                  have fh17 : Fr (k + 2) (k + 3) h (sI h15 (k + 2) (s + 2 ^ o) ((gat v s o) ||| (ownP v (nI o)))) := fh15.tr <| Fr.sI (by omega) (by omega)
                  have kh17 : xK (sI h15 (k + 2) (s + 2 ^ o) ((gat v s o) ||| (ownP v (nI o)))) = xK h := kh15
                  have uh17 : VilAt (sI h15 (k + 2) (s + 2 ^ o) ((gat v s o) ||| (ownP v (nI o)))) kv v := hv.fr fh17 (by omega)
                  generalize sI h15 (k + 2) (s + 2 ^ o) ((gat v s o) ||| (ownP v (nI o))) = h17 at eh17 fh17 kh17 uh17 ⊢
                  refine rn_iinc (a := s) (k := 1) (ls' := [(0, vr 4 k), (1, vr 5 kv), (2, vi (nI o)), (3, vi (ownP v (nI o))), (4, vi (nI (2 ^ o))), (5, vi (nI (s + 1)))]) C (dx dX4_gather 36 rfl) rfl rfl (by decide) [1, 2, 3, 4, 5, 0] rfl ?_
                  refine r_goto (tgt := 31) C (dx dX4_gather 37 rfl) (by decide) ?_
                  refine ih _ (fun i hi => ?_) (fun i hi => ?_) fh17 kh17
                  · by_cases hi2 : i = s
                    · subst hi2
                      exact (eh17 _).trans ((if_pos rfl).trans (gat_hi v hs).symm)
                    · exact (eh17 _).trans ((if_neg (by omega)).trans (qa i (by omega)))
                  · exact (eh17 _).trans ((if_neg (by omega)).trans (qb i hi))))
set_option maxHeartbeats 4000000 in
theorem c_X4_oddsOf {l : Launch} {h : Hp} {k kv : Nat} {v : Vg} (hv : VilAt h kv v) (hd : kv + 9 ≤ k ∨ k + 4 ≤ kv) (m : Nat) (hm : m < vM v) : Ms l yX4_oddsOf cX4_oddsOf 6 (some .long) 3 [vr 4 k, vr 5 kv, vi (nI m)] h (xK h) (fun r h' => r = some (vl (oddsC v m)) ∧ Fr (k + 1) (k + 3) h h') := by
  refine Ms.of (by decide) (Nat.le_of_ble_eq_true rfl) (fun G C X F => ?_)
  have C : Cx G cX4_oddsOf 6 RX4 := C
  show Rr G 0 [(0, vr 4 k), (1, vr 5 kv), (2, vi (nI m))] [] h
  have bP := hv.bP
  have bM := hv.bM
  have bN := hv.bN
  have p8 := pow8 bN
  obtain ⟨S, hS⟩ : ∃ S, S = 2 ^ vN v := ⟨_, rfl⟩
  rw [← hS] at p8
  have em : inR (nI m) (vM v) = true := by rw [inR_nI (by omega)]; exact decide_eq_true hm
  have hcm : (nI m).toNatClampNeg = m := nI_clamp (by omega)
  refine r_aload_n C (dx dX4_oddsOf 0 rfl) rfl ?_
  refine r_aload_n C (dx dX4_oddsOf 1 rfl) rfl ?_
  refine r_cv (as := [vr 5 kv]) (st := []) C X I_X4_weigh l_X4_39 (c_X4_weigh hv hd) (by decide) (Nat.le_of_ble_eq_true rfl) List.prefix_rfl List.prefix_rfl rfl rfl (Nat.le_of_ble_eq_true rfl) rfl (dx dX4_oddsOf 2 rfl) ?_
  intro rh1 h1 hph1 kkh1
  obtain ⟨rfl, qh1, gh1⟩ := hph1
  rw [← hS] at qh1
  have fh1 : Fr (k + 1) (k + 3) h h1 := (gh1.mono (by omega) (by omega))
  have kh1 : xK h1 = xK h := kkh1
  have uh1 : VilAt h1 kv v := hv.fr fh1 (by omega)
  refine r_aload_n C (dx dX4_oddsOf 3 rfl) rfl ?_
  refine r_aload_n C (dx dX4_oddsOf 4 rfl) rfl ?_
  refine r_cv (as := [vr 5 kv]) (st := []) C X I_X4_gather l_X4_43 (c_X4_gather uh1 hd) (by decide) (Nat.le_of_ble_eq_true rfl) List.prefix_rfl (pfx_eq kh1) rfl rfl (Nat.le_of_ble_eq_true rfl) rfl (dx dX4_oddsOf 5 rfl) ?_
  intro rh2 h2 hph2 kkh2
  obtain ⟨rfl, qh2, gh2⟩ := hph2
  rw [← hS] at qh2
  have fh2 : Fr (k + 1) (k + 3) h h2 := fh1.tr (gh2.mono (by omega) (by omega))
  have kh2 : xK h2 = xK h := kkh2.trans kh1
  have uh2 : VilAt h2 kv v := hv.fr fh2 (by omega)
  have wh2 : ∀ s, s < S → xL h2 (k + 1) s = wgt v s (vN v) := fun s hs => (gh2.L (by omega) s).trans (qh1 s hs)
  refine r_lconst (v := 0) C (dx dX4_oddsOf 6 rfl) rfl ?_
  refine r_lstore_n (ls' := [(0, vr 4 k), (1, vr 5 kv), (2, vi (nI m)), (3, vl 0)]) C (dx dX4_oddsOf 7 rfl) (by decide) [1, 2, 3, 0] rfl ?_
  refine r_iconst (v := nI 0) C (dx dX4_oddsOf 8 rfl) rfl ?_
  refine r_istore (ls' := [(0, vr 4 k), (1, vr 5 kv), (2, vi (nI m)), (3, vl 0), (5, vi (nI 0))]) C (dx dX4_oddsOf 9 rfl) (by decide) [1, 2, 3, 4, 0] rfl ?_
  refine loopU (Φ := fun p => Rr G 15 [(0, vr 4 k), (1, vr 5 kv), (2, vi (nI m)), (3, vl (sumIfL (fun s => needW v (gat v s (vN v)) m) (fun s => wgt v s (vN v)) p)), (5, vi (nI p))] [] h2) (N := S) ?_ ?_ 0 (Nat.zero_le _)
  ·
    refine r_iload C (dx dX4_oddsOf 10 rfl) rfl ?_
    refine r_aload_n C (dx dX4_oddsOf 11 rfl) rfl ?_
    refine r_cvP (as := []) (st := [vi (nI S)]) (v := vi (nI (S - 1))) C X I_X5_allPeople l_X4_46 (c_allS uh2 hS) (by decide) (Nat.le_of_ble_eq_true rfl) (pfx_eq kh2) rfl rfl (Nat.le_of_ble_eq_true rfl) rfl (dx dX4_oddsOf 12 rfl) ?_
    refine rn_gt (a := S) (b := S - 1) (tgt := 55) C (by omega) (by omega) (dx dX4_oddsOf 13 rfl) (by decide) (fun c3 => ?_) (fun c3 => ?_)
    · first
      | (omega; done)
      | (
          have c3 : S - 1 < S := c3
          refine r_lload_n C (dx dX4_oddsOf 31 rfl) rfl ?_
          exact F.2.1 _ _ _ _ rfl (dx dX4_oddsOf 32 rfl) kh2 ⟨congrArg (fun x => some (vl x)) (show sumIfL (fun s => needW v (gat v s (vN v)) m) (fun s => wgt v s (vN v)) S = oddsC v m by rw [hS]; rfl), fh2⟩)
    · first
      | (omega; done)
  ·
    intro p hp ih
    refine r_iload C (dx dX4_oddsOf 10 rfl) rfl ?_
    refine r_aload_n C (dx dX4_oddsOf 11 rfl) rfl ?_
    refine r_cvP (as := []) (st := [vi (nI p)]) (v := vi (nI (S - 1))) C X I_X5_allPeople l_X4_46 (c_allS uh2 hS) (by decide) (Nat.le_of_ble_eq_true rfl) (pfx_eq kh2) rfl rfl (Nat.le_of_ble_eq_true rfl) rfl (dx dX4_oddsOf 12 rfl) ?_
    refine rn_gt (a := p) (b := S - 1) (tgt := 55) C (by omega) (by omega) (dx dX4_oddsOf 13 rfl) (by decide) (fun c5 => ?_) (fun c5 => ?_)
    · first
      | (omega; done)
      | (
          have c5 : S - 1 < p := c5
          refine r_lload_n C (dx dX4_oddsOf 31 rfl) rfl ?_
          exact F.2.1 _ _ _ _ rfl (dx dX4_oddsOf 32 rfl) kh2 ⟨congrArg (fun x => some (vl x)) (show sumIfL (fun s => needW v (gat v s (vN v)) m) (fun s => wgt v s (vN v)) p = oddsC v m by rw [hS]; rfl), fh2⟩)
    · first
      | (omega; done)
      | (
          have c5 : p ≤ S - 1 := c5
          refine r_aload_n C (dx dX4_oddsOf 14 rfl) rfl ?_
          refine r_iload_n C (dx dX4_oddsOf 15 rfl) rfl ?_
          refine r_aload_n C (dx dX4_oddsOf 16 rfl) rfl ?_
          refine g_X4_15 C (dx dX4_oddsOf 17 rfl) ?_
          refine r_iload C (dx dX4_oddsOf 18 rfl) rfl ?_
          refine r_iald (j := p) (x := gat v p (vN v)) C rfl rfl (by decide) rfl (by omega) (dx dX4_oddsOf 19 rfl) (qh2 _ (by omega)) ?_
          refine r_cvP (as := [vi (nI m), vi (gat v p (vN v))]) (st := []) (v := vi (b2i (wkW v (nI m) (gat v p (vN v))))) C X I_X5_isWorkedWith l_X4_50 (c_X5_isWorkedWith uh2 _ _) (by decide) (Nat.le_of_ble_eq_true rfl) (pfx_eq kh2) rfl rfl (Nat.le_of_ble_eq_true rfl) rfl (dx dX4_oddsOf 20 rfl) ?_
          refine rb_eq (b := wkW v (nI m) (gat v p (vN v))) (tgt := 49) C (dx dX4_oddsOf 21 rfl) (by decide) (fun c6 => ?_) (fun c6 => ?_)
          ·
            have c6 : (wkW v (nI m) (gat v p (vN v))) = false := c6
            refine rn_iinc (a := p) (k := 1) (ls' := [(0, vr 4 k), (1, vr 5 kv), (2, vi (nI m)), (3, vl (sumIfL (fun s => needW v (gat v s (vN v)) m) (fun s => wgt v s (vN v)) p)), (5, vi (nI (p + 1)))]) C (dx dX4_oddsOf 29 rfl) rfl rfl (by decide) [1, 2, 3, 4, 0] rfl ?_
            refine r_goto (tgt := 15) C (dx dX4_oddsOf 30 rfl) (by decide) ?_
            have e9 : sumIfL (fun s => needW v (gat v s (vN v)) m) (fun s => wgt v s (vN v)) p = sumIfL (fun s => needW v (gat v s (vN v)) m) (fun s => wgt v s (vN v)) (p + 1) := by (have e6 := c6); simp only [wkW, em, hcm, Bool.true_and] at e6; simp [sumIfL, e6]
            rw [e9]
            exact ih
          ·
            have c6 : (wkW v (nI m) (gat v p (vN v))) = true := c6
            refine r_lload_n C (dx dX4_oddsOf 22 rfl) rfl ?_
            refine r_aload_n C (dx dX4_oddsOf 23 rfl) rfl ?_
            refine g_X4_9 C (dx dX4_oddsOf 24 rfl) ?_
            refine r_iload C (dx dX4_oddsOf 25 rfl) rfl ?_
            refine r_lald (j := p) (x := wgt v p (vN v)) C rfl rfl (by decide) rfl (by omega) (dx dX4_oddsOf 26 rfl) (wh2 _ (by omega)) ?_
            refine r_ladd C (dx dX4_oddsOf 27 rfl) ?_
            refine r_lstore_n (ls' := [(0, vr 4 k), (1, vr 5 kv), (2, vi (nI m)), (3, vl ((sumIfL (fun s => needW v (gat v s (vN v)) m) (fun s => wgt v s (vN v)) p) + (wgt v p (vN v)))), (5, vi (nI p))]) C (dx dX4_oddsOf 28 rfl) (by decide) [1, 2, 3, 0, 4] rfl ?_
            refine rn_iinc (a := p) (k := 1) (ls' := [(0, vr 4 k), (1, vr 5 kv), (2, vi (nI m)), (3, vl ((sumIfL (fun s => needW v (gat v s (vN v)) m) (fun s => wgt v s (vN v)) p) + (wgt v p (vN v)))), (5, vi (nI (p + 1)))]) C (dx dX4_oddsOf 29 rfl) rfl rfl (by decide) [1, 2, 3, 4, 0] rfl ?_
            refine r_goto (tgt := 15) C (dx dX4_oddsOf 30 rfl) (by decide) ?_
            have e9 : (sumIfL (fun s => needW v (gat v s (vN v)) m) (fun s => wgt v s (vN v)) p) + (wgt v p (vN v)) = sumIfL (fun s => needW v (gat v s (vN v)) m) (fun s => wgt v s (vN v)) (p + 1) := by (have e6 := c6); simp only [wkW, em, hcm, Bool.true_and] at e6; simp [sumIfL, e6]
            rw [e9]
            exact ih)
set_option maxHeartbeats 4000000 in
theorem c_X4_oddsOfPair {l : Launch} {h : Hp} {k kv : Nat} {v : Vg} (hv : VilAt h kv v) (hd : kv + 9 ≤ k ∨ k + 4 ≤ kv) (m o : Nat) (hm : m < vM v) (ho : o < vM v) (hne : m ≠ o) : Ms l yX4_oddsOfPair cX4_oddsOfPair 7 (some .long) 4 [vr 4 k, vr 5 kv, vi (nI m), vi (nI o)] h (xK h) (fun r h' => r = some (vl (oddsPC v m o)) ∧ Fr (k + 1) (k + 3) h h') := by
  refine Ms.of (by decide) (Nat.le_of_ble_eq_true rfl) (fun G C X F => ?_)
  have C : Cx G cX4_oddsOfPair 7 RX4 := C
  show Rr G 0 [(0, vr 4 k), (1, vr 5 kv), (2, vi (nI m)), (3, vi (nI o))] [] h
  have bP := hv.bP
  have bM := hv.bM
  have bN := hv.bN
  have p8 := pow8 bN
  obtain ⟨S, hS⟩ : ∃ S, S = 2 ^ vN v := ⟨_, rfl⟩
  rw [← hS] at p8
  refine r_aload_n C (dx dX4_oddsOfPair 0 rfl) rfl ?_
  refine r_aload_n C (dx dX4_oddsOfPair 1 rfl) rfl ?_
  refine r_cv (as := [vr 5 kv]) (st := []) C X I_X4_weigh l_X4_39 (c_X4_weigh hv hd) (by decide) (Nat.le_of_ble_eq_true rfl) List.prefix_rfl List.prefix_rfl rfl rfl (Nat.le_of_ble_eq_true rfl) rfl (dx dX4_oddsOfPair 2 rfl) ?_
  intro rh1 h1 hph1 kkh1
  obtain ⟨rfl, qh1, gh1⟩ := hph1
  rw [← hS] at qh1
  have fh1 : Fr (k + 1) (k + 3) h h1 := (gh1.mono (by omega) (by omega))
  have kh1 : xK h1 = xK h := kkh1
  have uh1 : VilAt h1 kv v := hv.fr fh1 (by omega)
  refine r_lconst (v := 0) C (dx dX4_oddsOfPair 3 rfl) rfl ?_
  refine r_lstore (ls' := [(0, vr 4 k), (1, vr 5 kv), (2, vi (nI m)), (3, vi (nI o)), (4, vl 0)]) C (dx dX4_oddsOfPair 4 rfl) (by decide) [1, 2, 3, 4, 0] rfl ?_
  refine r_iconst (v := nI 0) C (dx dX4_oddsOfPair 5 rfl) rfl ?_
  refine r_istore (ls' := [(0, vr 4 k), (1, vr 5 kv), (2, vi (nI m)), (3, vi (nI o)), (4, vl 0), (6, vi (nI 0))]) C (dx dX4_oddsOfPair 6 rfl) (by decide) [1, 2, 3, 4, 5, 0] rfl ?_
  refine loopU (Φ := fun p => Rr G 11 [(0, vr 4 k), (1, vr 5 kv), (2, vi (nI m)), (3, vi (nI o)), (4, vl (sumIfL (fun s => bothW v m o (nI s)) (fun s => wgt v s (vN v)) p)), (6, vi (nI p))] [] h1) (N := S) ?_ ?_ 0 (Nat.zero_le _)
  ·
    refine r_iload C (dx dX4_oddsOfPair 7 rfl) rfl ?_
    refine r_aload_n C (dx dX4_oddsOfPair 8 rfl) rfl ?_
    refine r_cvP (as := []) (st := [vi (nI S)]) (v := vi (nI (S - 1))) C X I_X5_allPeople l_X4_46 (c_allS uh1 hS) (by decide) (Nat.le_of_ble_eq_true rfl) (pfx_eq kh1) rfl rfl (Nat.le_of_ble_eq_true rfl) rfl (dx dX4_oddsOfPair 9 rfl) ?_
    refine rn_gt (a := S) (b := S - 1) (tgt := 61) C (by omega) (by omega) (dx dX4_oddsOfPair 10 rfl) (by decide) (fun c2 => ?_) (fun c2 => ?_)
    · first
      | (omega; done)
      | (
          have c2 : S - 1 < S := c2
          refine r_lload C (dx dX4_oddsOfPair 33 rfl) rfl ?_
          exact F.2.1 _ _ _ _ rfl (dx dX4_oddsOfPair 34 rfl) kh1 ⟨congrArg (fun x => some (vl x)) (show sumIfL (fun s => bothW v m o (nI s)) (fun s => wgt v s (vN v)) S = oddsPC v m o by rw [hS]; rfl), fh1⟩)
    · first
      | (omega; done)
  ·
    intro p hp ih
    refine r_iload C (dx dX4_oddsOfPair 7 rfl) rfl ?_
    refine r_aload_n C (dx dX4_oddsOfPair 8 rfl) rfl ?_
    refine r_cvP (as := []) (st := [vi (nI p)]) (v := vi (nI (S - 1))) C X I_X5_allPeople l_X4_46 (c_allS uh1 hS) (by decide) (Nat.le_of_ble_eq_true rfl) (pfx_eq kh1) rfl rfl (Nat.le_of_ble_eq_true rfl) rfl (dx dX4_oddsOfPair 9 rfl) ?_
    refine rn_gt (a := p) (b := S - 1) (tgt := 61) C (by omega) (by omega) (dx dX4_oddsOfPair 10 rfl) (by decide) (fun c4 => ?_) (fun c4 => ?_)
    · first
      | (omega; done)
      | (
          have c4 : S - 1 < p := c4
          refine r_lload C (dx dX4_oddsOfPair 33 rfl) rfl ?_
          exact F.2.1 _ _ _ _ rfl (dx dX4_oddsOfPair 34 rfl) kh1 ⟨congrArg (fun x => some (vl x)) (show sumIfL (fun s => bothW v m o (nI s)) (fun s => wgt v s (vN v)) p = oddsPC v m o by rw [hS]; rfl), fh1⟩)
    · first
      | (omega; done)
      | (
          have c4 : p ≤ S - 1 := c4
          refine r_aload_n C (dx dX4_oddsOfPair 11 rfl) rfl ?_
          refine g_X4_9 C (dx dX4_oddsOfPair 12 rfl) ?_
          refine r_iload C (dx dX4_oddsOfPair 13 rfl) rfl ?_
          refine r_lald (j := p) (x := wgt v p (vN v)) C rfl rfl (by decide) rfl (by omega) (dx dX4_oddsOfPair 14 rfl) (qh1 _ (by omega)) ?_
          refine r_lconst (v := 0) C (dx dX4_oddsOfPair 15 rfl) rfl ?_
          refine r_lcmp C (dx dX4_oddsOfPair 16 rfl) ?_
          refine r_if_eq (tgt := 55) C (dx dX4_oddsOfPair 17 rfl) (by decide) (fun c5 => ?_) (fun c5 => ?_)
          ·
            have c5 : wgt v p (vN v) = 0 := (lg_cmp_eq _ _).mp c5
            refine rn_iinc (a := p) (k := 1) (ls' := [(0, vr 4 k), (1, vr 5 kv), (2, vi (nI m)), (3, vi (nI o)), (4, vl (sumIfL (fun s => bothW v m o (nI s)) (fun s => wgt v s (vN v)) p)), (6, vi (nI (p + 1)))]) C (dx dX4_oddsOfPair 31 rfl) rfl rfl (by decide) [1, 2, 3, 4, 5, 0] rfl ?_
            refine r_goto (tgt := 11) C (dx dX4_oddsOfPair 32 rfl) (by decide) ?_
            have e9 : sumIfL (fun s => bothW v m o (nI s)) (fun s => wgt v s (vN v)) p = sumIfL (fun s => bothW v m o (nI s)) (fun s => wgt v s (vN v)) (p + 1) := by (simp only [sumIfL]; split <;> simp_all)
            rw [e9]
            exact ih
          ·
            have c5 : ¬ (wgt v p (vN v) = 0) := fun q => c5 ((lg_cmp_eq _ _).mpr q)
            refine r_aload_n C (dx dX4_oddsOfPair 18 rfl) rfl ?_
            refine r_iload_n C (dx dX4_oddsOfPair 19 rfl) rfl ?_
            refine r_iload_n C (dx dX4_oddsOfPair 20 rfl) rfl ?_
            refine r_iload C (dx dX4_oddsOfPair 21 rfl) rfl ?_
            refine r_cvP (as := [vi (nI m), vi (nI o), vi (nI p)]) (st := []) (v := vi (b2i (bothW v m o (nI p)))) C X I_X5_areBothWorked l_X4_54 (c_X5_areBothWorked uh1 _ _ _ hm ho hne) (by decide) (Nat.le_of_ble_eq_true rfl) (pfx_eq kh1) rfl rfl (Nat.le_of_ble_eq_true rfl) rfl (dx dX4_oddsOfPair 22 rfl) ?_
            refine rb_eq (b := bothW v m o (nI p)) (tgt := 55) C (dx dX4_oddsOfPair 23 rfl) (by decide) (fun c6 => ?_) (fun c6 => ?_)
            ·
              have c6 : (bothW v m o (nI p)) = false := c6
              refine rn_iinc (a := p) (k := 1) (ls' := [(0, vr 4 k), (1, vr 5 kv), (2, vi (nI m)), (3, vi (nI o)), (4, vl (sumIfL (fun s => bothW v m o (nI s)) (fun s => wgt v s (vN v)) p)), (6, vi (nI (p + 1)))]) C (dx dX4_oddsOfPair 31 rfl) rfl rfl (by decide) [1, 2, 3, 4, 5, 0] rfl ?_
              refine r_goto (tgt := 11) C (dx dX4_oddsOfPair 32 rfl) (by decide) ?_
              have e9 : sumIfL (fun s => bothW v m o (nI s)) (fun s => wgt v s (vN v)) p = sumIfL (fun s => bothW v m o (nI s)) (fun s => wgt v s (vN v)) (p + 1) := by (simp only [sumIfL]; split <;> simp_all)
              rw [e9]
              exact ih
            ·
              have c6 : (bothW v m o (nI p)) = true := c6
              refine r_lload C (dx dX4_oddsOfPair 24 rfl) rfl ?_
              refine r_aload_n C (dx dX4_oddsOfPair 25 rfl) rfl ?_
              refine g_X4_9 C (dx dX4_oddsOfPair 26 rfl) ?_
              refine r_iload C (dx dX4_oddsOfPair 27 rfl) rfl ?_
              refine r_lald (j := p) (x := wgt v p (vN v)) C rfl rfl (by decide) rfl (by omega) (dx dX4_oddsOfPair 28 rfl) (qh1 _ (by omega)) ?_
              refine r_ladd C (dx dX4_oddsOfPair 29 rfl) ?_
              refine r_lstore (ls' := [(0, vr 4 k), (1, vr 5 kv), (2, vi (nI m)), (3, vi (nI o)), (4, vl ((sumIfL (fun s => bothW v m o (nI s)) (fun s => wgt v s (vN v)) p) + (wgt v p (vN v)))), (6, vi (nI p))]) C (dx dX4_oddsOfPair 30 rfl) (by decide) [1, 2, 3, 4, 0, 5] rfl ?_
              refine rn_iinc (a := p) (k := 1) (ls' := [(0, vr 4 k), (1, vr 5 kv), (2, vi (nI m)), (3, vi (nI o)), (4, vl ((sumIfL (fun s => bothW v m o (nI s)) (fun s => wgt v s (vN v)) p) + (wgt v p (vN v)))), (6, vi (nI (p + 1)))]) C (dx dX4_oddsOfPair 31 rfl) rfl rfl (by decide) [1, 2, 3, 4, 5, 0] rfl ?_
              refine r_goto (tgt := 11) C (dx dX4_oddsOfPair 32 rfl) (by decide) ?_
              have e9 : (sumIfL (fun s => bothW v m o (nI s)) (fun s => wgt v s (vN v)) p) + (wgt v p (vN v)) = sumIfL (fun s => bothW v m o (nI s)) (fun s => wgt v s (vN v)) (p + 1) := by (simp only [sumIfL]; split <;> simp_all)
              rw [e9]
              exact ih)
set_option maxHeartbeats 4000000 in
theorem c_X4_worthAsWeighed {l : Launch} {h : Hp} {k kv : Nat} {v : Vg} (hv : VilAt h kv v) (hd : kv + 9 ≤ k ∨ k + 4 ≤ kv) (hw : ∀ s, s < 2 ^ vN v → xL h (k + 1) s = wgt v s (vN v)) : Ms l yX4_worthAsWeighed cX4_worthAsWeighed 5 (some .long) 3 [vr 4 k, vr 5 kv] h (xK h) (fun r h' => r = some (vl (dayC v)) ∧ Fr (k + 2) (k + 3) h h') := by
  refine Ms.of (by decide) (Nat.le_of_ble_eq_true rfl) (fun G C X F => ?_)
  have C : Cx G cX4_worthAsWeighed 5 RX4 := C
  show Rr G 0 [(0, vr 4 k), (1, vr 5 kv)] [] h
  have bP := hv.bP
  have bM := hv.bM
  have bN := hv.bN
  have p8 := pow8 bN
  obtain ⟨S, hS⟩ : ∃ S, S = 2 ^ vN v := ⟨_, rfl⟩
  rw [← hS] at p8
  rw [← hS] at hw
  refine r_aload_n C (dx dX4_worthAsWeighed 0 rfl) rfl ?_
  refine r_aload_n C (dx dX4_worthAsWeighed 1 rfl) rfl ?_
  refine r_cv (as := [vr 5 kv]) (st := []) C X I_X4_gather l_X4_43 (c_X4_gather hv hd) (by decide) (Nat.le_of_ble_eq_true rfl) List.prefix_rfl List.prefix_rfl rfl rfl (Nat.le_of_ble_eq_true rfl) rfl (dx dX4_worthAsWeighed 2 rfl) ?_
  intro rh1 h1 hph1 kkh1
  obtain ⟨rfl, qh1, gh1⟩ := hph1
  rw [← hS] at qh1
  have fh1 : Fr (k + 1) (k + 3) h h1 := (gh1.mono (by omega) (by omega))
  have kh1 : xK h1 = xK h := kkh1
  have uh1 : VilAt h1 kv v := hv.fr fh1 (by omega)
  have wh1 : ∀ s, s < S → xL h1 (k + 1) s = wgt v s (vN v) := fun s hs => (gh1.L (by omega) s).trans (hw s hs)
  refine r_lconst (v := 0) C (dx dX4_worthAsWeighed 3 rfl) rfl ?_
  refine r_lstore_n (ls' := [(0, vr 4 k), (1, vr 5 kv), (2, vl 0)]) C (dx dX4_worthAsWeighed 4 rfl) (by decide) [1, 2, 0] rfl ?_
  refine r_iconst (v := nI 0) C (dx dX4_worthAsWeighed 5 rfl) rfl ?_
  refine r_istore (ls' := [(0, vr 4 k), (1, vr 5 kv), (2, vl 0), (4, vi (nI 0))]) C (dx dX4_worthAsWeighed 6 rfl) (by decide) [1, 2, 3, 0] rfl ?_
  refine loopU (Φ := fun p => Rr G 10 [(0, vr 4 k), (1, vr 5 kv), (2, vl (sumL (fun s => wgt v s (vN v) * (worthS v (gat v s (vN v))).toInt64) p)), (4, vi (nI p))] [] h1) (N := S) ?_ ?_ 0 (Nat.zero_le _)
  ·
    refine r_iload C (dx dX4_worthAsWeighed 7 rfl) rfl ?_
    refine r_aload_n C (dx dX4_worthAsWeighed 8 rfl) rfl ?_
    refine r_cvP (as := []) (st := [vi (nI S)]) (v := vi (nI (S - 1))) C X I_X5_allPeople l_X4_46 (c_allS uh1 hS) (by decide) (Nat.le_of_ble_eq_true rfl) (pfx_eq kh1) rfl rfl (Nat.le_of_ble_eq_true rfl) rfl (dx dX4_worthAsWeighed 9 rfl) ?_
    refine rn_gt (a := S) (b := S - 1) (tgt := 60) C (by omega) (by omega) (dx dX4_worthAsWeighed 10 rfl) (by decide) (fun c2 => ?_) (fun c2 => ?_)
    · first
      | (omega; done)
      | (
          have c2 : S - 1 < S := c2
          refine r_lload_n C (dx dX4_worthAsWeighed 35 rfl) rfl ?_
          exact F.2.1 _ _ _ _ rfl (dx dX4_worthAsWeighed 36 rfl) kh1 ⟨congrArg (fun x => some (vl x)) (show sumL (fun s => wgt v s (vN v) * (worthS v (gat v s (vN v))).toInt64) S = dayC v by rw [hS]; rfl), gh1⟩)
    · first
      | (omega; done)
  ·
    intro p hp ih
    refine r_iload C (dx dX4_worthAsWeighed 7 rfl) rfl ?_
    refine r_aload_n C (dx dX4_worthAsWeighed 8 rfl) rfl ?_
    refine r_cvP (as := []) (st := [vi (nI p)]) (v := vi (nI (S - 1))) C X I_X5_allPeople l_X4_46 (c_allS uh1 hS) (by decide) (Nat.le_of_ble_eq_true rfl) (pfx_eq kh1) rfl rfl (Nat.le_of_ble_eq_true rfl) rfl (dx dX4_worthAsWeighed 9 rfl) ?_
    refine rn_gt (a := p) (b := S - 1) (tgt := 60) C (by omega) (by omega) (dx dX4_worthAsWeighed 10 rfl) (by decide) (fun c4 => ?_) (fun c4 => ?_)
    · first
      | (omega; done)
      | (
          have c4 : S - 1 < p := c4
          refine r_lload_n C (dx dX4_worthAsWeighed 35 rfl) rfl ?_
          exact F.2.1 _ _ _ _ rfl (dx dX4_worthAsWeighed 36 rfl) kh1 ⟨congrArg (fun x => some (vl x)) (show sumL (fun s => wgt v s (vN v) * (worthS v (gat v s (vN v))).toInt64) p = dayC v by rw [hS]; rfl), gh1⟩)
    · first
      | (omega; done)
      | (
          have c4 : p ≤ S - 1 := c4
          refine r_aload_n C (dx dX4_worthAsWeighed 11 rfl) rfl ?_
          refine g_X4_9 C (dx dX4_worthAsWeighed 12 rfl) ?_
          refine r_iload C (dx dX4_worthAsWeighed 13 rfl) rfl ?_
          refine r_lald (j := p) (x := wgt v p (vN v)) C rfl rfl (by decide) rfl (by omega) (dx dX4_worthAsWeighed 14 rfl) (wh1 _ (by omega)) ?_
          refine r_lconst (v := 0) C (dx dX4_worthAsWeighed 15 rfl) rfl ?_
          refine r_lcmp C (dx dX4_worthAsWeighed 16 rfl) ?_
          refine r_if_eq (tgt := 54) C (dx dX4_worthAsWeighed 17 rfl) (by decide) (fun c5 => ?_) (fun c5 => ?_)
          ·
            have c5 : wgt v p (vN v) = 0 := (lg_cmp_eq _ _).mp c5
            refine rn_iinc (a := p) (k := 1) (ls' := [(0, vr 4 k), (1, vr 5 kv), (2, vl (sumL (fun s => wgt v s (vN v) * (worthS v (gat v s (vN v))).toInt64) p)), (4, vi (nI (p + 1)))]) C (dx dX4_worthAsWeighed 33 rfl) rfl rfl (by decide) [1, 2, 3, 0] rfl ?_
            refine r_goto (tgt := 10) C (dx dX4_worthAsWeighed 34 rfl) (by decide) ?_
            have e9 : sumL (fun s => wgt v s (vN v) * (worthS v (gat v s (vN v))).toInt64) p = sumL (fun s => wgt v s (vN v) * (worthS v (gat v s (vN v))).toInt64) (p + 1) := by (simp only [sumL]; try rw [c5]; try simp)
            rw [e9]
            exact ih
          ·
            have c5 : ¬ (wgt v p (vN v) = 0) := fun q => c5 ((lg_cmp_eq _ _).mpr q)
            refine r_lload_n C (dx dX4_worthAsWeighed 18 rfl) rfl ?_
            refine r_aload_n C (dx dX4_worthAsWeighed 19 rfl) rfl ?_
            refine g_X4_9 C (dx dX4_worthAsWeighed 20 rfl) ?_
            refine r_iload C (dx dX4_worthAsWeighed 21 rfl) rfl ?_
            refine r_lald (j := p) (x := wgt v p (vN v)) C rfl rfl (by decide) rfl (by omega) (dx dX4_worthAsWeighed 22 rfl) (wh1 _ (by omega)) ?_
            refine r_aload_n C (dx dX4_worthAsWeighed 23 rfl) rfl ?_
            refine r_aload_n C (dx dX4_worthAsWeighed 24 rfl) rfl ?_
            refine g_X4_15 C (dx dX4_worthAsWeighed 25 rfl) ?_
            refine r_iload C (dx dX4_worthAsWeighed 26 rfl) rfl ?_
            refine r_iald (j := p) (x := gat v p (vN v)) C rfl rfl (by decide) rfl (by omega) (dx dX4_worthAsWeighed 27 rfl) (qh1 _ (by omega)) ?_
            refine r_cvP (as := [vi (gat v p (vN v))]) (st := [vl (wgt v p (vN v)), vl (sumL (fun s => wgt v s (vN v) * (worthS v (gat v s (vN v))).toInt64) p)]) (v := vi (worthS v (gat v p (vN v)))) C X I_X5_worthWith l_X4_62 (c_X5_worthWith uh1 _) (by decide) (Nat.le_of_ble_eq_true rfl) (pfx_eq kh1) rfl rfl (Nat.le_of_ble_eq_true rfl) rfl (dx dX4_worthAsWeighed 28 rfl) ?_
            refine r_i2l C (dx dX4_worthAsWeighed 29 rfl) ?_
            refine r_lmul C (dx dX4_worthAsWeighed 30 rfl) ?_
            refine r_ladd C (dx dX4_worthAsWeighed 31 rfl) ?_
            refine r_lstore_n (ls' := [(0, vr 4 k), (1, vr 5 kv), (2, vl ((sumL (fun s => wgt v s (vN v) * (worthS v (gat v s (vN v))).toInt64) p) + ((wgt v p (vN v)) * ((worthS v (gat v p (vN v))).toInt64)))), (4, vi (nI p))]) C (dx dX4_worthAsWeighed 32 rfl) (by decide) [1, 2, 0, 3] rfl ?_
            refine rn_iinc (a := p) (k := 1) (ls' := [(0, vr 4 k), (1, vr 5 kv), (2, vl ((sumL (fun s => wgt v s (vN v) * (worthS v (gat v s (vN v))).toInt64) p) + ((wgt v p (vN v)) * ((worthS v (gat v p (vN v))).toInt64)))), (4, vi (nI (p + 1)))]) C (dx dX4_worthAsWeighed 33 rfl) rfl rfl (by decide) [1, 2, 3, 0] rfl ?_
            refine r_goto (tgt := 10) C (dx dX4_worthAsWeighed 34 rfl) (by decide) ?_
            have e9 : (sumL (fun s => wgt v s (vN v) * (worthS v (gat v s (vN v))).toInt64) p) + ((wgt v p (vN v)) * ((worthS v (gat v p (vN v))).toInt64)) = sumL (fun s => wgt v s (vN v) * (worthS v (gat v s (vN v))).toInt64) (p + 1) := by (simp only [sumL]; try rw [c5]; try simp)
            rw [e9]
            exact ih)
end
section
/-! PART 12: counting bits; turns, orders, who bears -/
theorem nI_and {a b : Nat} : nI a &&& nI b = nI (a &&& b) := by
  apply Int32.toBitVec_inj.mp
  rw [Int32.toBitVec_and]
  show BitVec.ofNat 32 a &&& BitVec.ofNat 32 b = BitVec.ofNat 32 (a &&& b)
  rw [BitVec.ofNat_and]
theorem nI_or {a b : Nat} : nI a ||| nI b = nI (a ||| b) := by
  apply Int32.toBitVec_inj.mp
  rw [Int32.toBitVec_or]
  show BitVec.ofNat 32 a ||| BitVec.ofNat 32 b = BitVec.ofNat 32 (a ||| b)
  rw [BitVec.ofNat_or]
theorem nI_ush {k j : Nat} (hk : k < 65536) {y : Int32} (hy : ((y.toUInt32 &&& Int32.toUInt32 31).toBitVec % 32).toNat = j) : ((nI k).toUInt32 >>> (y.toUInt32 &&& Int32.toUInt32 31)).toInt32 = nI (k >>> j) := by
  apply Int32.toBitVec_inj.mp
  show ((nI k).toUInt32 >>> (y.toUInt32 &&& Int32.toUInt32 31)).toBitVec = BitVec.ofNat 32 (k >>> j)
  rw [UInt32.toBitVec_shiftRight, BitVec.ushiftRight_eq', hy]
  apply BitVec.eq_of_toNat_eq
  rw [BitVec.toNat_ushiftRight, BitVec.toNat_ofNat]
  show (BitVec.ofNat 32 k).toNat >>> j = _
  rw [BitVec.toNat_ofNat, Nat.mod_eq_of_lt (by omega), Nat.mod_eq_of_lt]
  exact Nat.lt_of_le_of_lt (Nat.shiftRight_le k j) (by omega)
/-- how many bits of twelve are set -/
def pcn (a : Nat) : Nat := (a &&& 1) + (a >>> 1 &&& 1) + (a >>> 2 &&& 1) + (a >>> 3 &&& 1) + (a >>> 4 &&& 1) + (a >>> 5 &&& 1) + (a >>> 6 &&& 1) + (a >>> 7 &&& 1) + (a >>> 8 &&& 1) + (a >>> 9 &&& 1) + (a >>> 10 &&& 1) + (a >>> 11 &&& 1)
def bc1 (x : Nat) := x - (x >>> 1 &&& 1431655765)
def bc2 (x : Nat) := (x &&& 858993459) + (x >>> 2 &&& 858993459)
def bc3 (x : Nat) := (x + (x >>> 4)) &&& 252645135
def bc4 (x : Nat) := x + (x >>> 8)
def bc5 (x : Nat) := x + (x >>> 16)
theorem bc_at {a : Nat} (h : a < 4096) : (a >>> 1 &&& 1431655765) ≤ a ∧ bc1 a < 65536 ∧ bc2 (bc1 a) < 65536 ∧ bc3 (bc2 (bc1 a)) < 65536 ∧ bc4 (bc3 (bc2 (bc1 a))) < 65536 ∧ bc5 (bc4 (bc3 (bc2 (bc1 a)))) &&& 63 = pcn a ∧ pcn a ≤ 12 := by
  have key : ∀ a : Fin 64, ∀ b : Fin 64, ((64 * a.val + b.val) >>> 1 &&& 1431655765) ≤ 64 * a.val + b.val ∧ bc1 (64 * a.val + b.val) < 65536 ∧ bc2 (bc1 (64 * a.val + b.val)) < 65536 ∧ bc3 (bc2 (bc1 (64 * a.val + b.val))) < 65536 ∧ bc4 (bc3 (bc2 (bc1 (64 * a.val + b.val)))) < 65536 ∧ bc5 (bc4 (bc3 (bc2 (bc1 (64 * a.val + b.val))))) &&& 63 = pcn (64 * a.val + b.val) ∧ pcn (64 * a.val + b.val) ≤ 12 := by decide +kernel
  have q := key ⟨a / 64, by omega⟩ ⟨a % 64, by omega⟩
  rw [show 64 * (a / 64) + a % 64 = a by omega] at q
  exact q
theorem rn_iand {G : Gt} {cc : ByteArray} {nL pc : Nat} {own : String} {ls : List (Nat × V)} {st : List V} {h : Hp} (C : Cx G cc nL own) {a b : Nat} (dd : decode cc pc = .ok (.iand, 1)) (kk : Rr G (pc + 1) ls (vi (nI (a &&& b)) :: st) h) : Rr G pc ls (vi (nI b) :: vi (nI a) :: st) h :=
  r_iand C dd (by rw [nI_and]; exact kk)
theorem rn_ior {G : Gt} {cc : ByteArray} {nL pc : Nat} {own : String} {ls : List (Nat × V)} {st : List V} {h : Hp} (C : Cx G cc nL own) {a b : Nat} (dd : decode cc pc = .ok (.ior, 1)) (kk : Rr G (pc + 1) ls (vi (nI (a ||| b)) :: st) h) : Rr G pc ls (vi (nI b) :: vi (nI a) :: st) h :=
  r_ior C dd (by rw [nI_or]; exact kk)
theorem rn_iushr {G : Gt} {cc : ByteArray} {nL pc : Nat} {own : String} {ls : List (Nat × V)} {st : List V} {h : Hp} (C : Cx G cc nL own) {a j : Nat} {y : Int32} (ha : a < 65536) (hy : ((y.toUInt32 &&& Int32.toUInt32 31).toBitVec % 32).toNat = j) (dd : decode cc pc = .ok (.iushr, 1)) (kk : Rr G (pc + 1) ls (vi (nI (a >>> j)) :: st) h) : Rr G pc ls (vi y :: vi (nI a) :: st) h :=
  r_iushr C dd (by rw [nI_ush ha hy]; exact kk)
set_option maxHeartbeats 4000000 in
theorem c_J6_bitCount_0f7a4 {l : Launch} {h : Hp} {a : Nat} (ha : a < 4096) : Mp l yJ6_bitCount_0f7a4 cJ6_bitCount_0f7a4 1 (some .int) 1 [vi (nI a)] h (vi (nI (pcn a))) := by
  refine Ms.of (by decide) (Nat.le_of_ble_eq_true rfl) (fun G C X F => ?_)
  have C : Cx G cJ6_bitCount_0f7a4 1 RJ6 := C
  show Rr G 0 [(0, vi (nI a))] [] h
  have hb := bc_at ha
  refine r_iload_n C (dx dJ6_bitCount_0f7a4 0 rfl) rfl ?_
  refine r_iload_n C (dx dJ6_bitCount_0f7a4 1 rfl) rfl ?_
  refine r_iconst (v := nI 1) C (dx dJ6_bitCount_0f7a4 2 rfl) rfl ?_
  refine rn_iushr (a := a) (j := 1) C (by omega) (by decide) (dx dJ6_bitCount_0f7a4 3 rfl) ?_
  refine r_ldcw C n_J6_265 (dx dJ6_bitCount_0f7a4 4 rfl) ?_
  refine rn_iand (a := a >>> 1) (b := 1431655765) C (dx dJ6_bitCount_0f7a4 5 rfl) ?_
  refine rn_isub (a := a) (b := (a >>> 1) &&& 1431655765) C hb.1 (dx dJ6_bitCount_0f7a4 6 rfl) ?_
  refine r_istore_n (ls' := [(0, vi (nI (bc1 a)))]) C (dx dJ6_bitCount_0f7a4 7 rfl) (by decide) [0] rfl ?_
  refine r_iload_n C (dx dJ6_bitCount_0f7a4 8 rfl) rfl ?_
  refine r_ldcw C n_J6_266 (dx dJ6_bitCount_0f7a4 9 rfl) ?_
  refine rn_iand (a := bc1 a) (b := 858993459) C (dx dJ6_bitCount_0f7a4 10 rfl) ?_
  refine r_iload_n C (dx dJ6_bitCount_0f7a4 11 rfl) rfl ?_
  refine r_iconst (v := nI 2) C (dx dJ6_bitCount_0f7a4 12 rfl) rfl ?_
  refine rn_iushr (a := bc1 a) (j := 2) C hb.2.1 (by decide) (dx dJ6_bitCount_0f7a4 13 rfl) ?_
  refine r_ldcw C n_J6_266 (dx dJ6_bitCount_0f7a4 14 rfl) ?_
  refine rn_iand (a := (bc1 a) >>> 2) (b := 858993459) C (dx dJ6_bitCount_0f7a4 15 rfl) ?_
  refine rn_iadd (a := (bc1 a) &&& 858993459) (b := ((bc1 a) >>> 2) &&& 858993459) C (dx dJ6_bitCount_0f7a4 16 rfl) ?_
  refine r_istore_n (ls' := [(0, vi (nI (bc2 (bc1 a))))]) C (dx dJ6_bitCount_0f7a4 17 rfl) (by decide) [0] rfl ?_
  refine r_iload_n C (dx dJ6_bitCount_0f7a4 18 rfl) rfl ?_
  refine r_iload_n C (dx dJ6_bitCount_0f7a4 19 rfl) rfl ?_
  refine r_iconst (v := nI 4) C (dx dJ6_bitCount_0f7a4 20 rfl) rfl ?_
  refine rn_iushr (a := bc2 (bc1 a)) (j := 4) C hb.2.2.1 (by decide) (dx dJ6_bitCount_0f7a4 21 rfl) ?_
  refine rn_iadd (a := bc2 (bc1 a)) (b := (bc2 (bc1 a)) >>> 4) C (dx dJ6_bitCount_0f7a4 22 rfl) ?_
  refine r_ldcw C n_J6_267 (dx dJ6_bitCount_0f7a4 23 rfl) ?_
  refine rn_iand (a := bc2 (bc1 a) + ((bc2 (bc1 a)) >>> 4)) (b := 252645135) C (dx dJ6_bitCount_0f7a4 24 rfl) ?_
  refine r_istore_n (ls' := [(0, vi (nI (bc3 (bc2 (bc1 a)))))]) C (dx dJ6_bitCount_0f7a4 25 rfl) (by decide) [0] rfl ?_
  refine r_iload_n C (dx dJ6_bitCount_0f7a4 26 rfl) rfl ?_
  refine r_iload_n C (dx dJ6_bitCount_0f7a4 27 rfl) rfl ?_
  refine r_bipush (v := nI 8) C (dx dJ6_bitCount_0f7a4 28 rfl) rfl ?_
  refine rn_iushr (a := bc3 (bc2 (bc1 a))) (j := 8) C hb.2.2.2.1 (by decide) (dx dJ6_bitCount_0f7a4 29 rfl) ?_
  refine rn_iadd (a := bc3 (bc2 (bc1 a))) (b := (bc3 (bc2 (bc1 a))) >>> 8) C (dx dJ6_bitCount_0f7a4 30 rfl) ?_
  refine r_istore_n (ls' := [(0, vi (nI (bc4 (bc3 (bc2 (bc1 a))))))]) C (dx dJ6_bitCount_0f7a4 31 rfl) (by decide) [0] rfl ?_
  refine r_iload_n C (dx dJ6_bitCount_0f7a4 32 rfl) rfl ?_
  refine r_iload_n C (dx dJ6_bitCount_0f7a4 33 rfl) rfl ?_
  refine r_bipush (v := nI 16) C (dx dJ6_bitCount_0f7a4 34 rfl) rfl ?_
  refine rn_iushr (a := bc4 (bc3 (bc2 (bc1 a)))) (j := 16) C hb.2.2.2.2.1 (by decide) (dx dJ6_bitCount_0f7a4 35 rfl) ?_
  refine rn_iadd (a := bc4 (bc3 (bc2 (bc1 a)))) (b := (bc4 (bc3 (bc2 (bc1 a)))) >>> 16) C (dx dJ6_bitCount_0f7a4 36 rfl) ?_
  refine r_istore_n (ls' := [(0, vi (nI (bc5 (bc4 (bc3 (bc2 (bc1 a)))))))]) C (dx dJ6_bitCount_0f7a4 37 rfl) (by decide) [0] rfl ?_
  refine r_iload_n C (dx dJ6_bitCount_0f7a4 38 rfl) rfl ?_
  refine r_bipush (v := nI 63) C (dx dJ6_bitCount_0f7a4 39 rfl) rfl ?_
  refine rn_iand (a := bc5 (bc4 (bc3 (bc2 (bc1 a))))) (b := 63) C (dx dJ6_bitCount_0f7a4 40 rfl) ?_
  exact F.1 _ _ _ _ _ rfl rfl (dx dJ6_bitCount_0f7a4 41 rfl) rfl ⟨congrArg (fun x => some (vi x)) (show nI ((bc5 (bc4 (bc3 (bc2 (bc1 a))))) &&& 63) = nI (pcn a) by rw [hb.2.2.2.2.2.1]), rfl⟩
theorem bt_nI (a : Nat) {i : Nat} (hi : i < 32) : bt (nI a) i = a.testBit i := by
  show (BitVec.ofNat 32 a).getLsbD i = _
  rw [BitVec.getLsbD_ofNat]; simp [hi]
theorem bt_and (x y : Int32) (i : Nat) : bt (x &&& y) i = (bt x i && bt y i) := by simp [bt]
theorem bt_xor (x y : Int32) (i : Nat) : bt (x ^^^ y) i = (bt x i ^^ bt y i) := by simp [bt]
theorem bt_m1 : ∀ i, i < 32 → bt (-1) i = true := by decide +kernel
/-- what is in one set and not in the other -/
def dif (a b : Nat) : Nat := a &&& (4095 ^^^ b)
theorem dif_le (a b : Nat) : dif a b ≤ a := Nat.and_le_left
theorem nI_dif {a b : Nat} (ha : a < 4096) : nI a &&& (nI b ^^^ -1) = nI (dif a b) := by
  apply bt_ext
  intro i hi
  rw [bt_and, bt_xor, bt_m1 i hi, bt_nI a hi, bt_nI b hi, bt_nI _ hi]
  unfold dif
  rw [Nat.testBit_and, Nat.testBit_xor, show (4095 : Nat) = 2 ^ 12 - 1 from rfl, Nat.testBit_two_pow_sub_one]
  by_cases h12 : i < 12
  · simp [h12]
  · rw [Nat.testBit_lt_two_pow (Nat.lt_of_lt_of_le ha (Nat.pow_le_pow_right (n := 2) (i := 12) (by decide) (Nat.le_of_not_lt h12)))]; simp
def bitsN (p : Nat → Bool) : Nat → Nat
  | 0 => 0
  | n + 1 => if p n then bitsN p n ||| 2 ^ n else bitsN p n
theorem bset_N (p : Nat → Bool) : ∀ n, n ≤ 12 → bset p n = nI (bitsN p n)
  | 0, _ => rfl
  | n + 1, h => by
    simp only [bset, bitsN, bset_N p n (by omega), sh1 (show n < 13 by omega), nI_or]
    split <;> rfl
theorem bitsN_lt (p : Nat → Bool) : ∀ n, bitsN p n < 2 ^ n
  | 0 => Nat.zero_lt_one
  | n + 1 => by
    have ih := bitsN_lt p n
    have := pow_s n
    simp only [bitsN]
    split
    · exact Nat.or_lt_two_pow (by omega) (by omega)
    · omega
def crN (v : Vg) : Nat := bitsN (fun o => decide (¬ vF v 6 o = 0)) (vN v)
theorem crs_N {v : Vg} (h : vN v ≤ 12) : crs v = nI (crN v) := bset_N _ _ h
def fct : Nat → Nat
  | 0 => 1
  | n + 1 => (n + 1) * fct n
theorem pcn_or {o s : Nat} (ho : o < 8) (hs : s < 256) (h : s.testBit o = false) : pcn (s ||| 2 ^ o) = pcn s + 1 := by
  have key : ∀ o : Fin 8, ∀ s : Fin 256, s.val.testBit o.val = false → pcn (s.val ||| 2 ^ o.val) = pcn s.val + 1 := by decide +kernel
  exact key ⟨o, ho⟩ ⟨s, hs⟩ h
theorem pcn_le {n s : Nat} (hn : n ≤ 8) (hs : s < 2 ^ n) : pcn s ≤ n := by
  have key : ∀ n : Fin 9, ∀ s : Fin 256, s.val < 2 ^ n.val → pcn s.val ≤ n.val := by decide +kernel
  have := (pow8 hn).2
  exact key ⟨n, by omega⟩ ⟨s, by omega⟩ hs
theorem pcn_lt {n o s : Nat} (hn : n ≤ 8) (ho : o < n) (hs : s < 2 ^ n) (h : s.testBit o = false) : pcn s < n := by
  have h8 := (pow8 hn).2
  have q := pcn_or (show o < 8 by omega) (by omega) h
  have := pcn_le hn (Nat.or_lt_two_pow hs (Nat.pow_lt_pow_right (by omega) ho))
  omega
/-- sets in which one turns a machine on -/
def turnP (v : Vg) (m o s : Nat) : Bool := !s.testBit o && (!wkW v (nI m) (gat v s (vN v)) && wkW v (nI m) (gat v (s ||| 2 ^ o) (vN v)))
def turnF (v : Vg) (s : Nat) : Int32 := nI (fct (pcn s) * fct (vN v - 1 - pcn s))
def turnV (v : Vg) (m o : Nat) : Int32 := sumIf (turnP v m o) (turnF v) (2 ^ vN v)
def worthT (v : Vg) (o : Nat) : Int64 := sumL (fun m => (vF v 3 m).toInt64 * (turnV v m o).toInt64) (vM v)
def minIf (p : Nat → Bool) (f : Nat → Int32) (z : Int32) : Nat → Int32
  | 0 => z
  | n + 1 => if p n then (if f n < minIf p f z n then f n else minIf p f z n) else minIf p f z n
def willN (v : Vg) : Nat := dif (2 ^ vN v - 1) (crN v)
def standP (v : Vg) (m W s : Nat) : Bool := decide (nI (dif s W) = 0) && !wkW v (nI m) (gat v (dif W s) (vN v))
def bornV (v : Vg) (m : Nat) : Int32 := minIf (standP v m (willN v)) (fun s => nI (pcn s)) (nI 9) (willN v + 1) - nI 1
set_option maxHeartbeats 4000000 in
theorem c_X4_partsOf {l : Launch} {h : Hp} {k : Nat} {a : Nat} (ha : a < 256) : Mp l yX4_partsOf cX4_partsOf 2 (some .int) 1 [vr 4 k, vi (nI a)] h (vi (xI h (k + 2) a)) := by
  refine Ms.of (by decide) (Nat.le_of_ble_eq_true rfl) (fun G C X F => ?_)
  have C : Cx G cX4_partsOf 2 RX4 := C
  show Rr G 0 [(0, vr 4 k), (1, vi (nI a))] [] h
  refine r_iload_n C (dx dX4_partsOf 0 rfl) rfl ?_
  refine r_if_lt (tgt := 20) C (dx dX4_partsOf 1 rfl) (by decide) (fun c1 => ?_) (fun c1 => ?_)
  · first
    | (exact absurd c1 (nI_pos (by omega)); done)
    | (
        have c1 : nI a < 0 := c1
        refine r_iconst (v := nI 0) C (dx dX4_partsOf 10 rfl) rfl ?_
        exact F.1 _ _ _ _ _ rfl rfl (dx dX4_partsOf 11 rfl) rfl ⟨congrArg (fun x => some (vi x)) (show nI 0 = xI h (k + 2) a by simp), rfl⟩)
  · first
    | (exact absurd c1 (nI_pos (by omega)); done)
    | (
        have c1 : ¬ nI a < 0 := c1
        refine r_iload_n C (dx dX4_partsOf 2 rfl) rfl ?_
        refine r_sipush (v := nI 256) C (dx dX4_partsOf 3 rfl) rfl ?_
        refine rn_ge (a := a) (b := 256) (tgt := 20) C (by omega) (by omega) (dx dX4_partsOf 4 rfl) (by decide) (fun c2 => ?_) (fun c2 => ?_)
        · first
          | (omega; done)
          | (exact absurd c2 (nI_pos (by omega)); done)
          | (
              have c2 : 256 ≤ a := c2
              refine r_iconst (v := nI 0) C (dx dX4_partsOf 10 rfl) rfl ?_
              exact F.1 _ _ _ _ _ rfl rfl (dx dX4_partsOf 11 rfl) rfl ⟨congrArg (fun x => some (vi x)) (show nI 0 = xI h (k + 2) a by simp), rfl⟩)
        · first
          | (omega; done)
          | (exact absurd c2 (nI_pos (by omega)); done)
          | (
              have c2 : a < 256 := c2
              refine r_aload_n C (dx dX4_partsOf 5 rfl) rfl ?_
              refine g_X4_15 C (dx dX4_partsOf 6 rfl) ?_
              refine r_iload_n C (dx dX4_partsOf 7 rfl) rfl ?_
              refine r_iald (j := a) (x := xI h (k + 2) a) C rfl rfl (by decide) rfl (by omega) (dx dX4_partsOf 8 rfl) rfl ?_
              refine r_goto (tgt := 21) C (dx dX4_partsOf 9 rfl) (by decide) ?_
              exact F.1 _ _ _ _ _ rfl rfl (dx dX4_partsOf 11 rfl) rfl ⟨congrArg (fun x => some (vi x)) rfl, rfl⟩))
set_option maxHeartbeats 4000000 in
theorem c_X4_ordersOf {l : Launch} {h : Hp} {k : Nat} (ho : ∀ i, i < 8 → xI h (k + 3) i = nI (fct i)) {a : Nat} (ha : a < 8) : Mp l yX4_ordersOf cX4_ordersOf 2 (some .int) 1 [vr 4 k, vi (nI a)] h (vi (nI (fct a))) := by
  refine Ms.of (by decide) (Nat.le_of_ble_eq_true rfl) (fun G C X F => ?_)
  have C : Cx G cX4_ordersOf 2 RX4 := C
  show Rr G 0 [(0, vr 4 k), (1, vi (nI a))] [] h
  refine r_iload_n C (dx dX4_ordersOf 0 rfl) rfl ?_
  refine r_if_lt (tgt := 22) C (dx dX4_ordersOf 1 rfl) (by decide) (fun c1 => ?_) (fun c1 => ?_)
  · first
    | (exact absurd c1 (nI_pos (by omega)); done)
    | (
        have c1 : nI a < 0 := c1
        refine r_iconst (v := nI 0) C (dx dX4_ordersOf 12 rfl) rfl ?_
        exact F.1 _ _ _ _ _ rfl rfl (dx dX4_ordersOf 13 rfl) rfl ⟨congrArg (fun x => some (vi x)) (show nI 0 = nI (fct a) by simp), rfl⟩)
  · first
    | (exact absurd c1 (nI_pos (by omega)); done)
    | (
        have c1 : ¬ nI a < 0 := c1
        refine r_iload_n C (dx dX4_ordersOf 2 rfl) rfl ?_
        refine r_aload_n C (dx dX4_ordersOf 3 rfl) rfl ?_
        refine g_X4_19 C (dx dX4_ordersOf 4 rfl) ?_
        refine r_alen0 (v := nI 8) C rfl rfl rfl (dx dX4_ordersOf 5 rfl) ?_
        refine rn_ge (a := a) (b := 8) (tgt := 22) C (by omega) (by omega) (dx dX4_ordersOf 6 rfl) (by decide) (fun c2 => ?_) (fun c2 => ?_)
        · first
          | (omega; done)
          | (exact absurd c2 (nI_pos (by omega)); done)
          | (
              have c2 : 8 ≤ a := c2
              refine r_iconst (v := nI 0) C (dx dX4_ordersOf 12 rfl) rfl ?_
              exact F.1 _ _ _ _ _ rfl rfl (dx dX4_ordersOf 13 rfl) rfl ⟨congrArg (fun x => some (vi x)) (show nI 0 = nI (fct a) by simp), rfl⟩)
        · first
          | (omega; done)
          | (exact absurd c2 (nI_pos (by omega)); done)
          | (
              have c2 : a < 8 := c2
              refine r_aload_n C (dx dX4_ordersOf 7 rfl) rfl ?_
              refine g_X4_19 C (dx dX4_ordersOf 8 rfl) ?_
              refine r_iload_n C (dx dX4_ordersOf 9 rfl) rfl ?_
              refine r_iald (j := a) (x := nI (fct a)) C rfl rfl (by decide) rfl (by omega) (dx dX4_ordersOf 10 rfl) (ho a (by omega)) ?_
              refine r_goto (tgt := 23) C (dx dX4_ordersOf 11 rfl) (by decide) ?_
              exact F.1 _ _ _ _ _ rfl rfl (dx dX4_ordersOf 13 rfl) rfl ⟨congrArg (fun x => some (vi x)) rfl, rfl⟩))
theorem c_partsG {l : Launch} {h : Hp} {k n S : Nat} {v : Vg} (hp : ∀ s, s < S → xI h (k + 2) s = gat v s n) (hS : S ≤ 256) {a : Nat} (ha : a < S) : Mp l yX4_partsOf cX4_partsOf 2 (some .int) 1 [vr 4 k, vi (nI a)] h (vi (gat v a n)) := by
  rw [← hp a ha]; exact c_X4_partsOf (by omega)
theorem c_crN {l : Launch} {h : Hp} {k : Nat} {v : Vg} (hv : VilAt h k v) : Mp l yX5_crossPeople cX5_crossPeople 3 (some .int) 1 [vr 5 k] h (vi (nI (crN v))) := by
  rw [← crs_N (by have := hv.bN; omega)]; exact c_X5_crossPeople hv
set_option maxHeartbeats 4000000 in
theorem c_X4_worthOfDay {l : Launch} {h : Hp} {k kv : Nat} {v : Vg} (hv : VilAt h kv v) (hd : kv + 9 ≤ k ∨ k + 4 ≤ kv)  : Ms l yX4_worthOfDay cX4_worthOfDay 2 (some .long) 4 [vr 4 k, vr 5 kv] h (xK h) (fun r h' => r = some (vl (dayC v)) ∧ Fr (k + 1) (k + 3) h h') := by
  refine Ms.of (by decide) (Nat.le_of_ble_eq_true rfl) (fun G C X F => ?_)
  have C : Cx G cX4_worthOfDay 2 RX4 := C
  show Rr G 0 [(0, vr 4 k), (1, vr 5 kv)] [] h
  have bP := hv.bP
  have bM := hv.bM
  have bN := hv.bN
  have p8 := pow8 bN
  obtain ⟨S, hS⟩ : ∃ S, S = 2 ^ vN v := ⟨_, rfl⟩
  rw [← hS] at p8
  refine r_aload_n C (dx dX4_worthOfDay 0 rfl) rfl ?_
  refine r_aload_n C (dx dX4_worthOfDay 1 rfl) rfl ?_
  refine r_cv (as := [vr 5 kv]) (st := []) C X I_X4_weigh l_X4_39 (c_X4_weigh hv hd) (by decide) (Nat.le_of_ble_eq_true rfl) List.prefix_rfl List.prefix_rfl rfl rfl (Nat.le_of_ble_eq_true rfl) rfl (dx dX4_worthOfDay 2 rfl) ?_
  intro rh1 h1 hph1 kkh1
  obtain ⟨rfl, qh1, gh1⟩ := hph1
  rw [← hS] at qh1
  have fh1 : Fr (k + 1) (k + 3) h h1 := (gh1.mono (by omega) (by omega))
  have kh1 : xK h1 = xK h := kkh1
  have uh1 : VilAt h1 kv v := hv.fr fh1 (by omega)
  refine r_aload_n C (dx dX4_worthOfDay 3 rfl) rfl ?_
  refine r_aload_n C (dx dX4_worthOfDay 4 rfl) rfl ?_
  refine r_cv (as := [vr 5 kv]) (st := []) C X I_X4_worthAsWeighed l_X4_58 (c_X4_worthAsWeighed uh1 hd (by rw [← hS]; exact qh1)) (by decide) (Nat.le_of_ble_eq_true rfl) List.prefix_rfl (pfx_eq kh1) rfl rfl (Nat.le_of_ble_eq_true rfl) rfl (dx dX4_worthOfDay 5 rfl) ?_
  intro rh2 h2 hph2 kkh2
  obtain ⟨rfl, gh2⟩ := hph2
  have fh2 : Fr (k + 1) (k + 3) h h2 := fh1.tr (gh2.mono (by omega) (by omega))
  have kh2 : xK h2 = xK h := kkh2.trans kh1
  exact F.2.1 _ _ _ _ rfl (dx dX4_worthOfDay 6 rfl) kh2 ⟨congrArg (fun x => some (vl x)) rfl, fh2⟩
set_option maxHeartbeats 4000000 in
theorem c_X4_turnsOn {l : Launch} {h : Hp} {k kv : Nat} {v : Vg} (hv : VilAt h kv v) (hd : kv + 9 ≤ k ∨ k + 4 ≤ kv) (m o : Nat) (hm : m < vM v) (ho : o < vN v) (hgp : ∀ s, s < 2 ^ vN v → xI h (k + 2) s = gat v s (vN v)) (hf : ∀ i, i < 8 → xI h (k + 3) i = nI (fct i)) : Mp l yX4_turnsOn cX4_turnsOn 9 (some .int) 3 [vr 4 k, vr 5 kv, vi (nI m), vi (nI o)] h (vi (turnV v m o)) := by
  refine Ms.of (by decide) (Nat.le_of_ble_eq_true rfl) (fun G C X F => ?_)
  have C : Cx G cX4_turnsOn 9 RX4 := C
  show Rr G 0 [(0, vr 4 k), (1, vr 5 kv), (2, vi (nI m)), (3, vi (nI o))] [] h
  have bP := hv.bP
  have bM := hv.bM
  have bN := hv.bN
  have p8 := pow8 bN
  obtain ⟨S, hS⟩ : ∃ S, S = 2 ^ vN v := ⟨_, rfl⟩
  rw [← hS] at p8
  rw [← hS] at hgp
  refine r_iconst (v := nI 1) C (dx dX4_turnsOn 0 rfl) rfl ?_
  refine r_iload_n C (dx dX4_turnsOn 1 rfl) rfl ?_
  refine rn_sh1 (o := o) C (by omega) (dx dX4_turnsOn 2 rfl) ?_
  refine r_istore (ls' := [(0, vr 4 k), (1, vr 5 kv), (2, vi (nI m)), (3, vi (nI o)), (4, vi (nI (2 ^ o)))]) C (dx dX4_turnsOn 3 rfl) (by decide) [1, 2, 3, 4, 0] rfl ?_
  refine r_iconst (v := nI 0) C (dx dX4_turnsOn 4 rfl) rfl ?_
  refine r_istore (ls' := [(0, vr 4 k), (1, vr 5 kv), (2, vi (nI m)), (3, vi (nI o)), (4, vi (nI (2 ^ o))), (5, vi (nI 0))]) C (dx dX4_turnsOn 5 rfl) (by decide) [1, 2, 3, 4, 5, 0] rfl ?_
  refine r_iconst (v := nI 0) C (dx dX4_turnsOn 6 rfl) rfl ?_
  refine r_istore (ls' := [(0, vr 4 k), (1, vr 5 kv), (2, vi (nI m)), (3, vi (nI o)), (4, vi (nI (2 ^ o))), (5, vi (nI 0)), (6, vi (nI 0))]) C (dx dX4_turnsOn 7 rfl) (by decide) [1, 2, 3, 4, 5, 6, 0] rfl ?_
  refine loopU (Φ := fun p => Rr G 11 [(0, vr 4 k), (1, vr 5 kv), (2, vi (nI m)), (3, vi (nI o)), (4, vi (nI (2 ^ o))), (5, vi (sumIf (turnP v m o) (turnF v) p)), (6, vi (nI p))] [] h) (N := S) ?_ ?_ 0 (Nat.zero_le _)
  ·
    refine r_iload C (dx dX4_turnsOn 8 rfl) rfl ?_
    refine r_aload_n C (dx dX4_turnsOn 9 rfl) rfl ?_
    refine r_cvP (as := []) (st := [vi (nI S)]) (v := vi (nI (S - 1))) C X I_X5_allPeople l_X4_46 (c_allS hv hS) (by decide) (Nat.le_of_ble_eq_true rfl) List.prefix_rfl rfl rfl (Nat.le_of_ble_eq_true rfl) rfl (dx dX4_turnsOn 10 rfl) ?_
    refine rn_gt (a := S) (b := S - 1) (tgt := 110) C (by omega) (by omega) (dx dX4_turnsOn 11 rfl) (by decide) (fun c1 => ?_) (fun c1 => ?_)
    · first
      | (omega; done)
      | (
          have c1 : S - 1 < S := c1
          refine r_iload C (dx dX4_turnsOn 59 rfl) rfl ?_
          exact F.1 _ _ _ _ _ rfl rfl (dx dX4_turnsOn 60 rfl) rfl ⟨congrArg (fun x => some (vi x)) (show sumIf (turnP v m o) (turnF v) S = turnV v m o by rw [hS]; rfl), rfl⟩)
    · first
      | (omega; done)
  ·
    intro p hp ih
    refine r_iload C (dx dX4_turnsOn 8 rfl) rfl ?_
    refine r_aload_n C (dx dX4_turnsOn 9 rfl) rfl ?_
    refine r_cvP (as := []) (st := [vi (nI p)]) (v := vi (nI (S - 1))) C X I_X5_allPeople l_X4_46 (c_allS hv hS) (by decide) (Nat.le_of_ble_eq_true rfl) List.prefix_rfl rfl rfl (Nat.le_of_ble_eq_true rfl) rfl (dx dX4_turnsOn 10 rfl) ?_
    refine rn_gt (a := p) (b := S - 1) (tgt := 110) C (by omega) (by omega) (dx dX4_turnsOn 11 rfl) (by decide) (fun c4 => ?_) (fun c4 => ?_)
    · first
      | (omega; done)
      | (
          have c4 : S - 1 < p := c4
          refine r_iload C (dx dX4_turnsOn 59 rfl) rfl ?_
          exact F.1 _ _ _ _ _ rfl rfl (dx dX4_turnsOn 60 rfl) rfl ⟨congrArg (fun x => some (vi x)) (show sumIf (turnP v m o) (turnF v) p = turnV v m o by rw [hS]; rfl), rfl⟩)
    · first
      | (omega; done)
      | (
          have c4 : p ≤ S - 1 := c4
          refine r_iload C (dx dX4_turnsOn 12 rfl) rfl ?_
          refine r_iload C (dx dX4_turnsOn 13 rfl) rfl ?_
          refine r_iand C (dx dX4_turnsOn 14 rfl) ?_
          refine r_if_ne (tgt := 32) C (dx dX4_turnsOn 15 rfl) (by decide) (fun c5 => ?_) (fun c5 => ?_)
          ·
            have c5 : ¬ (nI p) &&& (nI (2 ^ o)) = 0 := c5
            refine r_iconst (v := nI 0) C (dx dX4_turnsOn 18 rfl) rfl ?_
            refine r_istore (ls' := [(0, vr 4 k), (1, vr 5 kv), (2, vi (nI m)), (3, vi (nI o)), (4, vi (nI (2 ^ o))), (5, vi (sumIf (turnP v m o) (turnF v) p)), (6, vi (nI p)), (7, vi (nI 0))]) C (dx dX4_turnsOn 19 rfl) (by decide) [1, 2, 3, 4, 5, 6, 7, 0] rfl ?_
            refine r_iload C (dx dX4_turnsOn 20 rfl) rfl ?_
            refine r_if_eq (tgt := 104) C (dx dX4_turnsOn 21 rfl) (by decide) (fun _ => ?_) (fun c6 => (show False from by revert c6; decide).elim)
            refine rn_iinc (a := p) (k := 1) (ls' := [(0, vr 4 k), (1, vr 5 kv), (2, vi (nI m)), (3, vi (nI o)), (4, vi (nI (2 ^ o))), (5, vi (sumIf (turnP v m o) (turnF v) p)), (6, vi (nI (p + 1))), (7, vi (nI 0))]) C (dx dX4_turnsOn 57 rfl) rfl rfl (by decide) [1, 2, 3, 4, 5, 6, 0, 7] rfl ?_
            refine r_goto (tgt := 11) C (dx dX4_turnsOn 58 rfl) (by decide) ?_
            have e9 : (sumIf (turnP v m o) (turnF v) p) = (sumIf (turnP v m o) (turnF v) (p + 1)) := by (have q9 := and_pow (o := o) (a := p) (by omega) (by omega); simp only [sumIf, turnP, turnF]; simp_all)
            rw [e9]
            refine r_weak C [0, 1, 2, 3, 4, 5, 6] rfl ?_
            exact ih
          ·
            have c5 : (nI p) &&& (nI (2 ^ o)) = 0 := c5
            refine r_iconst (v := nI 1) C (dx dX4_turnsOn 16 rfl) rfl ?_
            refine r_goto (tgt := 33) C (dx dX4_turnsOn 17 rfl) (by decide) ?_
            refine r_istore (ls' := [(0, vr 4 k), (1, vr 5 kv), (2, vi (nI m)), (3, vi (nI o)), (4, vi (nI (2 ^ o))), (5, vi (sumIf (turnP v m o) (turnF v) p)), (6, vi (nI p)), (7, vi (nI 1))]) C (dx dX4_turnsOn 19 rfl) (by decide) [1, 2, 3, 4, 5, 6, 7, 0] rfl ?_
            refine r_iload C (dx dX4_turnsOn 20 rfl) rfl ?_
            refine r_if_eq (tgt := 104) C (dx dX4_turnsOn 21 rfl) (by decide) (fun c7 => (show False from by revert c7; decide).elim) (fun _ => ?_)
            refine r_aload_n C (dx dX4_turnsOn 22 rfl) rfl ?_
            refine r_iload_n C (dx dX4_turnsOn 23 rfl) rfl ?_
            refine r_aload_n C (dx dX4_turnsOn 24 rfl) rfl ?_
            refine g_X4_15 C (dx dX4_turnsOn 25 rfl) ?_
            refine r_iload C (dx dX4_turnsOn 26 rfl) rfl ?_
            refine r_iald (j := p) (x := gat v p (vN v)) C rfl rfl (by decide) rfl (by omega) (dx dX4_turnsOn 27 rfl) (hgp _ (by omega)) ?_
            refine r_cvP (as := [vi (nI m), vi (gat v p (vN v))]) (st := []) (v := vi (b2i (wkW v (nI m) (gat v p (vN v))))) C X I_X5_isWorkedWith l_X4_50 (c_X5_isWorkedWith hv _ _) (by decide) (Nat.le_of_ble_eq_true rfl) List.prefix_rfl rfl rfl (Nat.le_of_ble_eq_true rfl) rfl (dx dX4_turnsOn 28 rfl) ?_
            refine rb_ne (b := wkW v (nI m) (gat v p (vN v))) (tgt := 104) C (dx dX4_turnsOn 29 rfl) (by decide) (fun c8 => ?_) (fun c8 => ?_)
            ·
              have c8 : (wkW v (nI m) (gat v p (vN v))) = true := c8
              refine rn_iinc (a := p) (k := 1) (ls' := [(0, vr 4 k), (1, vr 5 kv), (2, vi (nI m)), (3, vi (nI o)), (4, vi (nI (2 ^ o))), (5, vi (sumIf (turnP v m o) (turnF v) p)), (6, vi (nI (p + 1))), (7, vi (nI 1))]) C (dx dX4_turnsOn 57 rfl) rfl rfl (by decide) [1, 2, 3, 4, 5, 6, 0, 7] rfl ?_
              refine r_goto (tgt := 11) C (dx dX4_turnsOn 58 rfl) (by decide) ?_
              have e9 : (sumIf (turnP v m o) (turnF v) p) = (sumIf (turnP v m o) (turnF v) (p + 1)) := by (have q9 := and_pow (o := o) (a := p) (by omega) (by omega); simp only [sumIf, turnP, turnF]; simp_all)
              rw [e9]
              refine r_weak C [0, 1, 2, 3, 4, 5, 6] rfl ?_
              exact ih
            ·
              have c8 : (wkW v (nI m) (gat v p (vN v))) = false := c8
              refine r_aload_n C (dx dX4_turnsOn 30 rfl) rfl ?_
              refine r_iload_n C (dx dX4_turnsOn 31 rfl) rfl ?_
              refine r_aload_n C (dx dX4_turnsOn 32 rfl) rfl ?_
              refine r_iload C (dx dX4_turnsOn 33 rfl) rfl ?_
              refine r_iload C (dx dX4_turnsOn 34 rfl) rfl ?_
              refine rn_ior (a := p) (b := 2 ^ o) C (dx dX4_turnsOn 35 rfl) ?_
              refine r_cvP (as := [vi (nI (p ||| 2 ^ o))]) (st := [vi (nI m), vr 5 kv]) (v := vi (gat v (p ||| 2 ^ o) (vN v))) C X I_X4_partsOf l_X4_65 (c_partsG hgp (by omega) (a := p ||| 2 ^ o) (Nat.lt_of_lt_of_le (Nat.or_lt_two_pow (by omega) (Nat.pow_lt_pow_right (by omega) ho)) (Nat.le_of_eq hS.symm))) (by decide) (Nat.le_of_ble_eq_true rfl) List.prefix_rfl rfl rfl (Nat.le_of_ble_eq_true rfl) rfl (dx dX4_turnsOn 36 rfl) ?_
              refine r_cvP (as := [vi (nI m), vi (gat v (p ||| 2 ^ o) (vN v))]) (st := []) (v := vi (b2i (wkW v (nI m) (gat v (p ||| 2 ^ o) (vN v))))) C X I_X5_isWorkedWith l_X4_50 (c_X5_isWorkedWith hv _ _) (by decide) (Nat.le_of_ble_eq_true rfl) List.prefix_rfl rfl rfl (Nat.le_of_ble_eq_true rfl) rfl (dx dX4_turnsOn 37 rfl) ?_
              refine rb_eq (b := wkW v (nI m) (gat v (p ||| 2 ^ o) (vN v))) (tgt := 104) C (dx dX4_turnsOn 38 rfl) (by decide) (fun c9 => ?_) (fun c9 => ?_)
              ·
                have c9 : (wkW v (nI m) (gat v (p ||| 2 ^ o) (vN v))) = false := c9
                refine rn_iinc (a := p) (k := 1) (ls' := [(0, vr 4 k), (1, vr 5 kv), (2, vi (nI m)), (3, vi (nI o)), (4, vi (nI (2 ^ o))), (5, vi (sumIf (turnP v m o) (turnF v) p)), (6, vi (nI (p + 1))), (7, vi (nI 1))]) C (dx dX4_turnsOn 57 rfl) rfl rfl (by decide) [1, 2, 3, 4, 5, 6, 0, 7] rfl ?_
                refine r_goto (tgt := 11) C (dx dX4_turnsOn 58 rfl) (by decide) ?_
                have e9 : (sumIf (turnP v m o) (turnF v) p) = (sumIf (turnP v m o) (turnF v) (p + 1)) := by (have q9 := and_pow (o := o) (a := p) (by omega) (by omega); simp only [sumIf, turnP, turnF]; simp_all)
                rw [e9]
                refine r_weak C [0, 1, 2, 3, 4, 5, 6] rfl ?_
                exact ih
              ·
                have c9 : (wkW v (nI m) (gat v (p ||| 2 ^ o) (vN v))) = true := c9
                refine r_iload C (dx dX4_turnsOn 39 rfl) rfl ?_
                refine r_csP (as := [vi (nI p)]) (st := []) (v := vi (nI (pcn p))) C X I_J6_bitCount_0f7a4 l_X4_68 (c_J6_bitCount_0f7a4 (a := p) (by omega)) (by decide) (Nat.le_of_ble_eq_true rfl) List.prefix_rfl (Nat.le_of_ble_eq_true rfl) rfl (dx dX4_turnsOn 40 rfl) ?_
                have pl : pcn p < vN v := pcn_lt bN ho (by omega) ((and_pow (by omega) (by omega)).mp c5)
                refine r_istore (ls' := [(0, vr 4 k), (1, vr 5 kv), (2, vi (nI m)), (3, vi (nI o)), (4, vi (nI (2 ^ o))), (5, vi (sumIf (turnP v m o) (turnF v) p)), (6, vi (nI p)), (7, vi (nI 1)), (8, vi (nI (pcn p)))]) C (dx dX4_turnsOn 41 rfl) (by decide) [1, 2, 3, 4, 5, 6, 7, 8, 0] rfl ?_
                refine r_iload C (dx dX4_turnsOn 42 rfl) rfl ?_
                refine r_aload_n C (dx dX4_turnsOn 43 rfl) rfl ?_
                refine r_iload C (dx dX4_turnsOn 44 rfl) rfl ?_
                refine r_cvP (as := [vi (nI (pcn p))]) (st := [vi (sumIf (turnP v m o) (turnF v) p)]) (v := vi (nI (fct (pcn p)))) C X I_X4_ordersOf l_X4_73 (c_X4_ordersOf hf (a := pcn p) (by omega)) (by decide) (Nat.le_of_ble_eq_true rfl) List.prefix_rfl rfl rfl (Nat.le_of_ble_eq_true rfl) rfl (dx dX4_turnsOn 45 rfl) ?_
                refine r_aload_n C (dx dX4_turnsOn 46 rfl) rfl ?_
                refine r_aload_n C (dx dX4_turnsOn 47 rfl) rfl ?_
                refine g_X4_22 (x := nI (vN v)) C (dx dX4_turnsOn 48 rfl) hv.eN ?_
                refine r_iconst (v := nI 1) C (dx dX4_turnsOn 49 rfl) rfl ?_
                refine rn_isub (a := vN v) (b := 1) C (by omega) (dx dX4_turnsOn 50 rfl) ?_
                refine r_iload C (dx dX4_turnsOn 51 rfl) rfl ?_
                refine rn_isub (a := vN v - 1) (b := pcn p) C (by omega) (dx dX4_turnsOn 52 rfl) ?_
                refine r_cvP (as := [vi (nI (vN v - 1 - (pcn p)))]) (st := [vi (nI (fct (pcn p))), vi (sumIf (turnP v m o) (turnF v) p)]) (v := vi (nI (fct (vN v - 1 - (pcn p))))) C X I_X4_ordersOf l_X4_73 (c_X4_ordersOf hf (a := vN v - 1 - (pcn p)) (by omega)) (by decide) (Nat.le_of_ble_eq_true rfl) List.prefix_rfl rfl rfl (Nat.le_of_ble_eq_true rfl) rfl (dx dX4_turnsOn 53 rfl) ?_
                refine rn_imul (a := fct (pcn p)) (b := fct (vN v - 1 - (pcn p))) C (dx dX4_turnsOn 54 rfl) ?_
                refine r_iadd C (dx dX4_turnsOn 55 rfl) ?_
                refine r_istore (ls' := [(0, vr 4 k), (1, vr 5 kv), (2, vi (nI m)), (3, vi (nI o)), (4, vi (nI (2 ^ o))), (5, vi ((sumIf (turnP v m o) (turnF v) p) + (nI ((fct (pcn p)) * (fct (vN v - 1 - (pcn p))))))), (6, vi (nI p)), (7, vi (nI 1)), (8, vi (nI (pcn p)))]) C (dx dX4_turnsOn 56 rfl) (by decide) [1, 2, 3, 4, 5, 0, 6, 7, 8] rfl ?_
                refine rn_iinc (a := p) (k := 1) (ls' := [(0, vr 4 k), (1, vr 5 kv), (2, vi (nI m)), (3, vi (nI o)), (4, vi (nI (2 ^ o))), (5, vi ((sumIf (turnP v m o) (turnF v) p) + (nI ((fct (pcn p)) * (fct (vN v - 1 - (pcn p))))))), (6, vi (nI (p + 1))), (7, vi (nI 1)), (8, vi (nI (pcn p)))]) C (dx dX4_turnsOn 57 rfl) rfl rfl (by decide) [1, 2, 3, 4, 5, 6, 0, 7, 8] rfl ?_
                refine r_goto (tgt := 11) C (dx dX4_turnsOn 58 rfl) (by decide) ?_
                have e9 : ((sumIf (turnP v m o) (turnF v) p) + (nI ((fct (pcn p)) * (fct (vN v - 1 - (pcn p)))))) = (sumIf (turnP v m o) (turnF v) (p + 1)) := by (have q9 := and_pow (o := o) (a := p) (by omega) (by omega); simp only [sumIf, turnP, turnF]; simp_all)
                rw [e9]
                refine r_weak C [0, 1, 2, 3, 4, 5, 6] rfl ?_
                exact ih)
set_option maxHeartbeats 4000000 in
theorem c_X4_bornBy {l : Launch} {h : Hp} {k kv : Nat} {v : Vg} (hv : VilAt h kv v) (hd : kv + 9 ≤ k ∨ k + 4 ≤ kv) (m : Nat) (hgp : ∀ s, s < 2 ^ vN v → xI h (k + 2) s = gat v s (vN v)) : Mp l yX4_bornBy cX4_bornBy 6 (some .int) 3 [vr 4 k, vr 5 kv, vi (nI m)] h (vi (bornV v m)) := by
  refine Ms.of (by decide) (Nat.le_of_ble_eq_true rfl) (fun G C X F => ?_)
  have C : Cx G cX4_bornBy 6 RX4 := C
  show Rr G 0 [(0, vr 4 k), (1, vr 5 kv), (2, vi (nI m))] [] h
  have bP := hv.bP
  have bM := hv.bM
  have bN := hv.bN
  have p8 := pow8 bN
  obtain ⟨S, hS⟩ : ∃ S, S = 2 ^ vN v := ⟨_, rfl⟩
  rw [← hS] at p8
  obtain ⟨W, hW⟩ : ∃ W, W = dif (S - 1) (crN v) := ⟨_, rfl⟩
  have hWS := dif_le (S - 1) (crN v)
  rw [← hW] at hWS
  rw [← hS] at hgp
  refine r_aload_n C (dx dX4_bornBy 0 rfl) rfl ?_
  refine r_cvP (as := []) (st := []) (v := vi (nI (S - 1))) C X I_X5_allPeople l_X4_46 (c_allS hv hS) (by decide) (Nat.le_of_ble_eq_true rfl) List.prefix_rfl rfl rfl (Nat.le_of_ble_eq_true rfl) rfl (dx dX4_bornBy 1 rfl) ?_
  refine r_aload_n C (dx dX4_bornBy 2 rfl) rfl ?_
  refine r_cvP (as := []) (st := [vi (nI (S - 1))]) (v := vi (nI (crN v))) C X I_X5_crossPeople l_X4_86 (c_crN hv) (by decide) (Nat.le_of_ble_eq_true rfl) List.prefix_rfl rfl rfl (Nat.le_of_ble_eq_true rfl) rfl (dx dX4_bornBy 3 rfl) ?_
  refine r_iconst (v := -1) C (dx dX4_bornBy 4 rfl) rfl ?_
  refine r_ixor C (dx dX4_bornBy 5 rfl) ?_
  refine r_iand C (dx dX4_bornBy 6 rfl) ?_
  rw [nI_dif (by omega), ← hW]
  refine r_istore_n (ls' := [(0, vr 4 k), (1, vr 5 kv), (2, vi (nI m)), (3, vi (nI W))]) C (dx dX4_bornBy 7 rfl) (by decide) [1, 2, 3, 0] rfl ?_
  refine r_bipush (v := nI 9) C (dx dX4_bornBy 8 rfl) rfl ?_
  refine r_istore (ls' := [(0, vr 4 k), (1, vr 5 kv), (2, vi (nI m)), (3, vi (nI W)), (4, vi (nI 9))]) C (dx dX4_bornBy 9 rfl) (by decide) [1, 2, 3, 4, 0] rfl ?_
  refine r_iconst (v := nI 0) C (dx dX4_bornBy 10 rfl) rfl ?_
  refine r_istore (ls' := [(0, vr 4 k), (1, vr 5 kv), (2, vi (nI m)), (3, vi (nI W)), (4, vi (nI 9)), (5, vi (nI 0))]) C (dx dX4_bornBy 11 rfl) (by decide) [1, 2, 3, 4, 5, 0] rfl ?_
  refine loopU (Φ := fun p => Rr G 19 [(0, vr 4 k), (1, vr 5 kv), (2, vi (nI m)), (3, vi (nI W)), (4, vi (minIf (standP v m W) (fun s => nI (pcn s)) (nI 9) p)), (5, vi (nI p))] [] h) (N := W + 1) ?_ ?_ 0 (Nat.zero_le _)
  ·
    refine r_iload C (dx dX4_bornBy 12 rfl) rfl ?_
    refine r_iload_n C (dx dX4_bornBy 13 rfl) rfl ?_
    refine rn_gt (a := W + 1) (b := W) (tgt := 70) C (by omega) (by omega) (dx dX4_bornBy 14 rfl) (by decide) (fun c1 => ?_) (fun c1 => ?_)
    · first
      | (omega; done)
      | (
          have c1 : W < W + 1 := c1
          refine r_iload C (dx dX4_bornBy 39 rfl) rfl ?_
          refine r_iconst (v := nI 1) C (dx dX4_bornBy 40 rfl) rfl ?_
          refine r_isub C (dx dX4_bornBy 41 rfl) ?_
          exact F.1 _ _ _ _ _ rfl rfl (dx dX4_bornBy 42 rfl) rfl ⟨congrArg (fun x => some (vi x)) (show (minIf (standP v m W) (fun s => nI (pcn s)) (nI 9) (W + 1)) - (nI 1) = bornV v m by unfold bornV willN; rw [← hS, ← hW]), rfl⟩)
    · first
      | (omega; done)
  ·
    intro p hp ih
    refine r_iload C (dx dX4_bornBy 12 rfl) rfl ?_
    refine r_iload_n C (dx dX4_bornBy 13 rfl) rfl ?_
    refine rn_gt (a := p) (b := W) (tgt := 70) C (by omega) (by omega) (dx dX4_bornBy 14 rfl) (by decide) (fun c3 => ?_) (fun c3 => ?_)
    · first
      | (omega; done)
      | (
          have c3 : W < p := c3
          refine r_iload C (dx dX4_bornBy 39 rfl) rfl ?_
          refine r_iconst (v := nI 1) C (dx dX4_bornBy 40 rfl) rfl ?_
          refine r_isub C (dx dX4_bornBy 41 rfl) ?_
          exact F.1 _ _ _ _ _ rfl rfl (dx dX4_bornBy 42 rfl) rfl ⟨congrArg (fun x => some (vi x)) (show (minIf (standP v m W) (fun s => nI (pcn s)) (nI 9) p) - (nI 1) = bornV v m by unfold bornV willN; rw [← hS, ← hW]), rfl⟩)
    · first
      | (omega; done)
      | (
          have c3 : p ≤ W := c3
          refine r_iload C (dx dX4_bornBy 15 rfl) rfl ?_
          refine r_iload_n C (dx dX4_bornBy 16 rfl) rfl ?_
          refine r_iconst (v := -1) C (dx dX4_bornBy 17 rfl) rfl ?_
          refine r_ixor C (dx dX4_bornBy 18 rfl) ?_
          refine r_iand C (dx dX4_bornBy 19 rfl) ?_
          rw [nI_dif (by omega)]
          refine r_if_ne (tgt := 64) C (dx dX4_bornBy 20 rfl) (by decide) (fun c4 => ?_) (fun c4 => ?_)
          ·
            have c4 : ¬ nI (dif p W) = 0 := c4
            refine rn_iinc (a := p) (k := 1) (ls' := [(0, vr 4 k), (1, vr 5 kv), (2, vi (nI m)), (3, vi (nI W)), (4, vi (minIf (standP v m W) (fun s => nI (pcn s)) (nI 9) p)), (5, vi (nI (p + 1)))]) C (dx dX4_bornBy 37 rfl) rfl rfl (by decide) [1, 2, 3, 4, 5, 0] rfl ?_
            refine r_goto (tgt := 19) C (dx dX4_bornBy 38 rfl) (by decide) ?_
            have e9 : (minIf (standP v m W) (fun s => nI (pcn s)) (nI 9) p) = (minIf (standP v m W) (fun s => nI (pcn s)) (nI 9) (p + 1)) := by (simp only [minIf, standP]; simp_all)
            rw [e9]
            exact ih
          ·
            have c4 : nI (dif p W) = 0 := c4
            refine r_aload_n C (dx dX4_bornBy 21 rfl) rfl ?_
            refine r_iload_n C (dx dX4_bornBy 22 rfl) rfl ?_
            refine r_aload_n C (dx dX4_bornBy 23 rfl) rfl ?_
            refine r_iload_n C (dx dX4_bornBy 24 rfl) rfl ?_
            refine r_iload C (dx dX4_bornBy 25 rfl) rfl ?_
            refine r_iconst (v := -1) C (dx dX4_bornBy 26 rfl) rfl ?_
            refine r_ixor C (dx dX4_bornBy 27 rfl) ?_
            refine r_iand C (dx dX4_bornBy 28 rfl) ?_
            rw [nI_dif (by omega)]
            refine r_cvP (as := [vi (nI (dif W p))]) (st := [vi (nI m), vr 5 kv]) (v := vi (gat v (dif W p) (vN v))) C X I_X4_partsOf l_X4_65 (c_partsG hgp (by omega) (a := dif W p) (Nat.lt_of_le_of_lt (dif_le _ _) (by omega))) (by decide) (Nat.le_of_ble_eq_true rfl) List.prefix_rfl rfl rfl (Nat.le_of_ble_eq_true rfl) rfl (dx dX4_bornBy 29 rfl) ?_
            refine r_cvP (as := [vi (nI m), vi (gat v (dif W p) (vN v))]) (st := []) (v := vi (b2i (wkW v (nI m) (gat v (dif W p) (vN v))))) C X I_X5_isWorkedWith l_X4_50 (c_X5_isWorkedWith hv _ _) (by decide) (Nat.le_of_ble_eq_true rfl) List.prefix_rfl rfl rfl (Nat.le_of_ble_eq_true rfl) rfl (dx dX4_bornBy 30 rfl) ?_
            refine rb_ne (b := wkW v (nI m) (gat v (dif W p) (vN v))) (tgt := 64) C (dx dX4_bornBy 31 rfl) (by decide) (fun c5 => ?_) (fun c5 => ?_)
            ·
              have c5 : (wkW v (nI m) (gat v (dif W p) (vN v))) = true := c5
              refine rn_iinc (a := p) (k := 1) (ls' := [(0, vr 4 k), (1, vr 5 kv), (2, vi (nI m)), (3, vi (nI W)), (4, vi (minIf (standP v m W) (fun s => nI (pcn s)) (nI 9) p)), (5, vi (nI (p + 1)))]) C (dx dX4_bornBy 37 rfl) rfl rfl (by decide) [1, 2, 3, 4, 5, 0] rfl ?_
              refine r_goto (tgt := 19) C (dx dX4_bornBy 38 rfl) (by decide) ?_
              have e9 : (minIf (standP v m W) (fun s => nI (pcn s)) (nI 9) p) = (minIf (standP v m W) (fun s => nI (pcn s)) (nI 9) (p + 1)) := by (simp only [minIf, standP]; simp_all)
              rw [e9]
              exact ih
            ·
              have c5 : (wkW v (nI m) (gat v (dif W p) (vN v))) = false := c5
              refine r_iload C (dx dX4_bornBy 32 rfl) rfl ?_
              refine r_iload C (dx dX4_bornBy 33 rfl) rfl ?_
              refine r_csP (as := [vi (nI p)]) (st := [vi (minIf (standP v m W) (fun s => nI (pcn s)) (nI 9) p)]) (v := vi (nI (pcn p))) C X I_J6_bitCount_0f7a4 l_X4_68 (c_J6_bitCount_0f7a4 (a := p) (by omega)) (by decide) (Nat.le_of_ble_eq_true rfl) List.prefix_rfl (Nat.le_of_ble_eq_true rfl) rfl (dx dX4_bornBy 34 rfl) ?_
              refine r_min C X (by decide) List.prefix_rfl (Nat.le_of_ble_eq_true rfl) l_X4_89 q_min.1 q_min.2.1 q_min.2.2 (dx dX4_bornBy 35 rfl) ?_
              refine r_istore (ls' := [(0, vr 4 k), (1, vr 5 kv), (2, vi (nI m)), (3, vi (nI W)), (4, vi (if nI (pcn p) < minIf (standP v m W) (fun s => nI (pcn s)) (nI 9) p then nI (pcn p) else minIf (standP v m W) (fun s => nI (pcn s)) (nI 9) p)), (5, vi (nI p))]) C (dx dX4_bornBy 36 rfl) (by decide) [1, 2, 3, 4, 0, 5] rfl ?_
              refine rn_iinc (a := p) (k := 1) (ls' := [(0, vr 4 k), (1, vr 5 kv), (2, vi (nI m)), (3, vi (nI W)), (4, vi (if nI (pcn p) < minIf (standP v m W) (fun s => nI (pcn s)) (nI 9) p then nI (pcn p) else minIf (standP v m W) (fun s => nI (pcn s)) (nI 9) p)), (5, vi (nI (p + 1)))]) C (dx dX4_bornBy 37 rfl) rfl rfl (by decide) [1, 2, 3, 4, 5, 0] rfl ?_
              refine r_goto (tgt := 19) C (dx dX4_bornBy 38 rfl) (by decide) ?_
              have e9 : (if nI (pcn p) < minIf (standP v m W) (fun s => nI (pcn s)) (nI 9) p then nI (pcn p) else minIf (standP v m W) (fun s => nI (pcn s)) (nI 9) p) = (minIf (standP v m W) (fun s => nI (pcn s)) (nI 9) (p + 1)) := by (simp only [minIf, standP]; simp_all)
              rw [e9]
              exact ih)
set_option maxHeartbeats 4000000 in
theorem c_X4_worthOfTurnsOn {l : Launch} {h : Hp} {k kv : Nat} {v : Vg} (hv : VilAt h kv v) (hd : kv + 9 ≤ k ∨ k + 4 ≤ kv) (o : Nat) (ho : o < vN v) (hgp : ∀ s, s < 2 ^ vN v → xI h (k + 2) s = gat v s (vN v)) (hf : ∀ i, i < 8 → xI h (k + 3) i = nI (fct i)) : Mp l yX4_worthOfTurnsOn cX4_worthOfTurnsOn 6 (some .long) 4 [vr 4 k, vr 5 kv, vi (nI o)] h (vl (worthT v o)) := by
  refine Ms.of (by decide) (Nat.le_of_ble_eq_true rfl) (fun G C X F => ?_)
  have C : Cx G cX4_worthOfTurnsOn 6 RX4 := C
  show Rr G 0 [(0, vr 4 k), (1, vr 5 kv), (2, vi (nI o))] [] h
  have bP := hv.bP
  have bM := hv.bM
  have bN := hv.bN
  have p8 := pow8 bN
  obtain ⟨S, hS⟩ : ∃ S, S = 2 ^ vN v := ⟨_, rfl⟩
  rw [← hS] at p8
  refine r_lconst (v := 0) C (dx dX4_worthOfTurnsOn 0 rfl) rfl ?_
  refine r_lstore_n (ls' := [(0, vr 4 k), (1, vr 5 kv), (2, vi (nI o)), (3, vl 0)]) C (dx dX4_worthOfTurnsOn 1 rfl) (by decide) [1, 2, 3, 0] rfl ?_
  refine r_iconst (v := nI 0) C (dx dX4_worthOfTurnsOn 2 rfl) rfl ?_
  refine r_istore (ls' := [(0, vr 4 k), (1, vr 5 kv), (2, vi (nI o)), (3, vl 0), (5, vi (nI 0))]) C (dx dX4_worthOfTurnsOn 3 rfl) (by decide) [1, 2, 3, 4, 0] rfl ?_
  refine loopU (Φ := fun p => Rr G 5 [(0, vr 4 k), (1, vr 5 kv), (2, vi (nI o)), (3, vl (sumL (fun m => (vF v 3 m).toInt64 * (turnV v m o).toInt64) p)), (5, vi (nI p))] [] h) (N := vM v) ?_ ?_ 0 (Nat.zero_le _)
  ·
    refine r_iload C (dx dX4_worthOfTurnsOn 4 rfl) rfl ?_
    refine r_aload_n C (dx dX4_worthOfTurnsOn 5 rfl) rfl ?_
    refine g_X4_76 (x := nI (vM v)) C (dx dX4_worthOfTurnsOn 6 rfl) hv.eM ?_
    refine rn_ge (a := vM v) (b := vM v) (tgt := 41) C (by omega) (by omega) (dx dX4_worthOfTurnsOn 7 rfl) (by decide) (fun c1 => ?_) (fun c1 => ?_)
    · first
      | (omega; done)
      | (
          have c1 : vM v ≤ vM v := c1
          refine r_lload_n C (dx dX4_worthOfTurnsOn 25 rfl) rfl ?_
          exact F.2.1 _ _ _ _ rfl (dx dX4_worthOfTurnsOn 26 rfl) rfl ⟨congrArg (fun x => some (vl x)) (show sumL (fun m => (vF v 3 m).toInt64 * (turnV v m o).toInt64) (vM v) = worthT v o by rfl), rfl⟩)
    · first
      | (omega; done)
  ·
    intro p hp ih
    refine r_iload C (dx dX4_worthOfTurnsOn 4 rfl) rfl ?_
    refine r_aload_n C (dx dX4_worthOfTurnsOn 5 rfl) rfl ?_
    refine g_X4_76 (x := nI (vM v)) C (dx dX4_worthOfTurnsOn 6 rfl) hv.eM ?_
    refine rn_ge (a := p) (b := vM v) (tgt := 41) C (by omega) (by omega) (dx dX4_worthOfTurnsOn 7 rfl) (by decide) (fun c2 => ?_) (fun c2 => ?_)
    · first
      | (omega; done)
      | (
          have c2 : vM v ≤ p := c2
          refine r_lload_n C (dx dX4_worthOfTurnsOn 25 rfl) rfl ?_
          exact F.2.1 _ _ _ _ rfl (dx dX4_worthOfTurnsOn 26 rfl) rfl ⟨congrArg (fun x => some (vl x)) (show sumL (fun m => (vF v 3 m).toInt64 * (turnV v m o).toInt64) p = worthT v o by rfl), rfl⟩)
    · first
      | (omega; done)
      | (
          have c2 : p < vM v := c2
          refine r_lload_n C (dx dX4_worthOfTurnsOn 8 rfl) rfl ?_
          refine r_aload_n C (dx dX4_worthOfTurnsOn 9 rfl) rfl ?_
          refine g_X4_79 C (dx dX4_worthOfTurnsOn 10 rfl) ?_
          refine r_iload C (dx dX4_worthOfTurnsOn 11 rfl) rfl ?_
          refine r_iald (j := p) (x := vF v 3 p) C rfl rfl (by decide) rfl (by omega) (dx dX4_worthOfTurnsOn 12 rfl) (hv.e3 (by omega)) ?_
          refine r_i2l C (dx dX4_worthOfTurnsOn 13 rfl) ?_
          refine r_aload_n C (dx dX4_worthOfTurnsOn 14 rfl) rfl ?_
          refine r_aload_n C (dx dX4_worthOfTurnsOn 15 rfl) rfl ?_
          refine r_iload C (dx dX4_worthOfTurnsOn 16 rfl) rfl ?_
          refine r_iload_n C (dx dX4_worthOfTurnsOn 17 rfl) rfl ?_
          refine r_cvP (as := [vr 5 kv, vi (nI p), vi (nI o)]) (st := [vl ((vF v 3 p).toInt64), vl (sumL (fun m => (vF v 3 m).toInt64 * (turnV v m o).toInt64) p)]) (v := vi (turnV v p o)) C X I_X4_turnsOn l_X4_82 (c_X4_turnsOn hv hd p o (by omega) ho hgp hf) (by decide) (Nat.le_of_ble_eq_true rfl) List.prefix_rfl rfl rfl (Nat.le_of_ble_eq_true rfl) rfl (dx dX4_worthOfTurnsOn 18 rfl) ?_
          refine r_i2l C (dx dX4_worthOfTurnsOn 19 rfl) ?_
          refine r_lmul C (dx dX4_worthOfTurnsOn 20 rfl) ?_
          refine r_ladd C (dx dX4_worthOfTurnsOn 21 rfl) ?_
          refine r_lstore_n (ls' := [(0, vr 4 k), (1, vr 5 kv), (2, vi (nI o)), (3, vl ((sumL (fun m => (vF v 3 m).toInt64 * (turnV v m o).toInt64) p) + (((vF v 3 p).toInt64) * ((turnV v p o).toInt64)))), (5, vi (nI p))]) C (dx dX4_worthOfTurnsOn 22 rfl) (by decide) [1, 2, 3, 0, 4] rfl ?_
          refine rn_iinc (a := p) (k := 1) (ls' := [(0, vr 4 k), (1, vr 5 kv), (2, vi (nI o)), (3, vl ((sumL (fun m => (vF v 3 m).toInt64 * (turnV v m o).toInt64) p) + (((vF v 3 p).toInt64) * ((turnV v p o).toInt64)))), (5, vi (nI (p + 1)))]) C (dx dX4_worthOfTurnsOn 23 rfl) rfl rfl (by decide) [1, 2, 3, 4, 0] rfl ?_
          refine r_goto (tgt := 5) C (dx dX4_worthOfTurnsOn 24 rfl) (by decide) ?_
          have e9 : ((sumL (fun m => (vF v 3 m).toInt64 * (turnV v m o).toInt64) p) + (((vF v 3 p).toInt64) * ((turnV v p o).toInt64))) = (sumL (fun m => (vF v 3 m).toInt64 * (turnV v m o).toInt64) (p + 1)) := by rfl
          rw [e9]
          exact ih)
end
