/-! PART 09: the class of villages: what writes -/
set_option maxHeartbeats 4000000 in
theorem c_X5_addPart {l : Launch} {h : Hp} {k : Nat} {v : Vg} (hv : VilAt h k v) (hp : vP v < 12) : Mw l yX5_addPart cX5_addPart 1 (some .int) 1 [vr 5 k] h (some (vi (nI (vP v)))) k (addPartV v) := by
  refine Ms.of (by decide) (Nat.le_of_ble_eq_true rfl) (fun G C X F => ?_)
  have C : Cx G cX5_addPart 1 RX5 := C
  show Rr G 0 [(0, vr 5 k)] [] h
  have bP := hv.bP
  have bM := hv.bM
  have bN := hv.bN
  refine r_aload_n C (dx dX5_addPart 0 rfl) rfl ?_
  refine g_X5_9 (x := nI (vP v)) C (dx dX5_addPart 1 rfl) hv.eP ?_
  refine r_bipush (v := nI 12) C (dx dX5_addPart 2 rfl) rfl ?_
  refine rn_lt (a := vP v) (b := 12) (tgt := 11) C (by omega) (by omega) (dx dX5_addPart 3 rfl) (by decide) (fun c1 => ?_) (fun c1 => ?_)
  · first
    | (omega; done)
    | (
        have c1 : vP v < 12 := c1
        refine r_aload_n C (dx dX5_addPart 6 rfl) rfl ?_
        refine g_X5_15 C (dx dX5_addPart 7 rfl) ?_
        refine r_aload_n C (dx dX5_addPart 8 rfl) rfl ?_
        refine g_X5_9 (x := nI (vP v)) C (dx dX5_addPart 9 rfl) hv.eP ?_
        refine r_iconst (v := -1) C (dx dX5_addPart 10 rfl) rfl ?_
        refine r_iast (j := vP v) C rfl rfl (by decide) rfl (by omega) (dx dX5_addPart 11 rfl) ?_
        have wh2 : VilAt (sI h (k + 1) (vP v) (-1)) k (vset v 0 (vP v) (-1)) := hv.s0 (i := vP v) (x := -1)
        have fh2 : Fr k (k + 9) h (sI h (k + 1) (vP v) (-1)) := Fr.sI (by omega) (by omega)
        have kh2 : xK (sI h (k + 1) (vP v) (-1)) = xK h := rfl
        generalize sI h (k + 1) (vP v) (-1) = h2 at wh2 fh2 kh2 ⊢
        refine r_aload_n C (dx dX5_addPart 12 rfl) rfl ?_
        refine g_X5_19 C (dx dX5_addPart 13 rfl) ?_
        refine r_aload_n C (dx dX5_addPart 14 rfl) rfl ?_
        refine g_X5_9 (x := nI (vP v)) C (dx dX5_addPart 15 rfl) wh2.eP ?_
        refine r_iconst (v := -1) C (dx dX5_addPart 16 rfl) rfl ?_
        refine r_iast (j := vP v) C rfl rfl (by decide) rfl (by omega) (dx dX5_addPart 17 rfl) ?_
        have wh3 : VilAt (sI h2 (k + 2) (vP v) (-1)) k (vset (vset v 0 (vP v) (-1)) 1 (vP v) (-1)) := wh2.s1 (i := vP v) (x := -1)
        have fh3 : Fr k (k + 9) h (sI h2 (k + 2) (vP v) (-1)) := fh2.tr <| Fr.sI (by omega) (by omega)
        have kh3 : xK (sI h2 (k + 2) (vP v) (-1)) = xK h := kh2
        generalize sI h2 (k + 2) (vP v) (-1) = h3 at wh3 fh3 kh3 ⊢
        refine r_aload_n C (dx dX5_addPart 18 rfl) rfl ?_
        refine r_dupR C (dx dX5_addPart 19 rfl) ?_
        refine g_X5_9 (x := nI (vP v)) C (dx dX5_addPart 20 rfl) wh3.eP ?_
        refine r_iconst (v := nI 1) C (dx dX5_addPart 21 rfl) rfl ?_
        refine rn_iadd (a := vP v) (b := 1) C (dx dX5_addPart 22 rfl) ?_
        refine p_X5_9 C (dx dX5_addPart 23 rfl) rfl rfl ?_
        have wh4 : VilAt (sI h3 k 0 (nI (vP v + 1))) k (vsP (vset (vset v 0 (vP v) (-1)) 1 (vP v) (-1)) (vP v + 1)) := wh3.sP (n := vP v + 1) (by first | omega | (simp [vset]; omega))
        have fh4 : Fr k (k + 9) h (sI h3 k 0 (nI (vP v + 1))) := fh3.tr <| Fr.sI (by omega) (by omega)
        have kh4 : xK (sI h3 k 0 (nI (vP v + 1))) = xK h := kh3
        generalize sI h3 k 0 (nI (vP v + 1)) = h4 at wh4 fh4 kh4 ⊢
        refine r_aload_n C (dx dX5_addPart 24 rfl) rfl ?_
        refine g_X5_9 (x := nI (vP v + 1)) C (dx dX5_addPart 25 rfl) wh4.eP ?_
        refine r_iconst (v := nI 1) C (dx dX5_addPart 26 rfl) rfl ?_
        refine rn_isub (a := vP v + 1) (b := 1) C (by omega) (dx dX5_addPart 27 rfl) ?_
        exact F.1 _ _ _ _ _ rfl rfl (dx dX5_addPart 28 rfl) kh4 ⟨congrArg (fun x => some (vi x)) (show nI (vP v + 1 - 1) = nI (vP v) by simp), wh4, fh4⟩)
  · first
    | (omega; done)
    | (
        have c1 : 12 ≤ vP v := c1
        refine r_iconst (v := -1) C (dx dX5_addPart 4 rfl) rfl ?_
        exact F.1 _ _ _ _ _ rfl rfl (dx dX5_addPart 5 rfl) rfl ⟨congrArg (fun x => some (vi x)) (show -1 = nI (vP v) by simp), hv, Fr.rf⟩)
set_option maxHeartbeats 4000000 in
theorem c_X5_addPart_f {l : Launch} {h : Hp} {k : Nat} {v : Vg} (hv : VilAt h k v) (hp : ¬ vP v < 12) : Mp l yX5_addPart cX5_addPart 1 (some .int) 1 [vr 5 k] h (vi (-1)) := by
  refine Ms.of (by decide) (Nat.le_of_ble_eq_true rfl) (fun G C X F => ?_)
  have C : Cx G cX5_addPart 1 RX5 := C
  show Rr G 0 [(0, vr 5 k)] [] h
  have bP := hv.bP
  have bM := hv.bM
  have bN := hv.bN
  refine r_aload_n C (dx dX5_addPart 0 rfl) rfl ?_
  refine g_X5_9 (x := nI (vP v)) C (dx dX5_addPart 1 rfl) hv.eP ?_
  refine r_bipush (v := nI 12) C (dx dX5_addPart 2 rfl) rfl ?_
  refine rn_lt (a := vP v) (b := 12) (tgt := 11) C (by omega) (by omega) (dx dX5_addPart 3 rfl) (by decide) (fun c1 => ?_) (fun c1 => ?_)
  · first
    | (omega; done)
    | (
        have c1 : vP v < 12 := c1
        refine r_aload_n C (dx dX5_addPart 6 rfl) rfl ?_
        refine g_X5_15 C (dx dX5_addPart 7 rfl) ?_
        refine r_aload_n C (dx dX5_addPart 8 rfl) rfl ?_
        refine g_X5_9 (x := nI (vP v)) C (dx dX5_addPart 9 rfl) hv.eP ?_
        refine r_iconst (v := -1) C (dx dX5_addPart 10 rfl) rfl ?_
        refine r_iast (j := vP v) C rfl rfl (by decide) rfl (by omega) (dx dX5_addPart 11 rfl) ?_
        refine r_aload_n C (dx dX5_addPart 12 rfl) rfl ?_
        refine g_X5_19 C (dx dX5_addPart 13 rfl) ?_
        refine r_aload_n C (dx dX5_addPart 14 rfl) rfl ?_
        refine g_X5_9 (x := nI (vP v)) C (dx dX5_addPart 15 rfl) hv.eP ?_
        refine r_iconst (v := -1) C (dx dX5_addPart 16 rfl) rfl ?_
        refine r_iast (j := vP v) C rfl rfl (by decide) rfl (by omega) (dx dX5_addPart 17 rfl) ?_
        refine r_aload_n C (dx dX5_addPart 18 rfl) rfl ?_
        refine r_dupR C (dx dX5_addPart 19 rfl) ?_
        refine g_X5_9 (x := nI (vP v)) C (dx dX5_addPart 20 rfl) hv.eP ?_
        refine r_iconst (v := nI 1) C (dx dX5_addPart 21 rfl) rfl ?_
        refine rn_iadd (a := vP v) (b := 1) C (dx dX5_addPart 22 rfl) ?_
        refine p_X5_9 C (dx dX5_addPart 23 rfl) rfl rfl ?_
        refine r_aload_n C (dx dX5_addPart 24 rfl) rfl ?_
        refine g_X5_9 (x := nI (vP v)) C (dx dX5_addPart 25 rfl) hv.eP ?_
        refine r_iconst (v := nI 1) C (dx dX5_addPart 26 rfl) rfl ?_
        refine rn_isub (a := vP v) (b := 1) C (by omega) (dx dX5_addPart 27 rfl) ?_
        exact F.1 _ _ _ _ _ rfl rfl (dx dX5_addPart 28 rfl) rfl ⟨congrArg (fun x => some (vi x)) (show nI (vP v - 1) = -1 by rfl), rfl⟩)
  · first
    | (omega; done)
    | (
        have c1 : 12 ≤ vP v := c1
        refine r_iconst (v := -1) C (dx dX5_addPart 4 rfl) rfl ?_
        exact F.1 _ _ _ _ _ rfl rfl (dx dX5_addPart 5 rfl) rfl ⟨congrArg (fun x => some (vi x)) rfl, rfl⟩)
set_option maxHeartbeats 4000000 in
theorem c_X5_addMachine {l : Launch} {h : Hp} {k : Nat} {v : Vg} (hv : VilAt h k v) (x w : Int32) (hp : vM v < 6) : Mw l yX5_addMachine cX5_addMachine 3 (some .int) 1 [vr 5 k, vi x, vi w] h (some (vi (nI (vM v)))) k (addMacV v x w) := by
  refine Ms.of (by decide) (Nat.le_of_ble_eq_true rfl) (fun G C X F => ?_)
  have C : Cx G cX5_addMachine 3 RX5 := C
  show Rr G 0 [(0, vr 5 k), (1, vi x), (2, vi w)] [] h
  have bP := hv.bP
  have bM := hv.bM
  have bN := hv.bN
  refine r_aload_n C (dx dX5_addMachine 0 rfl) rfl ?_
  refine g_X5_22 (x := nI (vM v)) C (dx dX5_addMachine 1 rfl) hv.eM ?_
  refine r_bipush (v := nI 6) C (dx dX5_addMachine 2 rfl) rfl ?_
  refine rn_lt (a := vM v) (b := 6) (tgt := 11) C (by omega) (by omega) (dx dX5_addMachine 3 rfl) (by decide) (fun c1 => ?_) (fun c1 => ?_)
  · first
    | (omega; done)
    | (
        have c1 : vM v < 6 := c1
        refine r_aload_n C (dx dX5_addMachine 6 rfl) rfl ?_
        refine g_X5_25 C (dx dX5_addMachine 7 rfl) ?_
        refine r_aload_n C (dx dX5_addMachine 8 rfl) rfl ?_
        refine g_X5_22 (x := nI (vM v)) C (dx dX5_addMachine 9 rfl) hv.eM ?_
        refine r_iload_n C (dx dX5_addMachine 10 rfl) rfl ?_
        refine r_iast (j := vM v) C rfl rfl (by decide) rfl (by omega) (dx dX5_addMachine 11 rfl) ?_
        have wh2 : VilAt (sI h (k + 3) (vM v) x) k (vset v 2 (vM v) x) := hv.s2 (i := vM v) (x := x)
        have fh2 : Fr k (k + 9) h (sI h (k + 3) (vM v) x) := Fr.sI (by omega) (by omega)
        have kh2 : xK (sI h (k + 3) (vM v) x) = xK h := rfl
        generalize sI h (k + 3) (vM v) x = h2 at wh2 fh2 kh2 ⊢
        refine r_aload_n C (dx dX5_addMachine 12 rfl) rfl ?_
        refine g_X5_28 C (dx dX5_addMachine 13 rfl) ?_
        refine r_aload_n C (dx dX5_addMachine 14 rfl) rfl ?_
        refine g_X5_22 (x := nI (vM v)) C (dx dX5_addMachine 15 rfl) wh2.eM ?_
        refine r_iload_n C (dx dX5_addMachine 16 rfl) rfl ?_
        refine r_iast (j := vM v) C rfl rfl (by decide) rfl (by omega) (dx dX5_addMachine 17 rfl) ?_
        have wh3 : VilAt (sI h2 (k + 4) (vM v) w) k (vset (vset v 2 (vM v) x) 3 (vM v) w) := wh2.s3 (i := vM v) (x := w)
        have fh3 : Fr k (k + 9) h (sI h2 (k + 4) (vM v) w) := fh2.tr <| Fr.sI (by omega) (by omega)
        have kh3 : xK (sI h2 (k + 4) (vM v) w) = xK h := kh2
        generalize sI h2 (k + 4) (vM v) w = h3 at wh3 fh3 kh3 ⊢
        refine r_aload_n C (dx dX5_addMachine 18 rfl) rfl ?_
        refine r_dupR C (dx dX5_addMachine 19 rfl) ?_
        refine g_X5_22 (x := nI (vM v)) C (dx dX5_addMachine 20 rfl) wh3.eM ?_
        refine r_iconst (v := nI 1) C (dx dX5_addMachine 21 rfl) rfl ?_
        refine rn_iadd (a := vM v) (b := 1) C (dx dX5_addMachine 22 rfl) ?_
        refine p_X5_22 C (dx dX5_addMachine 23 rfl) rfl rfl ?_
        have wh4 : VilAt (sI h3 k 3 (nI (vM v + 1))) k (vsM (vset (vset v 2 (vM v) x) 3 (vM v) w) (vM v + 1)) := wh3.sM (n := vM v + 1) (by first | omega | (simp [vset]; omega))
        have fh4 : Fr k (k + 9) h (sI h3 k 3 (nI (vM v + 1))) := fh3.tr <| Fr.sI (by omega) (by omega)
        have kh4 : xK (sI h3 k 3 (nI (vM v + 1))) = xK h := kh3
        generalize sI h3 k 3 (nI (vM v + 1)) = h4 at wh4 fh4 kh4 ⊢
        refine r_aload_n C (dx dX5_addMachine 24 rfl) rfl ?_
        refine g_X5_22 (x := nI (vM v + 1)) C (dx dX5_addMachine 25 rfl) wh4.eM ?_
        refine r_iconst (v := nI 1) C (dx dX5_addMachine 26 rfl) rfl ?_
        refine rn_isub (a := vM v + 1) (b := 1) C (by omega) (dx dX5_addMachine 27 rfl) ?_
        exact F.1 _ _ _ _ _ rfl rfl (dx dX5_addMachine 28 rfl) kh4 ⟨congrArg (fun x => some (vi x)) (show nI (vM v + 1 - 1) = nI (vM v) by simp), wh4, fh4⟩)
  · first
    | (omega; done)
    | (
        have c1 : 6 ≤ vM v := c1
        refine r_iconst (v := -1) C (dx dX5_addMachine 4 rfl) rfl ?_
        exact F.1 _ _ _ _ _ rfl rfl (dx dX5_addMachine 5 rfl) rfl ⟨congrArg (fun x => some (vi x)) (show -1 = nI (vM v) by simp), hv, Fr.rf⟩)
set_option maxHeartbeats 4000000 in
theorem c_X5_addOne {l : Launch} {h : Hp} {k : Nat} {v : Vg} (hv : VilAt h k v) (x w : Int32) (hp : vN v < 8) : Mw l yX5_addOne cX5_addOne 3 (some .int) 1 [vr 5 k, vi x, vi w] h (some (vi (nI (vN v)))) k (addOneV v x w) := by
  refine Ms.of (by decide) (Nat.le_of_ble_eq_true rfl) (fun G C X F => ?_)
  have C : Cx G cX5_addOne 3 RX5 := C
  show Rr G 0 [(0, vr 5 k), (1, vi x), (2, vi w)] [] h
  have bP := hv.bP
  have bM := hv.bM
  have bN := hv.bN
  refine r_aload_n C (dx dX5_addOne 0 rfl) rfl ?_
  refine g_X5_31 (x := nI (vN v)) C (dx dX5_addOne 1 rfl) hv.eN ?_
  refine r_bipush (v := nI 8) C (dx dX5_addOne 2 rfl) rfl ?_
  refine rn_lt (a := vN v) (b := 8) (tgt := 11) C (by omega) (by omega) (dx dX5_addOne 3 rfl) (by decide) (fun c1 => ?_) (fun c1 => ?_)
  · first
    | (omega; done)
    | (
        have c1 : vN v < 8 := c1
        refine r_aload_n C (dx dX5_addOne 6 rfl) rfl ?_
        refine g_X5_34 C (dx dX5_addOne 7 rfl) ?_
        refine r_aload_n C (dx dX5_addOne 8 rfl) rfl ?_
        refine g_X5_31 (x := nI (vN v)) C (dx dX5_addOne 9 rfl) hv.eN ?_
        refine r_iload_n C (dx dX5_addOne 10 rfl) rfl ?_
        refine r_iast (j := vN v) C rfl rfl (by decide) rfl (by omega) (dx dX5_addOne 11 rfl) ?_
        have wh2 : VilAt (sI h (k + 5) (vN v) x) k (vset v 4 (vN v) x) := hv.s4 (i := vN v) (x := x)
        have fh2 : Fr k (k + 9) h (sI h (k + 5) (vN v) x) := Fr.sI (by omega) (by omega)
        have kh2 : xK (sI h (k + 5) (vN v) x) = xK h := rfl
        generalize sI h (k + 5) (vN v) x = h2 at wh2 fh2 kh2 ⊢
        refine r_aload_n C (dx dX5_addOne 12 rfl) rfl ?_
        refine g_X5_37 C (dx dX5_addOne 13 rfl) ?_
        refine r_aload_n C (dx dX5_addOne 14 rfl) rfl ?_
        refine g_X5_31 (x := nI (vN v)) C (dx dX5_addOne 15 rfl) wh2.eN ?_
        refine r_iload_n C (dx dX5_addOne 16 rfl) rfl ?_
        refine r_iast (j := vN v) C rfl rfl (by decide) rfl (by omega) (dx dX5_addOne 17 rfl) ?_
        have wh3 : VilAt (sI h2 (k + 6) (vN v) w) k (vset (vset v 4 (vN v) x) 5 (vN v) w) := wh2.s5 (i := vN v) (x := w)
        have fh3 : Fr k (k + 9) h (sI h2 (k + 6) (vN v) w) := fh2.tr <| Fr.sI (by omega) (by omega)
        have kh3 : xK (sI h2 (k + 6) (vN v) w) = xK h := kh2
        generalize sI h2 (k + 6) (vN v) w = h3 at wh3 fh3 kh3 ⊢
        refine r_aload_n C (dx dX5_addOne 18 rfl) rfl ?_
        refine g_X5_40 C (dx dX5_addOne 19 rfl) ?_
        refine r_aload_n C (dx dX5_addOne 20 rfl) rfl ?_
        refine g_X5_31 (x := nI (vN v)) C (dx dX5_addOne 21 rfl) wh3.eN ?_
        refine r_iconst (v := nI 0) C (dx dX5_addOne 22 rfl) rfl ?_
        refine r_zast (j := vN v) C rfl rfl (by decide) rfl (by omega) (dx dX5_addOne 23 rfl) ?_
        have wh4 : VilAt (sI h3 (k + 7) (vN v) (vp_nar .boolean (nI 0))) k (vset (vset (vset v 4 (vN v) x) 5 (vN v) w) 6 (vN v) (vp_nar .boolean (nI 0))) := wh3.s6 (i := vN v) (x := vp_nar .boolean (nI 0)) rfl
        have fh4 : Fr k (k + 9) h (sI h3 (k + 7) (vN v) (vp_nar .boolean (nI 0))) := fh3.tr <| Fr.sI (by omega) (by omega)
        have kh4 : xK (sI h3 (k + 7) (vN v) (vp_nar .boolean (nI 0))) = xK h := kh3
        generalize sI h3 (k + 7) (vN v) (vp_nar .boolean (nI 0)) = h4 at wh4 fh4 kh4 ⊢
        refine r_aload_n C (dx dX5_addOne 24 rfl) rfl ?_
        refine g_X5_44 C (dx dX5_addOne 25 rfl) ?_
        refine r_aload_n C (dx dX5_addOne 26 rfl) rfl ?_
        refine g_X5_31 (x := nI (vN v)) C (dx dX5_addOne 27 rfl) wh4.eN ?_
        refine r_iconst (v := nI 0) C (dx dX5_addOne 28 rfl) rfl ?_
        refine r_iast (j := vN v) C rfl rfl (by decide) rfl (by omega) (dx dX5_addOne 29 rfl) ?_
        have wh5 : VilAt (sI h4 (k + 8) (vN v) (nI 0)) k (vset (vset (vset (vset v 4 (vN v) x) 5 (vN v) w) 6 (vN v) (vp_nar .boolean (nI 0))) 7 (vN v) (nI 0)) := wh4.s7 (i := vN v) (x := nI 0)
        have fh5 : Fr k (k + 9) h (sI h4 (k + 8) (vN v) (nI 0)) := fh4.tr <| Fr.sI (by omega) (by omega)
        have kh5 : xK (sI h4 (k + 8) (vN v) (nI 0)) = xK h := kh4
        generalize sI h4 (k + 8) (vN v) (nI 0) = h5 at wh5 fh5 kh5 ⊢
        refine r_aload_n C (dx dX5_addOne 30 rfl) rfl ?_
        refine r_dupR C (dx dX5_addOne 31 rfl) ?_
        refine g_X5_31 (x := nI (vN v)) C (dx dX5_addOne 32 rfl) wh5.eN ?_
        refine r_iconst (v := nI 1) C (dx dX5_addOne 33 rfl) rfl ?_
        refine rn_iadd (a := vN v) (b := 1) C (dx dX5_addOne 34 rfl) ?_
        refine p_X5_31 C (dx dX5_addOne 35 rfl) rfl rfl ?_
        have wh6 : VilAt (sI h5 k 6 (nI (vN v + 1))) k (vsN (vset (vset (vset (vset v 4 (vN v) x) 5 (vN v) w) 6 (vN v) (vp_nar .boolean (nI 0))) 7 (vN v) (nI 0)) (vN v + 1)) := wh5.sN (n := vN v + 1) (by first | omega | (simp [vset]; omega))
        have fh6 : Fr k (k + 9) h (sI h5 k 6 (nI (vN v + 1))) := fh5.tr <| Fr.sI (by omega) (by omega)
        have kh6 : xK (sI h5 k 6 (nI (vN v + 1))) = xK h := kh5
        generalize sI h5 k 6 (nI (vN v + 1)) = h6 at wh6 fh6 kh6 ⊢
        refine r_aload_n C (dx dX5_addOne 36 rfl) rfl ?_
        refine g_X5_31 (x := nI (vN v + 1)) C (dx dX5_addOne 37 rfl) wh6.eN ?_
        refine r_iconst (v := nI 1) C (dx dX5_addOne 38 rfl) rfl ?_
        refine rn_isub (a := vN v + 1) (b := 1) C (by omega) (dx dX5_addOne 39 rfl) ?_
        exact F.1 _ _ _ _ _ rfl rfl (dx dX5_addOne 40 rfl) kh6 ⟨congrArg (fun x => some (vi x)) (show nI (vN v + 1 - 1) = nI (vN v) by simp), wh6, fh6⟩)
  · first
    | (omega; done)
    | (
        have c1 : 8 ≤ vN v := c1
        refine r_iconst (v := -1) C (dx dX5_addOne 4 rfl) rfl ?_
        exact F.1 _ _ _ _ _ rfl rfl (dx dX5_addOne 5 rfl) rfl ⟨congrArg (fun x => some (vi x)) (show -1 = nI (vN v) by simp), hv, Fr.rf⟩)
set_option maxHeartbeats 4000000 in
theorem c_X5_handOver {l : Launch} {h : Hp} {k : Nat} {v : Vg} (hv : VilAt h k v) (a b : Int32) : Mw l yX5_handOver cX5_handOver 4 none 1 [vr 5 k, vi a, vi b] h none k (handV v a b (vP v)) := by
  refine Ms.of (by decide) (Nat.le_of_ble_eq_true rfl) (fun G C X F => ?_)
  have C : Cx G cX5_handOver 4 RX5 := C
  show Rr G 0 [(0, vr 5 k), (1, vi a), (2, vi b)] [] h
  have bP := hv.bP
  have bM := hv.bM
  have bN := hv.bN
  refine r_iconst (v := nI 0) C (dx dX5_handOver 0 rfl) rfl ?_
  refine r_istore_n (ls' := [(0, vr 5 k), (1, vi a), (2, vi b), (3, vi (nI 0))]) C (dx dX5_handOver 1 rfl) (by decide) [1, 2, 3, 0] rfl ?_
  refine loopU (Φ := fun p => ∀ h9, VilAt h9 k (handV v a b p) → Fr k (k + 9) h h9 → xK h9 = xK h → Rr G 2 [(0, vr 5 k), (1, vi a), (2, vi b), (3, vi (nI p))] [] h9) (N := vP v) ?_ ?_ 0 (Nat.zero_le _) _ hv Fr.rf rfl
  ·
    intro  h2 wh2 fh2 kh2
    refine r_iload_n C (dx dX5_handOver 2 rfl) rfl ?_
    refine r_aload_n C (dx dX5_handOver 3 rfl) rfl ?_
    refine g_X5_9 (x := nI (vP v)) C (dx dX5_handOver 4 rfl) wh2.eP ?_
    refine rn_ge (a := vP v) (b := vP v) (tgt := 50) C (by omega) (by omega) (dx dX5_handOver 5 rfl) (by decide) (fun c3 => ?_) (fun c3 => ?_)
    · first
      | (omega; done)
      | (
          have c3 : vP v ≤ vP v := c3
          exact F.2.2.1 _ _ _ rfl (dx dX5_handOver 30 rfl) kh2 ⟨rfl, wh2, fh2⟩)
    · first
      | (omega; done)
      | (
          have c3 : vP v < vP v := c3
          refine r_aload_n C (dx dX5_handOver 6 rfl) rfl ?_
          refine g_X5_15 C (dx dX5_handOver 7 rfl) ?_
          refine r_iload_n C (dx dX5_handOver 8 rfl) rfl ?_
          refine r_iald (j := vP v) (x := vF (handV v a b (vP v)) 0 (vP v)) C rfl rfl (by decide) rfl (by omega) (dx dX5_handOver 9 rfl) (wh2.e0 (by omega)) ?_
          refine r_iload_n C (dx dX5_handOver 10 rfl) rfl ?_
          refine r_icmp_ne (tgt := 27) C (dx dX5_handOver 11 rfl) (by decide) (fun c4 => ?_) (fun c4 => ?_)
          ·
            have c4 : ¬ vF (handV v a b (vP v)) 0 (vP v) = a := c4
            refine r_aload_n C (dx dX5_handOver 17 rfl) rfl ?_
            refine g_X5_19 C (dx dX5_handOver 18 rfl) ?_
            refine r_iload_n C (dx dX5_handOver 19 rfl) rfl ?_
            refine r_iald (j := vP v) (x := vF (handV v a b (vP v)) 1 (vP v)) C rfl rfl (by decide) rfl (by omega) (dx dX5_handOver 20 rfl) (wh2.e1 (by omega)) ?_
            refine r_iload_n C (dx dX5_handOver 21 rfl) rfl ?_
            refine r_icmp_ne (tgt := 44) C (dx dX5_handOver 22 rfl) (by decide) (fun c5 => ?_) (fun c5 => ?_)
            ·
              have c5 : ¬ vF (handV v a b (vP v)) 1 (vP v) = a := c5
              refine rn_iinc (a := vP v) (k := 1) (ls' := [(0, vr 5 k), (1, vi a), (2, vi b), (3, vi (nI (vP v + 1)))]) C (dx dX5_handOver 28 rfl) rfl rfl (by decide) [1, 2, 3, 0] rfl ?_
              refine r_goto (tgt := 2) C (dx dX5_handOver 29 rfl) (by decide) ?_
              have e9 : handV v a b (vP v) = handV v a b (vP v + 1) := by rw [handV_s]; simp only [c4, if_true, if_false]; first | exact (if_pos c5).symm | exact (if_neg c5).symm | rfl
              rw [e9] at wh2
              exact ih _ wh2 fh2 kh2
            ·
              have c5 : vF (handV v a b (vP v)) 1 (vP v) = a := c5
              refine r_aload_n C (dx dX5_handOver 23 rfl) rfl ?_
              refine g_X5_19 C (dx dX5_handOver 24 rfl) ?_
              refine r_iload_n C (dx dX5_handOver 25 rfl) rfl ?_
              refine r_iload_n C (dx dX5_handOver 26 rfl) rfl ?_
              refine r_iast (j := vP v) C rfl rfl (by decide) rfl (by omega) (dx dX5_handOver 27 rfl) ?_
              have wh6 : VilAt (sI h2 (k + 2) (vP v) b) k (vset (handV v a b (vP v)) 1 (vP v) b) := wh2.s1 (i := vP v) (x := b)
              have fh6 : Fr k (k + 9) h (sI h2 (k + 2) (vP v) b) := fh2.tr <| Fr.sI (by omega) (by omega)
              have kh6 : xK (sI h2 (k + 2) (vP v) b) = xK h := kh2
              generalize sI h2 (k + 2) (vP v) b = h6 at wh6 fh6 kh6 ⊢
              refine rn_iinc (a := vP v) (k := 1) (ls' := [(0, vr 5 k), (1, vi a), (2, vi b), (3, vi (nI (vP v + 1)))]) C (dx dX5_handOver 28 rfl) rfl rfl (by decide) [1, 2, 3, 0] rfl ?_
              refine r_goto (tgt := 2) C (dx dX5_handOver 29 rfl) (by decide) ?_
              have e9 : vset (handV v a b (vP v)) 1 (vP v) b = handV v a b (vP v + 1) := by rw [handV_s]; simp only [c4, if_true, if_false]; first | exact (if_pos c5).symm | exact (if_neg c5).symm | rfl
              rw [e9] at wh6
              exact ih _ wh6 fh6 kh6
          ·
            have c4 : vF (handV v a b (vP v)) 0 (vP v) = a := c4
            refine r_aload_n C (dx dX5_handOver 12 rfl) rfl ?_
            refine g_X5_15 C (dx dX5_handOver 13 rfl) ?_
            refine r_iload_n C (dx dX5_handOver 14 rfl) rfl ?_
            refine r_iload_n C (dx dX5_handOver 15 rfl) rfl ?_
            refine r_iast (j := vP v) C rfl rfl (by decide) rfl (by omega) (dx dX5_handOver 16 rfl) ?_
            have wh7 : VilAt (sI h2 (k + 1) (vP v) b) k (vset (handV v a b (vP v)) 0 (vP v) b) := wh2.s0 (i := vP v) (x := b)
            have fh7 : Fr k (k + 9) h (sI h2 (k + 1) (vP v) b) := fh2.tr <| Fr.sI (by omega) (by omega)
            have kh7 : xK (sI h2 (k + 1) (vP v) b) = xK h := kh2
            generalize sI h2 (k + 1) (vP v) b = h7 at wh7 fh7 kh7 ⊢
            refine r_aload_n C (dx dX5_handOver 17 rfl) rfl ?_
            refine g_X5_19 C (dx dX5_handOver 18 rfl) ?_
            refine r_iload_n C (dx dX5_handOver 19 rfl) rfl ?_
            refine r_iald (j := vP v) (x := vF (handV v a b (vP v)) 1 (vP v)) C rfl rfl (by decide) rfl (by omega) (dx dX5_handOver 20 rfl) (wh7.e1 (by omega)) ?_
            refine r_iload_n C (dx dX5_handOver 21 rfl) rfl ?_
            refine r_icmp_ne (tgt := 44) C (dx dX5_handOver 22 rfl) (by decide) (fun c8 => ?_) (fun c8 => ?_)
            ·
              have c8 : ¬ vF (handV v a b (vP v)) 1 (vP v) = a := c8
              refine rn_iinc (a := vP v) (k := 1) (ls' := [(0, vr 5 k), (1, vi a), (2, vi b), (3, vi (nI (vP v + 1)))]) C (dx dX5_handOver 28 rfl) rfl rfl (by decide) [1, 2, 3, 0] rfl ?_
              refine r_goto (tgt := 2) C (dx dX5_handOver 29 rfl) (by decide) ?_
              have e9 : vset (handV v a b (vP v)) 0 (vP v) b = handV v a b (vP v + 1) := by rw [handV_s]; simp only [c4, if_true, if_false]; first | exact (if_pos c8).symm | exact (if_neg c8).symm | rfl
              rw [e9] at wh7
              exact ih _ wh7 fh7 kh7
            ·
              have c8 : vF (handV v a b (vP v)) 1 (vP v) = a := c8
              refine r_aload_n C (dx dX5_handOver 23 rfl) rfl ?_
              refine g_X5_19 C (dx dX5_handOver 24 rfl) ?_
              refine r_iload_n C (dx dX5_handOver 25 rfl) rfl ?_
              refine r_iload_n C (dx dX5_handOver 26 rfl) rfl ?_
              refine r_iast (j := vP v) C rfl rfl (by decide) rfl (by omega) (dx dX5_handOver 27 rfl) ?_
              have wh9 : VilAt (sI h7 (k + 2) (vP v) b) k (vset (vset (handV v a b (vP v)) 0 (vP v) b) 1 (vP v) b) := wh7.s1 (i := vP v) (x := b)
              have fh9 : Fr k (k + 9) h (sI h7 (k + 2) (vP v) b) := fh7.tr <| Fr.sI (by omega) (by omega)
              have kh9 : xK (sI h7 (k + 2) (vP v) b) = xK h := kh7
              generalize sI h7 (k + 2) (vP v) b = h9 at wh9 fh9 kh9 ⊢
              refine rn_iinc (a := vP v) (k := 1) (ls' := [(0, vr 5 k), (1, vi a), (2, vi b), (3, vi (nI (vP v + 1)))]) C (dx dX5_handOver 28 rfl) rfl rfl (by decide) [1, 2, 3, 0] rfl ?_
              refine r_goto (tgt := 2) C (dx dX5_handOver 29 rfl) (by decide) ?_
              have e9 : vset (vset (handV v a b (vP v)) 0 (vP v) b) 1 (vP v) b = handV v a b (vP v + 1) := by rw [handV_s]; simp only [c4, if_true, if_false]; first | exact (if_pos c8).symm | exact (if_neg c8).symm | rfl
              rw [e9] at wh9
              exact ih _ wh9 fh9 kh9)
  ·
    intro p hp ih h10 wh10 fh10 kh10
    refine r_iload_n C (dx dX5_handOver 2 rfl) rfl ?_
    refine r_aload_n C (dx dX5_handOver 3 rfl) rfl ?_
    refine g_X5_9 (x := nI (vP v)) C (dx dX5_handOver 4 rfl) wh10.eP ?_
    refine rn_ge (a := p) (b := vP v) (tgt := 50) C (by omega) (by omega) (dx dX5_handOver 5 rfl) (by decide) (fun c11 => ?_) (fun c11 => ?_)
    · first
      | (omega; done)
      | (
          have c11 : vP v ≤ p := c11
          exact F.2.2.1 _ _ _ rfl (dx dX5_handOver 30 rfl) kh10 ⟨rfl, wh10, fh10⟩)
    · first
      | (omega; done)
      | (
          have c11 : p < vP v := c11
          refine r_aload_n C (dx dX5_handOver 6 rfl) rfl ?_
          refine g_X5_15 C (dx dX5_handOver 7 rfl) ?_
          refine r_iload_n C (dx dX5_handOver 8 rfl) rfl ?_
          refine r_iald (j := p) (x := vF (handV v a b p) 0 p) C rfl rfl (by decide) rfl (by omega) (dx dX5_handOver 9 rfl) (wh10.e0 (by omega)) ?_
          refine r_iload_n C (dx dX5_handOver 10 rfl) rfl ?_
          refine r_icmp_ne (tgt := 27) C (dx dX5_handOver 11 rfl) (by decide) (fun c12 => ?_) (fun c12 => ?_)
          ·
            have c12 : ¬ vF (handV v a b p) 0 p = a := c12
            refine r_aload_n C (dx dX5_handOver 17 rfl) rfl ?_
            refine g_X5_19 C (dx dX5_handOver 18 rfl) ?_
            refine r_iload_n C (dx dX5_handOver 19 rfl) rfl ?_
            refine r_iald (j := p) (x := vF (handV v a b p) 1 p) C rfl rfl (by decide) rfl (by omega) (dx dX5_handOver 20 rfl) (wh10.e1 (by omega)) ?_
            refine r_iload_n C (dx dX5_handOver 21 rfl) rfl ?_
            refine r_icmp_ne (tgt := 44) C (dx dX5_handOver 22 rfl) (by decide) (fun c13 => ?_) (fun c13 => ?_)
            ·
              have c13 : ¬ vF (handV v a b p) 1 p = a := c13
              refine rn_iinc (a := p) (k := 1) (ls' := [(0, vr 5 k), (1, vi a), (2, vi b), (3, vi (nI (p + 1)))]) C (dx dX5_handOver 28 rfl) rfl rfl (by decide) [1, 2, 3, 0] rfl ?_
              refine r_goto (tgt := 2) C (dx dX5_handOver 29 rfl) (by decide) ?_
              have e9 : handV v a b p = handV v a b (p + 1) := by rw [handV_s]; simp only [c12, if_true, if_false]; first | exact (if_pos c13).symm | exact (if_neg c13).symm | rfl
              rw [e9] at wh10
              exact ih _ wh10 fh10 kh10
            ·
              have c13 : vF (handV v a b p) 1 p = a := c13
              refine r_aload_n C (dx dX5_handOver 23 rfl) rfl ?_
              refine g_X5_19 C (dx dX5_handOver 24 rfl) ?_
              refine r_iload_n C (dx dX5_handOver 25 rfl) rfl ?_
              refine r_iload_n C (dx dX5_handOver 26 rfl) rfl ?_
              refine r_iast (j := p) C rfl rfl (by decide) rfl (by omega) (dx dX5_handOver 27 rfl) ?_
              have wh14 : VilAt (sI h10 (k + 2) p b) k (vset (handV v a b p) 1 p b) := wh10.s1 (i := p) (x := b)
              have fh14 : Fr k (k + 9) h (sI h10 (k + 2) p b) := fh10.tr <| Fr.sI (by omega) (by omega)
              have kh14 : xK (sI h10 (k + 2) p b) = xK h := kh10
              generalize sI h10 (k + 2) p b = h14 at wh14 fh14 kh14 ⊢
              refine rn_iinc (a := p) (k := 1) (ls' := [(0, vr 5 k), (1, vi a), (2, vi b), (3, vi (nI (p + 1)))]) C (dx dX5_handOver 28 rfl) rfl rfl (by decide) [1, 2, 3, 0] rfl ?_
              refine r_goto (tgt := 2) C (dx dX5_handOver 29 rfl) (by decide) ?_
              have e9 : vset (handV v a b p) 1 p b = handV v a b (p + 1) := by rw [handV_s]; simp only [c12, if_true, if_false]; first | exact (if_pos c13).symm | exact (if_neg c13).symm | rfl
              rw [e9] at wh14
              exact ih _ wh14 fh14 kh14
          ·
            have c12 : vF (handV v a b p) 0 p = a := c12
            refine r_aload_n C (dx dX5_handOver 12 rfl) rfl ?_
            refine g_X5_15 C (dx dX5_handOver 13 rfl) ?_
            refine r_iload_n C (dx dX5_handOver 14 rfl) rfl ?_
            refine r_iload_n C (dx dX5_handOver 15 rfl) rfl ?_
            refine r_iast (j := p) C rfl rfl (by decide) rfl (by omega) (dx dX5_handOver 16 rfl) ?_
            have wh15 : VilAt (sI h10 (k + 1) p b) k (vset (handV v a b p) 0 p b) := wh10.s0 (i := p) (x := b)
            have fh15 : Fr k (k + 9) h (sI h10 (k + 1) p b) := fh10.tr <| Fr.sI (by omega) (by omega)
            have kh15 : xK (sI h10 (k + 1) p b) = xK h := kh10
            generalize sI h10 (k + 1) p b = h15 at wh15 fh15 kh15 ⊢
            refine r_aload_n C (dx dX5_handOver 17 rfl) rfl ?_
            refine g_X5_19 C (dx dX5_handOver 18 rfl) ?_
            refine r_iload_n C (dx dX5_handOver 19 rfl) rfl ?_
            refine r_iald (j := p) (x := vF (handV v a b p) 1 p) C rfl rfl (by decide) rfl (by omega) (dx dX5_handOver 20 rfl) (wh15.e1 (by omega)) ?_
            refine r_iload_n C (dx dX5_handOver 21 rfl) rfl ?_
            refine r_icmp_ne (tgt := 44) C (dx dX5_handOver 22 rfl) (by decide) (fun c16 => ?_) (fun c16 => ?_)
            ·
              have c16 : ¬ vF (handV v a b p) 1 p = a := c16
              refine rn_iinc (a := p) (k := 1) (ls' := [(0, vr 5 k), (1, vi a), (2, vi b), (3, vi (nI (p + 1)))]) C (dx dX5_handOver 28 rfl) rfl rfl (by decide) [1, 2, 3, 0] rfl ?_
              refine r_goto (tgt := 2) C (dx dX5_handOver 29 rfl) (by decide) ?_
              have e9 : vset (handV v a b p) 0 p b = handV v a b (p + 1) := by rw [handV_s]; simp only [c12, if_true, if_false]; first | exact (if_pos c16).symm | exact (if_neg c16).symm | rfl
              rw [e9] at wh15
              exact ih _ wh15 fh15 kh15
            ·
              have c16 : vF (handV v a b p) 1 p = a := c16
              refine r_aload_n C (dx dX5_handOver 23 rfl) rfl ?_
              refine g_X5_19 C (dx dX5_handOver 24 rfl) ?_
              refine r_iload_n C (dx dX5_handOver 25 rfl) rfl ?_
              refine r_iload_n C (dx dX5_handOver 26 rfl) rfl ?_
              refine r_iast (j := p) C rfl rfl (by decide) rfl (by omega) (dx dX5_handOver 27 rfl) ?_
              have wh17 : VilAt (sI h15 (k + 2) p b) k (vset (vset (handV v a b p) 0 p b) 1 p b) := wh15.s1 (i := p) (x := b)
              have fh17 : Fr k (k + 9) h (sI h15 (k + 2) p b) := fh15.tr <| Fr.sI (by omega) (by omega)
              have kh17 : xK (sI h15 (k + 2) p b) = xK h := kh15
              generalize sI h15 (k + 2) p b = h17 at wh17 fh17 kh17 ⊢
              refine rn_iinc (a := p) (k := 1) (ls' := [(0, vr 5 k), (1, vi a), (2, vi b), (3, vi (nI (p + 1)))]) C (dx dX5_handOver 28 rfl) rfl rfl (by decide) [1, 2, 3, 0] rfl ?_
              refine r_goto (tgt := 2) C (dx dX5_handOver 29 rfl) (by decide) ?_
              have e9 : vset (vset (handV v a b p) 0 p b) 1 p b = handV v a b (p + 1) := by rw [handV_s]; simp only [c12, if_true, if_false]; first | exact (if_pos c16).symm | exact (if_neg c16).symm | rfl
              rw [e9] at wh17
              exact ih _ wh17 fh17 kh17)
set_option maxHeartbeats 4000000 in
theorem c_X5_drawTenth {l : Launch} {h : Hp} {k : Nat} {v : Vg} (hv : VilAt h k v)  : Mw l yX5_drawTenth cX5_drawTenth 1 (some .int) 1 [vr 5 k] h (some (vi (drw (vS v)))) k (vsS v (lcg (vS v))) := by
  refine Ms.of (by decide) (Nat.le_of_ble_eq_true rfl) (fun G C X F => ?_)
  have C : Cx G cX5_drawTenth 1 RX5 := C
  show Rr G 0 [(0, vr 5 k)] [] h
  have bP := hv.bP
  have bM := hv.bM
  have bN := hv.bN
  refine r_aload_n C (dx dX5_drawTenth 0 rfl) rfl ?_
  refine r_aload_n C (dx dX5_drawTenth 1 rfl) rfl ?_
  refine g_X5_47 (x := vS v) C (dx dX5_drawTenth 2 rfl) hv.eS ?_
  refine r_ldc C n_X5_100 (dx dX5_drawTenth 3 rfl) ?_
  refine r_imul C (dx dX5_drawTenth 4 rfl) ?_
  refine r_sipush (v := nI 12345) C (dx dX5_drawTenth 5 rfl) rfl ?_
  refine r_iadd C (dx dX5_drawTenth 6 rfl) ?_
  refine p_X5_47 C (dx dX5_drawTenth 7 rfl) rfl rfl ?_
  have wh1 : VilAt (sI h k 11 (((vS v) * 1103515245) + (nI 12345))) k (vsS v (((vS v) * 1103515245) + (nI 12345))) := hv.sS (x := ((vS v) * 1103515245) + (nI 12345))
  have fh1 : Fr k (k + 9) h (sI h k 11 (((vS v) * 1103515245) + (nI 12345))) := Fr.sI (by omega) (by omega)
  have kh1 : xK (sI h k 11 (((vS v) * 1103515245) + (nI 12345))) = xK h := rfl
  generalize sI h k 11 (((vS v) * 1103515245) + (nI 12345)) = h1 at wh1 fh1 kh1 ⊢
  refine r_aload_n C (dx dX5_drawTenth 8 rfl) rfl ?_
  refine g_X5_47 (x := (((vS v) * 1103515245) + (nI 12345))) C (dx dX5_drawTenth 9 rfl) wh1.eS ?_
  refine r_bipush (v := nI 16) C (dx dX5_drawTenth 10 rfl) rfl ?_
  refine r_iushr C (dx dX5_drawTenth 11 rfl) ?_
  refine r_bipush (v := nI 10) C (dx dX5_drawTenth 12 rfl) rfl ?_
  refine r_irem C (dx dX5_drawTenth 13 rfl) (by decide) ?_
  exact F.1 _ _ _ _ _ rfl rfl (dx dX5_drawTenth 14 rfl) kh1 ⟨congrArg (fun x => some (vi x)) (show (((((vS v) * 1103515245) + (nI 12345)).toUInt32 >>> ((nI 16).toUInt32 &&& Int32.toUInt32 31)).toInt32) - (((((vS v) * 1103515245) + (nI 12345)).toUInt32 >>> ((nI 16).toUInt32 &&& Int32.toUInt32 31)).toInt32) / (nI 10) * (nI 10) = drw (vS v) by rfl), wh1, fh1⟩
set_option maxHeartbeats 4000000 in
theorem c_X5_takeOver {l : Launch} {h : Hp} {k k2 : Nat} {u v : Vg} (hu : VilAt h k u) (hv : VilAt h k2 v) (hd : k + 9 ≤ k2 ∨ k2 + 9 ≤ k) : Mw l yX5_takeOver cX5_takeOver 2 none 1 [vr 5 k, vr 5 k2] h none k v := by
  refine Ms.of (by decide) (Nat.le_of_ble_eq_true rfl) (fun G C X F => ?_)
  have C : Cx G cX5_takeOver 2 RX5 := C
  show Rr G 0 [(0, vr 5 k), (1, vr 5 k2)] [] h
  have bP := hv.bP
  have bM := hv.bM
  have bN := hv.bN
  refine r_aload_n C (dx dX5_takeOver 0 rfl) rfl ?_
  refine r_aload_n C (dx dX5_takeOver 1 rfl) rfl ?_
  refine g_X5_9 (x := nI (vP v)) C (dx dX5_takeOver 2 rfl) hv.eP ?_
  refine p_X5_9 C (dx dX5_takeOver 3 rfl) rfl rfl ?_
  have wh1 : VilAt (sI h k 0 (nI (vP v))) k (vsP u (vP v)) := hu.sP (n := vP v) (by omega)
  have fh1 : Fr k (k + 9) h (sI h k 0 (nI (vP v))) := Fr.sI (by omega) (by omega)
  have kh1 : xK (sI h k 0 (nI (vP v))) = xK h := rfl
  generalize sI h k 0 (nI (vP v)) = h1 at wh1 fh1 kh1 ⊢
  have uh1 := hv.fr fh1 (by omega)
  refine r_aload_n C (dx dX5_takeOver 4 rfl) rfl ?_
  refine g_X5_15 C (dx dX5_takeOver 5 rfl) ?_
  refine r_iconst (v := nI 0) C (dx dX5_takeOver 6 rfl) rfl ?_
  refine r_aload_n C (dx dX5_takeOver 7 rfl) rfl ?_
  refine g_X5_15 C (dx dX5_takeOver 8 rfl) ?_
  refine r_iconst (v := nI 0) C (dx dX5_takeOver 9 rfl) rfl ?_
  refine r_bipush (v := nI 12) C (dx dX5_takeOver 10 rfl) rfl ?_
  refine r_copyI (sp := 0) (dp := 0) (n := 12) C X (by decide) (Nat.le_of_ble_eq_true rfl) l_X5_50 q_cp rfl rfl rfl rfl rfl rfl rfl (by decide) (by decide) (by decide) (by decide) (by decide) (dx dX5_takeOver 11 rfl) ?_
  have wh2 : VilAt (cpI h1 (k2 + 1) (k + 1) 0 0 12) k (vcp (vsP u (vP v)) 0 v) := wh1.c0 uh1
  have fh2 : Fr k (k + 9) h (cpI h1 (k2 + 1) (k + 1) 0 0 12) := fh1.tr <| Fr.cpI (by omega) (by omega)
  have kh2 : xK (cpI h1 (k2 + 1) (k + 1) 0 0 12) = xK h := kh1
  generalize cpI h1 (k2 + 1) (k + 1) 0 0 12 = h2 at wh2 fh2 kh2 ⊢
  have uh2 := hv.fr fh2 (by omega)
  refine r_aload_n C (dx dX5_takeOver 12 rfl) rfl ?_
  refine g_X5_19 C (dx dX5_takeOver 13 rfl) ?_
  refine r_iconst (v := nI 0) C (dx dX5_takeOver 14 rfl) rfl ?_
  refine r_aload_n C (dx dX5_takeOver 15 rfl) rfl ?_
  refine g_X5_19 C (dx dX5_takeOver 16 rfl) ?_
  refine r_iconst (v := nI 0) C (dx dX5_takeOver 17 rfl) rfl ?_
  refine r_bipush (v := nI 12) C (dx dX5_takeOver 18 rfl) rfl ?_
  refine r_copyI (sp := 0) (dp := 0) (n := 12) C X (by decide) (Nat.le_of_ble_eq_true rfl) l_X5_50 q_cp rfl rfl rfl rfl rfl rfl rfl (by decide) (by decide) (by decide) (by decide) (by decide) (dx dX5_takeOver 19 rfl) ?_
  have wh3 : VilAt (cpI h2 (k2 + 2) (k + 2) 0 0 12) k (vcp (vcp (vsP u (vP v)) 0 v) 1 v) := wh2.c1 uh2
  have fh3 : Fr k (k + 9) h (cpI h2 (k2 + 2) (k + 2) 0 0 12) := fh2.tr <| Fr.cpI (by omega) (by omega)
  have kh3 : xK (cpI h2 (k2 + 2) (k + 2) 0 0 12) = xK h := kh2
  generalize cpI h2 (k2 + 2) (k + 2) 0 0 12 = h3 at wh3 fh3 kh3 ⊢
  have uh3 := hv.fr fh3 (by omega)
  refine r_aload_n C (dx dX5_takeOver 20 rfl) rfl ?_
  refine r_aload_n C (dx dX5_takeOver 21 rfl) rfl ?_
  refine g_X5_22 (x := nI (vM v)) C (dx dX5_takeOver 22 rfl) uh3.eM ?_
  refine p_X5_22 C (dx dX5_takeOver 23 rfl) rfl rfl ?_
  have wh4 : VilAt (sI h3 k 3 (nI (vM v))) k (vsM (vcp (vcp (vsP u (vP v)) 0 v) 1 v) (vM v)) := wh3.sM (n := vM v) (by omega)
  have fh4 : Fr k (k + 9) h (sI h3 k 3 (nI (vM v))) := fh3.tr <| Fr.sI (by omega) (by omega)
  have kh4 : xK (sI h3 k 3 (nI (vM v))) = xK h := kh3
  generalize sI h3 k 3 (nI (vM v)) = h4 at wh4 fh4 kh4 ⊢
  have uh4 := hv.fr fh4 (by omega)
  refine r_aload_n C (dx dX5_takeOver 24 rfl) rfl ?_
  refine g_X5_25 C (dx dX5_takeOver 25 rfl) ?_
  refine r_iconst (v := nI 0) C (dx dX5_takeOver 26 rfl) rfl ?_
  refine r_aload_n C (dx dX5_takeOver 27 rfl) rfl ?_
  refine g_X5_25 C (dx dX5_takeOver 28 rfl) ?_
  refine r_iconst (v := nI 0) C (dx dX5_takeOver 29 rfl) rfl ?_
  refine r_bipush (v := nI 6) C (dx dX5_takeOver 30 rfl) rfl ?_
  refine r_copyI (sp := 0) (dp := 0) (n := 6) C X (by decide) (Nat.le_of_ble_eq_true rfl) l_X5_50 q_cp rfl rfl rfl rfl rfl rfl rfl (by decide) (by decide) (by decide) (by decide) (by decide) (dx dX5_takeOver 31 rfl) ?_
  have wh5 : VilAt (cpI h4 (k2 + 3) (k + 3) 0 0 6) k (vcp (vsM (vcp (vcp (vsP u (vP v)) 0 v) 1 v) (vM v)) 2 v) := wh4.c2 uh4
  have fh5 : Fr k (k + 9) h (cpI h4 (k2 + 3) (k + 3) 0 0 6) := fh4.tr <| Fr.cpI (by omega) (by omega)
  have kh5 : xK (cpI h4 (k2 + 3) (k + 3) 0 0 6) = xK h := kh4
  generalize cpI h4 (k2 + 3) (k + 3) 0 0 6 = h5 at wh5 fh5 kh5 ⊢
  have uh5 := hv.fr fh5 (by omega)
  refine r_aload_n C (dx dX5_takeOver 32 rfl) rfl ?_
  refine g_X5_28 C (dx dX5_takeOver 33 rfl) ?_
  refine r_iconst (v := nI 0) C (dx dX5_takeOver 34 rfl) rfl ?_
  refine r_aload_n C (dx dX5_takeOver 35 rfl) rfl ?_
  refine g_X5_28 C (dx dX5_takeOver 36 rfl) ?_
  refine r_iconst (v := nI 0) C (dx dX5_takeOver 37 rfl) rfl ?_
  refine r_bipush (v := nI 6) C (dx dX5_takeOver 38 rfl) rfl ?_
  refine r_copyI (sp := 0) (dp := 0) (n := 6) C X (by decide) (Nat.le_of_ble_eq_true rfl) l_X5_50 q_cp rfl rfl rfl rfl rfl rfl rfl (by decide) (by decide) (by decide) (by decide) (by decide) (dx dX5_takeOver 39 rfl) ?_
  have wh6 : VilAt (cpI h5 (k2 + 4) (k + 4) 0 0 6) k (vcp (vcp (vsM (vcp (vcp (vsP u (vP v)) 0 v) 1 v) (vM v)) 2 v) 3 v) := wh5.c3 uh5
  have fh6 : Fr k (k + 9) h (cpI h5 (k2 + 4) (k + 4) 0 0 6) := fh5.tr <| Fr.cpI (by omega) (by omega)
  have kh6 : xK (cpI h5 (k2 + 4) (k + 4) 0 0 6) = xK h := kh5
  generalize cpI h5 (k2 + 4) (k + 4) 0 0 6 = h6 at wh6 fh6 kh6 ⊢
  have uh6 := hv.fr fh6 (by omega)
  refine r_aload_n C (dx dX5_takeOver 40 rfl) rfl ?_
  refine r_aload_n C (dx dX5_takeOver 41 rfl) rfl ?_
  refine g_X5_31 (x := nI (vN v)) C (dx dX5_takeOver 42 rfl) uh6.eN ?_
  refine p_X5_31 C (dx dX5_takeOver 43 rfl) rfl rfl ?_
  have wh7 : VilAt (sI h6 k 6 (nI (vN v))) k (vsN (vcp (vcp (vsM (vcp (vcp (vsP u (vP v)) 0 v) 1 v) (vM v)) 2 v) 3 v) (vN v)) := wh6.sN (n := vN v) (by omega)
  have fh7 : Fr k (k + 9) h (sI h6 k 6 (nI (vN v))) := fh6.tr <| Fr.sI (by omega) (by omega)
  have kh7 : xK (sI h6 k 6 (nI (vN v))) = xK h := kh6
  generalize sI h6 k 6 (nI (vN v)) = h7 at wh7 fh7 kh7 ⊢
  have uh7 := hv.fr fh7 (by omega)
  refine r_aload_n C (dx dX5_takeOver 44 rfl) rfl ?_
  refine g_X5_34 C (dx dX5_takeOver 45 rfl) ?_
  refine r_iconst (v := nI 0) C (dx dX5_takeOver 46 rfl) rfl ?_
  refine r_aload_n C (dx dX5_takeOver 47 rfl) rfl ?_
  refine g_X5_34 C (dx dX5_takeOver 48 rfl) ?_
  refine r_iconst (v := nI 0) C (dx dX5_takeOver 49 rfl) rfl ?_
  refine r_bipush (v := nI 8) C (dx dX5_takeOver 50 rfl) rfl ?_
  refine r_copyI (sp := 0) (dp := 0) (n := 8) C X (by decide) (Nat.le_of_ble_eq_true rfl) l_X5_50 q_cp rfl rfl rfl rfl rfl rfl rfl (by decide) (by decide) (by decide) (by decide) (by decide) (dx dX5_takeOver 51 rfl) ?_
  have wh8 : VilAt (cpI h7 (k2 + 5) (k + 5) 0 0 8) k (vcp (vsN (vcp (vcp (vsM (vcp (vcp (vsP u (vP v)) 0 v) 1 v) (vM v)) 2 v) 3 v) (vN v)) 4 v) := wh7.c4 uh7
  have fh8 : Fr k (k + 9) h (cpI h7 (k2 + 5) (k + 5) 0 0 8) := fh7.tr <| Fr.cpI (by omega) (by omega)
  have kh8 : xK (cpI h7 (k2 + 5) (k + 5) 0 0 8) = xK h := kh7
  generalize cpI h7 (k2 + 5) (k + 5) 0 0 8 = h8 at wh8 fh8 kh8 ⊢
  have uh8 := hv.fr fh8 (by omega)
  refine r_aload_n C (dx dX5_takeOver 52 rfl) rfl ?_
  refine g_X5_37 C (dx dX5_takeOver 53 rfl) ?_
  refine r_iconst (v := nI 0) C (dx dX5_takeOver 54 rfl) rfl ?_
  refine r_aload_n C (dx dX5_takeOver 55 rfl) rfl ?_
  refine g_X5_37 C (dx dX5_takeOver 56 rfl) ?_
  refine r_iconst (v := nI 0) C (dx dX5_takeOver 57 rfl) rfl ?_
  refine r_bipush (v := nI 8) C (dx dX5_takeOver 58 rfl) rfl ?_
  refine r_copyI (sp := 0) (dp := 0) (n := 8) C X (by decide) (Nat.le_of_ble_eq_true rfl) l_X5_50 q_cp rfl rfl rfl rfl rfl rfl rfl (by decide) (by decide) (by decide) (by decide) (by decide) (dx dX5_takeOver 59 rfl) ?_
  have wh9 : VilAt (cpI h8 (k2 + 6) (k + 6) 0 0 8) k (vcp (vcp (vsN (vcp (vcp (vsM (vcp (vcp (vsP u (vP v)) 0 v) 1 v) (vM v)) 2 v) 3 v) (vN v)) 4 v) 5 v) := wh8.c5 uh8
  have fh9 : Fr k (k + 9) h (cpI h8 (k2 + 6) (k + 6) 0 0 8) := fh8.tr <| Fr.cpI (by omega) (by omega)
  have kh9 : xK (cpI h8 (k2 + 6) (k + 6) 0 0 8) = xK h := kh8
  generalize cpI h8 (k2 + 6) (k + 6) 0 0 8 = h9 at wh9 fh9 kh9 ⊢
  have uh9 := hv.fr fh9 (by omega)
  refine r_aload_n C (dx dX5_takeOver 60 rfl) rfl ?_
  refine g_X5_40 C (dx dX5_takeOver 61 rfl) ?_
  refine r_iconst (v := nI 0) C (dx dX5_takeOver 62 rfl) rfl ?_
  refine r_aload_n C (dx dX5_takeOver 63 rfl) rfl ?_
  refine g_X5_40 C (dx dX5_takeOver 64 rfl) ?_
  refine r_iconst (v := nI 0) C (dx dX5_takeOver 65 rfl) rfl ?_
  refine r_bipush (v := nI 8) C (dx dX5_takeOver 66 rfl) rfl ?_
  refine r_copyZ (sp := 0) (dp := 0) (n := 8) C X (by decide) (Nat.le_of_ble_eq_true rfl) l_X5_50 q_cp rfl rfl rfl rfl rfl rfl rfl (by decide) (by decide) (by decide) (by decide) (by decide) (fun i hi => by rw [uh9.e6 (by omega)]; exact uh9.bC (by omega)) (dx dX5_takeOver 67 rfl) ?_
  have wh10 : VilAt (cpI h9 (k2 + 7) (k + 7) 0 0 8) k (vcp (vcp (vcp (vsN (vcp (vcp (vsM (vcp (vcp (vsP u (vP v)) 0 v) 1 v) (vM v)) 2 v) 3 v) (vN v)) 4 v) 5 v) 6 v) := wh9.c6 uh9
  have fh10 : Fr k (k + 9) h (cpI h9 (k2 + 7) (k + 7) 0 0 8) := fh9.tr <| Fr.cpI (by omega) (by omega)
  have kh10 : xK (cpI h9 (k2 + 7) (k + 7) 0 0 8) = xK h := kh9
  generalize cpI h9 (k2 + 7) (k + 7) 0 0 8 = h10 at wh10 fh10 kh10 ⊢
  have uh10 := hv.fr fh10 (by omega)
  refine r_aload_n C (dx dX5_takeOver 68 rfl) rfl ?_
  refine g_X5_44 C (dx dX5_takeOver 69 rfl) ?_
  refine r_iconst (v := nI 0) C (dx dX5_takeOver 70 rfl) rfl ?_
  refine r_aload_n C (dx dX5_takeOver 71 rfl) rfl ?_
  refine g_X5_44 C (dx dX5_takeOver 72 rfl) ?_
  refine r_iconst (v := nI 0) C (dx dX5_takeOver 73 rfl) rfl ?_
  refine r_bipush (v := nI 8) C (dx dX5_takeOver 74 rfl) rfl ?_
  refine r_copyI (sp := 0) (dp := 0) (n := 8) C X (by decide) (Nat.le_of_ble_eq_true rfl) l_X5_50 q_cp rfl rfl rfl rfl rfl rfl rfl (by decide) (by decide) (by decide) (by decide) (by decide) (dx dX5_takeOver 75 rfl) ?_
  have wh11 : VilAt (cpI h10 (k2 + 8) (k + 8) 0 0 8) k (vcp (vcp (vcp (vcp (vsN (vcp (vcp (vsM (vcp (vcp (vsP u (vP v)) 0 v) 1 v) (vM v)) 2 v) 3 v) (vN v)) 4 v) 5 v) 6 v) 7 v) := wh10.c7 uh10
  have fh11 : Fr k (k + 9) h (cpI h10 (k2 + 8) (k + 8) 0 0 8) := fh10.tr <| Fr.cpI (by omega) (by omega)
  have kh11 : xK (cpI h10 (k2 + 8) (k + 8) 0 0 8) = xK h := kh10
  generalize cpI h10 (k2 + 8) (k + 8) 0 0 8 = h11 at wh11 fh11 kh11 ⊢
  have uh11 := hv.fr fh11 (by omega)
  refine r_aload_n C (dx dX5_takeOver 76 rfl) rfl ?_
  refine r_aload_n C (dx dX5_takeOver 77 rfl) rfl ?_
  refine g_X5_47 (x := vS v) C (dx dX5_takeOver 78 rfl) uh11.eS ?_
  refine p_X5_47 C (dx dX5_takeOver 79 rfl) rfl rfl ?_
  have wh12 : VilAt (sI h11 k 11 (vS v)) k (vsS (vcp (vcp (vcp (vcp (vsN (vcp (vcp (vsM (vcp (vcp (vsP u (vP v)) 0 v) 1 v) (vM v)) 2 v) 3 v) (vN v)) 4 v) 5 v) 6 v) 7 v) (vS v)) := wh11.sS (x := vS v)
  have fh12 : Fr k (k + 9) h (sI h11 k 11 (vS v)) := fh11.tr <| Fr.sI (by omega) (by omega)
  have kh12 : xK (sI h11 k 11 (vS v)) = xK h := kh11
  generalize sI h11 k 11 (vS v) = h12 at wh12 fh12 kh12 ⊢
  have uh12 := hv.fr fh12 (by omega)
  exact F.2.2.1 _ _ _ rfl (dx dX5_takeOver 80 rfl) kh12 ⟨rfl, wh12.to rfl rfl rfl (fun c i hc => c8 (P := fun c => vF (vsS (vcp (vcp (vcp (vcp (vsN (vcp (vcp (vsM (vcp (vcp (vsP u (vP v)) 0 v) 1 v) (vM v)) 2 v) 3 v) (vN v)) 4 v) 5 v) 6 v) 7 v) (vS v)) c i = vF v c i) rfl rfl rfl rfl rfl rfl rfl rfl c hc) rfl, fh12⟩
set_option maxHeartbeats 4000000 in
theorem c_X5_shareOut {l : Launch} {h : Hp} {k : Nat} {v : Vg} (hv : VilAt h k v) (nd : Int32) : Mw l yX5_shareOut cX5_shareOut 4 none 1 [vr 5 k, vi nd] h none k (shrV v nd (vN v)) := by
  refine Ms.of (by decide) (Nat.le_of_ble_eq_true rfl) (fun G C X F => ?_)
  have C : Cx G cX5_shareOut 4 RX5 := C
  show Rr G 0 [(0, vr 5 k), (1, vi nd)] [] h
  have bP := hv.bP
  have bM := hv.bM
  have bN := hv.bN
  refine r_iconst (v := nI 0) C (dx dX5_shareOut 0 rfl) rfl ?_
  refine r_istore_n (ls' := [(0, vr 5 k), (1, vi nd), (2, vi (nI 0))]) C (dx dX5_shareOut 1 rfl) (by decide) [1, 2, 0] rfl ?_
  refine r_iconst (v := nI 0) C (dx dX5_shareOut 2 rfl) rfl ?_
  refine r_istore_n (ls' := [(0, vr 5 k), (1, vi nd), (2, vi (nI 0)), (3, vi (nI 0))]) C (dx dX5_shareOut 3 rfl) (by decide) [1, 2, 3, 0] rfl ?_
  refine loopU (Φ := fun p => Rr G 4 [(0, vr 5 k), (1, vi nd), (2, vi (ownS v nd p)), (3, vi (nI p))] [] h) (N := vP v) ?_ ?_ 0 (Nat.zero_le _)
  ·
    refine r_iload_n C (dx dX5_shareOut 4 rfl) rfl ?_
    refine r_aload_n C (dx dX5_shareOut 5 rfl) rfl ?_
    refine g_X5_9 (x := nI (vP v)) C (dx dX5_shareOut 6 rfl) hv.eP ?_
    refine rn_ge (a := vP v) (b := vP v) (tgt := 47) C (by omega) (by omega) (dx dX5_shareOut 7 rfl) (by decide) (fun c1 => ?_) (fun c1 => ?_)
    · first
      | (omega; done)
      | (
          have c1 : vP v ≤ vP v := c1
          refine r_iconst (v := nI 0) C (dx dX5_shareOut 31 rfl) rfl ?_
          refine r_istore_n (ls' := [(0, vr 5 k), (1, vi nd), (2, vi (ownS v nd (vP v))), (3, vi (nI 0))]) C (dx dX5_shareOut 32 rfl) (by decide) [1, 2, 3, 0] rfl ?_
          refine loopU (Φ := fun p => ∀ h9, VilAt h9 k (shrV v nd p) → Fr k (k + 9) h h9 → xK h9 = xK h → Rr G 49 [(0, vr 5 k), (1, vi nd), (2, vi (ownS v nd (vP v))), (3, vi (nI p))] [] h9) (N := vN v) ?_ ?_ 0 (Nat.zero_le _) _ hv Fr.rf rfl
          ·
            intro  h3 wh3 fh3 kh3
            refine r_iload_n C (dx dX5_shareOut 33 rfl) rfl ?_
            refine r_aload_n C (dx dX5_shareOut 34 rfl) rfl ?_
            refine g_X5_31 (x := nI (vN v)) C (dx dX5_shareOut 35 rfl) wh3.eN ?_
            refine rn_ge (a := vN v) (b := vN v) (tgt := 81) C (by omega) (by omega) (dx dX5_shareOut 36 rfl) (by decide) (fun c4 => ?_) (fun c4 => ?_)
            · first
              | (omega; done)
              | (
                  have c4 : vN v ≤ vN v := c4
                  exact F.2.2.1 _ _ _ rfl (dx dX5_shareOut 53 rfl) kh3 ⟨rfl, wh3, fh3⟩)
            · first
              | (omega; done)
              | (
                  have c4 : vN v < vN v := c4
                  refine r_iload_n C (dx dX5_shareOut 37 rfl) rfl ?_
                  refine r_iconst (v := nI 1) C (dx dX5_shareOut 38 rfl) rfl ?_
                  refine r_iload_n C (dx dX5_shareOut 39 rfl) rfl ?_
                  refine r_ishl C (dx dX5_shareOut 40 rfl) ?_
                  refine r_iand C (dx dX5_shareOut 41 rfl) ?_
                  refine r_if_eq (tgt := 75) C (dx dX5_shareOut 42 rfl) (by decide) (fun c5 => ?_) (fun c5 => ?_)
                  ·
                    have c5 : (ownS v nd (vP v)) &&& ((nI 1) <<< ((nI (vN v)) &&& 31)) = 0 := c5
                    refine rn_iinc (a := vN v) (k := 1) (ls' := [(0, vr 5 k), (1, vi nd), (2, vi (ownS v nd (vP v))), (3, vi (nI (vN v + 1)))]) C (dx dX5_shareOut 51 rfl) rfl rfl (by decide) [1, 2, 3, 0] rfl ?_
                    refine r_goto (tgt := 49) C (dx dX5_shareOut 52 rfl) (by decide) ?_
                    have e9 : shrV v nd (vN v) = shrV v nd (vN v + 1) := by rw [shrV_s]; first | exact (if_pos c5).symm | exact (if_neg (fun q => q c5)).symm
                    rw [e9] at wh3
                    exact ih _ wh3 fh3 kh3
                  ·
                    have c5 : ¬ (ownS v nd (vP v)) &&& ((nI 1) <<< ((nI (vN v)) &&& 31)) = 0 := c5
                    refine r_aload_n C (dx dX5_shareOut 43 rfl) rfl ?_
                    refine g_X5_44 C (dx dX5_shareOut 44 rfl) ?_
                    refine r_iload_n C (dx dX5_shareOut 45 rfl) rfl ?_
                    refine r_dup2 C (dx dX5_shareOut 46 rfl) ?_
                    refine r_iald (j := vN v) (x := vF (shrV v nd (vN v)) 7 (vN v)) C rfl rfl (by decide) rfl (by omega) (dx dX5_shareOut 47 rfl) (wh3.e7 (by omega)) ?_
                    refine r_iconst (v := nI 1) C (dx dX5_shareOut 48 rfl) rfl ?_
                    refine r_iadd C (dx dX5_shareOut 49 rfl) ?_
                    refine r_iast (j := vN v) C rfl rfl (by decide) rfl (by omega) (dx dX5_shareOut 50 rfl) ?_
                    have wh6 : VilAt (sI h3 (k + 8) (vN v) ((vF (shrV v nd (vN v)) 7 (vN v)) + (nI 1))) k (vset (shrV v nd (vN v)) 7 (vN v) ((vF (shrV v nd (vN v)) 7 (vN v)) + (nI 1))) := wh3.s7 (i := vN v) (x := (vF (shrV v nd (vN v)) 7 (vN v)) + (nI 1))
                    have fh6 : Fr k (k + 9) h (sI h3 (k + 8) (vN v) ((vF (shrV v nd (vN v)) 7 (vN v)) + (nI 1))) := fh3.tr <| Fr.sI (by omega) (by omega)
                    have kh6 : xK (sI h3 (k + 8) (vN v) ((vF (shrV v nd (vN v)) 7 (vN v)) + (nI 1))) = xK h := kh3
                    generalize sI h3 (k + 8) (vN v) ((vF (shrV v nd (vN v)) 7 (vN v)) + (nI 1)) = h6 at wh6 fh6 kh6 ⊢
                    refine rn_iinc (a := vN v) (k := 1) (ls' := [(0, vr 5 k), (1, vi nd), (2, vi (ownS v nd (vP v))), (3, vi (nI (vN v + 1)))]) C (dx dX5_shareOut 51 rfl) rfl rfl (by decide) [1, 2, 3, 0] rfl ?_
                    refine r_goto (tgt := 49) C (dx dX5_shareOut 52 rfl) (by decide) ?_
                    have e9 : vset (shrV v nd (vN v)) 7 (vN v) ((vF (shrV v nd (vN v)) 7 (vN v)) + (nI 1)) = shrV v nd (vN v + 1) := by rw [shrV_s]; first | exact (if_pos c5).symm | exact (if_neg (fun q => q c5)).symm
                    rw [e9] at wh6
                    exact ih _ wh6 fh6 kh6)
          ·
            intro p hp ih h7 wh7 fh7 kh7
            refine r_iload_n C (dx dX5_shareOut 33 rfl) rfl ?_
            refine r_aload_n C (dx dX5_shareOut 34 rfl) rfl ?_
            refine g_X5_31 (x := nI (vN v)) C (dx dX5_shareOut 35 rfl) wh7.eN ?_
            refine rn_ge (a := p) (b := vN v) (tgt := 81) C (by omega) (by omega) (dx dX5_shareOut 36 rfl) (by decide) (fun c8 => ?_) (fun c8 => ?_)
            · first
              | (omega; done)
              | (
                  have c8 : vN v ≤ p := c8
                  exact F.2.2.1 _ _ _ rfl (dx dX5_shareOut 53 rfl) kh7 ⟨rfl, wh7, fh7⟩)
            · first
              | (omega; done)
              | (
                  have c8 : p < vN v := c8
                  refine r_iload_n C (dx dX5_shareOut 37 rfl) rfl ?_
                  refine r_iconst (v := nI 1) C (dx dX5_shareOut 38 rfl) rfl ?_
                  refine r_iload_n C (dx dX5_shareOut 39 rfl) rfl ?_
                  refine r_ishl C (dx dX5_shareOut 40 rfl) ?_
                  refine r_iand C (dx dX5_shareOut 41 rfl) ?_
                  refine r_if_eq (tgt := 75) C (dx dX5_shareOut 42 rfl) (by decide) (fun c9 => ?_) (fun c9 => ?_)
                  ·
                    have c9 : (ownS v nd (vP v)) &&& ((nI 1) <<< ((nI p) &&& 31)) = 0 := c9
                    refine rn_iinc (a := p) (k := 1) (ls' := [(0, vr 5 k), (1, vi nd), (2, vi (ownS v nd (vP v))), (3, vi (nI (p + 1)))]) C (dx dX5_shareOut 51 rfl) rfl rfl (by decide) [1, 2, 3, 0] rfl ?_
                    refine r_goto (tgt := 49) C (dx dX5_shareOut 52 rfl) (by decide) ?_
                    have e9 : shrV v nd p = shrV v nd (p + 1) := by rw [shrV_s]; first | exact (if_pos c9).symm | exact (if_neg (fun q => q c9)).symm
                    rw [e9] at wh7
                    exact ih _ wh7 fh7 kh7
                  ·
                    have c9 : ¬ (ownS v nd (vP v)) &&& ((nI 1) <<< ((nI p) &&& 31)) = 0 := c9
                    refine r_aload_n C (dx dX5_shareOut 43 rfl) rfl ?_
                    refine g_X5_44 C (dx dX5_shareOut 44 rfl) ?_
                    refine r_iload_n C (dx dX5_shareOut 45 rfl) rfl ?_
                    refine r_dup2 C (dx dX5_shareOut 46 rfl) ?_
                    refine r_iald (j := p) (x := vF (shrV v nd p) 7 p) C rfl rfl (by decide) rfl (by omega) (dx dX5_shareOut 47 rfl) (wh7.e7 (by omega)) ?_
                    refine r_iconst (v := nI 1) C (dx dX5_shareOut 48 rfl) rfl ?_
                    refine r_iadd C (dx dX5_shareOut 49 rfl) ?_
                    refine r_iast (j := p) C rfl rfl (by decide) rfl (by omega) (dx dX5_shareOut 50 rfl) ?_
                    have wh10 : VilAt (sI h7 (k + 8) p ((vF (shrV v nd p) 7 p) + (nI 1))) k (vset (shrV v nd p) 7 p ((vF (shrV v nd p) 7 p) + (nI 1))) := wh7.s7 (i := p) (x := (vF (shrV v nd p) 7 p) + (nI 1))
                    have fh10 : Fr k (k + 9) h (sI h7 (k + 8) p ((vF (shrV v nd p) 7 p) + (nI 1))) := fh7.tr <| Fr.sI (by omega) (by omega)
                    have kh10 : xK (sI h7 (k + 8) p ((vF (shrV v nd p) 7 p) + (nI 1))) = xK h := kh7
                    generalize sI h7 (k + 8) p ((vF (shrV v nd p) 7 p) + (nI 1)) = h10 at wh10 fh10 kh10 ⊢
                    refine rn_iinc (a := p) (k := 1) (ls' := [(0, vr 5 k), (1, vi nd), (2, vi (ownS v nd (vP v))), (3, vi (nI (p + 1)))]) C (dx dX5_shareOut 51 rfl) rfl rfl (by decide) [1, 2, 3, 0] rfl ?_
                    refine r_goto (tgt := 49) C (dx dX5_shareOut 52 rfl) (by decide) ?_
                    have e9 : vset (shrV v nd p) 7 p ((vF (shrV v nd p) 7 p) + (nI 1)) = shrV v nd (p + 1) := by rw [shrV_s]; first | exact (if_pos c9).symm | exact (if_neg (fun q => q c9)).symm
                    rw [e9] at wh10
                    exact ih _ wh10 fh10 kh10))
    · first
      | (omega; done)
      | (
          have c1 : vP v < vP v := c1
          refine r_iload_n C (dx dX5_shareOut 8 rfl) rfl ?_
          refine r_iconst (v := nI 1) C (dx dX5_shareOut 9 rfl) rfl ?_
          refine r_iload_n C (dx dX5_shareOut 10 rfl) rfl ?_
          refine r_ishl C (dx dX5_shareOut 11 rfl) ?_
          refine r_iand C (dx dX5_shareOut 12 rfl) ?_
          refine r_if_eq (tgt := 41) C (dx dX5_shareOut 13 rfl) (by decide) (fun c11 => ?_) (fun c11 => ?_)
          ·
            have c11 : nd &&& ((nI 1) <<< ((nI (vP v)) &&& 31)) = 0 := c11
            refine rn_iinc (a := vP v) (k := 1) (ls' := [(0, vr 5 k), (1, vi nd), (2, vi (ownS v nd (vP v))), (3, vi (nI (vP v + 1)))]) C (dx dX5_shareOut 29 rfl) rfl rfl (by decide) [1, 2, 3, 0] rfl ?_
            refine r_goto (tgt := 4) C (dx dX5_shareOut 30 rfl) (by decide) ?_
            have e9 : ownS v nd (vP v) = ownS v nd (vP v + 1) := by simp [ownS, c11]
            rw [e9]
            exact ih
          ·
            have c11 : ¬ nd &&& ((nI 1) <<< ((nI (vP v)) &&& 31)) = 0 := c11
            refine r_aload_n C (dx dX5_shareOut 14 rfl) rfl ?_
            refine g_X5_15 C (dx dX5_shareOut 15 rfl) ?_
            refine r_iload_n C (dx dX5_shareOut 16 rfl) rfl ?_
            refine r_iald (j := vP v) (x := vF v 0 (vP v)) C rfl rfl (by decide) rfl (by omega) (dx dX5_shareOut 17 rfl) (hv.e0 (by omega)) ?_
            refine r_iconst (v := -1) C (dx dX5_shareOut 18 rfl) rfl ?_
            refine r_icmp_eq (tgt := 41) C (dx dX5_shareOut 19 rfl) (by decide) (fun c12 => ?_) (fun c12 => ?_)
            ·
              have c12 : vF v 0 (vP v) = -1 := c12
              refine rn_iinc (a := vP v) (k := 1) (ls' := [(0, vr 5 k), (1, vi nd), (2, vi (ownS v nd (vP v))), (3, vi (nI (vP v + 1)))]) C (dx dX5_shareOut 29 rfl) rfl rfl (by decide) [1, 2, 3, 0] rfl ?_
              refine r_goto (tgt := 4) C (dx dX5_shareOut 30 rfl) (by decide) ?_
              have e9 : ownS v nd (vP v) = ownS v nd (vP v + 1) := by simp [ownS, c11, c12]
              rw [e9]
              exact ih
            ·
              have c12 : ¬ vF v 0 (vP v) = -1 := c12
              refine r_iload_n C (dx dX5_shareOut 20 rfl) rfl ?_
              refine r_iconst (v := nI 1) C (dx dX5_shareOut 21 rfl) rfl ?_
              refine r_aload_n C (dx dX5_shareOut 22 rfl) rfl ?_
              refine g_X5_15 C (dx dX5_shareOut 23 rfl) ?_
              refine r_iload_n C (dx dX5_shareOut 24 rfl) rfl ?_
              refine r_iald (j := vP v) (x := vF v 0 (vP v)) C rfl rfl (by decide) rfl (by omega) (dx dX5_shareOut 25 rfl) (hv.e0 (by omega)) ?_
              refine r_ishl C (dx dX5_shareOut 26 rfl) ?_
              refine r_ior C (dx dX5_shareOut 27 rfl) ?_
              refine r_istore_n (ls' := [(0, vr 5 k), (1, vi nd), (2, vi ((ownS v nd (vP v)) ||| ((nI 1) <<< ((vF v 0 (vP v)) &&& 31)))), (3, vi (nI (vP v)))]) C (dx dX5_shareOut 28 rfl) (by decide) [1, 2, 0, 3] rfl ?_
              refine rn_iinc (a := vP v) (k := 1) (ls' := [(0, vr 5 k), (1, vi nd), (2, vi ((ownS v nd (vP v)) ||| ((nI 1) <<< ((vF v 0 (vP v)) &&& 31)))), (3, vi (nI (vP v + 1)))]) C (dx dX5_shareOut 29 rfl) rfl rfl (by decide) [1, 2, 3, 0] rfl ?_
              refine r_goto (tgt := 4) C (dx dX5_shareOut 30 rfl) (by decide) ?_
              have e9 : (ownS v nd (vP v)) ||| ((nI 1) <<< ((vF v 0 (vP v)) &&& 31)) = ownS v nd (vP v + 1) := by simp [ownS, c11, c12]
              rw [e9]
              exact ih)
  ·
    intro p hp ih
    refine r_iload_n C (dx dX5_shareOut 4 rfl) rfl ?_
    refine r_aload_n C (dx dX5_shareOut 5 rfl) rfl ?_
    refine g_X5_9 (x := nI (vP v)) C (dx dX5_shareOut 6 rfl) hv.eP ?_
    refine rn_ge (a := p) (b := vP v) (tgt := 47) C (by omega) (by omega) (dx dX5_shareOut 7 rfl) (by decide) (fun c13 => ?_) (fun c13 => ?_)
    · first
      | (omega; done)
      | (
          have c13 : vP v ≤ p := c13
          refine r_iconst (v := nI 0) C (dx dX5_shareOut 31 rfl) rfl ?_
          refine r_istore_n (ls' := [(0, vr 5 k), (1, vi nd), (2, vi (ownS v nd p)), (3, vi (nI 0))]) C (dx dX5_shareOut 32 rfl) (by decide) [1, 2, 3, 0] rfl ?_
          refine loopU (Φ := fun p => ∀ h9, VilAt h9 k (shrV v nd p) → Fr k (k + 9) h h9 → xK h9 = xK h → Rr G 49 [(0, vr 5 k), (1, vi nd), (2, vi (ownS v nd p)), (3, vi (nI p))] [] h9) (N := vN v) ?_ ?_ 0 (Nat.zero_le _) _ hv Fr.rf rfl
          ·
            intro  h15 wh15 fh15 kh15
            refine r_iload_n C (dx dX5_shareOut 33 rfl) rfl ?_
            refine r_aload_n C (dx dX5_shareOut 34 rfl) rfl ?_
            refine g_X5_31 (x := nI (vN v)) C (dx dX5_shareOut 35 rfl) wh15.eN ?_
            refine rn_ge (a := vN v) (b := vN v) (tgt := 81) C (by omega) (by omega) (dx dX5_shareOut 36 rfl) (by decide) (fun c16 => ?_) (fun c16 => ?_)
            · first
              | (omega; done)
              | (
                  have c16 : vN v ≤ vN v := c16
                  exact F.2.2.1 _ _ _ rfl (dx dX5_shareOut 53 rfl) kh15 ⟨rfl, wh15, fh15⟩)
            · first
              | (omega; done)
              | (
                  have c16 : vN v < vN v := c16
                  refine r_iload_n C (dx dX5_shareOut 37 rfl) rfl ?_
                  refine r_iconst (v := nI 1) C (dx dX5_shareOut 38 rfl) rfl ?_
                  refine r_iload_n C (dx dX5_shareOut 39 rfl) rfl ?_
                  refine r_ishl C (dx dX5_shareOut 40 rfl) ?_
                  refine r_iand C (dx dX5_shareOut 41 rfl) ?_
                  refine r_if_eq (tgt := 75) C (dx dX5_shareOut 42 rfl) (by decide) (fun c17 => ?_) (fun c17 => ?_)
                  ·
                    have c17 : (ownS v nd p) &&& ((nI 1) <<< ((nI (vN v)) &&& 31)) = 0 := c17
                    refine rn_iinc (a := vN v) (k := 1) (ls' := [(0, vr 5 k), (1, vi nd), (2, vi (ownS v nd p)), (3, vi (nI (vN v + 1)))]) C (dx dX5_shareOut 51 rfl) rfl rfl (by decide) [1, 2, 3, 0] rfl ?_
                    refine r_goto (tgt := 49) C (dx dX5_shareOut 52 rfl) (by decide) ?_
                    have e9 : shrV v nd (vN v) = shrV v nd (vN v + 1) := by rw [shrV_s]; first | exact (if_pos c17).symm | exact (if_neg (fun q => q c17)).symm
                    rw [e9] at wh15
                    exact ih _ wh15 fh15 kh15
                  ·
                    have c17 : ¬ (ownS v nd p) &&& ((nI 1) <<< ((nI (vN v)) &&& 31)) = 0 := c17
                    refine r_aload_n C (dx dX5_shareOut 43 rfl) rfl ?_
                    refine g_X5_44 C (dx dX5_shareOut 44 rfl) ?_
                    refine r_iload_n C (dx dX5_shareOut 45 rfl) rfl ?_
                    refine r_dup2 C (dx dX5_shareOut 46 rfl) ?_
                    refine r_iald (j := vN v) (x := vF (shrV v nd (vN v)) 7 (vN v)) C rfl rfl (by decide) rfl (by omega) (dx dX5_shareOut 47 rfl) (wh15.e7 (by omega)) ?_
                    refine r_iconst (v := nI 1) C (dx dX5_shareOut 48 rfl) rfl ?_
                    refine r_iadd C (dx dX5_shareOut 49 rfl) ?_
                    refine r_iast (j := vN v) C rfl rfl (by decide) rfl (by omega) (dx dX5_shareOut 50 rfl) ?_
                    have wh18 : VilAt (sI h15 (k + 8) (vN v) ((vF (shrV v nd (vN v)) 7 (vN v)) + (nI 1))) k (vset (shrV v nd (vN v)) 7 (vN v) ((vF (shrV v nd (vN v)) 7 (vN v)) + (nI 1))) := wh15.s7 (i := vN v) (x := (vF (shrV v nd (vN v)) 7 (vN v)) + (nI 1))
                    have fh18 : Fr k (k + 9) h (sI h15 (k + 8) (vN v) ((vF (shrV v nd (vN v)) 7 (vN v)) + (nI 1))) := fh15.tr <| Fr.sI (by omega) (by omega)
                    have kh18 : xK (sI h15 (k + 8) (vN v) ((vF (shrV v nd (vN v)) 7 (vN v)) + (nI 1))) = xK h := kh15
                    generalize sI h15 (k + 8) (vN v) ((vF (shrV v nd (vN v)) 7 (vN v)) + (nI 1)) = h18 at wh18 fh18 kh18 ⊢
                    refine rn_iinc (a := vN v) (k := 1) (ls' := [(0, vr 5 k), (1, vi nd), (2, vi (ownS v nd p)), (3, vi (nI (vN v + 1)))]) C (dx dX5_shareOut 51 rfl) rfl rfl (by decide) [1, 2, 3, 0] rfl ?_
                    refine r_goto (tgt := 49) C (dx dX5_shareOut 52 rfl) (by decide) ?_
                    have e9 : vset (shrV v nd (vN v)) 7 (vN v) ((vF (shrV v nd (vN v)) 7 (vN v)) + (nI 1)) = shrV v nd (vN v + 1) := by rw [shrV_s]; first | exact (if_pos c17).symm | exact (if_neg (fun q => q c17)).symm
                    rw [e9] at wh18
                    exact ih _ wh18 fh18 kh18)
          ·
            intro p hp ih h19 wh19 fh19 kh19
            refine r_iload_n C (dx dX5_shareOut 33 rfl) rfl ?_
            refine r_aload_n C (dx dX5_shareOut 34 rfl) rfl ?_
            refine g_X5_31 (x := nI (vN v)) C (dx dX5_shareOut 35 rfl) wh19.eN ?_
            refine rn_ge (a := p) (b := vN v) (tgt := 81) C (by omega) (by omega) (dx dX5_shareOut 36 rfl) (by decide) (fun c20 => ?_) (fun c20 => ?_)
            · first
              | (omega; done)
              | (
                  have c20 : vN v ≤ p := c20
                  exact F.2.2.1 _ _ _ rfl (dx dX5_shareOut 53 rfl) kh19 ⟨rfl, wh19, fh19⟩)
            · first
              | (omega; done)
              | (
                  have c20 : p < vN v := c20
                  refine r_iload_n C (dx dX5_shareOut 37 rfl) rfl ?_
                  refine r_iconst (v := nI 1) C (dx dX5_shareOut 38 rfl) rfl ?_
                  refine r_iload_n C (dx dX5_shareOut 39 rfl) rfl ?_
                  refine r_ishl C (dx dX5_shareOut 40 rfl) ?_
                  refine r_iand C (dx dX5_shareOut 41 rfl) ?_
                  refine r_if_eq (tgt := 75) C (dx dX5_shareOut 42 rfl) (by decide) (fun c21 => ?_) (fun c21 => ?_)
                  ·
                    have c21 : (ownS v nd p) &&& ((nI 1) <<< ((nI p) &&& 31)) = 0 := c21
                    refine rn_iinc (a := p) (k := 1) (ls' := [(0, vr 5 k), (1, vi nd), (2, vi (ownS v nd p)), (3, vi (nI (p + 1)))]) C (dx dX5_shareOut 51 rfl) rfl rfl (by decide) [1, 2, 3, 0] rfl ?_
                    refine r_goto (tgt := 49) C (dx dX5_shareOut 52 rfl) (by decide) ?_
                    have e9 : shrV v nd p = shrV v nd (p + 1) := by rw [shrV_s]; first | exact (if_pos c21).symm | exact (if_neg (fun q => q c21)).symm
                    rw [e9] at wh19
                    exact ih _ wh19 fh19 kh19
                  ·
                    have c21 : ¬ (ownS v nd p) &&& ((nI 1) <<< ((nI p) &&& 31)) = 0 := c21
                    refine r_aload_n C (dx dX5_shareOut 43 rfl) rfl ?_
                    refine g_X5_44 C (dx dX5_shareOut 44 rfl) ?_
                    refine r_iload_n C (dx dX5_shareOut 45 rfl) rfl ?_
                    refine r_dup2 C (dx dX5_shareOut 46 rfl) ?_
                    refine r_iald (j := p) (x := vF (shrV v nd p) 7 p) C rfl rfl (by decide) rfl (by omega) (dx dX5_shareOut 47 rfl) (wh19.e7 (by omega)) ?_
                    refine r_iconst (v := nI 1) C (dx dX5_shareOut 48 rfl) rfl ?_
                    refine r_iadd C (dx dX5_shareOut 49 rfl) ?_
                    refine r_iast (j := p) C rfl rfl (by decide) rfl (by omega) (dx dX5_shareOut 50 rfl) ?_
                    have wh22 : VilAt (sI h19 (k + 8) p ((vF (shrV v nd p) 7 p) + (nI 1))) k (vset (shrV v nd p) 7 p ((vF (shrV v nd p) 7 p) + (nI 1))) := wh19.s7 (i := p) (x := (vF (shrV v nd p) 7 p) + (nI 1))
                    have fh22 : Fr k (k + 9) h (sI h19 (k + 8) p ((vF (shrV v nd p) 7 p) + (nI 1))) := fh19.tr <| Fr.sI (by omega) (by omega)
                    have kh22 : xK (sI h19 (k + 8) p ((vF (shrV v nd p) 7 p) + (nI 1))) = xK h := kh19
                    generalize sI h19 (k + 8) p ((vF (shrV v nd p) 7 p) + (nI 1)) = h22 at wh22 fh22 kh22 ⊢
                    refine rn_iinc (a := p) (k := 1) (ls' := [(0, vr 5 k), (1, vi nd), (2, vi (ownS v nd p)), (3, vi (nI (p + 1)))]) C (dx dX5_shareOut 51 rfl) rfl rfl (by decide) [1, 2, 3, 0] rfl ?_
                    refine r_goto (tgt := 49) C (dx dX5_shareOut 52 rfl) (by decide) ?_
                    have e9 : vset (shrV v nd p) 7 p ((vF (shrV v nd p) 7 p) + (nI 1)) = shrV v nd (p + 1) := by rw [shrV_s]; first | exact (if_pos c21).symm | exact (if_neg (fun q => q c21)).symm
                    rw [e9] at wh22
                    exact ih _ wh22 fh22 kh22))
    · first
      | (omega; done)
      | (
          have c13 : p < vP v := c13
          refine r_iload_n C (dx dX5_shareOut 8 rfl) rfl ?_
          refine r_iconst (v := nI 1) C (dx dX5_shareOut 9 rfl) rfl ?_
          refine r_iload_n C (dx dX5_shareOut 10 rfl) rfl ?_
          refine r_ishl C (dx dX5_shareOut 11 rfl) ?_
          refine r_iand C (dx dX5_shareOut 12 rfl) ?_
          refine r_if_eq (tgt := 41) C (dx dX5_shareOut 13 rfl) (by decide) (fun c23 => ?_) (fun c23 => ?_)
          ·
            have c23 : nd &&& ((nI 1) <<< ((nI p) &&& 31)) = 0 := c23
            refine rn_iinc (a := p) (k := 1) (ls' := [(0, vr 5 k), (1, vi nd), (2, vi (ownS v nd p)), (3, vi (nI (p + 1)))]) C (dx dX5_shareOut 29 rfl) rfl rfl (by decide) [1, 2, 3, 0] rfl ?_
            refine r_goto (tgt := 4) C (dx dX5_shareOut 30 rfl) (by decide) ?_
            have e9 : ownS v nd p = ownS v nd (p + 1) := by simp [ownS, c23]
            rw [e9]
            exact ih
          ·
            have c23 : ¬ nd &&& ((nI 1) <<< ((nI p) &&& 31)) = 0 := c23
            refine r_aload_n C (dx dX5_shareOut 14 rfl) rfl ?_
            refine g_X5_15 C (dx dX5_shareOut 15 rfl) ?_
            refine r_iload_n C (dx dX5_shareOut 16 rfl) rfl ?_
            refine r_iald (j := p) (x := vF v 0 p) C rfl rfl (by decide) rfl (by omega) (dx dX5_shareOut 17 rfl) (hv.e0 (by omega)) ?_
            refine r_iconst (v := -1) C (dx dX5_shareOut 18 rfl) rfl ?_
            refine r_icmp_eq (tgt := 41) C (dx dX5_shareOut 19 rfl) (by decide) (fun c24 => ?_) (fun c24 => ?_)
            ·
              have c24 : vF v 0 p = -1 := c24
              refine rn_iinc (a := p) (k := 1) (ls' := [(0, vr 5 k), (1, vi nd), (2, vi (ownS v nd p)), (3, vi (nI (p + 1)))]) C (dx dX5_shareOut 29 rfl) rfl rfl (by decide) [1, 2, 3, 0] rfl ?_
              refine r_goto (tgt := 4) C (dx dX5_shareOut 30 rfl) (by decide) ?_
              have e9 : ownS v nd p = ownS v nd (p + 1) := by simp [ownS, c23, c24]
              rw [e9]
              exact ih
            ·
              have c24 : ¬ vF v 0 p = -1 := c24
              refine r_iload_n C (dx dX5_shareOut 20 rfl) rfl ?_
              refine r_iconst (v := nI 1) C (dx dX5_shareOut 21 rfl) rfl ?_
              refine r_aload_n C (dx dX5_shareOut 22 rfl) rfl ?_
              refine g_X5_15 C (dx dX5_shareOut 23 rfl) ?_
              refine r_iload_n C (dx dX5_shareOut 24 rfl) rfl ?_
              refine r_iald (j := p) (x := vF v 0 p) C rfl rfl (by decide) rfl (by omega) (dx dX5_shareOut 25 rfl) (hv.e0 (by omega)) ?_
              refine r_ishl C (dx dX5_shareOut 26 rfl) ?_
              refine r_ior C (dx dX5_shareOut 27 rfl) ?_
              refine r_istore_n (ls' := [(0, vr 5 k), (1, vi nd), (2, vi ((ownS v nd p) ||| ((nI 1) <<< ((vF v 0 p) &&& 31)))), (3, vi (nI p))]) C (dx dX5_shareOut 28 rfl) (by decide) [1, 2, 0, 3] rfl ?_
              refine rn_iinc (a := p) (k := 1) (ls' := [(0, vr 5 k), (1, vi nd), (2, vi ((ownS v nd p) ||| ((nI 1) <<< ((vF v 0 p) &&& 31)))), (3, vi (nI (p + 1)))]) C (dx dX5_shareOut 29 rfl) rfl rfl (by decide) [1, 2, 3, 0] rfl ?_
              refine r_goto (tgt := 4) C (dx dX5_shareOut 30 rfl) (by decide) ?_
              have e9 : (ownS v nd p) ||| ((nI 1) <<< ((vF v 0 p) &&& 31)) = ownS v nd (p + 1) := by simp [ownS, c23, c24]
              rw [e9]
              exact ih)
set_option maxHeartbeats 4000000 in
theorem c_X5_passDay {l : Launch} {h : Hp} {k : Nat} {v : Vg} (hv : VilAt h k v)  : Mw l yX5_passDay cX5_passDay 4 (some .int) 3 [vr 5 k] h (some (vi (worthS v (dayP v)))) k (dayV v) := by
  refine Ms.of (by decide) (Nat.le_of_ble_eq_true rfl) (fun G C X F => ?_)
  have C : Cx G cX5_passDay 4 RX5 := C
  show Rr G 0 [(0, vr 5 k)] [] h
  have bP := hv.bP
  have bM := hv.bM
  have bN := hv.bN
  refine r_iconst (v := nI 0) C (dx dX5_passDay 0 rfl) rfl ?_
  refine r_istore_n (ls' := [(0, vr 5 k), (1, vi (nI 0))]) C (dx dX5_passDay 1 rfl) (by decide) [1, 0] rfl ?_
  refine r_iconst (v := nI 0) C (dx dX5_passDay 2 rfl) rfl ?_
  refine r_istore_n (ls' := [(0, vr 5 k), (1, vi (nI 0)), (2, vi (nI 0))]) C (dx dX5_passDay 3 rfl) (by decide) [1, 2, 0] rfl ?_
  refine loopU (Φ := fun p => ∀ h9, VilAt h9 k (vsS v (cmS v p).2) → Fr k (k + 9) h h9 → xK h9 = xK h → Rr G 4 [(0, vr 5 k), (1, vi ((cmS v p).1)), (2, vi (nI p))] [] h9) (N := vN v) ?_ ?_ 0 (Nat.zero_le _) _ hv Fr.rf rfl
  ·
    intro  h2 wh2 fh2 kh2
    refine r_iload_n C (dx dX5_passDay 4 rfl) rfl ?_
    refine r_aload_n C (dx dX5_passDay 5 rfl) rfl ?_
    refine g_X5_31 (x := nI (vN v)) C (dx dX5_passDay 6 rfl) wh2.eN ?_
    refine rn_ge (a := vN v) (b := vN v) (tgt := 46) C (by omega) (by omega) (dx dX5_passDay 7 rfl) (by decide) (fun c3 => ?_) (fun c3 => ?_)
    · first
      | (omega; done)
      | (
          have c3 : vN v ≤ vN v := c3
          refine r_aload_n C (dx dX5_passDay 28 rfl) rfl ?_
          refine r_iload_n C (dx dX5_passDay 29 rfl) rfl ?_
          refine r_cvP (as := [vi ((cmS v (vN v)).1)]) (st := []) (v := vi (dayP v)) C X I_X5_partsWith l_X5_84 (c_X5_partsWith wh2 _) (by decide) (Nat.le_of_ble_eq_true rfl) (pfx_eq kh2) rfl rfl (Nat.le_of_ble_eq_true rfl) rfl (dx dX5_passDay 30 rfl) ?_
          refine r_istore_n (ls' := [(0, vr 5 k), (1, vi ((cmS v (vN v)).1)), (2, vi (dayP v))]) C (dx dX5_passDay 31 rfl) (by decide) [1, 2, 0] rfl ?_
          refine r_iconst (v := nI 0) C (dx dX5_passDay 32 rfl) rfl ?_
          refine r_istore_n (ls' := [(0, vr 5 k), (1, vi ((cmS v (vN v)).1)), (2, vi (dayP v)), (3, vi (nI 0))]) C (dx dX5_passDay 33 rfl) (by decide) [1, 2, 3, 0] rfl ?_
          refine loopU (Φ := fun p => ∀ h9, VilAt h9 k (goV v (dayP v) (cmS v (vN v)).2 p) → Fr k (k + 9) h h9 → xK h9 = xK h → Rr G 54 [(0, vr 5 k), (1, vi ((cmS v (vN v)).1)), (2, vi (dayP v)), (3, vi (nI p))] [] h9) (N := vM v) ?_ ?_ 0 (Nat.zero_le _) _ wh2 fh2 kh2
          ·
            intro  h5 wh5 fh5 kh5
            refine r_iload_n C (dx dX5_passDay 34 rfl) rfl ?_
            refine r_aload_n C (dx dX5_passDay 35 rfl) rfl ?_
            refine g_X5_22 (x := nI (vM v)) C (dx dX5_passDay 36 rfl) wh5.eM ?_
            refine rn_ge (a := vM v) (b := vM v) (tgt := 91) C (by omega) (by omega) (dx dX5_passDay 37 rfl) (by decide) (fun c6 => ?_) (fun c6 => ?_)
            · first
              | (omega; done)
              | (
                  have c6 : vM v ≤ vM v := c6
                  refine r_aload_n C (dx dX5_passDay 55 rfl) rfl ?_
                  refine r_iload_n C (dx dX5_passDay 56 rfl) rfl ?_
                  refine r_cvP (as := [vi (dayP v)]) (st := []) (v := vi (worthS (goV v (dayP v) (cmS v (vN v)).2 (vM v)) (dayP v))) C X I_X5_worthWith l_X5_97 (c_X5_worthWith wh5 _) (by decide) (Nat.le_of_ble_eq_true rfl) (pfx_eq kh5) rfl rfl (Nat.le_of_ble_eq_true rfl) rfl (dx dX5_passDay 57 rfl) ?_
                  exact F.1 _ _ _ _ _ rfl rfl (dx dX5_passDay 58 rfl) kh5 ⟨congrArg (fun x => some (vi x)) (show worthS (goV v (dayP v) (cmS v (vN v)).2 (vM v)) (dayP v) = worthS v (dayP v) by exact worthS_c (u := goV v (dayP v) (cmS v (vN v)).2 (vM v)) (v := v) rfl (fun i => goV_c _ _ _ (c := 2) (by decide) i _) (fun i => goV_c _ _ _ (c := 3) (by decide) i _) _), wh5, fh5⟩)
            · first
              | (omega; done)
              | (
                  have c6 : vM v < vM v := c6
                  refine r_aload_n C (dx dX5_passDay 38 rfl) rfl ?_
                  refine g_X5_25 C (dx dX5_passDay 39 rfl) ?_
                  refine r_iload_n C (dx dX5_passDay 40 rfl) rfl ?_
                  refine r_iald (j := vM v) (x := vF (goV v (dayP v) (cmS v (vN v)).2 (vM v)) 2 (vM v)) C rfl rfl (by decide) rfl (by omega) (dx dX5_passDay 41 rfl) (wh5.e2 (by omega)) ?_
                  refine r_iload_n C (dx dX5_passDay 42 rfl) rfl ?_
                  refine r_iconst (v := -1) C (dx dX5_passDay 43 rfl) rfl ?_
                  refine r_ixor C (dx dX5_passDay 44 rfl) ?_
                  refine r_iand C (dx dX5_passDay 45 rfl) ?_
                  refine r_if_ne (tgt := 85) C (dx dX5_passDay 46 rfl) (by decide) (fun c7 => ?_) (fun c7 => ?_)
                  ·
                    have c7 : ¬ (vF (goV v (dayP v) (cmS v (vN v)).2 (vM v)) 2 (vM v)) &&& ((dayP v) ^^^ (-1)) = 0 := c7
                    refine rn_iinc (a := vM v) (k := 1) (ls' := [(0, vr 5 k), (1, vi ((cmS v (vN v)).1)), (2, vi (dayP v)), (3, vi (nI (vM v + 1)))]) C (dx dX5_passDay 53 rfl) rfl rfl (by decide) [1, 2, 3, 0] rfl ?_
                    refine r_goto (tgt := 54) C (dx dX5_passDay 54 rfl) (by decide) ?_
                    have e9 : goV v (dayP v) (cmS v (vN v)).2 (vM v) = goV v (dayP v) (cmS v (vN v)).2 (vM v + 1) := by rw [goV_s]; have e7 := goV_c v (dayP v) (cmS v (vN v)).2 (c := 2) (by decide) p p; (first | rw [e7] at c7 | skip); simp_all [needW]
                    rw [e9] at wh5
                    exact ih _ wh5 fh5 kh5
                  ·
                    have c7 : (vF (goV v (dayP v) (cmS v (vN v)).2 (vM v)) 2 (vM v)) &&& ((dayP v) ^^^ (-1)) = 0 := c7
                    refine r_aload_n C (dx dX5_passDay 47 rfl) rfl ?_
                    refine r_aload_n C (dx dX5_passDay 48 rfl) rfl ?_
                    refine g_X5_25 C (dx dX5_passDay 49 rfl) ?_
                    refine r_iload_n C (dx dX5_passDay 50 rfl) rfl ?_
                    refine r_iald (j := vM v) (x := vF (goV v (dayP v) (cmS v (vN v)).2 (vM v)) 2 (vM v)) C rfl rfl (by decide) rfl (by omega) (dx dX5_passDay 51 rfl) (wh5.e2 (by omega)) ?_
                    refine r_cv (as := [vi (vF (goV v (dayP v) (cmS v (vN v)).2 (vM v)) 2 (vM v))]) (st := []) C X I_X5_shareOut l_X5_93 (c_X5_shareOut wh5 _) (by decide) (Nat.le_of_ble_eq_true rfl) List.prefix_rfl (pfx_eq kh5) rfl rfl (Nat.le_of_ble_eq_true rfl) rfl (dx dX5_passDay 52 rfl) ?_
                    intro rh8 h8 hph8 kkh8
                    obtain ⟨rfl, wh8, gh8⟩ := hph8
                    have fh8 : Fr k (k + 9) h h8 := fh5.tr gh8
                    have kh8 : xK h8 = xK h := kkh8.trans kh5
                    have wh8 : VilAt h8 k (shrV (goV v (dayP v) (cmS v (vN v)).2 (vM v)) (vF (goV v (dayP v) (cmS v (vN v)).2 (vM v)) 2 (vM v)) (vN v)) := wh8
                    refine rn_iinc (a := vM v) (k := 1) (ls' := [(0, vr 5 k), (1, vi ((cmS v (vN v)).1)), (2, vi (dayP v)), (3, vi (nI (vM v + 1)))]) C (dx dX5_passDay 53 rfl) rfl rfl (by decide) [1, 2, 3, 0] rfl ?_
                    refine r_goto (tgt := 54) C (dx dX5_passDay 54 rfl) (by decide) ?_
                    have e9 : shrV (goV v (dayP v) (cmS v (vN v)).2 (vM v)) (vF (goV v (dayP v) (cmS v (vN v)).2 (vM v)) 2 (vM v)) (vN v) = goV v (dayP v) (cmS v (vN v)).2 (vM v + 1) := by rw [goV_s]; have e7 := goV_c v (dayP v) (cmS v (vN v)).2 (c := 2) (by decide) p p; (first | rw [e7] at c7 | skip); simp_all [needW]
                    rw [e9] at wh8
                    exact ih _ wh8 fh8 kh8)
          ·
            intro p hp ih h9 wh9 fh9 kh9
            refine r_iload_n C (dx dX5_passDay 34 rfl) rfl ?_
            refine r_aload_n C (dx dX5_passDay 35 rfl) rfl ?_
            refine g_X5_22 (x := nI (vM v)) C (dx dX5_passDay 36 rfl) wh9.eM ?_
            refine rn_ge (a := p) (b := vM v) (tgt := 91) C (by omega) (by omega) (dx dX5_passDay 37 rfl) (by decide) (fun c10 => ?_) (fun c10 => ?_)
            · first
              | (omega; done)
              | (
                  have c10 : vM v ≤ p := c10
                  refine r_aload_n C (dx dX5_passDay 55 rfl) rfl ?_
                  refine r_iload_n C (dx dX5_passDay 56 rfl) rfl ?_
                  refine r_cvP (as := [vi (dayP v)]) (st := []) (v := vi (worthS (goV v (dayP v) (cmS v (vN v)).2 p) (dayP v))) C X I_X5_worthWith l_X5_97 (c_X5_worthWith wh9 _) (by decide) (Nat.le_of_ble_eq_true rfl) (pfx_eq kh9) rfl rfl (Nat.le_of_ble_eq_true rfl) rfl (dx dX5_passDay 57 rfl) ?_
                  exact F.1 _ _ _ _ _ rfl rfl (dx dX5_passDay 58 rfl) kh9 ⟨congrArg (fun x => some (vi x)) (show worthS (goV v (dayP v) (cmS v (vN v)).2 p) (dayP v) = worthS v (dayP v) by exact worthS_c (u := goV v (dayP v) (cmS v (vN v)).2 (vM v)) (v := v) rfl (fun i => goV_c _ _ _ (c := 2) (by decide) i _) (fun i => goV_c _ _ _ (c := 3) (by decide) i _) _), wh9, fh9⟩)
            · first
              | (omega; done)
              | (
                  have c10 : p < vM v := c10
                  refine r_aload_n C (dx dX5_passDay 38 rfl) rfl ?_
                  refine g_X5_25 C (dx dX5_passDay 39 rfl) ?_
                  refine r_iload_n C (dx dX5_passDay 40 rfl) rfl ?_
                  refine r_iald (j := p) (x := vF (goV v (dayP v) (cmS v (vN v)).2 p) 2 p) C rfl rfl (by decide) rfl (by omega) (dx dX5_passDay 41 rfl) (wh9.e2 (by omega)) ?_
                  refine r_iload_n C (dx dX5_passDay 42 rfl) rfl ?_
                  refine r_iconst (v := -1) C (dx dX5_passDay 43 rfl) rfl ?_
                  refine r_ixor C (dx dX5_passDay 44 rfl) ?_
                  refine r_iand C (dx dX5_passDay 45 rfl) ?_
                  refine r_if_ne (tgt := 85) C (dx dX5_passDay 46 rfl) (by decide) (fun c11 => ?_) (fun c11 => ?_)
                  ·
                    have c11 : ¬ (vF (goV v (dayP v) (cmS v (vN v)).2 p) 2 p) &&& ((dayP v) ^^^ (-1)) = 0 := c11
                    refine rn_iinc (a := p) (k := 1) (ls' := [(0, vr 5 k), (1, vi ((cmS v (vN v)).1)), (2, vi (dayP v)), (3, vi (nI (p + 1)))]) C (dx dX5_passDay 53 rfl) rfl rfl (by decide) [1, 2, 3, 0] rfl ?_
                    refine r_goto (tgt := 54) C (dx dX5_passDay 54 rfl) (by decide) ?_
                    have e9 : goV v (dayP v) (cmS v (vN v)).2 p = goV v (dayP v) (cmS v (vN v)).2 (p + 1) := by rw [goV_s]; have e7 := goV_c v (dayP v) (cmS v (vN v)).2 (c := 2) (by decide) p p; (first | rw [e7] at c11 | skip); simp_all [needW]
                    rw [e9] at wh9
                    exact ih _ wh9 fh9 kh9
                  ·
                    have c11 : (vF (goV v (dayP v) (cmS v (vN v)).2 p) 2 p) &&& ((dayP v) ^^^ (-1)) = 0 := c11
                    refine r_aload_n C (dx dX5_passDay 47 rfl) rfl ?_
                    refine r_aload_n C (dx dX5_passDay 48 rfl) rfl ?_
                    refine g_X5_25 C (dx dX5_passDay 49 rfl) ?_
                    refine r_iload_n C (dx dX5_passDay 50 rfl) rfl ?_
                    refine r_iald (j := p) (x := vF (goV v (dayP v) (cmS v (vN v)).2 p) 2 p) C rfl rfl (by decide) rfl (by omega) (dx dX5_passDay 51 rfl) (wh9.e2 (by omega)) ?_
                    refine r_cv (as := [vi (vF (goV v (dayP v) (cmS v (vN v)).2 p) 2 p)]) (st := []) C X I_X5_shareOut l_X5_93 (c_X5_shareOut wh9 _) (by decide) (Nat.le_of_ble_eq_true rfl) List.prefix_rfl (pfx_eq kh9) rfl rfl (Nat.le_of_ble_eq_true rfl) rfl (dx dX5_passDay 52 rfl) ?_
                    intro rh12 h12 hph12 kkh12
                    obtain ⟨rfl, wh12, gh12⟩ := hph12
                    have fh12 : Fr k (k + 9) h h12 := fh9.tr gh12
                    have kh12 : xK h12 = xK h := kkh12.trans kh9
                    have wh12 : VilAt h12 k (shrV (goV v (dayP v) (cmS v (vN v)).2 p) (vF (goV v (dayP v) (cmS v (vN v)).2 p) 2 p) (vN v)) := wh12
                    refine rn_iinc (a := p) (k := 1) (ls' := [(0, vr 5 k), (1, vi ((cmS v (vN v)).1)), (2, vi (dayP v)), (3, vi (nI (p + 1)))]) C (dx dX5_passDay 53 rfl) rfl rfl (by decide) [1, 2, 3, 0] rfl ?_
                    refine r_goto (tgt := 54) C (dx dX5_passDay 54 rfl) (by decide) ?_
                    have e9 : shrV (goV v (dayP v) (cmS v (vN v)).2 p) (vF (goV v (dayP v) (cmS v (vN v)).2 p) 2 p) (vN v) = goV v (dayP v) (cmS v (vN v)).2 (p + 1) := by rw [goV_s]; have e7 := goV_c v (dayP v) (cmS v (vN v)).2 (c := 2) (by decide) p p; (first | rw [e7] at c11 | skip); simp_all [needW]
                    rw [e9] at wh12
                    exact ih _ wh12 fh12 kh12))
    · first
      | (omega; done)
      | (
          have c3 : vN v < vN v := c3
          refine r_aload_n C (dx dX5_passDay 8 rfl) rfl ?_
          refine g_X5_40 C (dx dX5_passDay 9 rfl) ?_
          refine r_iload_n C (dx dX5_passDay 10 rfl) rfl ?_
          refine r_zald (j := vN v) (x := vF v 6 (vN v)) C rfl rfl (by decide) rfl (by omega) (dx dX5_passDay 11 rfl) (wh2.e6 (by omega)) ?_
          refine r_if_ne (tgt := 40) C (dx dX5_passDay 12 rfl) (by decide) (fun c13 => ?_) (fun c13 => ?_)
          ·
            have c13 : ¬ vF v 6 (vN v) = 0 := c13
            refine rn_iinc (a := vN v) (k := 1) (ls' := [(0, vr 5 k), (1, vi ((cmS v (vN v)).1)), (2, vi (nI (vN v + 1)))]) C (dx dX5_passDay 26 rfl) rfl rfl (by decide) [1, 2, 0] rfl ?_
            refine r_goto (tgt := 4) C (dx dX5_passDay 27 rfl) (by decide) ?_
            have e8 : (cmS v (vN v)).1 = (cmS v (vN v + 1)).1 := by simp [cmS, c13]
            rw [e8]
            have e9 : vsS v (cmS v (vN v)).2 = vsS v (cmS v (vN v + 1)).2 := by simp [cmS, vsS, c13]
            rw [e9] at wh2
            exact ih _ wh2 fh2 kh2
          ·
            have c13 : vF v 6 (vN v) = 0 := c13
            refine r_aload_n C (dx dX5_passDay 13 rfl) rfl ?_
            refine r_cv (as := []) (st := []) C X I_X5_drawTenth l_X5_90 (c_X5_drawTenth wh2) (by decide) (Nat.le_of_ble_eq_true rfl) List.prefix_rfl (pfx_eq kh2) rfl rfl (Nat.le_of_ble_eq_true rfl) rfl (dx dX5_passDay 14 rfl) ?_
            intro rh14 h14 hph14 kkh14
            obtain ⟨rfl, wh14, gh14⟩ := hph14
            have fh14 : Fr k (k + 9) h h14 := fh2.tr gh14
            have kh14 : xK h14 = xK h := kkh14.trans kh2
            have wh14 : VilAt h14 k (vsS (vsS v (cmS v (vN v)).2) (lcg ((cmS v (vN v)).2))) := wh14
            refine r_aload_n C (dx dX5_passDay 15 rfl) rfl ?_
            refine g_X5_37 C (dx dX5_passDay 16 rfl) ?_
            refine r_iload_n C (dx dX5_passDay 17 rfl) rfl ?_
            refine r_iald (j := vN v) (x := vF v 5 (vN v)) C rfl rfl (by decide) rfl (by omega) (dx dX5_passDay 18 rfl) (wh14.e5 (by omega)) ?_
            refine r_icmp_lt (tgt := 40) C (dx dX5_passDay 19 rfl) (by decide) (fun c15 => ?_) (fun c15 => ?_)
            ·
              have c15 : drw ((cmS v (vN v)).2) < vF v 5 (vN v) := c15
              refine rn_iinc (a := vN v) (k := 1) (ls' := [(0, vr 5 k), (1, vi ((cmS v (vN v)).1)), (2, vi (nI (vN v + 1)))]) C (dx dX5_passDay 26 rfl) rfl rfl (by decide) [1, 2, 0] rfl ?_
              refine r_goto (tgt := 4) C (dx dX5_passDay 27 rfl) (by decide) ?_
              have e8 : (cmS v (vN v)).1 = (cmS v (vN v + 1)).1 := by simp [cmS, c13, c15]
              rw [e8]
              have e9 : vsS (vsS v (cmS v (vN v)).2) (lcg ((cmS v (vN v)).2)) = vsS v (cmS v (vN v + 1)).2 := by simp [cmS, vsS, c13, c15]
              rw [e9] at wh14
              exact ih _ wh14 fh14 kh14
            ·
              have c15 : ¬ drw ((cmS v (vN v)).2) < vF v 5 (vN v) := c15
              refine r_iload_n C (dx dX5_passDay 20 rfl) rfl ?_
              refine r_iconst (v := nI 1) C (dx dX5_passDay 21 rfl) rfl ?_
              refine r_iload_n C (dx dX5_passDay 22 rfl) rfl ?_
              refine r_ishl C (dx dX5_passDay 23 rfl) ?_
              refine r_ior C (dx dX5_passDay 24 rfl) ?_
              refine r_istore_n (ls' := [(0, vr 5 k), (1, vi (((cmS v (vN v)).1) ||| ((nI 1) <<< ((nI (vN v)) &&& 31)))), (2, vi (nI (vN v)))]) C (dx dX5_passDay 25 rfl) (by decide) [1, 0, 2] rfl ?_
              refine rn_iinc (a := vN v) (k := 1) (ls' := [(0, vr 5 k), (1, vi (((cmS v (vN v)).1) ||| ((nI 1) <<< ((nI (vN v)) &&& 31)))), (2, vi (nI (vN v + 1)))]) C (dx dX5_passDay 26 rfl) rfl rfl (by decide) [1, 2, 0] rfl ?_
              refine r_goto (tgt := 4) C (dx dX5_passDay 27 rfl) (by decide) ?_
              have e8 : ((cmS v (vN v)).1) ||| ((nI 1) <<< ((nI (vN v)) &&& 31)) = (cmS v (vN v + 1)).1 := by simp [cmS, c13, c15]
              rw [e8]
              have e9 : vsS (vsS v (cmS v (vN v)).2) (lcg ((cmS v (vN v)).2)) = vsS v (cmS v (vN v + 1)).2 := by simp [cmS, vsS, c13, c15]
              rw [e9] at wh14
              exact ih _ wh14 fh14 kh14)
  ·
    intro p hp ih h16 wh16 fh16 kh16
    refine r_iload_n C (dx dX5_passDay 4 rfl) rfl ?_
    refine r_aload_n C (dx dX5_passDay 5 rfl) rfl ?_
    refine g_X5_31 (x := nI (vN v)) C (dx dX5_passDay 6 rfl) wh16.eN ?_
    refine rn_ge (a := p) (b := vN v) (tgt := 46) C (by omega) (by omega) (dx dX5_passDay 7 rfl) (by decide) (fun c17 => ?_) (fun c17 => ?_)
    · first
      | (omega; done)
      | (
          have c17 : vN v ≤ p := c17
          refine r_aload_n C (dx dX5_passDay 28 rfl) rfl ?_
          refine r_iload_n C (dx dX5_passDay 29 rfl) rfl ?_
          refine r_cvP (as := [vi ((cmS v p).1)]) (st := []) (v := vi (dayP v)) C X I_X5_partsWith l_X5_84 (c_X5_partsWith wh16 _) (by decide) (Nat.le_of_ble_eq_true rfl) (pfx_eq kh16) rfl rfl (Nat.le_of_ble_eq_true rfl) rfl (dx dX5_passDay 30 rfl) ?_
          refine r_istore_n (ls' := [(0, vr 5 k), (1, vi ((cmS v p).1)), (2, vi (dayP v))]) C (dx dX5_passDay 31 rfl) (by decide) [1, 2, 0] rfl ?_
          refine r_iconst (v := nI 0) C (dx dX5_passDay 32 rfl) rfl ?_
          refine r_istore_n (ls' := [(0, vr 5 k), (1, vi ((cmS v p).1)), (2, vi (dayP v)), (3, vi (nI 0))]) C (dx dX5_passDay 33 rfl) (by decide) [1, 2, 3, 0] rfl ?_
          refine loopU (Φ := fun p => ∀ h9, VilAt h9 k (goV v (dayP v) (cmS v (vN v)).2 p) → Fr k (k + 9) h h9 → xK h9 = xK h → Rr G 54 [(0, vr 5 k), (1, vi ((cmS v p).1)), (2, vi (dayP v)), (3, vi (nI p))] [] h9) (N := vM v) ?_ ?_ 0 (Nat.zero_le _) _ wh16 fh16 kh16
          ·
            intro  h19 wh19 fh19 kh19
            refine r_iload_n C (dx dX5_passDay 34 rfl) rfl ?_
            refine r_aload_n C (dx dX5_passDay 35 rfl) rfl ?_
            refine g_X5_22 (x := nI (vM v)) C (dx dX5_passDay 36 rfl) wh19.eM ?_
            refine rn_ge (a := vM v) (b := vM v) (tgt := 91) C (by omega) (by omega) (dx dX5_passDay 37 rfl) (by decide) (fun c20 => ?_) (fun c20 => ?_)
            · first
              | (omega; done)
              | (
                  have c20 : vM v ≤ vM v := c20
                  refine r_aload_n C (dx dX5_passDay 55 rfl) rfl ?_
                  refine r_iload_n C (dx dX5_passDay 56 rfl) rfl ?_
                  refine r_cvP (as := [vi (dayP v)]) (st := []) (v := vi (worthS (goV v (dayP v) (cmS v (vN v)).2 (vM v)) (dayP v))) C X I_X5_worthWith l_X5_97 (c_X5_worthWith wh19 _) (by decide) (Nat.le_of_ble_eq_true rfl) (pfx_eq kh19) rfl rfl (Nat.le_of_ble_eq_true rfl) rfl (dx dX5_passDay 57 rfl) ?_
                  exact F.1 _ _ _ _ _ rfl rfl (dx dX5_passDay 58 rfl) kh19 ⟨congrArg (fun x => some (vi x)) (show worthS (goV v (dayP v) (cmS v (vN v)).2 (vM v)) (dayP v) = worthS v (dayP v) by exact worthS_c (u := goV v (dayP v) (cmS v (vN v)).2 (vM v)) (v := v) rfl (fun i => goV_c _ _ _ (c := 2) (by decide) i _) (fun i => goV_c _ _ _ (c := 3) (by decide) i _) _), wh19, fh19⟩)
            · first
              | (omega; done)
              | (
                  have c20 : vM v < vM v := c20
                  refine r_aload_n C (dx dX5_passDay 38 rfl) rfl ?_
                  refine g_X5_25 C (dx dX5_passDay 39 rfl) ?_
                  refine r_iload_n C (dx dX5_passDay 40 rfl) rfl ?_
                  refine r_iald (j := vM v) (x := vF (goV v (dayP v) (cmS v (vN v)).2 (vM v)) 2 (vM v)) C rfl rfl (by decide) rfl (by omega) (dx dX5_passDay 41 rfl) (wh19.e2 (by omega)) ?_
                  refine r_iload_n C (dx dX5_passDay 42 rfl) rfl ?_
                  refine r_iconst (v := -1) C (dx dX5_passDay 43 rfl) rfl ?_
                  refine r_ixor C (dx dX5_passDay 44 rfl) ?_
                  refine r_iand C (dx dX5_passDay 45 rfl) ?_
                  refine r_if_ne (tgt := 85) C (dx dX5_passDay 46 rfl) (by decide) (fun c21 => ?_) (fun c21 => ?_)
                  ·
                    have c21 : ¬ (vF (goV v (dayP v) (cmS v (vN v)).2 (vM v)) 2 (vM v)) &&& ((dayP v) ^^^ (-1)) = 0 := c21
                    refine rn_iinc (a := vM v) (k := 1) (ls' := [(0, vr 5 k), (1, vi ((cmS v p).1)), (2, vi (dayP v)), (3, vi (nI (vM v + 1)))]) C (dx dX5_passDay 53 rfl) rfl rfl (by decide) [1, 2, 3, 0] rfl ?_
                    refine r_goto (tgt := 54) C (dx dX5_passDay 54 rfl) (by decide) ?_
                    have e9 : goV v (dayP v) (cmS v (vN v)).2 (vM v) = goV v (dayP v) (cmS v (vN v)).2 (vM v + 1) := by rw [goV_s]; have e7 := goV_c v (dayP v) (cmS v (vN v)).2 (c := 2) (by decide) p p; (first | rw [e7] at c21 | skip); simp_all [needW]
                    rw [e9] at wh19
                    exact ih _ wh19 fh19 kh19
                  ·
                    have c21 : (vF (goV v (dayP v) (cmS v (vN v)).2 (vM v)) 2 (vM v)) &&& ((dayP v) ^^^ (-1)) = 0 := c21
                    refine r_aload_n C (dx dX5_passDay 47 rfl) rfl ?_
                    refine r_aload_n C (dx dX5_passDay 48 rfl) rfl ?_
                    refine g_X5_25 C (dx dX5_passDay 49 rfl) ?_
                    refine r_iload_n C (dx dX5_passDay 50 rfl) rfl ?_
                    refine r_iald (j := vM v) (x := vF (goV v (dayP v) (cmS v (vN v)).2 (vM v)) 2 (vM v)) C rfl rfl (by decide) rfl (by omega) (dx dX5_passDay 51 rfl) (wh19.e2 (by omega)) ?_
                    refine r_cv (as := [vi (vF (goV v (dayP v) (cmS v (vN v)).2 (vM v)) 2 (vM v))]) (st := []) C X I_X5_shareOut l_X5_93 (c_X5_shareOut wh19 _) (by decide) (Nat.le_of_ble_eq_true rfl) List.prefix_rfl (pfx_eq kh19) rfl rfl (Nat.le_of_ble_eq_true rfl) rfl (dx dX5_passDay 52 rfl) ?_
                    intro rh22 h22 hph22 kkh22
                    obtain ⟨rfl, wh22, gh22⟩ := hph22
                    have fh22 : Fr k (k + 9) h h22 := fh19.tr gh22
                    have kh22 : xK h22 = xK h := kkh22.trans kh19
                    have wh22 : VilAt h22 k (shrV (goV v (dayP v) (cmS v (vN v)).2 (vM v)) (vF (goV v (dayP v) (cmS v (vN v)).2 (vM v)) 2 (vM v)) (vN v)) := wh22
                    refine rn_iinc (a := vM v) (k := 1) (ls' := [(0, vr 5 k), (1, vi ((cmS v p).1)), (2, vi (dayP v)), (3, vi (nI (vM v + 1)))]) C (dx dX5_passDay 53 rfl) rfl rfl (by decide) [1, 2, 3, 0] rfl ?_
                    refine r_goto (tgt := 54) C (dx dX5_passDay 54 rfl) (by decide) ?_
                    have e9 : shrV (goV v (dayP v) (cmS v (vN v)).2 (vM v)) (vF (goV v (dayP v) (cmS v (vN v)).2 (vM v)) 2 (vM v)) (vN v) = goV v (dayP v) (cmS v (vN v)).2 (vM v + 1) := by rw [goV_s]; have e7 := goV_c v (dayP v) (cmS v (vN v)).2 (c := 2) (by decide) p p; (first | rw [e7] at c21 | skip); simp_all [needW]
                    rw [e9] at wh22
                    exact ih _ wh22 fh22 kh22)
          ·
            intro p hp ih h23 wh23 fh23 kh23
            refine r_iload_n C (dx dX5_passDay 34 rfl) rfl ?_
            refine r_aload_n C (dx dX5_passDay 35 rfl) rfl ?_
            refine g_X5_22 (x := nI (vM v)) C (dx dX5_passDay 36 rfl) wh23.eM ?_
            refine rn_ge (a := p) (b := vM v) (tgt := 91) C (by omega) (by omega) (dx dX5_passDay 37 rfl) (by decide) (fun c24 => ?_) (fun c24 => ?_)
            · first
              | (omega; done)
              | (
                  have c24 : vM v ≤ p := c24
                  refine r_aload_n C (dx dX5_passDay 55 rfl) rfl ?_
                  refine r_iload_n C (dx dX5_passDay 56 rfl) rfl ?_
                  refine r_cvP (as := [vi (dayP v)]) (st := []) (v := vi (worthS (goV v (dayP v) (cmS v (vN v)).2 p) (dayP v))) C X I_X5_worthWith l_X5_97 (c_X5_worthWith wh23 _) (by decide) (Nat.le_of_ble_eq_true rfl) (pfx_eq kh23) rfl rfl (Nat.le_of_ble_eq_true rfl) rfl (dx dX5_passDay 57 rfl) ?_
                  exact F.1 _ _ _ _ _ rfl rfl (dx dX5_passDay 58 rfl) kh23 ⟨congrArg (fun x => some (vi x)) (show worthS (goV v (dayP v) (cmS v (vN v)).2 p) (dayP v) = worthS v (dayP v) by exact worthS_c (u := goV v (dayP v) (cmS v (vN v)).2 (vM v)) (v := v) rfl (fun i => goV_c _ _ _ (c := 2) (by decide) i _) (fun i => goV_c _ _ _ (c := 3) (by decide) i _) _), wh23, fh23⟩)
            · first
              | (omega; done)
              | (
                  have c24 : p < vM v := c24
                  refine r_aload_n C (dx dX5_passDay 38 rfl) rfl ?_
                  refine g_X5_25 C (dx dX5_passDay 39 rfl) ?_
                  refine r_iload_n C (dx dX5_passDay 40 rfl) rfl ?_
                  refine r_iald (j := p) (x := vF (goV v (dayP v) (cmS v (vN v)).2 p) 2 p) C rfl rfl (by decide) rfl (by omega) (dx dX5_passDay 41 rfl) (wh23.e2 (by omega)) ?_
                  refine r_iload_n C (dx dX5_passDay 42 rfl) rfl ?_
                  refine r_iconst (v := -1) C (dx dX5_passDay 43 rfl) rfl ?_
                  refine r_ixor C (dx dX5_passDay 44 rfl) ?_
                  refine r_iand C (dx dX5_passDay 45 rfl) ?_
                  refine r_if_ne (tgt := 85) C (dx dX5_passDay 46 rfl) (by decide) (fun c25 => ?_) (fun c25 => ?_)
                  ·
                    have c25 : ¬ (vF (goV v (dayP v) (cmS v (vN v)).2 p) 2 p) &&& ((dayP v) ^^^ (-1)) = 0 := c25
                    refine rn_iinc (a := p) (k := 1) (ls' := [(0, vr 5 k), (1, vi ((cmS v p).1)), (2, vi (dayP v)), (3, vi (nI (p + 1)))]) C (dx dX5_passDay 53 rfl) rfl rfl (by decide) [1, 2, 3, 0] rfl ?_
                    refine r_goto (tgt := 54) C (dx dX5_passDay 54 rfl) (by decide) ?_
                    have e9 : goV v (dayP v) (cmS v (vN v)).2 p = goV v (dayP v) (cmS v (vN v)).2 (p + 1) := by rw [goV_s]; have e7 := goV_c v (dayP v) (cmS v (vN v)).2 (c := 2) (by decide) p p; (first | rw [e7] at c25 | skip); simp_all [needW]
                    rw [e9] at wh23
                    exact ih _ wh23 fh23 kh23
                  ·
                    have c25 : (vF (goV v (dayP v) (cmS v (vN v)).2 p) 2 p) &&& ((dayP v) ^^^ (-1)) = 0 := c25
                    refine r_aload_n C (dx dX5_passDay 47 rfl) rfl ?_
                    refine r_aload_n C (dx dX5_passDay 48 rfl) rfl ?_
                    refine g_X5_25 C (dx dX5_passDay 49 rfl) ?_
                    refine r_iload_n C (dx dX5_passDay 50 rfl) rfl ?_
                    refine r_iald (j := p) (x := vF (goV v (dayP v) (cmS v (vN v)).2 p) 2 p) C rfl rfl (by decide) rfl (by omega) (dx dX5_passDay 51 rfl) (wh23.e2 (by omega)) ?_
                    refine r_cv (as := [vi (vF (goV v (dayP v) (cmS v (vN v)).2 p) 2 p)]) (st := []) C X I_X5_shareOut l_X5_93 (c_X5_shareOut wh23 _) (by decide) (Nat.le_of_ble_eq_true rfl) List.prefix_rfl (pfx_eq kh23) rfl rfl (Nat.le_of_ble_eq_true rfl) rfl (dx dX5_passDay 52 rfl) ?_
                    intro rh26 h26 hph26 kkh26
                    obtain ⟨rfl, wh26, gh26⟩ := hph26
                    have fh26 : Fr k (k + 9) h h26 := fh23.tr gh26
                    have kh26 : xK h26 = xK h := kkh26.trans kh23
                    have wh26 : VilAt h26 k (shrV (goV v (dayP v) (cmS v (vN v)).2 p) (vF (goV v (dayP v) (cmS v (vN v)).2 p) 2 p) (vN v)) := wh26
                    refine rn_iinc (a := p) (k := 1) (ls' := [(0, vr 5 k), (1, vi ((cmS v p).1)), (2, vi (dayP v)), (3, vi (nI (p + 1)))]) C (dx dX5_passDay 53 rfl) rfl rfl (by decide) [1, 2, 3, 0] rfl ?_
                    refine r_goto (tgt := 54) C (dx dX5_passDay 54 rfl) (by decide) ?_
                    have e9 : shrV (goV v (dayP v) (cmS v (vN v)).2 p) (vF (goV v (dayP v) (cmS v (vN v)).2 p) 2 p) (vN v) = goV v (dayP v) (cmS v (vN v)).2 (p + 1) := by rw [goV_s]; have e7 := goV_c v (dayP v) (cmS v (vN v)).2 (c := 2) (by decide) p p; (first | rw [e7] at c25 | skip); simp_all [needW]
                    rw [e9] at wh26
                    exact ih _ wh26 fh26 kh26))
    · first
      | (omega; done)
      | (
          have c17 : p < vN v := c17
          refine r_aload_n C (dx dX5_passDay 8 rfl) rfl ?_
          refine g_X5_40 C (dx dX5_passDay 9 rfl) ?_
          refine r_iload_n C (dx dX5_passDay 10 rfl) rfl ?_
          refine r_zald (j := p) (x := vF v 6 p) C rfl rfl (by decide) rfl (by omega) (dx dX5_passDay 11 rfl) (wh16.e6 (by omega)) ?_
          refine r_if_ne (tgt := 40) C (dx dX5_passDay 12 rfl) (by decide) (fun c27 => ?_) (fun c27 => ?_)
          ·
            have c27 : ¬ vF v 6 p = 0 := c27
            refine rn_iinc (a := p) (k := 1) (ls' := [(0, vr 5 k), (1, vi ((cmS v p).1)), (2, vi (nI (p + 1)))]) C (dx dX5_passDay 26 rfl) rfl rfl (by decide) [1, 2, 0] rfl ?_
            refine r_goto (tgt := 4) C (dx dX5_passDay 27 rfl) (by decide) ?_
            have e8 : (cmS v p).1 = (cmS v (p + 1)).1 := by simp [cmS, c27]
            rw [e8]
            have e9 : vsS v (cmS v p).2 = vsS v (cmS v (p + 1)).2 := by simp [cmS, vsS, c27]
            rw [e9] at wh16
            exact ih _ wh16 fh16 kh16
          ·
            have c27 : vF v 6 p = 0 := c27
            refine r_aload_n C (dx dX5_passDay 13 rfl) rfl ?_
            refine r_cv (as := []) (st := []) C X I_X5_drawTenth l_X5_90 (c_X5_drawTenth wh16) (by decide) (Nat.le_of_ble_eq_true rfl) List.prefix_rfl (pfx_eq kh16) rfl rfl (Nat.le_of_ble_eq_true rfl) rfl (dx dX5_passDay 14 rfl) ?_
            intro rh28 h28 hph28 kkh28
            obtain ⟨rfl, wh28, gh28⟩ := hph28
            have fh28 : Fr k (k + 9) h h28 := fh16.tr gh28
            have kh28 : xK h28 = xK h := kkh28.trans kh16
            have wh28 : VilAt h28 k (vsS (vsS v (cmS v p).2) (lcg ((cmS v p).2))) := wh28
            refine r_aload_n C (dx dX5_passDay 15 rfl) rfl ?_
            refine g_X5_37 C (dx dX5_passDay 16 rfl) ?_
            refine r_iload_n C (dx dX5_passDay 17 rfl) rfl ?_
            refine r_iald (j := p) (x := vF v 5 p) C rfl rfl (by decide) rfl (by omega) (dx dX5_passDay 18 rfl) (wh28.e5 (by omega)) ?_
            refine r_icmp_lt (tgt := 40) C (dx dX5_passDay 19 rfl) (by decide) (fun c29 => ?_) (fun c29 => ?_)
            ·
              have c29 : drw ((cmS v p).2) < vF v 5 p := c29
              refine rn_iinc (a := p) (k := 1) (ls' := [(0, vr 5 k), (1, vi ((cmS v p).1)), (2, vi (nI (p + 1)))]) C (dx dX5_passDay 26 rfl) rfl rfl (by decide) [1, 2, 0] rfl ?_
              refine r_goto (tgt := 4) C (dx dX5_passDay 27 rfl) (by decide) ?_
              have e8 : (cmS v p).1 = (cmS v (p + 1)).1 := by simp [cmS, c27, c29]
              rw [e8]
              have e9 : vsS (vsS v (cmS v p).2) (lcg ((cmS v p).2)) = vsS v (cmS v (p + 1)).2 := by simp [cmS, vsS, c27, c29]
              rw [e9] at wh28
              exact ih _ wh28 fh28 kh28
            ·
              have c29 : ¬ drw ((cmS v p).2) < vF v 5 p := c29
              refine r_iload_n C (dx dX5_passDay 20 rfl) rfl ?_
              refine r_iconst (v := nI 1) C (dx dX5_passDay 21 rfl) rfl ?_
              refine r_iload_n C (dx dX5_passDay 22 rfl) rfl ?_
              refine r_ishl C (dx dX5_passDay 23 rfl) ?_
              refine r_ior C (dx dX5_passDay 24 rfl) ?_
              refine r_istore_n (ls' := [(0, vr 5 k), (1, vi (((cmS v p).1) ||| ((nI 1) <<< ((nI p) &&& 31)))), (2, vi (nI p))]) C (dx dX5_passDay 25 rfl) (by decide) [1, 0, 2] rfl ?_
              refine rn_iinc (a := p) (k := 1) (ls' := [(0, vr 5 k), (1, vi (((cmS v p).1) ||| ((nI 1) <<< ((nI p) &&& 31)))), (2, vi (nI (p + 1)))]) C (dx dX5_passDay 26 rfl) rfl rfl (by decide) [1, 2, 0] rfl ?_
              refine r_goto (tgt := 4) C (dx dX5_passDay 27 rfl) (by decide) ?_
              have e8 : ((cmS v p).1) ||| ((nI 1) <<< ((nI p) &&& 31)) = (cmS v (p + 1)).1 := by simp [cmS, c27, c29]
              rw [e8]
              have e9 : vsS (vsS v (cmS v p).2) (lcg ((cmS v p).2)) = vsS v (cmS v (p + 1)).2 := by simp [cmS, vsS, c27, c29]
              rw [e9] at wh28
              exact ih _ wh28 fh28 kh28)

