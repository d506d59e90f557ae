/-! PART 58: the reference, exactly: head, texts, the tape -/
/-- only village cells written, and not the fault's place -/
def Kq (k : Nat) (h h' : Hp) : Prop := Kp k h h' ∧ xI h' k 27 = xI h k 27
theorem Kq.rf {k : Nat} {h : Hp} : Kq k h h := ⟨Kp.rf, rfl⟩
theorem Kq.tr {k : Nat} {h h1 h2 : Hp} (a : Kq k h h1) (b : Kq k h1 h2) : Kq k h h2 := ⟨a.1.tr b.1, b.2.trans a.2⟩
theorem Kq.fr {k lo hi : Nat} {h h1 : Hp} (f : Fr lo hi h h1) (h1' : k + 17 ≤ lo) (h2 : hi ≤ k + 32) : Kq k h h1 := ⟨Kp.fr f h1' h2, by rw [(f k (by omega)).1]⟩
theorem Kq.f {k j : Nat} {h : Hp} {x : Int32} (hj : j ≠ 8 ∧ j ≠ 27) : Kq k h (sI h k j x) := ⟨Kp.f hj.1, by rw [sI_at, if_neg (Ne.symm hj.2)]⟩
theorem Kq.c {k b j : Nat} {h : Hp} {x : Int32} (h1 : k + 17 ≤ b) (h2 : b < k + 32) : Kq k h (sI h b j x) := ⟨Kp.c h1 h2, by rw [(oth_sI k (show k ≠ b by omega)).1]⟩
/-- what a text makes of a village; what is answered -/
def vlW (B : Nat → Int32) (z : Nat) (v : Vg) : Int32 × Tkn × Vg := riS B z 250 1 (stp B z 0) v
def vlA (B : Nat → Int32) (z : Nat) (v : Vg) : Int32 := if (vlW B z v).1 = -1 then -20 - nI (vlW B z v).2.1.2.1 else (vlW B z v).1
def vlV (B : Nat → Int32) (z : Nat) (v : Vg) : Vg := if (vlW B z v).1 = -1 then v else (vlW B z v).2.2
/-- a number's bytes behind the tape's -/
def fdB (Bt : Nat → Int32) (z : Nat) (x : Int32) (ν : Nat) : Nat → Nat → Int32
  | 0 => Bt
  | t + 1 => sf (fdB Bt z x ν t) (z + t) ((x >>> (nI (8 * (ν - 1 - t)) &&& 31)) &&& nI 255)
theorem fd_s {Bt : Nat → Int32} {z ν j : Nat} {x : Int32} (h : j + 1 ≤ ν) : fdB Bt z x ν (ν - j) = sf (fdB Bt z x ν (ν - (j + 1))) (z + ν - (j + 1)) ((x >>> (nI (8 * j) &&& 31)) &&& nI 255) := by
  rw [show ν - j = (ν - (j + 1)) + 1 by omega]
  simp only [fdB]
  rw [show z + (ν - (j + 1)) = z + ν - (j + 1) by omega, show ν - 1 - (ν - (j + 1)) = j by omega]
def feedB (Bt : Nat → Int32) (z : Nat) (x n : Int32) : Nat → Int32 := if feedZ z n = z then Bt else fdB Bt z x n.toNatClampNeg n.toNatClampNeg
def layV (v : Vg) (g : Sg) (s : Int32) : Vg := if nhA g s = 0 then hAR v (kdV g s).toNatClampNeg (byV g s).toNatClampNeg else v
theorem kd_hold {g : Sg} {σ η β : Nat} (hσ : σ < 8) (hη : η ≤ 5) (e : gT g σ = nI (10 + η)) (e2 : gY g σ = nI β) : kdV g (nI σ) = nI η := by
  unfold kdV
  rw [if_pos (sh_hold hσ hη e e2).2.1, clN (by omega), e, pk_sub (by omega), Nat.add_sub_cancel_left]
theorem lay_hold {v : Vg} {g : Sg} {σ η β : Nat} (hσ : σ < 8) (hη : η ≤ 5) (hβ : β < 100) (e : gT g σ = nI (10 + η)) (e2 : gY g σ = nI β) : layV v g (nI σ) = hAR v η β := by
  unfold layV
  rw [if_pos (nh_hold hσ hη e e2), kd_hold hσ hη e e2, (sh_hold hσ hη e e2).2.2.2.2.2.2.2, clN (by omega), clN (by omega)]
def Fx (h h9 : Hp) (k : Nat) (v : Vg) (g : Sg) (zz : Nat) (B : Nat → Int32) : Prop := Fk h h9 k v g zz ∧ ∀ i, i < 250 → xI h9 (k + 16) i = B i
theorem Fx.t {h h9 : Hp} {k j zz : Nat} {v : Vg} {g : Sg} {B : Nat → Int32} {x : Int32} (a : Fx h h9 k v g zz B) : Fx h (sI h9 (k + 16) j x) k v g zz (sf B j x) :=
  ⟨a.1.t, fun i hi => by rw [sI_at, a.2 i hi]; rfl⟩
theorem Fx.z {h h9 : Hp} {k zz z' : Nat} {v : Vg} {g : Sg} {B : Nat → Int32} (a : Fx h h9 k v g zz B) : Fx h (sI h9 k 8 (nI z')) k v g z' B :=
  ⟨a.1.z, fun i hi => by rw [sI_ne (by omega)]; exact a.2 i hi⟩
theorem Md.z0x {h : Hp} {P : List Nat} {k z : Nat} {v ω : Vg} {g : Sg} {κ τ : Bool} {Bt : Nat → Int32} (M : Md h P k v g z κ τ) (x0 : XT h k κ ω Bt) : XT (sI h k 8 (nI 0)) k κ ω Bt :=
  ⟨fun i hi => by rw [sI_ne (by omega)]; exact x0.1 i hi, fun e => by
    obtain ⟨c, e1, m⟩ := x0.2 e
    exact ⟨c, e1, m.fr (Fr.sI (lo := k) (hi := k + 1) (by omega) (by omega)) (by have := (M.kc e1).1; omega)⟩⟩
set_option maxHeartbeats 4000000 in
theorem q_refuse {l : Launch} {h : Hp} {k : Nat} {v : Vg} (hm : MilAt h k v) {x : Int32} {j : Nat} (e : -x = nI j) (hj : j < 8) : Ms l yX7_refuse cX7_refuse 2 (some .int) 1 [vr 7 k, vi x] h (xK h) (fun r h' => r = some (vi x) ∧ MilAt h' k v ∧ Kq k h h') := by
  refine Ms.of (by decide) (Nat.le_of_ble_eq_true rfl) (fun G C X F => ?_)
  have C : Cx G cX7_refuse 2 RX7 := C
  show Rr G 0 [(0, vr 7 k), (1, vi x)] [] h
  have bP := hm.bP
  have bM := hm.bM
  have bN := hm.bN
  refine r_aload_n C (dx dX7_refuse 0 rfl) rfl ?_
  refine g_X7_37 C (dx dX7_refuse 1 rfl) ?_
  refine r_iload_n C (dx dX7_refuse 2 rfl) rfl ?_
  refine r_ineg C (dx dX7_refuse 3 rfl) ?_
  refine r_dup2 C (dx dX7_refuse 4 rfl) ?_
  refine r_iald (j := (-x).toNatClampNeg) (x := xI h (k + 17) ((-x).toNatClampNeg)) C rfl rfl (by decide) (by rw [e, clN (by omega)]) (by rw [e, clN (by omega)]; exact hj) (dx dX7_refuse 5 rfl) rfl ?_
  refine r_iconst (v := nI 1) C (dx dX7_refuse 6 rfl) rfl ?_
  refine r_iadd C (dx dX7_refuse 7 rfl) ?_
  refine r_iast (j := (-x).toNatClampNeg) C rfl rfl (by decide) (by rw [e, clN (by omega)]) (by rw [e, clN (by omega)]; exact hj) (dx dX7_refuse 8 rfl) ?_
  have mh1 : MilAt (sI h (k + 17) ((-x).toNatClampNeg) ((xI h (k + 17) ((-x).toNatClampNeg)) + (nI 1))) k v := hm.fr (Fr.sI (lo := k + 17) (hi := k + 18) (by omega) (by omega)) (by omega)
  have ph1 : Kq k h (sI h (k + 17) ((-x).toNatClampNeg) ((xI h (k + 17) ((-x).toNatClampNeg)) + (nI 1))) := Kq.c (by omega) (by omega)
  have kh1 : xK (sI h (k + 17) ((-x).toNatClampNeg) ((xI h (k + 17) ((-x).toNatClampNeg)) + (nI 1))) = xK h := rfl
  generalize sI h (k + 17) ((-x).toNatClampNeg) ((xI h (k + 17) ((-x).toNatClampNeg)) + (nI 1)) = h1 at mh1 ph1 kh1 ⊢
  refine r_iload_n C (dx dX7_refuse 9 rfl) rfl ?_
  exact F.1 _ _ _ _ .int rfl rfl (dx dX7_refuse 10 rfl) kh1 ⟨rfl, by exact mh1, ph1⟩
set_option maxHeartbeats 4000000 in
theorem q_takeFrom {l : Launch} {h : Hp} {k : Nat} {v : Vg} (hm : MilAt h k v) {b : Nat} {w : Vg} (hw : MilAt h b w) (hd : k + 32 ≤ b ∨ b + 32 ≤ k) : Ms l yX7_takeFrom cX7_takeFrom 3 none 2 [vr 7 k, vr 7 b] h (xK h) (fun r h' => r = none ∧ MilAt h' k w ∧ Kq k h h') := by
  refine Ms.of (by decide) (Nat.le_of_ble_eq_true rfl) (fun G C X F => ?_)
  have C : Cx G cX7_takeFrom 3 RX7 := C
  show Rr G 0 [(0, vr 7 k), (1, vr 7 b)] [] h
  have bP := hm.bP
  have bM := hm.bM
  have bN := hm.bN
  have q0 : ¬ VC k b := by unfold VC; omega
  have q1 : un (VC k) (b + 18) (b + 31) := fun a h1 h2 => by unfold VC; omega
  refine r_aload_n C (dx dX7_takeFrom 0 rfl) rfl ?_
  refine r_aload_n C (dx dX7_takeFrom 1 rfl) rfl ?_
  refine g_X7_64 (x := nI (vP w)) C (dx dX7_takeFrom 2 rfl) hw.eP ?_
  refine p_X7_64 C (dx dX7_takeFrom 3 rfl) rfl rfl ?_
  have mh1 : MilAt (sI h k 10 (nI (vP w))) k (vsP v (vP w)) := hm.sP (n := vP w) hw.bP
  have ph1 : Kq k h (sI h k 10 (nI (vP w))) := Kq.f (by decide)
  have kh1 : xK (sI h k 10 (nI (vP w))) = xK h := rfl
  generalize sI h k 10 (nI (vP w)) = h1 at mh1 ph1 kh1 ⊢
  have bh1 : MilAt h1 b w := hw.ag ph1.1.2.2 q0 q1
  refine r_aload_n C (dx dX7_takeFrom 4 rfl) rfl ?_
  refine g_X7_40 C (dx dX7_takeFrom 5 rfl) ?_
  refine r_aload_n C (dx dX7_takeFrom 6 rfl) rfl ?_
  refine g_X7_40 C (dx dX7_takeFrom 7 rfl) ?_
  refine r_cs (as := [vr 20 (b + 18), vr 20 (k + 18)]) (st := []) C X I_X7_over l_X7_350 (c_over20 (show b + 18 ≠ k + 18 by omega)) (by decide) (Nat.le_of_ble_eq_true rfl) List.prefix_rfl (pfx_eq kh1) (Nat.le_of_ble_eq_true rfl) rfl (dx dX7_takeFrom 8 rfl) ?_
  rintro _ h2 ⟨rfl, qh2, fh2⟩ kkh2
  have mh2 : MilAt h2 k (vcp (vsP v (vP w)) 0 w) := mh1.o0 fh2 (fun i hi => (qh2 i hi).trans (bh1.e0 hi))
  have ph2 : Kq k h h2 := ph1.tr (Kq.fr fh2 (by omega) (by omega))
  have kh2 : xK h2 = xK h := (kkh2).trans kh1
  have bh2 : MilAt h2 b w := hw.ag ph2.1.2.2 q0 q1
  refine r_aload_n C (dx dX7_takeFrom 9 rfl) rfl ?_
  refine g_X7_43 C (dx dX7_takeFrom 10 rfl) ?_
  refine r_aload_n C (dx dX7_takeFrom 11 rfl) rfl ?_
  refine g_X7_43 C (dx dX7_takeFrom 12 rfl) ?_
  refine r_cs (as := [vr 20 (b + 19), vr 20 (k + 19)]) (st := []) C X I_X7_over l_X7_350 (c_over20 (show b + 19 ≠ k + 19 by omega)) (by decide) (Nat.le_of_ble_eq_true rfl) List.prefix_rfl (pfx_eq kh2) (Nat.le_of_ble_eq_true rfl) rfl (dx dX7_takeFrom 13 rfl) ?_
  rintro _ h3 ⟨rfl, qh3, fh3⟩ kkh3
  have mh3 : MilAt h3 k (vcp (vcp (vsP v (vP w)) 0 w) 1 w) := mh2.o1 fh3 (fun i hi => (qh3 i hi).trans (bh2.e1 hi))
  have ph3 : Kq k h h3 := ph2.tr (Kq.fr fh3 (by omega) (by omega))
  have kh3 : xK h3 = xK h := (kkh3).trans kh2
  have bh3 : MilAt h3 b w := hw.ag ph3.1.2.2 q0 q1
  refine r_aload_n C (dx dX7_takeFrom 14 rfl) rfl ?_
  refine r_aload_n C (dx dX7_takeFrom 15 rfl) rfl ?_
  refine g_X7_71 (x := nI (vM w)) C (dx dX7_takeFrom 16 rfl) bh3.eM ?_
  refine p_X7_71 C (dx dX7_takeFrom 17 rfl) rfl rfl ?_
  have mh4 : MilAt (sI h3 k 13 (nI (vM w))) k (vsM (vcp (vcp (vsP v (vP w)) 0 w) 1 w) (vM w)) := mh3.sM (n := vM w) hw.bM
  have ph4 : Kq k h (sI h3 k 13 (nI (vM w))) := ph3.tr (Kq.f (by decide))
  have kh4 : xK (sI h3 k 13 (nI (vM w))) = xK h := kh3
  generalize sI h3 k 13 (nI (vM w)) = h4 at mh4 ph4 kh4 ⊢
  have bh4 : MilAt h4 b w := hw.ag ph4.1.2.2 q0 q1
  refine r_aload_n C (dx dX7_takeFrom 18 rfl) rfl ?_
  refine g_X7_46 C (dx dX7_takeFrom 19 rfl) ?_
  refine r_aload_n C (dx dX7_takeFrom 20 rfl) rfl ?_
  refine g_X7_46 C (dx dX7_takeFrom 21 rfl) ?_
  refine r_cs (as := [vr 21 (b + 20), vr 21 (k + 20)]) (st := []) C X I_X7_over l_X7_350 (c_over21 (show b + 20 ≠ k + 20 by omega)) (by decide) (Nat.le_of_ble_eq_true rfl) List.prefix_rfl (pfx_eq kh4) (Nat.le_of_ble_eq_true rfl) rfl (dx dX7_takeFrom 22 rfl) ?_
  rintro _ h5 ⟨rfl, qh5, fh5⟩ kkh5
  have mh5 : MilAt h5 k (vcp (vsM (vcp (vcp (vsP v (vP w)) 0 w) 1 w) (vM w)) 2 w) := mh4.o2 fh5 (fun i hi => (qh5 i hi).trans (bh4.e2 hi))
  have ph5 : Kq k h h5 := ph4.tr (Kq.fr fh5 (by omega) (by omega))
  have kh5 : xK h5 = xK h := (kkh5).trans kh4
  have bh5 : MilAt h5 b w := hw.ag ph5.1.2.2 q0 q1
  refine r_aload_n C (dx dX7_takeFrom 23 rfl) rfl ?_
  refine g_X7_49 C (dx dX7_takeFrom 24 rfl) ?_
  refine r_aload_n C (dx dX7_takeFrom 25 rfl) rfl ?_
  refine g_X7_49 C (dx dX7_takeFrom 26 rfl) ?_
  refine r_cs (as := [vr 21 (b + 21), vr 21 (k + 21)]) (st := []) C X I_X7_over l_X7_350 (c_over21 (show b + 21 ≠ k + 21 by omega)) (by decide) (Nat.le_of_ble_eq_true rfl) List.prefix_rfl (pfx_eq kh5) (Nat.le_of_ble_eq_true rfl) rfl (dx dX7_takeFrom 27 rfl) ?_
  rintro _ h6 ⟨rfl, qh6, fh6⟩ kkh6
  have mh6 : MilAt h6 k (vcp (vcp (vsM (vcp (vcp (vsP v (vP w)) 0 w) 1 w) (vM w)) 2 w) 3 w) := mh5.o3 fh6 (fun i hi => (qh6 i hi).trans (bh5.e3 hi))
  have ph6 : Kq k h h6 := ph5.tr (Kq.fr fh6 (by omega) (by omega))
  have kh6 : xK h6 = xK h := (kkh6).trans kh5
  have bh6 : MilAt h6 b w := hw.ag ph6.1.2.2 q0 q1
  refine r_aload_n C (dx dX7_takeFrom 28 rfl) rfl ?_
  refine r_aload_n C (dx dX7_takeFrom 29 rfl) rfl ?_
  refine g_X7_74 (x := nI (vN w)) C (dx dX7_takeFrom 30 rfl) bh6.eN ?_
  refine p_X7_74 C (dx dX7_takeFrom 31 rfl) rfl rfl ?_
  have mh7 : MilAt (sI h6 k 16 (nI (vN w))) k (vsN (vcp (vcp (vsM (vcp (vcp (vsP v (vP w)) 0 w) 1 w) (vM w)) 2 w) 3 w) (vN w)) := mh6.sN (n := vN w) hw.bN
  have ph7 : Kq k h (sI h6 k 16 (nI (vN w))) := ph6.tr (Kq.f (by decide))
  have kh7 : xK (sI h6 k 16 (nI (vN w))) = xK h := kh6
  generalize sI h6 k 16 (nI (vN w)) = h7 at mh7 ph7 kh7 ⊢
  have bh7 : MilAt h7 b w := hw.ag ph7.1.2.2 q0 q1
  refine r_iconst (v := nI 0) C (dx dX7_takeFrom 32 rfl) rfl ?_
  refine r_istore_n (ls' := [(0, vr 7 k), (1, vr 7 b), (2, vi (nI 0))]) C (dx dX7_takeFrom 33 rfl) (by decide) [1, 2, 0] rfl ?_
  refine loopU (Φ := fun p => ∀ h9, MilAt h9 k (vrow (vsN (vcp (vcp (vsM (vcp (vcp (vsP v (vP w)) 0 w) 1 w) (vM w)) 2 w) 3 w) (vN w)) w p) → Kq k h h9 → xK h9 = xK h → Rr G 70 [(0, vr 7 k), (1, vr 7 b), (2, vi (nI p))] [] h9) (N := 8) ?_ ?_ 0 (by omega) _ mh7.r0 ph7 kh7
  ·
    intro h9 m9 p9 k9
    have b9 : MilAt h9 b w := hw.ag p9.1.2.2 q0 q1
    refine r_iload_n C (dx dX7_takeFrom 34 rfl) rfl ?_
    refine r_bipush (v := nI 8) C (dx dX7_takeFrom 35 rfl) rfl ?_
    refine rn_ge (a := 8) (b := 8) (tgt := 97) C (by omega) (by omega) (dx dX7_takeFrom 36 rfl) (by decide) (fun c8 => ?_) (fun c8 => ?_)
    · first
      | (omega; done)
      | (
          have c8 : 8 ≤ 8 := c8
          refine r_aload_n C (dx dX7_takeFrom 48 rfl) rfl ?_
          refine r_aload_n C (dx dX7_takeFrom 49 rfl) rfl ?_
          refine g_X7_339 (x := xI h9 b 18) C (dx dX7_takeFrom 50 rfl) rfl ?_
          refine p_X7_339 C (dx dX7_takeFrom 51 rfl) rfl rfl ?_
          have mh9 : MilAt (sI h9 k 18 (xI h9 b 18)) k (vrow (vsN (vcp (vcp (vsM (vcp (vcp (vsP v (vP w)) 0 w) 1 w) (vM w)) 2 w) 3 w) (vN w)) w 8) := m9.f (by decide) (by decide) (by decide) (by decide)
          have ph9 : Kq k h (sI h9 k 18 (xI h9 b 18)) := p9.tr (Kq.f (by decide))
          have kh9 : xK (sI h9 k 18 (xI h9 b 18)) = xK h := k9
          generalize sI h9 k 18 (xI h9 b 18) = h9 at mh9 ph9 kh9 ⊢
          have bh9 : MilAt h9 b w := hw.ag ph9.1.2.2 q0 q1
          refine r_aload_n C (dx dX7_takeFrom 52 rfl) rfl ?_
          refine r_aload_n C (dx dX7_takeFrom 53 rfl) rfl ?_
          refine g_X7_347 (x := xI h9 b 19) C (dx dX7_takeFrom 54 rfl) rfl ?_
          refine p_X7_347 C (dx dX7_takeFrom 55 rfl) rfl rfl ?_
          have mh10 : MilAt (sI h9 k 19 (xI h9 b 19)) k (vrow (vsN (vcp (vcp (vsM (vcp (vcp (vsP v (vP w)) 0 w) 1 w) (vM w)) 2 w) 3 w) (vN w)) w 8) := mh9.f (by decide) (by decide) (by decide) (by decide)
          have ph10 : Kq k h (sI h9 k 19 (xI h9 b 19)) := ph9.tr (Kq.f (by decide))
          have kh10 : xK (sI h9 k 19 (xI h9 b 19)) = xK h := kh9
          generalize sI h9 k 19 (xI h9 b 19) = h10 at mh10 ph10 kh10 ⊢
          have bh10 : MilAt h10 b w := hw.ag ph10.1.2.2 q0 q1
          refine r_aload_n C (dx dX7_takeFrom 56 rfl) rfl ?_
          refine r_aload_n C (dx dX7_takeFrom 57 rfl) rfl ?_
          refine g_X7_57 (x := vS w) C (dx dX7_takeFrom 58 rfl) bh10.eS ?_
          refine p_X7_57 C (dx dX7_takeFrom 59 rfl) rfl rfl ?_
          have mh11 : MilAt (sI h10 k 20 (vS w)) k (vsS (vrow (vsN (vcp (vcp (vsM (vcp (vcp (vsP v (vP w)) 0 w) 1 w) (vM w)) 2 w) 3 w) (vN w)) w 8) (vS w)) := mh10.sS (x := vS w)
          have ph11 : Kq k h (sI h10 k 20 (vS w)) := ph10.tr (Kq.f (by decide))
          have kh11 : xK (sI h10 k 20 (vS w)) = xK h := kh10
          generalize sI h10 k 20 (vS w) = h11 at mh11 ph11 kh11 ⊢
          have bh11 : MilAt h11 b w := hw.ag ph11.1.2.2 q0 q1
          exact F.2.2.1 _ _ _ rfl (dx dX7_takeFrom 60 rfl) kh11 ⟨rfl, mh11.to rfl rfl rfl rfl (fun _ => rfl) (fun _ => rfl) (fun _ => rfl) (fun _ => rfl) (fun o ho c hc => if_pos ⟨by omega, ho⟩), ph11⟩)
    · first
      | (omega; done)
  ·
    intro p hp ih h9 m9 p9 k9
    have b9 : MilAt h9 b w := hw.ag p9.1.2.2 q0 q1
    refine r_iload_n C (dx dX7_takeFrom 34 rfl) rfl ?_
    refine r_bipush (v := nI 8) C (dx dX7_takeFrom 35 rfl) rfl ?_
    refine rn_ge (a := p) (b := 8) (tgt := 97) C (by omega) (by omega) (dx dX7_takeFrom 36 rfl) (by decide) (fun c13 => ?_) (fun c13 => ?_)
    · first
      | (omega; done)
      | (
          have c13 : 8 ≤ p := c13
          refine r_aload_n C (dx dX7_takeFrom 48 rfl) rfl ?_
          refine r_aload_n C (dx dX7_takeFrom 49 rfl) rfl ?_
          refine g_X7_339 (x := xI h9 b 18) C (dx dX7_takeFrom 50 rfl) rfl ?_
          refine p_X7_339 C (dx dX7_takeFrom 51 rfl) rfl rfl ?_
          have mh14 : MilAt (sI h9 k 18 (xI h9 b 18)) k (vrow (vsN (vcp (vcp (vsM (vcp (vcp (vsP v (vP w)) 0 w) 1 w) (vM w)) 2 w) 3 w) (vN w)) w p) := m9.f (by decide) (by decide) (by decide) (by decide)
          have ph14 : Kq k h (sI h9 k 18 (xI h9 b 18)) := p9.tr (Kq.f (by decide))
          have kh14 : xK (sI h9 k 18 (xI h9 b 18)) = xK h := k9
          generalize sI h9 k 18 (xI h9 b 18) = h14 at mh14 ph14 kh14 ⊢
          have bh14 : MilAt h14 b w := hw.ag ph14.1.2.2 q0 q1
          refine r_aload_n C (dx dX7_takeFrom 52 rfl) rfl ?_
          refine r_aload_n C (dx dX7_takeFrom 53 rfl) rfl ?_
          refine g_X7_347 (x := xI h14 b 19) C (dx dX7_takeFrom 54 rfl) rfl ?_
          refine p_X7_347 C (dx dX7_takeFrom 55 rfl) rfl rfl ?_
          have mh15 : MilAt (sI h14 k 19 (xI h14 b 19)) k (vrow (vsN (vcp (vcp (vsM (vcp (vcp (vsP v (vP w)) 0 w) 1 w) (vM w)) 2 w) 3 w) (vN w)) w p) := mh14.f (by decide) (by decide) (by decide) (by decide)
          have ph15 : Kq k h (sI h14 k 19 (xI h14 b 19)) := ph14.tr (Kq.f (by decide))
          have kh15 : xK (sI h14 k 19 (xI h14 b 19)) = xK h := kh14
          generalize sI h14 k 19 (xI h14 b 19) = h15 at mh15 ph15 kh15 ⊢
          have bh15 : MilAt h15 b w := hw.ag ph15.1.2.2 q0 q1
          refine r_aload_n C (dx dX7_takeFrom 56 rfl) rfl ?_
          refine r_aload_n C (dx dX7_takeFrom 57 rfl) rfl ?_
          refine g_X7_57 (x := vS w) C (dx dX7_takeFrom 58 rfl) bh15.eS ?_
          refine p_X7_57 C (dx dX7_takeFrom 59 rfl) rfl rfl ?_
          have mh16 : MilAt (sI h15 k 20 (vS w)) k (vsS (vrow (vsN (vcp (vcp (vsM (vcp (vcp (vsP v (vP w)) 0 w) 1 w) (vM w)) 2 w) 3 w) (vN w)) w p) (vS w)) := mh15.sS (x := vS w)
          have ph16 : Kq k h (sI h15 k 20 (vS w)) := ph15.tr (Kq.f (by decide))
          have kh16 : xK (sI h15 k 20 (vS w)) = xK h := kh15
          generalize sI h15 k 20 (vS w) = h16 at mh16 ph16 kh16 ⊢
          have bh16 : MilAt h16 b w := hw.ag ph16.1.2.2 q0 q1
          exact F.2.2.1 _ _ _ rfl (dx dX7_takeFrom 60 rfl) kh16 ⟨rfl, mh16.to rfl rfl rfl rfl (fun _ => rfl) (fun _ => rfl) (fun _ => rfl) (fun _ => rfl) (fun o ho c hc => if_pos ⟨by omega, ho⟩), ph16⟩)
    · first
      | (omega; done)
      | (
          have c13 : p < 8 := c13
          refine r_aload_n C (dx dX7_takeFrom 37 rfl) rfl ?_
          refine g_X7_54 C (dx dX7_takeFrom 38 rfl) ?_
          refine r_iload_n C (dx dX7_takeFrom 39 rfl) rfl ?_
          refine r_aald4 (j := p) C rfl rfl (by decide) rfl (by omega) (dx dX7_takeFrom 40 rfl) ?_
          refine r_aload_n C (dx dX7_takeFrom 41 rfl) rfl ?_
          refine g_X7_54 C (dx dX7_takeFrom 42 rfl) ?_
          refine r_iload_n C (dx dX7_takeFrom 43 rfl) rfl ?_
          refine r_aald4 (j := p) C rfl rfl (by decide) rfl (by omega) (dx dX7_takeFrom 44 rfl) ?_
          refine r_cs (as := [vr 27 (b + 23 + p), vr 27 (k + 23 + p)]) (st := []) C X I_X7_over l_X7_350 (c_over27 (show b + 23 + p ≠ k + 23 + p by omega)) (by decide) (Nat.le_of_ble_eq_true rfl) List.prefix_rfl (pfx_eq k9) (Nat.le_of_ble_eq_true rfl) rfl (dx dX7_takeFrom 45 rfl) ?_
          rintro _ h17 ⟨rfl, qh17, fh17⟩ kkh17
          have mh17 : MilAt h17 k (vrow (vsN (vcp (vcp (vsM (vcp (vcp (vsP v (vP w)) 0 w) 1 w) (vM w)) 2 w) 3 w) (vN w)) w (p + 1)) := m9.rs fh17 (fun i hi => (qh17 i hi).trans (b9.eo (by omega) hi))
          have ph17 : Kq k h h17 := p9.tr (Kq.fr fh17 (by omega) (by omega))
          have kh17 : xK h17 = xK h := (kkh17).trans k9
          have bh17 : MilAt h17 b w := hw.ag ph17.1.2.2 q0 q1
          refine rn_iinc (a := p) (k := 1) (ls' := [(0, vr 7 k), (1, vr 7 b), (2, vi (nI (p + 1)))]) C (dx dX7_takeFrom 46 rfl) rfl rfl (by decide) [1, 2, 0] rfl ?_
          refine r_goto (tgt := 70) C (dx dX7_takeFrom 47 rfl) (by decide) ?_
          exact ih _ mh17 ph17 kh17)
set_option maxHeartbeats 4000000 in
theorem y_village {l : Launch} {h : Hp} {P : List Nat} {k z : Nat} {v : Vg} {g : Sg} {κ τ : Bool} {ω : Vg} {Bt : Nat → Int32} (M : Md h P k v g z κ τ) (x0 : XT h k κ ω Bt)  : Ms l yX7_village cX7_village 3 (some .int) 12 [vr 7 k] h (AL P κ true) (fun r h' => r = some (vi (vlA Bt z v)) ∧ Md h' P k (vlV Bt z v) g 0 κ true ∧ Lo k h h' ∧ XT h' k κ ω Bt) := by
  refine Ms.of (by decide) (Nat.le_of_ble_eq_true rfl) (fun G C X F => ?_)
  have C : Cx G cX7_village 3 RX7 := C
  show Rr G 0 [(0, vr 7 k)] [] h
  have hm := M.1
  have hs := M.2.1
  have al := M.al
  have hk7 := M.hk
  have bP := hm.bP
  have bM := hm.bM
  have bN := hm.bN
  refine r_aload_n C (dx dX7_village 0 rfl) rfl ?_
  refine r_cv (as := []) (st := []) C X I_X7_fresh l_X7_102 (e_fresh M x0) (by decide) (Nat.le_of_ble_eq_true rfl) (by rw [M.al]; exact AL_pre id (fun _ => rfl)) (by first | exact List.prefix_rfl | (rw [al]; exact AL_pre id (fun _ => rfl))) rfl rfl (Nat.le_of_ble_eq_true rfl) rfl (dx dX7_village 1 rfl) ?_
  rintro _ hF ⟨b, rfl, ebF, BF, MF, hb, hlF, loF, xF⟩ kF
  refine r_astore_n (ls' := [(0, vr 7 k), (1, vr 7 b)]) C (dx dX7_village 2 rfl) (by decide) [1, 0] rfl ?_
  refine r_aload_n C (dx dX7_village 3 rfl) rfl ?_
  refine r_cv (as := []) (st := []) C X I_X7_readAll l_X7_234 (e_readAll MF.1 MF.e8 MF.bz (fun i hi => xF.1 i hi)) (by decide) (Nat.le_of_ble_eq_true rfl) List.prefix_rfl (pfx_eq kF) rfl rfl (Nat.le_of_ble_eq_true rfl) rfl (dx dX7_village 4 rfl) ?_
  rintro _ h1 ⟨bh1, rfl, gh1⟩ kkh1
  have qh1 : Kp k hF h1 := gh1.2.2.2.2.1
  have Bh1 := BF.fr (Fr.vc qh1) (by omega)
  have xh1 := xF.kp MF qh1
  have loh1 : Lo k h h1 := loF.tr (Lo.fr (Fr.vc qh1) (Nat.le_refl _))
  have kh1 := kkh1.trans kF
  have dh1 : bh1 = decide (¬ (vlW Bt z v).1 = -1) := gh1.1
  rcases Bool.eq_false_or_eq_true bh1 with cb | cb
  ·
    obtain ⟨mh1, wh1⟩ := gh1.2.2.1 cb
    have W9 : ¬ (vlW Bt z v).1 = -1 := of_decide_eq_true (dh1.symm.trans cb)
    have Mh1 : Md h1 P k ((vlW Bt z v).2.2) g z κ true := MF.kp mh1 qh1 kkh1
    rw [cb]
    refine r_istore_n (ls' := [(0, vr 7 k), (1, vr 7 b), (2, vi (b2i true))]) C (dx dX7_village 5 rfl) (by decide) [1, 2, 0] rfl ?_
    refine r_aload_n C (dx dX7_village 6 rfl) rfl ?_
    refine r_iconst (v := nI 0) C (dx dX7_village 7 rfl) rfl ?_
    refine p_X7_138 C (dx dX7_village 8 rfl) rfl rfl ?_
    have Mh2 := Mh1.z0
    have xh2 := Mh1.z0x xh1
    have Bh2 : MilAt (sI h1 k 8 (nI 0)) b v := Bh1.fr (Fr.sI (lo := k) (hi := k + 1) (by omega) (by omega)) (by omega)
    have loh2 : Lo k h (sI h1 k 8 (nI 0)) := loh1.tr (Lo.sI (Nat.le_refl _))
    have kh2 : xK (sI h1 k 8 (nI 0)) = AL P κ true := kh1
    have fh2 : xI (sI h1 k 8 (nI 0)) k 29 = (vlW Bt z v).1 := by rw [sI_at, if_neg (by decide)]; exact wh1
    generalize sI h1 k 8 (nI 0) = h2 at Mh2 Bh2 loh2 kh2 xh2 fh2 ⊢
    refine r_iload_n C (dx dX7_village 9 rfl) rfl ?_
    refine rb_ne (b := true) (tgt := 39) C (dx dX7_village 10 rfl) (by decide) (fun c3 => ?_) (fun c3 => ?_)
    ·
      have c3 : true = true := c3
      refine r_aload_n C (dx dX7_village 23 rfl) rfl ?_
      refine g_X7_228 (x := (vlW Bt z v).1) C (dx dX7_village 24 rfl) fh2 ?_
      have eA : vlA Bt z v = (vlW Bt z v).1 := by unfold vlA; rw [if_neg W9]
      have eV : vlV Bt z v = (vlW Bt z v).2.2 := by unfold vlV; rw [if_neg W9]
      exact F.1 _ _ _ _ .int rfl rfl (dx dX7_village 25 rfl) kh2 ⟨by rw [eA], by rw [eV]; exact Mh2, loh2, xh2⟩
    · exact absurd c3 (by decide)
  ·
    obtain ⟨vh1, mh1⟩ := gh1.2.1
    have wh1 : xI h1 k 27 = nI (vlW Bt z v).2.1.2.1 := gh1.2.2.2.1 cb
    have W9 : (vlW Bt z v).1 = -1 := Classical.not_not.mp (of_decide_eq_false (dh1.symm.trans cb))
    have Mh1 : Md h1 P k vh1 g z κ true := MF.kp mh1 qh1 kkh1
    rw [cb]
    refine r_istore_n (ls' := [(0, vr 7 k), (1, vr 7 b), (2, vi (b2i false))]) C (dx dX7_village 5 rfl) (by decide) [1, 2, 0] rfl ?_
    refine r_aload_n C (dx dX7_village 6 rfl) rfl ?_
    refine r_iconst (v := nI 0) C (dx dX7_village 7 rfl) rfl ?_
    refine p_X7_138 C (dx dX7_village 8 rfl) rfl rfl ?_
    have Mh4 := Mh1.z0
    have xh4 := Mh1.z0x xh1
    have Bh4 : MilAt (sI h1 k 8 (nI 0)) b v := Bh1.fr (Fr.sI (lo := k) (hi := k + 1) (by omega) (by omega)) (by omega)
    have loh4 : Lo k h (sI h1 k 8 (nI 0)) := loh1.tr (Lo.sI (Nat.le_refl _))
    have kh4 : xK (sI h1 k 8 (nI 0)) = AL P κ true := kh1
    have fh4 : xI (sI h1 k 8 (nI 0)) k 27 = nI (vlW Bt z v).2.1.2.1 := by rw [sI_at, if_neg (by decide)]; exact wh1
    generalize sI h1 k 8 (nI 0) = h4 at Mh4 Bh4 loh4 kh4 xh4 fh4 ⊢
    refine r_iload_n C (dx dX7_village 9 rfl) rfl ?_
    refine rb_ne (b := false) (tgt := 39) C (dx dX7_village 10 rfl) (by decide) (fun c5 => ?_) (fun c5 => ?_)
    · exact absurd c5 (by decide)
    ·
      have c5 : false = false := c5
      refine r_aload_n C (dx dX7_village 11 rfl) rfl ?_
      refine r_aload_n C (dx dX7_village 12 rfl) rfl ?_
      refine r_cv (as := [vr 7 b]) (st := []) C X I_X7_takeFrom l_X7_237 (q_takeFrom Mh4.1 Bh4 (by omega)) (by decide) (Nat.le_of_ble_eq_true rfl) List.prefix_rfl (pfx_eq kh4) rfl rfl (Nat.le_of_ble_eq_true rfl) rfl (dx dX7_village 13 rfl) ?_
      rintro _ h6 ⟨rfl, mh6, qh6⟩ kkh6
      have Mh6 := Mh4.kp mh6 qh6.1 kkh6
      have xh6 := xh4.kp Mh4 qh6.1
      have fh6 := qh6.2.trans fh4
      have loh6 : Lo k h h6 := loh4.tr (Lo.fr (Fr.vc qh6.1) (Nat.le_refl _))
      have kh6 := kkh6.trans kh4
      refine r_aload_n C (dx dX7_village 14 rfl) rfl ?_
      refine r_bipush (v := -2) C (dx dX7_village 15 rfl) rfl ?_
      refine r_cv (as := [vi (-2)]) (st := []) C X I_X7_refuse l_X7_83 (q_refuse Mh6.1 (x := -2) (j := 2) (by decide) (by decide)) (by decide) (Nat.le_of_ble_eq_true rfl) List.prefix_rfl (pfx_eq kh6) rfl rfl (Nat.le_of_ble_eq_true rfl) rfl (dx dX7_village 16 rfl) ?_
      rintro _ h7 ⟨rfl, mh7, qh7⟩ kkh7
      have Mh7 := Mh6.kp mh7 qh7.1 kkh7
      have xh7 := xh6.kp Mh6 qh7.1
      have fh7 := qh7.2.trans fh6
      have loh7 : Lo k h h7 := Lo.tr loh6 (Lo.fr (Fr.vc qh7.1) (Nat.le_refl _))
      have kh7 := kkh7.trans kh6
      refine r_popI C (dx dX7_village 17 rfl) ?_
      refine r_bipush (v := -20) C (dx dX7_village 18 rfl) rfl ?_
      refine r_aload_n C (dx dX7_village 19 rfl) rfl ?_
      refine g_X7_164 (x := nI ((vlW Bt z v).2.1.2.1)) C (dx dX7_village 20 rfl) fh7 ?_
      refine r_isub C (dx dX7_village 21 rfl) ?_
      have eA : vlA Bt z v = (-20) - (nI ((vlW Bt z v).2.1.2.1)) := by unfold vlA; rw [if_pos W9]
      have eV : vlV Bt z v = v := by unfold vlV; rw [if_pos W9]
      exact F.1 _ _ _ _ .int rfl rfl (dx dX7_village 22 rfl) kh7 ⟨by rw [eA], by rw [eV]; exact Mh7, loh7, xh7⟩
set_option maxHeartbeats 4000000 in
theorem y_feed {l : Launch} {h : Hp} {P : List Nat} {k z : Nat} {v : Vg} {g : Sg} {κ τ : Bool} {ω : Vg} {Bt : Nat → Int32} (M : Md h P k v g z κ τ) (x0 : XT h k κ ω Bt) (x n : Int32) : Ms l yX7_feed cX7_feed 4 (some .int) 4 [vr 7 k, vi x, vi n] h (xK h) (fun r h' => r = some (vi (feedA z n)) ∧ Md h' P k v g (feedZ z n) κ τ ∧ Lo k h h' ∧ XT h' k κ ω (feedB Bt z x n)) := by
  refine Ms.of (by decide) (Nat.le_of_ble_eq_true rfl) (fun G C X F => ?_)
  have C : Cx G cX7_feed 4 RX7 := C
  show Rr G 0 [(0, vr 7 k), (1, vi x), (2, vi n)] [] h
  have hm := M.1
  have hs := M.2.1
  have al := M.al
  have hk7 := M.hk
  have bP := hm.bP
  have bM := hm.bM
  have bN := hm.bN
  have hz := M.bz
  refine r_iload_n C (dx dX7_feed 0 rfl) rfl ?_
  refine r_i2l C (dx dX7_feed 1 rfl) ?_
  refine r_lconst (v := 1) C (dx dX7_feed 2 rfl) rfl ?_
  refine r_ldc2 C n_X7_79 (dx dX7_feed 3 rfl) ?_
  refine r_csP (as := [vl n.toInt64, vl 1, vl 4]) (st := []) (v := vi (b2i (btwB n 1 4))) C X I_X7_in l_X7_67 (c_inB (a := 1) (b := 4) (by decide) (by decide)) (by decide) (Nat.le_of_ble_eq_true rfl) (pfx_eq rfl) (Nat.le_of_ble_eq_true rfl) rfl (dx dX7_feed 4 rfl) ?_
  refine rb_ne (b := btwB n 1 4) (tgt := 19) C (dx dX7_feed 5 rfl) (by decide) (fun c1 => ?_) (fun c1 => ?_)
  ·
    have c1 : (btwB n 1 4) = true := c1
    obtain ⟨ν, hν, hν2, rfl⟩ := btw_ex (a := 1) (b := 4) (by omega) (by omega) c1
    refine r_iload_n C (dx dX7_feed 10 rfl) rfl ?_
    refine r_sipush (v := nI 250) C (dx dX7_feed 11 rfl) rfl ?_
    refine r_aload_n C (dx dX7_feed 12 rfl) rfl ?_
    refine g_X7_138 (x := nI z) C (dx dX7_feed 13 rfl) M.e8 ?_
    refine rn_isub (a := 250) (b := z) C (by omega) (dx dX7_feed 14 rfl) ?_
    refine rn_le (a := ν) (b := 250 - z) (tgt := 38) C (by omega) (by omega) (dx dX7_feed 15 rfl) (by decide) (fun c2 => ?_) (fun c2 => ?_)
    · first
      | (omega; done)
      | (
          have c2 : ν ≤ 250 - z := c2
          refine r_iload_n C (dx dX7_feed 20 rfl) rfl ?_
          refine r_iconst (v := nI 1) C (dx dX7_feed 21 rfl) rfl ?_
          refine rn_isub (a := ν) (b := 1) C (by omega) (dx dX7_feed 22 rfl) ?_
          refine r_istore_n (ls' := [(0, vr 7 k), (1, vi x), (2, vi (nI ν)), (3, vi (nI (ν - 1)))]) C (dx dX7_feed 23 rfl) (by decide) [1, 2, 3, 0] rfl ?_
          have key : ∀ j, j ≤ ν → ∀ h9, Fx h h9 k v g (z + ν - j) (fdB Bt z x ν (ν - j)) → Rr G 42 [(0, vr 7 k), (1, vi x), (2, vi (nI ν)), (3, vi (nI j - nI 1))] [] h9 := by
            refine loopDn (Φ := fun j => j ≤ ν → ∀ h9, Fx h h9 k v g (z + ν - j) (fdB Bt z x ν (ν - j)) → Rr G 42 [(0, vr 7 k), (1, vi x), (2, vi (nI ν)), (3, vi (nI j - nI 1))] [] h9) ?_ ?_
            ·
              intro hj h9 f9
              rw [show nI 0 - nI 1 = -1 from by decide]
              refine r_iload_n C (dx dX7_feed 24 rfl) rfl ?_
              refine r_if_lt (tgt := 78) C (dx dX7_feed 25 rfl) (by decide) (fun c3 => ?_) (fun c3 => ?_)
              ·
                have c3 : (-1 : Int32) < 0 := c3
                refine r_aload_n C (dx dX7_feed 45 rfl) rfl ?_
                refine g_X7_138 (x := nI (z + ν - 0)) C (dx dX7_feed 46 rfl) f9.1.2.2.1 ?_
                have fe := feed_in (z := z) hν hν2
                rw [if_pos (by omega), if_pos (by omega)] at fe
                have zq : z + ν - 0 = z + ν := by omega
                have eB : feedB Bt z x (nI ν) = fdB Bt z x ν (ν - 0) := by unfold feedB; rw [fe.2, if_neg (by omega), clN (by omega)]; rfl
                exact F.1 _ _ _ _ _ rfl rfl (dx dX7_feed 47 rfl) f9.1.2.2.2.2.2 (show some (vi (nI (z + ν - 0))) = some (vi (feedA z (nI ν))) ∧ Md h9 P k v g (feedZ z (nI ν)) κ τ ∧ Lo k h h9 ∧ XT h9 k κ ω (feedB Bt z x (nI ν)) from by rw [fe.1, fe.2, eB]; exact ⟨by rw [zq], by have q := f9.1.md M (by omega); rw [zq] at q; exact q, Lo.fr f9.1.2.2.2.2.1 (Nat.le_refl _), x0.tp M f9.1.2.2.2.1 f9.1.2.2.2.2.1 f9.2⟩)
              · exact absurd (show (-1 : Int32) < 0 by decide) c3
            ·
              intro j ihj hj h9 f9
              rw [show nI (j + 1) - nI 1 = nI j from pk_sub (a := j + 1) (b := 1) (by omega)]
              refine r_iload_n C (dx dX7_feed 24 rfl) rfl ?_
              refine r_if_lt (tgt := 78) C (dx dX7_feed 25 rfl) (by decide) (fun c4 => ?_) (fun c4 => ?_)
              · exact absurd c4 (nI_pos (by omega))
              ·
                have c4 : ¬ nI j < 0 := c4
                refine r_aload_n C (dx dX7_feed 26 rfl) rfl ?_
                refine g_X7_34 C (dx dX7_feed 27 rfl) ?_
                refine r_aload_n C (dx dX7_feed 28 rfl) rfl ?_
                refine r_dupR C (dx dX7_feed 29 rfl) ?_
                refine g_X7_138 (x := nI (z + ν - (j + 1))) C (dx dX7_feed 30 rfl) f9.1.2.2.1 ?_
                refine r_dup_x1 C (dx dX7_feed 31 rfl) ?_
                refine r_iconst (v := nI 1) C (dx dX7_feed 32 rfl) rfl ?_
                refine rn_iadd (a := z + ν - (j + 1)) (b := 1) C (dx dX7_feed 33 rfl) ?_
                refine p_X7_138 C (dx dX7_feed 34 rfl) rfl rfl ?_
                have fh5 : Fx h (sI h9 k 8 (nI (z + ν - (j + 1) + 1))) k v g (z + ν - (j + 1) + 1) (fdB Bt z x ν (ν - (j + 1))) := f9.z
                generalize sI h9 k 8 (nI (z + ν - (j + 1) + 1)) = h5 at fh5 ⊢
                refine r_iload_n C (dx dX7_feed 35 rfl) rfl ?_
                refine r_bipush (v := nI 8) C (dx dX7_feed 36 rfl) rfl ?_
                refine r_iload_n C (dx dX7_feed 37 rfl) rfl ?_
                refine rn_imul (a := 8) (b := j) C (dx dX7_feed 38 rfl) ?_
                refine r_ishr C (dx dX7_feed 39 rfl) ?_
                refine r_sipush (v := nI 255) C (dx dX7_feed 40 rfl) rfl ?_
                refine r_iand C (dx dX7_feed 41 rfl) ?_
                refine r_iast (j := z + ν - (j + 1)) C rfl rfl (by decide) rfl (by omega) (dx dX7_feed 42 rfl) ?_
                have fh6 : Fx h (sI h5 (k + 16) (z + ν - (j + 1)) ((x >>> ((nI (8 * j)) &&& 31)) &&& (nI 255))) k v g (z + ν - (j + 1) + 1) (sf (fdB Bt z x ν (ν - (j + 1))) (z + ν - (j + 1)) ((x >>> ((nI (8 * j)) &&& 31)) &&& (nI 255))) := fh5.t
                generalize sI h5 (k + 16) (z + ν - (j + 1)) ((x >>> ((nI (8 * j)) &&& 31)) &&& (nI 255)) = h6 at fh6 ⊢
                refine r_iinc (ls' := [(0, vr 7 k), (1, vi x), (2, vi (nI ν)), (3, vi (nI j + (-1)))]) C (dx dX7_feed 43 rfl) rfl rfl (by decide) [1, 2, 3, 0] rfl ?_
                refine r_goto (tgt := 42) C (dx dX7_feed 44 rfl) (by decide) ?_
                rw [add_m1]
                exact ihj (by omega) _ (by rw [show z + ν - j = z + ν - (j + 1) + 1 by omega, fd_s (by omega)]; exact fh6)
          have k9 := key ν (Nat.le_refl _) h ⟨⟨hm, hs, by rw [M.e8, show z + ν - ν = z by omega], rfl, Fr.rf, rfl⟩, by rw [Nat.sub_self]; exact x0.1⟩
          rw [pk_sub (a := ν) (b := 1) (by omega)] at k9
          exact k9)
    · first
      | (omega; done)
      | (
          have c2 : 250 - z < ν := c2
          refine r_aload_n C (dx dX7_feed 16 rfl) rfl ?_
          refine r_bipush (v := -6) C (dx dX7_feed 17 rfl) rfl ?_
          refine r_cv (as := [vi (-6)]) (st := []) C X I_X7_refuse l_X7_83 (q_refuse M.1 (x := -6) (j := 6) (by decide) (by decide)) (by decide) (Nat.le_of_ble_eq_true rfl) List.prefix_rfl (pfx_eq rfl) rfl rfl (Nat.le_of_ble_eq_true rfl) rfl (dx dX7_feed 18 rfl) ?_
          rintro _ h7 ⟨rfl, mh7, qh7⟩ kkh7
          have Mh7 := M.kp mh7 qh7.1 kkh7
          have xh7 := x0.kp M qh7.1
          have loh7 : Lo k h h7 := Lo.tr (Lo.rf (a := k) (h := h)) (Lo.fr (Fr.vc qh7.1) (Nat.le_refl _))
          have kh7 := kkh7.trans rfl
          have fe := feed_in (z := z) hν hν2
          rw [if_neg (by omega), if_neg (by omega)] at fe
          have eB : feedB Bt z x (nI ν) = Bt := by unfold feedB; rw [fe.2, if_pos rfl]
          exact F.1 _ _ _ _ _ rfl rfl (dx dX7_feed 19 rfl) kh7 (show some (vi (-6)) = some (vi (feedA z (nI ν))) ∧ Md h7 P k v g (feedZ z (nI ν)) κ τ ∧ Lo k h h7 ∧ XT h7 k κ ω (feedB Bt z x (nI ν)) from by rw [fe.1, fe.2, eB]; exact ⟨rfl, Mh7, loh7, xh7⟩))
  ·
    have c1 : (btwB n 1 4) = false := c1
    refine r_aload_n C (dx dX7_feed 6 rfl) rfl ?_
    refine r_bipush (v := -2) C (dx dX7_feed 7 rfl) rfl ?_
    refine r_cv (as := [vi (-2)]) (st := []) C X I_X7_refuse l_X7_83 (q_refuse M.1 (x := -2) (j := 2) (by decide) (by decide)) (by decide) (Nat.le_of_ble_eq_true rfl) List.prefix_rfl (pfx_eq rfl) rfl rfl (Nat.le_of_ble_eq_true rfl) rfl (dx dX7_feed 8 rfl) ?_
    rintro _ h8 ⟨rfl, mh8, qh8⟩ kkh8
    have Mh8 := M.kp mh8 qh8.1 kkh8
    have xh8 := x0.kp M qh8.1
    have loh8 : Lo k h h8 := Lo.tr (Lo.rf (a := k) (h := h)) (Lo.fr (Fr.vc qh8.1) (Nat.le_refl _))
    have kh8 := kkh8.trans rfl
    have fe := feed_no (z := z) c1
    have eB : feedB Bt z x n = Bt := by unfold feedB; rw [fe.2, if_pos rfl]
    exact F.1 _ _ _ _ _ rfl rfl (dx dX7_feed 9 rfl) kh8 (show some (vi (-2)) = some (vi (feedA z n)) ∧ Md h8 P k v g (feedZ z n) κ τ ∧ Lo k h h8 ∧ XT h8 k κ ω (feedB Bt z x n) from by rw [fe.1, fe.2, eB]; exact ⟨rfl, Mh8, loh8, xh8⟩)
set_option maxHeartbeats 4000000 in
theorem y_wipe {l : Launch} {h : Hp} {P : List Nat} {k z : Nat} {v : Vg} {g : Sg} {κ τ : Bool} {ω : Vg} {Bt : Nat → Int32} (M : Md h P k v g z κ τ) (x0 : XT h k κ ω Bt)  : Ms l yX7_wipe cX7_wipe 2 (some .int) 4 [vr 7 k] h (xK h) (fun r h' => r = some (vi (nI z)) ∧ Md h' P k v g 0 κ τ ∧ Lo k h h' ∧ XT h' k κ ω Bt) := by
  refine Ms.of (by decide) (Nat.le_of_ble_eq_true rfl) (fun G C X F => ?_)
  have C : Cx G cX7_wipe 2 RX7 := C
  show Rr G 0 [(0, vr 7 k)] [] h
  have hm := M.1
  have hs := M.2.1
  have al := M.al
  have hk7 := M.hk
  have bP := hm.bP
  have bM := hm.bM
  have bN := hm.bN
  refine r_aload_n C (dx dX7_wipe 0 rfl) rfl ?_
  refine g_X7_138 (x := nI z) C (dx dX7_wipe 1 rfl) M.e8 ?_
  refine r_istore_n (ls' := [(0, vr 7 k), (1, vi (nI z))]) C (dx dX7_wipe 2 rfl) (by decide) [1, 0] rfl ?_
  refine r_aload_n C (dx dX7_wipe 3 rfl) rfl ?_
  refine r_iconst (v := nI 0) C (dx dX7_wipe 4 rfl) rfl ?_
  refine p_X7_138 C (dx dX7_wipe 5 rfl) rfl rfl ?_
  refine r_iload_n C (dx dX7_wipe 6 rfl) rfl ?_
  exact F.1 _ _ _ _ _ rfl rfl (dx dX7_wipe 7 rfl) rfl ⟨rfl, M.z0, Lo.sI (Nat.le_refl _), M.z0x x0⟩
