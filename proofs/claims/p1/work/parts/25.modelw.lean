/-! PART 25: the reference: what writes in its village -/
/-- the cells of the village (and of the refusals); what stays when only these are written -/
def VC (k b : Nat) : Prop := b = k ∨ (k + 17 ≤ b ∧ b < k + 32)
def Kp (k : Nat) (h h' : Hp) : Prop := xI h' k 8 = xI h k 8 ∧ xN h' k = xN h k ∧ Fs (VC k) h h'
theorem Kp.rf {k : Nat} {h : Hp} : Kp k h h := ⟨rfl, rfl, Fs.rf⟩
theorem Kp.tr {k : Nat} {h h1 h2 : Hp} (a : Kp k h h1) (b : Kp k h1 h2) : Kp k h h2 := ⟨b.1.trans a.1, b.2.1.trans a.2.1, a.2.2.tr b.2.2⟩
theorem Kp.fr {k lo hi : Nat} {h h1 : Hp} (f : Fr lo hi h h1) (h1' : k + 17 ≤ lo) (h2 : hi ≤ k + 32) : Kp k h h1 :=
  ⟨by rw [(f k (by omega)).1], (f k (by omega)).2.2, f.fs.mono (fun b q => Or.inr ⟨by omega, by omega⟩)⟩
theorem Kp.f {k j : Nat} {h : Hp} {x : Int32} (hj : j ≠ 8) : Kp k h (sI h k j x) :=
  ⟨by rw [sI_at, if_neg (Ne.symm hj)], rfl, fun b hb => oth_sI b (fun q => hb (Or.inl q))⟩
theorem Kp.fL {k j : Nat} {h : Hp} {x : Int64} : Kp k h (sL h k j x) :=
  ⟨rfl, rfl, fun b hb => oth_sL b (fun q => hb (Or.inl q))⟩
theorem Kp.c {k b j : Nat} {h : Hp} {x : Int32} (h1 : k + 17 ≤ b) (h2 : b < k + 32) : Kp k h (sI h b j x) := Kp.fr (Fr.sI (lo := b) (hi := b + 1) (by omega) (by omega)) (by omega) (by omega)
theorem MilAt.fL {k j : Nat} {h : Hp} {x : Int64} {v : Vg} (a : MilAt h k v) : MilAt (sL h k j x) k v := a
/-- the same numbers of parts, machines, people -/
def Sz (v u : Vg) : Prop := vP u = vP v ∧ vM u = vM v ∧ vN u = vN v
theorem Sz.rf {v : Vg} : Sz v v := ⟨rfl, rfl, rfl⟩
theorem Sz.tr {v u w : Vg} (a : Sz v u) (b : Sz u w) : Sz v w := ⟨b.1.trans a.1, b.2.1.trans a.2.1, b.2.2.trans a.2.2⟩
set_option maxHeartbeats 4000000 in
theorem c_X7_refuse {l : Launch} {h : Hp} {k : Nat} {v : Vg} (hm : MilAt h k v) {x : Int32} {j : Nat} (e : -x = nI j) (hj : j < 8) : Ms l yX7_refuse cX7_refuse 2 (some .int) 1 [vr 7 k, vi x] h (xK h) (fun r h' => r = some (vi x) ∧ (∃ v', MilAt h' k v' ∧ Sz v v') ∧ Kp k h h') := by
  refine Ms.of (by decide) (Nat.le_of_ble_eq_true rfl) (fun G C X F => ?_)
  have C : Cx G cX7_refuse 2 RX7 := C
  show Rr G 0 [(0, vr 7 k), (1, vi x)] [] h
  have bP := hm.bP
  have bM := hm.bM
  have bN := hm.bN
  refine r_aload_n C (dx dX7_refuse 0 rfl) rfl ?_
  refine g_X7_37 C (dx dX7_refuse 1 rfl) ?_
  refine r_iload_n C (dx dX7_refuse 2 rfl) rfl ?_
  refine r_ineg C (dx dX7_refuse 3 rfl) ?_
  refine r_dup2 C (dx dX7_refuse 4 rfl) ?_
  refine r_iald (j := (-x).toNatClampNeg) (x := xI h (k + 17) ((-x).toNatClampNeg)) C rfl rfl (by decide) (by rw [e, clN (by omega)]) (by rw [e, clN (by omega)]; exact hj) (dx dX7_refuse 5 rfl) rfl ?_
  refine r_iconst (v := nI 1) C (dx dX7_refuse 6 rfl) rfl ?_
  refine r_iadd C (dx dX7_refuse 7 rfl) ?_
  refine r_iast (j := (-x).toNatClampNeg) C rfl rfl (by decide) (by rw [e, clN (by omega)]) (by rw [e, clN (by omega)]; exact hj) (dx dX7_refuse 8 rfl) ?_
  obtain ⟨vh1, mh1, zh1⟩ : ∃ v9, MilAt (sI h (k + 17) ((-x).toNatClampNeg) ((xI h (k + 17) ((-x).toNatClampNeg)) + (nI 1))) k v9 ∧ Sz v v9 := ⟨v, hm.fr (Fr.sI (lo := k + 17) (hi := k + 18) (by omega) (by omega)) (by omega), ⟨rfl, rfl, rfl⟩⟩
  have ph1 : Kp k h (sI h (k + 17) ((-x).toNatClampNeg) ((xI h (k + 17) ((-x).toNatClampNeg)) + (nI 1))) := Kp.c (by omega) (by omega)
  have kh1 : xK (sI h (k + 17) ((-x).toNatClampNeg) ((xI h (k + 17) ((-x).toNatClampNeg)) + (nI 1))) = xK h := rfl
  generalize sI h (k + 17) ((-x).toNatClampNeg) ((xI h (k + 17) ((-x).toNatClampNeg)) + (nI 1)) = h1 at mh1 ph1 kh1 ⊢
  obtain ⟨ah1, bh1, ch1⟩ := zh1
  refine r_iload_n C (dx dX7_refuse 9 rfl) rfl ?_
  exact F.1 _ _ _ _ .int rfl rfl (dx dX7_refuse 10 rfl) kh1 ⟨rfl, ⟨_, mh1, ⟨by omega, by omega, by omega⟩⟩, ph1⟩
