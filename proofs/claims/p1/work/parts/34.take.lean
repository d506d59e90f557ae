/-! PART 34: the reference: a village taken over from another model -/
/-- of the rows of people the first p from w -/
def vrow (u w : Vg) (p : Nat) : Vg := (vP u, vM u, vN u, fun c i => if 4 ≤ c ∧ i < p then vF w c i else vF u c i, vS u)
section TK
variable {h h1 : Hp} {k : Nat} {u w : Vg}
theorem MilAt.o0 (a : MilAt h k u) (f : Fr (k + 18) (k + 18 + 1) h h1) (q : ∀ i, i < 12 → xI h1 (k + 18) i = vF w 0 i) : MilAt h1 k (vcp u 0 w) :=
  ⟨by rw [f.I (by omega)]; exact a.eP, by rw [f.I (by omega)]; exact a.eM, by rw [f.I (by omega)]; exact a.eN, by rw [f.I (by omega)]; exact a.eS, fun i hi => q i hi, fun i hi => by rw [f.I (by omega)]; exact a.e1 hi, fun i hi => by rw [f.I (by omega)]; exact a.e2 hi, fun i hi => by rw [f.I (by omega)]; exact a.e3 hi, fun o ho c hc => by rw [f.I (by omega), a.eo ho hc]; show _ = if 4 + c = 0 then _ else _; rw [if_neg (by omega)], a.bP, a.bM, a.bN⟩
theorem MilAt.o1 (a : MilAt h k u) (f : Fr (k + 19) (k + 19 + 1) h h1) (q : ∀ i, i < 12 → xI h1 (k + 19) i = vF w 1 i) : MilAt h1 k (vcp u 1 w) :=
  ⟨by rw [f.I (by omega)]; exact a.eP, by rw [f.I (by omega)]; exact a.eM, by rw [f.I (by omega)]; exact a.eN, by rw [f.I (by omega)]; exact a.eS, fun i hi => by rw [f.I (by omega)]; exact a.e0 hi, fun i hi => q i hi, fun i hi => by rw [f.I (by omega)]; exact a.e2 hi, fun i hi => by rw [f.I (by omega)]; exact a.e3 hi, fun o ho c hc => by rw [f.I (by omega), a.eo ho hc]; show _ = if 4 + c = 1 then _ else _; rw [if_neg (by omega)], a.bP, a.bM, a.bN⟩
theorem MilAt.o2 (a : MilAt h k u) (f : Fr (k + 20) (k + 20 + 1) h h1) (q : ∀ i, i < 6 → xI h1 (k + 20) i = vF w 2 i) : MilAt h1 k (vcp u 2 w) :=
  ⟨by rw [f.I (by omega)]; exact a.eP, by rw [f.I (by omega)]; exact a.eM, by rw [f.I (by omega)]; exact a.eN, by rw [f.I (by omega)]; exact a.eS, fun i hi => by rw [f.I (by omega)]; exact a.e0 hi, fun i hi => by rw [f.I (by omega)]; exact a.e1 hi, fun i hi => q i hi, fun i hi => by rw [f.I (by omega)]; exact a.e3 hi, fun o ho c hc => by rw [f.I (by omega), a.eo ho hc]; show _ = if 4 + c = 2 then _ else _; rw [if_neg (by omega)], a.bP, a.bM, a.bN⟩
theorem MilAt.o3 (a : MilAt h k u) (f : Fr (k + 21) (k + 21 + 1) h h1) (q : ∀ i, i < 6 → xI h1 (k + 21) i = vF w 3 i) : MilAt h1 k (vcp u 3 w) :=
  ⟨by rw [f.I (by omega)]; exact a.eP, by rw [f.I (by omega)]; exact a.eM, by rw [f.I (by omega)]; exact a.eN, by rw [f.I (by omega)]; exact a.eS, fun i hi => by rw [f.I (by omega)]; exact a.e0 hi, fun i hi => by rw [f.I (by omega)]; exact a.e1 hi, fun i hi => by rw [f.I (by omega)]; exact a.e2 hi, fun i hi => q i hi, fun o ho c hc => by rw [f.I (by omega), a.eo ho hc]; show _ = if 4 + c = 3 then _ else _; rw [if_neg (by omega)], a.bP, a.bM, a.bN⟩
theorem MilAt.r0 (a : MilAt h k u) : MilAt h k (vrow u w 0) :=
  ⟨a.eP, a.eM, a.eN, a.eS, fun i hi => a.e0 hi, fun i hi => a.e1 hi, fun i hi => a.e2 hi, fun i hi => a.e3 hi, fun o ho c hc => by rw [a.eo ho hc]; show _ = if 4 ≤ 4 + c ∧ o < 0 then _ else _; rw [if_neg (by omega)], a.bP, a.bM, a.bN⟩
theorem MilAt.rs {p : Nat} (a : MilAt h k (vrow u w p)) (f : Fr (k + 23 + p) (k + 23 + p + 1) h h1) (q : ∀ c, c < 4 → xI h1 (k + 23 + p) c = vF w (4 + c) p) : MilAt h1 k (vrow u w (p + 1)) := by
  refine ⟨by rw [f.I (by omega)]; exact a.eP, by rw [f.I (by omega)]; exact a.eM, by rw [f.I (by omega)]; exact a.eN, by rw [f.I (by omega)]; exact a.eS, fun i hi => by rw [f.I (by omega)]; exact a.e0 hi, fun i hi => by rw [f.I (by omega)]; exact a.e1 hi, fun i hi => by rw [f.I (by omega)]; exact a.e2 hi, fun i hi => by rw [f.I (by omega)]; exact a.e3 hi, fun o ho c hc => ?_, a.bP, a.bM, a.bN⟩
  by_cases e : o = p
  · subst e
    rw [q c hc]; show _ = if 4 ≤ 4 + c ∧ o < o + 1 then _ else _
    rw [if_pos ⟨by omega, by omega⟩]
  · rw [f.I (by omega), a.eo ho hc]
    show (if 4 ≤ 4 + c ∧ o < p then _ else _) = if 4 ≤ 4 + c ∧ o < p + 1 then _ else _
    by_cases z : o < p
    · rw [if_pos ⟨by omega, z⟩, if_pos ⟨by omega, by omega⟩]
    · rw [if_neg (by omega), if_neg (by omega)]
theorem MilAt.to (a : MilAt h k u) (h1 : vP u = vP w) (h2 : vM u = vM w) (h3 : vN u = vN w) (h5 : vS u = vS w) (q0 : ∀ i, vF u 0 i = vF w 0 i) (q1 : ∀ i, vF u 1 i = vF w 1 i) (q2 : ∀ i, vF u 2 i = vF w 2 i) (q3 : ∀ i, vF u 3 i = vF w 3 i) (q4 : ∀ o, o < 8 → ∀ c, c < 4 → vF u (4 + c) o = vF w (4 + c) o) : MilAt h k w :=
  ⟨by rw [← h1]; exact a.eP, by rw [← h2]; exact a.eM, by rw [← h3]; exact a.eN, by rw [← h5]; exact a.eS, fun i hi => by rw [← q0]; exact a.e0 hi, fun i hi => by rw [← q1]; exact a.e1 hi, fun i hi => by rw [← q2]; exact a.e2 hi, fun i hi => by rw [← q3]; exact a.e3 hi, fun o ho c hc => by rw [← q4 o ho c hc]; exact a.eo ho hc, by rw [← h1]; exact a.bP, by rw [← h2]; exact a.bM, by rw [← h3]; exact a.bN⟩
end TK
set_option maxHeartbeats 4000000 in
theorem c_over20 {l : Launch} {h : Hp} {a b : Nat} (hab : a ≠ b)  : Ms l yX7_over cX7_over 3 none 1 [vr 20 a, vr 20 b] h (xK h) (fun r h' => r = none ∧ (∀ i, i < 12 → xI h' b i = xI h a i) ∧ Fr b (b + 1) h h') := by
  refine Ms.of (by decide) (Nat.le_of_ble_eq_true rfl) (fun G C X F => ?_)
  have C : Cx G cX7_over 3 RX7 := C
  show Rr G 0 [(0, vr 20 a), (1, vr 20 b)] [] h
  refine r_iconst (v := nI 0) C (dx dX7_over 0 rfl) rfl ?_
  refine r_istore_n (ls' := [(0, vr 20 a), (1, vr 20 b), (2, vi (nI 0))]) C (dx dX7_over 1 rfl) (by decide) [1, 2, 0] rfl ?_
  refine loopU (Φ := fun p => ∀ h9, (∀ i, i < p → xI h9 b i = xI h a i) → Fr b (b + 1) h h9 → xK h9 = xK h → Rr G 2 [(0, vr 20 a), (1, vr 20 b), (2, vi (nI p))] [] h9) (N := 12) ?_ ?_ 0 (by omega) _ (fun i hi => absurd hi (by omega)) Fr.rf rfl
  ·
    intro h9 q9 f9 k9
    refine r_iload_n C (dx dX7_over 2 rfl) rfl ?_
    refine r_aload_n C (dx dX7_over 3 rfl) rfl ?_
    refine r_alen0 (v := nI 12) C rfl rfl rfl (dx dX7_over 4 rfl) ?_
    refine rn_ge (a := 12) (b := 12) (tgt := 20) C (by omega) (by omega) (dx dX7_over 5 rfl) (by decide) (fun c1 => ?_) (fun c1 => ?_)
    · first
      | (omega; done)
      | (
          have c1 : 12 ≤ 12 := c1
          exact F.2.2.1 _ _ _ rfl (dx dX7_over 14 rfl) k9 ⟨rfl, q9, f9⟩)
    · first
      | (omega; done)
  ·
    intro p hp ih h9 q9 f9 k9
    refine r_iload_n C (dx dX7_over 2 rfl) rfl ?_
    refine r_aload_n C (dx dX7_over 3 rfl) rfl ?_
    refine r_alen0 (v := nI 12) C rfl rfl rfl (dx dX7_over 4 rfl) ?_
    refine rn_ge (a := p) (b := 12) (tgt := 20) C (by omega) (by omega) (dx dX7_over 5 rfl) (by decide) (fun c2 => ?_) (fun c2 => ?_)
    · first
      | (omega; done)
      | (
          have c2 : 12 ≤ p := c2
          exact F.2.2.1 _ _ _ rfl (dx dX7_over 14 rfl) k9 ⟨rfl, q9, f9⟩)
    · first
      | (omega; done)
      | (
          have c2 : p < 12 := c2
          refine r_aload_n C (dx dX7_over 6 rfl) rfl ?_
          refine r_iload_n C (dx dX7_over 7 rfl) rfl ?_
          refine r_aload_n C (dx dX7_over 8 rfl) rfl ?_
          refine r_iload_n C (dx dX7_over 9 rfl) rfl ?_
          refine r_iald (j := p) (x := xI h9 a p) C rfl rfl (by decide) rfl (by omega) (dx dX7_over 10 rfl) rfl ?_
          refine r_iast (j := p) C rfl rfl (by decide) rfl (by omega) (dx dX7_over 11 rfl) ?_
          refine rn_iinc (a := p) (k := 1) (ls' := [(0, vr 20 a), (1, vr 20 b), (2, vi (nI (p + 1)))]) C (dx dX7_over 12 rfl) rfl rfl (by decide) [1, 2, 0] rfl ?_
          refine r_goto (tgt := 2) C (dx dX7_over 13 rfl) (by decide) ?_
          exact ih _ (fun i hi => by rw [sI_at]; split; (next e => rw [e]; exact f9.I (by omega) _); exact q9 i (by omega)) (f9.tr (Fr.sI (by omega) (by omega))) k9)
set_option maxHeartbeats 4000000 in
theorem c_over21 {l : Launch} {h : Hp} {a b : Nat} (hab : a ≠ b)  : Ms l yX7_over cX7_over 3 none 1 [vr 21 a, vr 21 b] h (xK h) (fun r h' => r = none ∧ (∀ i, i < 6 → xI h' b i = xI h a i) ∧ Fr b (b + 1) h h') := by
  refine Ms.of (by decide) (Nat.le_of_ble_eq_true rfl) (fun G C X F => ?_)
  have C : Cx G cX7_over 3 RX7 := C
  show Rr G 0 [(0, vr 21 a), (1, vr 21 b)] [] h
  refine r_iconst (v := nI 0) C (dx dX7_over 0 rfl) rfl ?_
  refine r_istore_n (ls' := [(0, vr 21 a), (1, vr 21 b), (2, vi (nI 0))]) C (dx dX7_over 1 rfl) (by decide) [1, 2, 0] rfl ?_
  refine loopU (Φ := fun p => ∀ h9, (∀ i, i < p → xI h9 b i = xI h a i) → Fr b (b + 1) h h9 → xK h9 = xK h → Rr G 2 [(0, vr 21 a), (1, vr 21 b), (2, vi (nI p))] [] h9) (N := 6) ?_ ?_ 0 (by omega) _ (fun i hi => absurd hi (by omega)) Fr.rf rfl
  ·
    intro h9 q9 f9 k9
    refine r_iload_n C (dx dX7_over 2 rfl) rfl ?_
    refine r_aload_n C (dx dX7_over 3 rfl) rfl ?_
    refine r_alen0 (v := nI 6) C rfl rfl rfl (dx dX7_over 4 rfl) ?_
    refine rn_ge (a := 6) (b := 6) (tgt := 20) C (by omega) (by omega) (dx dX7_over 5 rfl) (by decide) (fun c1 => ?_) (fun c1 => ?_)
    · first
      | (omega; done)
      | (
          have c1 : 6 ≤ 6 := c1
          exact F.2.2.1 _ _ _ rfl (dx dX7_over 14 rfl) k9 ⟨rfl, q9, f9⟩)
    · first
      | (omega; done)
  ·
    intro p hp ih h9 q9 f9 k9
    refine r_iload_n C (dx dX7_over 2 rfl) rfl ?_
    refine r_aload_n C (dx dX7_over 3 rfl) rfl ?_
    refine r_alen0 (v := nI 6) C rfl rfl rfl (dx dX7_over 4 rfl) ?_
    refine rn_ge (a := p) (b := 6) (tgt := 20) C (by omega) (by omega) (dx dX7_over 5 rfl) (by decide) (fun c2 => ?_) (fun c2 => ?_)
    · first
      | (omega; done)
      | (
          have c2 : 6 ≤ p := c2
          exact F.2.2.1 _ _ _ rfl (dx dX7_over 14 rfl) k9 ⟨rfl, q9, f9⟩)
    · first
      | (omega; done)
      | (
          have c2 : p < 6 := c2
          refine r_aload_n C (dx dX7_over 6 rfl) rfl ?_
          refine r_iload_n C (dx dX7_over 7 rfl) rfl ?_
          refine r_aload_n C (dx dX7_over 8 rfl) rfl ?_
          refine r_iload_n C (dx dX7_over 9 rfl) rfl ?_
          refine r_iald (j := p) (x := xI h9 a p) C rfl rfl (by decide) rfl (by omega) (dx dX7_over 10 rfl) rfl ?_
          refine r_iast (j := p) C rfl rfl (by decide) rfl (by omega) (dx dX7_over 11 rfl) ?_
          refine rn_iinc (a := p) (k := 1) (ls' := [(0, vr 21 a), (1, vr 21 b), (2, vi (nI (p + 1)))]) C (dx dX7_over 12 rfl) rfl rfl (by decide) [1, 2, 0] rfl ?_
          refine r_goto (tgt := 2) C (dx dX7_over 13 rfl) (by decide) ?_
          exact ih _ (fun i hi => by rw [sI_at]; split; (next e => rw [e]; exact f9.I (by omega) _); exact q9 i (by omega)) (f9.tr (Fr.sI (by omega) (by omega))) k9)
set_option maxHeartbeats 4000000 in
theorem c_over27 {l : Launch} {h : Hp} {a b : Nat} (hab : a ≠ b)  : Ms l yX7_over cX7_over 3 none 1 [vr 27 a, vr 27 b] h (xK h) (fun r h' => r = none ∧ (∀ i, i < 4 → xI h' b i = xI h a i) ∧ Fr b (b + 1) h h') := by
  refine Ms.of (by decide) (Nat.le_of_ble_eq_true rfl) (fun G C X F => ?_)
  have C : Cx G cX7_over 3 RX7 := C
  show Rr G 0 [(0, vr 27 a), (1, vr 27 b)] [] h
  refine r_iconst (v := nI 0) C (dx dX7_over 0 rfl) rfl ?_
  refine r_istore_n (ls' := [(0, vr 27 a), (1, vr 27 b), (2, vi (nI 0))]) C (dx dX7_over 1 rfl) (by decide) [1, 2, 0] rfl ?_
  refine loopU (Φ := fun p => ∀ h9, (∀ i, i < p → xI h9 b i = xI h a i) → Fr b (b + 1) h h9 → xK h9 = xK h → Rr G 2 [(0, vr 27 a), (1, vr 27 b), (2, vi (nI p))] [] h9) (N := 4) ?_ ?_ 0 (by omega) _ (fun i hi => absurd hi (by omega)) Fr.rf rfl
  ·
    intro h9 q9 f9 k9
    refine r_iload_n C (dx dX7_over 2 rfl) rfl ?_
    refine r_aload_n C (dx dX7_over 3 rfl) rfl ?_
    refine r_alen0 (v := nI 4) C rfl rfl rfl (dx dX7_over 4 rfl) ?_
    refine rn_ge (a := 4) (b := 4) (tgt := 20) C (by omega) (by omega) (dx dX7_over 5 rfl) (by decide) (fun c1 => ?_) (fun c1 => ?_)
    · first
      | (omega; done)
      | (
          have c1 : 4 ≤ 4 := c1
          exact F.2.2.1 _ _ _ rfl (dx dX7_over 14 rfl) k9 ⟨rfl, q9, f9⟩)
    · first
      | (omega; done)
  ·
    intro p hp ih h9 q9 f9 k9
    refine r_iload_n C (dx dX7_over 2 rfl) rfl ?_
    refine r_aload_n C (dx dX7_over 3 rfl) rfl ?_
    refine r_alen0 (v := nI 4) C rfl rfl rfl (dx dX7_over 4 rfl) ?_
    refine rn_ge (a := p) (b := 4) (tgt := 20) C (by omega) (by omega) (dx dX7_over 5 rfl) (by decide) (fun c2 => ?_) (fun c2 => ?_)
    · first
      | (omega; done)
      | (
          have c2 : 4 ≤ p := c2
          exact F.2.2.1 _ _ _ rfl (dx dX7_over 14 rfl) k9 ⟨rfl, q9, f9⟩)
    · first
      | (omega; done)
      | (
          have c2 : p < 4 := c2
          refine r_aload_n C (dx dX7_over 6 rfl) rfl ?_
          refine r_iload_n C (dx dX7_over 7 rfl) rfl ?_
          refine r_aload_n C (dx dX7_over 8 rfl) rfl ?_
          refine r_iload_n C (dx dX7_over 9 rfl) rfl ?_
          refine r_iald (j := p) (x := xI h9 a p) C rfl rfl (by decide) rfl (by omega) (dx dX7_over 10 rfl) rfl ?_
          refine r_iast (j := p) C rfl rfl (by decide) rfl (by omega) (dx dX7_over 11 rfl) ?_
          refine rn_iinc (a := p) (k := 1) (ls' := [(0, vr 27 a), (1, vr 27 b), (2, vi (nI (p + 1)))]) C (dx dX7_over 12 rfl) rfl rfl (by decide) [1, 2, 0] rfl ?_
          refine r_goto (tgt := 2) C (dx dX7_over 13 rfl) (by decide) ?_
          exact ih _ (fun i hi => by rw [sI_at]; split; (next e => rw [e]; exact f9.I (by omega) _); exact q9 i (by omega)) (f9.tr (Fr.sI (by omega) (by omega))) k9)
set_option maxHeartbeats 4000000 in
theorem c_X7_takeFrom {l : Launch} {h : Hp} {k : Nat} {v : Vg} (hm : MilAt h k v) {b : Nat} {w : Vg} (hw : MilAt h b w) (hd : k + 32 ≤ b ∨ b + 32 ≤ k) : Ms l yX7_takeFrom cX7_takeFrom 3 none 2 [vr 7 k, vr 7 b] h (xK h) (fun r h' => r = none ∧ MilAt h' k w ∧ Kp k h h') := by
  refine Ms.of (by decide) (Nat.le_of_ble_eq_true rfl) (fun G C X F => ?_)
  have C : Cx G cX7_takeFrom 3 RX7 := C
  show Rr G 0 [(0, vr 7 k), (1, vr 7 b)] [] h
  have bP := hm.bP
  have bM := hm.bM
  have bN := hm.bN
  have q0 : ¬ VC k b := by unfold VC; omega
  have q1 : un (VC k) (b + 18) (b + 31) := fun a h1 h2 => by unfold VC; omega
  refine r_aload_n C (dx dX7_takeFrom 0 rfl) rfl ?_
  refine r_aload_n C (dx dX7_takeFrom 1 rfl) rfl ?_
  refine g_X7_64 (x := nI (vP w)) C (dx dX7_takeFrom 2 rfl) hw.eP ?_
  refine p_X7_64 C (dx dX7_takeFrom 3 rfl) rfl rfl ?_
  have mh1 : MilAt (sI h k 10 (nI (vP w))) k (vsP v (vP w)) := hm.sP (n := vP w) hw.bP
  have ph1 : Kp k h (sI h k 10 (nI (vP w))) := Kp.f (by decide)
  have kh1 : xK (sI h k 10 (nI (vP w))) = xK h := rfl
  generalize sI h k 10 (nI (vP w)) = h1 at mh1 ph1 kh1 ⊢
  have bh1 : MilAt h1 b w := hw.ag ph1.2.2 q0 q1
  refine r_aload_n C (dx dX7_takeFrom 4 rfl) rfl ?_
  refine g_X7_40 C (dx dX7_takeFrom 5 rfl) ?_
  refine r_aload_n C (dx dX7_takeFrom 6 rfl) rfl ?_
  refine g_X7_40 C (dx dX7_takeFrom 7 rfl) ?_
  refine r_cs (as := [vr 20 (b + 18), vr 20 (k + 18)]) (st := []) C X I_X7_over l_X7_350 (c_over20 (show b + 18 ≠ k + 18 by omega)) (by decide) (Nat.le_of_ble_eq_true rfl) List.prefix_rfl (pfx_eq kh1) (Nat.le_of_ble_eq_true rfl) rfl (dx dX7_takeFrom 8 rfl) ?_
  rintro _ h2 ⟨rfl, qh2, fh2⟩ kkh2
  have mh2 : MilAt h2 k (vcp (vsP v (vP w)) 0 w) := mh1.o0 fh2 (fun i hi => (qh2 i hi).trans (bh1.e0 hi))
  have ph2 : Kp k h h2 := ph1.tr (Kp.fr fh2 (by omega) (by omega))
  have kh2 : xK h2 = xK h := (kkh2).trans kh1
  have bh2 : MilAt h2 b w := hw.ag ph2.2.2 q0 q1
  refine r_aload_n C (dx dX7_takeFrom 9 rfl) rfl ?_
  refine g_X7_43 C (dx dX7_takeFrom 10 rfl) ?_
  refine r_aload_n C (dx dX7_takeFrom 11 rfl) rfl ?_
  refine g_X7_43 C (dx dX7_takeFrom 12 rfl) ?_
  refine r_cs (as := [vr 20 (b + 19), vr 20 (k + 19)]) (st := []) C X I_X7_over l_X7_350 (c_over20 (show b + 19 ≠ k + 19 by omega)) (by decide) (Nat.le_of_ble_eq_true rfl) List.prefix_rfl (pfx_eq kh2) (Nat.le_of_ble_eq_true rfl) rfl (dx dX7_takeFrom 13 rfl) ?_
  rintro _ h3 ⟨rfl, qh3, fh3⟩ kkh3
  have mh3 : MilAt h3 k (vcp (vcp (vsP v (vP w)) 0 w) 1 w) := mh2.o1 fh3 (fun i hi => (qh3 i hi).trans (bh2.e1 hi))
  have ph3 : Kp k h h3 := ph2.tr (Kp.fr fh3 (by omega) (by omega))
  have kh3 : xK h3 = xK h := (kkh3).trans kh2
  have bh3 : MilAt h3 b w := hw.ag ph3.2.2 q0 q1
  refine r_aload_n C (dx dX7_takeFrom 14 rfl) rfl ?_
  refine r_aload_n C (dx dX7_takeFrom 15 rfl) rfl ?_
  refine g_X7_71 (x := nI (vM w)) C (dx dX7_takeFrom 16 rfl) bh3.eM ?_
  refine p_X7_71 C (dx dX7_takeFrom 17 rfl) rfl rfl ?_
  have mh4 : MilAt (sI h3 k 13 (nI (vM w))) k (vsM (vcp (vcp (vsP v (vP w)) 0 w) 1 w) (vM w)) := mh3.sM (n := vM w) hw.bM
  have ph4 : Kp k h (sI h3 k 13 (nI (vM w))) := ph3.tr (Kp.f (by decide))
  have kh4 : xK (sI h3 k 13 (nI (vM w))) = xK h := kh3
  generalize sI h3 k 13 (nI (vM w)) = h4 at mh4 ph4 kh4 ⊢
  have bh4 : MilAt h4 b w := hw.ag ph4.2.2 q0 q1
  refine r_aload_n C (dx dX7_takeFrom 18 rfl) rfl ?_
  refine g_X7_46 C (dx dX7_takeFrom 19 rfl) ?_
  refine r_aload_n C (dx dX7_takeFrom 20 rfl) rfl ?_
  refine g_X7_46 C (dx dX7_takeFrom 21 rfl) ?_
  refine r_cs (as := [vr 21 (b + 20), vr 21 (k + 20)]) (st := []) C X I_X7_over l_X7_350 (c_over21 (show b + 20 ≠ k + 20 by omega)) (by decide) (Nat.le_of_ble_eq_true rfl) List.prefix_rfl (pfx_eq kh4) (Nat.le_of_ble_eq_true rfl) rfl (dx dX7_takeFrom 22 rfl) ?_
  rintro _ h5 ⟨rfl, qh5, fh5⟩ kkh5
  have mh5 : MilAt h5 k (vcp (vsM (vcp (vcp (vsP v (vP w)) 0 w) 1 w) (vM w)) 2 w) := mh4.o2 fh5 (fun i hi => (qh5 i hi).trans (bh4.e2 hi))
  have ph5 : Kp k h h5 := ph4.tr (Kp.fr fh5 (by omega) (by omega))
  have kh5 : xK h5 = xK h := (kkh5).trans kh4
  have bh5 : MilAt h5 b w := hw.ag ph5.2.2 q0 q1
  refine r_aload_n C (dx dX7_takeFrom 23 rfl) rfl ?_
  refine g_X7_49 C (dx dX7_takeFrom 24 rfl) ?_
  refine r_aload_n C (dx dX7_takeFrom 25 rfl) rfl ?_
  refine g_X7_49 C (dx dX7_takeFrom 26 rfl) ?_
  refine r_cs (as := [vr 21 (b + 21), vr 21 (k + 21)]) (st := []) C X I_X7_over l_X7_350 (c_over21 (show b + 21 ≠ k + 21 by omega)) (by decide) (Nat.le_of_ble_eq_true rfl) List.prefix_rfl (pfx_eq kh5) (Nat.le_of_ble_eq_true rfl) rfl (dx dX7_takeFrom 27 rfl) ?_
  rintro _ h6 ⟨rfl, qh6, fh6⟩ kkh6
  have mh6 : MilAt h6 k (vcp (vcp (vsM (vcp (vcp (vsP v (vP w)) 0 w) 1 w) (vM w)) 2 w) 3 w) := mh5.o3 fh6 (fun i hi => (qh6 i hi).trans (bh5.e3 hi))
  have ph6 : Kp k h h6 := ph5.tr (Kp.fr fh6 (by omega) (by omega))
  have kh6 : xK h6 = xK h := (kkh6).trans kh5
  have bh6 : MilAt h6 b w := hw.ag ph6.2.2 q0 q1
  refine r_aload_n C (dx dX7_takeFrom 28 rfl) rfl ?_
  refine r_aload_n C (dx dX7_takeFrom 29 rfl) rfl ?_
  refine g_X7_74 (x := nI (vN w)) C (dx dX7_takeFrom 30 rfl) bh6.eN ?_
  refine p_X7_74 C (dx dX7_takeFrom 31 rfl) rfl rfl ?_
  have mh7 : MilAt (sI h6 k 16 (nI (vN w))) k (vsN (vcp (vcp (vsM (vcp (vcp (vsP v (vP w)) 0 w) 1 w) (vM w)) 2 w) 3 w) (vN w)) := mh6.sN (n := vN w) hw.bN
  have ph7 : Kp k h (sI h6 k 16 (nI (vN w))) := ph6.tr (Kp.f (by decide))
  have kh7 : xK (sI h6 k 16 (nI (vN w))) = xK h := kh6
  generalize sI h6 k 16 (nI (vN w)) = h7 at mh7 ph7 kh7 ⊢
  have bh7 : MilAt h7 b w := hw.ag ph7.2.2 q0 q1
  refine r_iconst (v := nI 0) C (dx dX7_takeFrom 32 rfl) rfl ?_
  refine r_istore_n (ls' := [(0, vr 7 k), (1, vr 7 b), (2, vi (nI 0))]) C (dx dX7_takeFrom 33 rfl) (by decide) [1, 2, 0] rfl ?_
  refine loopU (Φ := fun p => ∀ h9, MilAt h9 k (vrow (vsN (vcp (vcp (vsM (vcp (vcp (vsP v (vP w)) 0 w) 1 w) (vM w)) 2 w) 3 w) (vN w)) w p) → Kp k h h9 → xK h9 = xK h → Rr G 70 [(0, vr 7 k), (1, vr 7 b), (2, vi (nI p))] [] h9) (N := 8) ?_ ?_ 0 (by omega) _ mh7.r0 ph7 kh7
  ·
    intro h9 m9 p9 k9
    have b9 : MilAt h9 b w := hw.ag p9.2.2 q0 q1
    refine r_iload_n C (dx dX7_takeFrom 34 rfl) rfl ?_
    refine r_bipush (v := nI 8) C (dx dX7_takeFrom 35 rfl) rfl ?_
    refine rn_ge (a := 8) (b := 8) (tgt := 97) C (by omega) (by omega) (dx dX7_takeFrom 36 rfl) (by decide) (fun c8 => ?_) (fun c8 => ?_)
    · first
      | (omega; done)
      | (
          have c8 : 8 ≤ 8 := c8
          refine r_aload_n C (dx dX7_takeFrom 48 rfl) rfl ?_
          refine r_aload_n C (dx dX7_takeFrom 49 rfl) rfl ?_
          refine g_X7_339 (x := xI h9 b 18) C (dx dX7_takeFrom 50 rfl) rfl ?_
          refine p_X7_339 C (dx dX7_takeFrom 51 rfl) rfl rfl ?_
          have mh9 : MilAt (sI h9 k 18 (xI h9 b 18)) k (vrow (vsN (vcp (vcp (vsM (vcp (vcp (vsP v (vP w)) 0 w) 1 w) (vM w)) 2 w) 3 w) (vN w)) w 8) := m9.f (by decide) (by decide) (by decide) (by decide)
          have ph9 : Kp k h (sI h9 k 18 (xI h9 b 18)) := p9.tr (Kp.f (by decide))
          have kh9 : xK (sI h9 k 18 (xI h9 b 18)) = xK h := k9
          generalize sI h9 k 18 (xI h9 b 18) = h9 at mh9 ph9 kh9 ⊢
          have bh9 : MilAt h9 b w := hw.ag ph9.2.2 q0 q1
          refine r_aload_n C (dx dX7_takeFrom 52 rfl) rfl ?_
          refine r_aload_n C (dx dX7_takeFrom 53 rfl) rfl ?_
          refine g_X7_347 (x := xI h9 b 19) C (dx dX7_takeFrom 54 rfl) rfl ?_
          refine p_X7_347 C (dx dX7_takeFrom 55 rfl) rfl rfl ?_
          have mh10 : MilAt (sI h9 k 19 (xI h9 b 19)) k (vrow (vsN (vcp (vcp (vsM (vcp (vcp (vsP v (vP w)) 0 w) 1 w) (vM w)) 2 w) 3 w) (vN w)) w 8) := mh9.f (by decide) (by decide) (by decide) (by decide)
          have ph10 : Kp k h (sI h9 k 19 (xI h9 b 19)) := ph9.tr (Kp.f (by decide))
          have kh10 : xK (sI h9 k 19 (xI h9 b 19)) = xK h := kh9
          generalize sI h9 k 19 (xI h9 b 19) = h10 at mh10 ph10 kh10 ⊢
          have bh10 : MilAt h10 b w := hw.ag ph10.2.2 q0 q1
          refine r_aload_n C (dx dX7_takeFrom 56 rfl) rfl ?_
          refine r_aload_n C (dx dX7_takeFrom 57 rfl) rfl ?_
          refine g_X7_57 (x := vS w) C (dx dX7_takeFrom 58 rfl) bh10.eS ?_
          refine p_X7_57 C (dx dX7_takeFrom 59 rfl) rfl rfl ?_
          have mh11 : MilAt (sI h10 k 20 (vS w)) k (vsS (vrow (vsN (vcp (vcp (vsM (vcp (vcp (vsP v (vP w)) 0 w) 1 w) (vM w)) 2 w) 3 w) (vN w)) w 8) (vS w)) := mh10.sS (x := vS w)
          have ph11 : Kp k h (sI h10 k 20 (vS w)) := ph10.tr (Kp.f (by decide))
          have kh11 : xK (sI h10 k 20 (vS w)) = xK h := kh10
          generalize sI h10 k 20 (vS w) = h11 at mh11 ph11 kh11 ⊢
          have bh11 : MilAt h11 b w := hw.ag ph11.2.2 q0 q1
          exact F.2.2.1 _ _ _ rfl (dx dX7_takeFrom 60 rfl) kh11 ⟨rfl, mh11.to rfl rfl rfl rfl (fun _ => rfl) (fun _ => rfl) (fun _ => rfl) (fun _ => rfl) (fun o ho c hc => if_pos ⟨by omega, ho⟩), ph11⟩)
    · first
      | (omega; done)
  ·
    intro p hp ih h9 m9 p9 k9
    have b9 : MilAt h9 b w := hw.ag p9.2.2 q0 q1
    refine r_iload_n C (dx dX7_takeFrom 34 rfl) rfl ?_
    refine r_bipush (v := nI 8) C (dx dX7_takeFrom 35 rfl) rfl ?_
    refine rn_ge (a := p) (b := 8) (tgt := 97) C (by omega) (by omega) (dx dX7_takeFrom 36 rfl) (by decide) (fun c13 => ?_) (fun c13 => ?_)
    · first
      | (omega; done)
      | (
          have c13 : 8 ≤ p := c13
          refine r_aload_n C (dx dX7_takeFrom 48 rfl) rfl ?_
          refine r_aload_n C (dx dX7_takeFrom 49 rfl) rfl ?_
          refine g_X7_339 (x := xI h9 b 18) C (dx dX7_takeFrom 50 rfl) rfl ?_
          refine p_X7_339 C (dx dX7_takeFrom 51 rfl) rfl rfl ?_
          have mh14 : MilAt (sI h9 k 18 (xI h9 b 18)) k (vrow (vsN (vcp (vcp (vsM (vcp (vcp (vsP v (vP w)) 0 w) 1 w) (vM w)) 2 w) 3 w) (vN w)) w p) := m9.f (by decide) (by decide) (by decide) (by decide)
          have ph14 : Kp k h (sI h9 k 18 (xI h9 b 18)) := p9.tr (Kp.f (by decide))
          have kh14 : xK (sI h9 k 18 (xI h9 b 18)) = xK h := k9
          generalize sI h9 k 18 (xI h9 b 18) = h14 at mh14 ph14 kh14 ⊢
          have bh14 : MilAt h14 b w := hw.ag ph14.2.2 q0 q1
          refine r_aload_n C (dx dX7_takeFrom 52 rfl) rfl ?_
          refine r_aload_n C (dx dX7_takeFrom 53 rfl) rfl ?_
          refine g_X7_347 (x := xI h14 b 19) C (dx dX7_takeFrom 54 rfl) rfl ?_
          refine p_X7_347 C (dx dX7_takeFrom 55 rfl) rfl rfl ?_
          have mh15 : MilAt (sI h14 k 19 (xI h14 b 19)) k (vrow (vsN (vcp (vcp (vsM (vcp (vcp (vsP v (vP w)) 0 w) 1 w) (vM w)) 2 w) 3 w) (vN w)) w p) := mh14.f (by decide) (by decide) (by decide) (by decide)
          have ph15 : Kp k h (sI h14 k 19 (xI h14 b 19)) := ph14.tr (Kp.f (by decide))
          have kh15 : xK (sI h14 k 19 (xI h14 b 19)) = xK h := kh14
          generalize sI h14 k 19 (xI h14 b 19) = h15 at mh15 ph15 kh15 ⊢
          have bh15 : MilAt h15 b w := hw.ag ph15.2.2 q0 q1
          refine r_aload_n C (dx dX7_takeFrom 56 rfl) rfl ?_
          refine r_aload_n C (dx dX7_takeFrom 57 rfl) rfl ?_
          refine g_X7_57 (x := vS w) C (dx dX7_takeFrom 58 rfl) bh15.eS ?_
          refine p_X7_57 C (dx dX7_takeFrom 59 rfl) rfl rfl ?_
          have mh16 : MilAt (sI h15 k 20 (vS w)) k (vsS (vrow (vsN (vcp (vcp (vsM (vcp (vcp (vsP v (vP w)) 0 w) 1 w) (vM w)) 2 w) 3 w) (vN w)) w p) (vS w)) := mh15.sS (x := vS w)
          have ph16 : Kp k h (sI h15 k 20 (vS w)) := ph15.tr (Kp.f (by decide))
          have kh16 : xK (sI h15 k 20 (vS w)) = xK h := kh15
          generalize sI h15 k 20 (vS w) = h16 at mh16 ph16 kh16 ⊢
          have bh16 : MilAt h16 b w := hw.ag ph16.2.2 q0 q1
          exact F.2.2.1 _ _ _ rfl (dx dX7_takeFrom 60 rfl) kh16 ⟨rfl, mh16.to rfl rfl rfl rfl (fun _ => rfl) (fun _ => rfl) (fun _ => rfl) (fun _ => rfl) (fun o ho c hc => if_pos ⟨by omega, ho⟩), ph16⟩)
    · first
      | (omega; done)
      | (
          have c13 : p < 8 := c13
          refine r_aload_n C (dx dX7_takeFrom 37 rfl) rfl ?_
          refine g_X7_54 C (dx dX7_takeFrom 38 rfl) ?_
          refine r_iload_n C (dx dX7_takeFrom 39 rfl) rfl ?_
          refine r_aald4 (j := p) C rfl rfl (by decide) rfl (by omega) (dx dX7_takeFrom 40 rfl) ?_
          refine r_aload_n C (dx dX7_takeFrom 41 rfl) rfl ?_
          refine g_X7_54 C (dx dX7_takeFrom 42 rfl) ?_
          refine r_iload_n C (dx dX7_takeFrom 43 rfl) rfl ?_
          refine r_aald4 (j := p) C rfl rfl (by decide) rfl (by omega) (dx dX7_takeFrom 44 rfl) ?_
          refine r_cs (as := [vr 27 (b + 23 + p), vr 27 (k + 23 + p)]) (st := []) C X I_X7_over l_X7_350 (c_over27 (show b + 23 + p ≠ k + 23 + p by omega)) (by decide) (Nat.le_of_ble_eq_true rfl) List.prefix_rfl (pfx_eq k9) (Nat.le_of_ble_eq_true rfl) rfl (dx dX7_takeFrom 45 rfl) ?_
          rintro _ h17 ⟨rfl, qh17, fh17⟩ kkh17
          have mh17 : MilAt h17 k (vrow (vsN (vcp (vcp (vsM (vcp (vcp (vsP v (vP w)) 0 w) 1 w) (vM w)) 2 w) 3 w) (vN w)) w (p + 1)) := m9.rs fh17 (fun i hi => (qh17 i hi).trans (b9.eo (by omega) hi))
          have ph17 : Kp k h h17 := p9.tr (Kp.fr fh17 (by omega) (by omega))
          have kh17 : xK h17 = xK h := (kkh17).trans k9
          have bh17 : MilAt h17 b w := hw.ag ph17.2.2 q0 q1
          refine rn_iinc (a := p) (k := 1) (ls' := [(0, vr 7 k), (1, vr 7 b), (2, vi (nI (p + 1)))]) C (dx dX7_takeFrom 46 rfl) rfl rfl (by decide) [1, 2, 0] rfl ?_
          refine r_goto (tgt := 70) C (dx dX7_takeFrom 47 rfl) (by decide) ?_
          exact ih _ mh17 ph17 kh17)

