/-! PART 36: the reference: texts read -/
/-- the state while a token is looked for -/
def Lk (h0 h : Hp) (k z a : Nat) (v : Vg) : Prop := MilAt h k v ∧ xI h k 8 = nI z ∧ xI h k 23 = nI a ∧ a ≤ z ∧ z ≤ 250 ∧ Kp k h0 h ∧ xI h k 28 = xI h0 k 28 ∧ xK h = xK h0
/-- the state between: size, place, where the token begins -/
def Pk (h0 h : Hp) (k z a f : Nat) (v : Vg) : Prop := MilAt h k v ∧ xI h k 8 = nI z ∧ xI h k 23 = nI a ∧ xI h k 25 = nI f ∧ f ≤ a ∧ a ≤ z ∧ z ≤ 250 ∧ (xI h k 24 = 0 ∨ f < a) ∧ Kp k h0 h ∧ xK h = xK h0
section LK
variable {h0 h h1 h2 : Hp} {k z a a' f f' j : Nat} {v v' : Vg} {x : Int32} {y : Int64}
theorem Lk.m (p : Lk h0 h k z a v) : MilAt h k v := p.1
theorem Lk.e8 (p : Lk h0 h k z a v) : xI h k 8 = nI z := p.2.1
theorem Lk.e23 (p : Lk h0 h k z a v) : xI h k 23 = nI a := p.2.2.1
theorem Lk.az (p : Lk h0 h k z a v) : a ≤ z := p.2.2.2.1
theorem Lk.bz (p : Lk h0 h k z a v) : z ≤ 250 := p.2.2.2.2.1
theorem Lk.kp (p : Lk h0 h k z a v) : Kp k h0 h := p.2.2.2.2.2.1
theorem Lk.e28 (p : Lk h0 h k z a v) : xI h k 28 = xI h0 k 28 := p.2.2.2.2.2.2.1
theorem Lk.kk (p : Lk h0 h k z a v) : xK h = xK h0 := p.2.2.2.2.2.2.2
theorem Lk.tp (p : Lk h0 h k z a v) {i : Nat} : xI h (k + 16) i = xI h0 (k + 16) i := by rw [(p.kp.2.2 (k + 16) (fun q => by unfold VC at q; omega)).1]
theorem Lk.at (p : Lk h0 h k z a v) (ha : a' ≤ z) : Lk h0 (sI h k 23 (nI a')) k z a' v :=
  ⟨p.m.f (by decide) (by decide) (by decide) (by decide), by rw [sI_at, if_neg (by decide)]; exact p.e8, by rw [sI_at, if_pos rfl], ha, p.bz, p.kp.tr (Kp.f (by decide)), by rw [sI_at, if_neg (by decide)]; exact p.e28, p.kk⟩
theorem Lk.fd (p : Lk h0 h k z a v) (hj : j = 24 ∨ j = 25) : Lk h0 (sI h k j x) k z a v :=
  ⟨p.m.f (by omega) (by omega) (by omega) (by omega), by rw [sI_at, if_neg (by omega)]; exact p.e8, by rw [sI_at, if_neg (by omega)]; exact p.e23, p.az, p.bz, p.kp.tr (Kp.f (by omega)), by rw [sI_at, if_neg (by omega)]; exact p.e28, p.kk⟩
theorem Lk.l (p : Lk h0 h k z a v) : Lk h0 (sL h k j y) k z a v :=
  ⟨p.m.fL, p.e8, p.e23, p.az, p.bz, p.kp.tr Kp.fL, p.e28, p.kk⟩
theorem Pk.m (p : Pk h0 h k z a f v) : MilAt h k v := p.1
theorem Pk.e8 (p : Pk h0 h k z a f v) : xI h k 8 = nI z := p.2.1
theorem Pk.e23 (p : Pk h0 h k z a f v) : xI h k 23 = nI a := p.2.2.1
theorem Pk.e25 (p : Pk h0 h k z a f v) : xI h k 25 = nI f := p.2.2.2.1
theorem Pk.fa (p : Pk h0 h k z a f v) : f ≤ a := p.2.2.2.2.1
theorem Pk.az (p : Pk h0 h k z a f v) : a ≤ z := p.2.2.2.2.2.1
theorem Pk.bz (p : Pk h0 h k z a f v) : z ≤ 250 := p.2.2.2.2.2.2.1
theorem Pk.tk (p : Pk h0 h k z a f v) : xI h k 24 = 0 ∨ f < a := p.2.2.2.2.2.2.2.1
theorem Pk.kp (p : Pk h0 h k z a f v) : Kp k h0 h := p.2.2.2.2.2.2.2.2.1
theorem Pk.kk (p : Pk h0 h k z a f v) : xK h = xK h0 := p.2.2.2.2.2.2.2.2.2
theorem Pk.slf (p : Pk h0 h k z a f v) : Pk h h k z a f v := ⟨p.m, p.e8, p.e23, p.e25, p.fa, p.az, p.bz, p.tk, Kp.rf, rfl⟩
theorem Pk.lk (p : Pk h0 h k z a f v) : Lk h h k z a v := ⟨p.m, p.e8, p.e23, p.az, p.bz, Kp.rf, rfl, rfl⟩
theorem Pk.tr (p : Pk h0 h1 k z a f v) (q : Pk h1 h2 k z a' f' v') : Pk h0 h2 k z a' f' v' := ⟨q.m, q.e8, q.e23, q.e25, q.fa, q.az, q.bz, q.tk, p.kp.tr q.kp, q.kk.trans p.kk⟩
theorem Pk.pre (p : Pk h1 h2 k z a f v) (c : Kp k h0 h1) (e : xK h1 = xK h0) : Pk h0 h2 k z a f v := ⟨p.m, p.e8, p.e23, p.e25, p.fa, p.az, p.bz, p.tk, c.tr p.kp, p.kk.trans e⟩
theorem Pk.of (p : Lk h0 h k z a v) (e : xI h k 25 = nI f) (b : f ≤ a) (t : xI h k 24 = 0 ∨ f < a) : Pk h0 h k z a f v := ⟨p.m, p.e8, p.e23, e, b, p.az, p.bz, t, p.kp, p.kk⟩
/-- another cell of the village written; a field of it -/
theorem Pk.c {b : Nat} (p : Pk h0 h k z a f v) (m' : MilAt (sI h b j x) k v') (h1 : k + 17 ≤ b) (h2 : b < k + 32) : Pk h0 (sI h b j x) k z a f v' := by
  have e : xI (sI h b j x) k = xI h k := (oth_sI k (by omega)).1
  exact ⟨m', by rw [e]; exact p.e8, by rw [e]; exact p.e23, by rw [e]; exact p.e25, p.fa, p.az, p.bz, by rw [e]; exact p.tk, p.kp.tr (Kp.c h1 h2), p.kk⟩
theorem Pk.fd (p : Pk h0 h k z a f v) (m' : MilAt (sI h k j x) k v') (h1 : j ≠ 8) (h2 : j ≠ 23) (h3 : j ≠ 24) (h4 : j ≠ 25) : Pk h0 (sI h k j x) k z a f v' :=
  ⟨m', by rw [sI_at, if_neg (Ne.symm h1)]; exact p.e8, by rw [sI_at, if_neg (Ne.symm h2)]; exact p.e23, by rw [sI_at, if_neg (Ne.symm h4)]; exact p.e25, p.fa, p.az, p.bz, by rw [sI_at, if_neg (Ne.symm h3)]; exact p.tk, p.kp.tr (Kp.f h1), p.kk⟩
theorem Pk.lt (p : Pk h0 h k z a f v) {n : Nat} (e : xI h k 24 = nI n) (hn : 0 < n ∧ n < 5) : f < a := by
  rcases p.tk with q | q
  · exact absurd (e.symm.trans q) (by
      intro c; have := congrArg Int32.toInt c; rw [nI_toInt (by omega), show (0 : Int32).toInt = 0 by decide] at this; omega)
  · exact q
end LK
def ltB (x : Int32) : Bool := decide (¬ x < nI 97) && decide (¬ nI 122 < x)
def dgB (x : Int32) : Bool := decide (¬ x < nI 48) && decide (¬ nI 57 < x)
/-- a long between two ints is an int -/
theorem inL_i {F : Int64} {a b : Int32} (h : inL F a.toInt64 b.toInt64 = true) : inL F.toInt32.toInt64 a.toInt64 b.toInt64 = true := by
  have e : F.toInt32.toInt64 = F := by
    unfold inL at h
    simp only [Bool.and_eq_true, decide_eq_true_eq, Int64.le_iff_toInt_le, Int32.toInt_toInt64] at h
    have h1 := Int32.le_toInt a
    have h2 := Int32.toInt_lt b
    apply Int64.toInt_inj.mp
    rw [Int32.toInt_toInt64, Int64.toInt_toInt32]
    exact Int.bmod_eq_of_le (by omega) (by omega)
  rw [e]; exact h
theorem inL_ex {t : Int32} {n : Nat} (hn : n < 2 ^ 30) (h : inL t.toInt64 (nI 0).toInt64 (nI n - nI 1).toInt64 = true) : ∃ j, j < n ∧ t = nI j := by
  rw [show (nI 0).toInt64 = 0 by decide, inL_N hn] at h
  exact inR_ex (by omega) h
theorem inL_e0 {F : Int64} {n : Nat} (hn : n < 2 ^ 30) (h : inL F 0 (nI n - nI 1).toInt64 = true) : ∃ j, j < n ∧ F.toInt32 = nI j := by
  rw [show (0 : Int64) = (nI 0).toInt64 by decide] at h
  exact inL_ex hn (inL_i h)
set_option maxHeartbeats 4000000 in
theorem c_X7_isLetter {l : Launch} {h : Hp} (x : Int32) : Mp l yX7_isLetter cX7_isLetter 1 (some .boolean) 1 [vi x] h (vi (b2i (ltB x))) := by
  refine Ms.of (by decide) (Nat.le_of_ble_eq_true rfl) (fun G C X F => ?_)
  have C : Cx G cX7_isLetter 1 RX7 := C
  show Rr G 0 [(0, vi x)] [] h
  refine r_iload_n C (dx dX7_isLetter 0 rfl) rfl ?_
  refine r_bipush (v := nI 97) C (dx dX7_isLetter 1 rfl) rfl ?_
  refine r_icmp_lt (tgt := 16) C (dx dX7_isLetter 2 rfl) (by decide) (fun c1 => ?_) (fun c1 => ?_)
  ·
    have c1 : x < nI 97 := c1
    refine r_iconst (v := nI 0) C (dx dX7_isLetter 8 rfl) rfl ?_
    exact F.1 _ _ _ _ _ rfl rfl (dx dX7_isLetter 9 rfl) rfl ⟨congrArg (fun x => some (vi x)) (show nI 0 = b2i _ by rw [show (ltB x) = false by (unfold ltB; first | (rw [decide_eq_false (not_not_intro c1)]; rfl) | (rw [decide_eq_true c1, decide_eq_false (not_not_intro c1)]; rfl) | (rw [decide_eq_true c1, decide_eq_true c1]; rfl))]; rfl), rfl⟩
  ·
    have c1 : ¬ x < nI 97 := c1
    refine r_iload_n C (dx dX7_isLetter 3 rfl) rfl ?_
    refine r_bipush (v := nI 122) C (dx dX7_isLetter 4 rfl) rfl ?_
    refine r_icmp_gt (tgt := 16) C (dx dX7_isLetter 5 rfl) (by decide) (fun c2 => ?_) (fun c2 => ?_)
    ·
      have c2 : nI 122 < x := c2
      refine r_iconst (v := nI 0) C (dx dX7_isLetter 8 rfl) rfl ?_
      exact F.1 _ _ _ _ _ rfl rfl (dx dX7_isLetter 9 rfl) rfl ⟨congrArg (fun x => some (vi x)) (show nI 0 = b2i _ by rw [show (ltB x) = false by (unfold ltB; first | (rw [decide_eq_false (not_not_intro c1)]; rfl) | (rw [decide_eq_true c1, decide_eq_false (not_not_intro c2)]; rfl) | (rw [decide_eq_true c1, decide_eq_true c2]; rfl))]; rfl), rfl⟩
    ·
      have c2 : ¬ nI 122 < x := c2
      refine r_iconst (v := nI 1) C (dx dX7_isLetter 6 rfl) rfl ?_
      refine r_goto (tgt := 17) C (dx dX7_isLetter 7 rfl) (by decide) ?_
      exact F.1 _ _ _ _ _ rfl rfl (dx dX7_isLetter 9 rfl) rfl ⟨congrArg (fun x => some (vi x)) (show nI 1 = b2i _ by rw [show (ltB x) = true by (unfold ltB; first | (rw [decide_eq_false (not_not_intro c1)]; rfl) | (rw [decide_eq_true c1, decide_eq_false (not_not_intro c2)]; rfl) | (rw [decide_eq_true c1, decide_eq_true c2]; rfl))]; rfl), rfl⟩
set_option maxHeartbeats 4000000 in
theorem c_X7_isDigit {l : Launch} {h : Hp} (x : Int32) : Mp l yX7_isDigit cX7_isDigit 1 (some .boolean) 1 [vi x] h (vi (b2i (dgB x))) := by
  refine Ms.of (by decide) (Nat.le_of_ble_eq_true rfl) (fun G C X F => ?_)
  have C : Cx G cX7_isDigit 1 RX7 := C
  show Rr G 0 [(0, vi x)] [] h
  refine r_iload_n C (dx dX7_isDigit 0 rfl) rfl ?_
  refine r_bipush (v := nI 48) C (dx dX7_isDigit 1 rfl) rfl ?_
  refine r_icmp_lt (tgt := 16) C (dx dX7_isDigit 2 rfl) (by decide) (fun c1 => ?_) (fun c1 => ?_)
  ·
    have c1 : x < nI 48 := c1
    refine r_iconst (v := nI 0) C (dx dX7_isDigit 8 rfl) rfl ?_
    exact F.1 _ _ _ _ _ rfl rfl (dx dX7_isDigit 9 rfl) rfl ⟨congrArg (fun x => some (vi x)) (show nI 0 = b2i _ by rw [show (dgB x) = false by (unfold dgB; first | (rw [decide_eq_false (not_not_intro c1)]; rfl) | (rw [decide_eq_true c1, decide_eq_false (not_not_intro c1)]; rfl) | (rw [decide_eq_true c1, decide_eq_true c1]; rfl))]; rfl), rfl⟩
  ·
    have c1 : ¬ x < nI 48 := c1
    refine r_iload_n C (dx dX7_isDigit 3 rfl) rfl ?_
    refine r_bipush (v := nI 57) C (dx dX7_isDigit 4 rfl) rfl ?_
    refine r_icmp_gt (tgt := 16) C (dx dX7_isDigit 5 rfl) (by decide) (fun c2 => ?_) (fun c2 => ?_)
    ·
      have c2 : nI 57 < x := c2
      refine r_iconst (v := nI 0) C (dx dX7_isDigit 8 rfl) rfl ?_
      exact F.1 _ _ _ _ _ rfl rfl (dx dX7_isDigit 9 rfl) rfl ⟨congrArg (fun x => some (vi x)) (show nI 0 = b2i _ by rw [show (dgB x) = false by (unfold dgB; first | (rw [decide_eq_false (not_not_intro c1)]; rfl) | (rw [decide_eq_true c1, decide_eq_false (not_not_intro c2)]; rfl) | (rw [decide_eq_true c1, decide_eq_true c2]; rfl))]; rfl), rfl⟩
    ·
      have c2 : ¬ nI 57 < x := c2
      refine r_iconst (v := nI 1) C (dx dX7_isDigit 6 rfl) rfl ?_
      refine r_goto (tgt := 17) C (dx dX7_isDigit 7 rfl) (by decide) ?_
      exact F.1 _ _ _ _ _ rfl rfl (dx dX7_isDigit 9 rfl) rfl ⟨congrArg (fun x => some (vi x)) (show nI 1 = b2i _ by rw [show (dgB x) = true by (unfold dgB; first | (rw [decide_eq_false (not_not_intro c1)]; rfl) | (rw [decide_eq_true c1, decide_eq_false (not_not_intro c2)]; rfl) | (rw [decide_eq_true c1, decide_eq_true c2]; rfl))]; rfl), rfl⟩
set_option maxHeartbeats 4000000 in
theorem c_X7_look {l : Launch} {h : Hp} {k : Nat} {v : Vg} {z a : Nat} (L0 : Lk h h k z a v) : Ms l yX7_look cX7_look 1 none 2 [vr 7 k] h (xK h) (fun r h' => r = none ∧ ∃ a' f', Pk h h' k z a' f' v ∧ a ≤ f' ∧ xI h' k 28 = xI h k 28) := by
  refine Ms.of (by decide) (Nat.le_of_ble_eq_true rfl) (fun G C X F => ?_)
  have C : Cx G cX7_look 1 RX7 := C
  show Rr G 0 [(0, vr 7 k)] [] h
  have az0 := L0.az
  have bz := L0.bz
  have key : ∀ (n a9 : Nat) (h9 : Hp), z - a9 = n → Lk h h9 k z a9 v → a ≤ a9 → Rr G 0 [(0, vr 7 k)] [] h9 := by
    intro n
    induction n using Nat.strongRecOn with | ind n ih => _
    intro a9 h9 en L9 lo9
    have az9 := L9.az
    refine r_aload_n C (dx dX7_look 0 rfl) rfl ?_
    refine g_X7_141 (x := nI a9) C (dx dX7_look 1 rfl) L9.e23 ?_
    refine r_aload_n C (dx dX7_look 2 rfl) rfl ?_
    refine g_X7_138 (x := nI z) C (dx dX7_look 3 rfl) L9.e8 ?_
    refine rn_ge (a := a9) (b := z) (tgt := 38) C (by omega) (by omega) (dx dX7_look 4 rfl) (by decide) (fun c1 => ?_) (fun c1 => ?_)
    · first
      | (omega; done)
      | (
          have c1 : z ≤ a9 := c1
          refine r_aload_n C (dx dX7_look 19 rfl) rfl ?_
          refine r_aload_n C (dx dX7_look 20 rfl) rfl ?_
          refine g_X7_141 (x := nI a9) C (dx dX7_look 21 rfl) L9.e23 ?_
          refine p_X7_144 C (dx dX7_look 22 rfl) rfl rfl ?_
          have Lh2 : Lk h (sI h9 k 25 (nI a9)) k z a9 v := L9.fd (by decide)
          have Fh2 : xI (sI h9 k 25 (nI a9)) k 25 = nI a9 := by rw [sI_at, if_pos rfl]
          generalize sI h9 k 25 (nI a9) = h2 at Lh2 Fh2 ⊢
          refine r_aload_n C (dx dX7_look 23 rfl) rfl ?_
          refine r_lconst (v := 0) C (dx dX7_look 24 rfl) rfl ?_
          refine p_X7_147 C (dx dX7_look 25 rfl) ?_
          have Lh3 : Lk h (sL h2 k 26 0) k z a9 v := Lh2.l
          have Fh3 : xI (sL h2 k 26 0) k 25 = nI a9 := Fh2
          generalize sL h2 k 26 0 = h3 at Lh3 Fh3 ⊢
          refine r_aload_n C (dx dX7_look 26 rfl) rfl ?_
          refine g_X7_141 (x := nI a9) C (dx dX7_look 27 rfl) Lh3.e23 ?_
          refine r_aload_n C (dx dX7_look 28 rfl) rfl ?_
          refine g_X7_138 (x := nI z) C (dx dX7_look 29 rfl) Lh3.e8 ?_
          refine rn_ne (a := a9) (b := z) (tgt := 70) C (by omega) (by omega) (dx dX7_look 30 rfl) (by decide) (fun c4 => ?_) (fun c4 => ?_)
          · first
            | (omega; done)
            | (
                have c4 : ¬ a9 = z := c4
                refine r_aload_n C (dx dX7_look 35 rfl) rfl ?_
                refine g_X7_34 C (dx dX7_look 36 rfl) ?_
                refine r_aload_n C (dx dX7_look 37 rfl) rfl ?_
                refine g_X7_141 (x := nI a9) C (dx dX7_look 38 rfl) Lh3.e23 ?_
                refine r_iald (j := a9) (x := xI h (k + 16) a9) C rfl rfl (by decide) rfl (by omega) (dx dX7_look 39 rfl) Lh3.tp ?_
                refine r_csP (as := [vi (xI h (k + 16) a9)]) (st := []) (v := vi (b2i (ltB (xI h (k + 16) a9)))) C X I_X7_isLetter l_X7_154 (c_X7_isLetter _) (by decide) (Nat.le_of_ble_eq_true rfl) (pfx_eq Lh3.kk) (Nat.le_of_ble_eq_true rfl) rfl (dx dX7_look 40 rfl) ?_
                refine rb_eq (b := ltB (xI h (k + 16) a9)) (tgt := 129) C (dx dX7_look 41 rfl) (by decide) (fun c5 => ?_) (fun c5 => ?_)
                ·
                  have c5 : (ltB (xI h (k + 16) a9)) = false := c5
                  refine r_aload_n C (dx dX7_look 64 rfl) rfl ?_
                  refine g_X7_34 C (dx dX7_look 65 rfl) ?_
                  refine r_aload_n C (dx dX7_look 66 rfl) rfl ?_
                  refine g_X7_141 (x := nI a9) C (dx dX7_look 67 rfl) Lh3.e23 ?_
                  refine r_iald (j := a9) (x := xI h (k + 16) a9) C rfl rfl (by decide) rfl (by omega) (dx dX7_look 68 rfl) Lh3.tp ?_
                  refine r_csP (as := [vi (xI h (k + 16) a9)]) (st := []) (v := vi (b2i (dgB (xI h (k + 16) a9)))) C X I_X7_isDigit l_X7_157 (c_X7_isDigit _) (by decide) (Nat.le_of_ble_eq_true rfl) (pfx_eq Lh3.kk) (Nat.le_of_ble_eq_true rfl) rfl (dx dX7_look 69 rfl) ?_
                  refine rb_eq (b := dgB (xI h (k + 16) a9)) (tgt := 234) C (dx dX7_look 70 rfl) (by decide) (fun c6 => ?_) (fun c6 => ?_)
                  ·
                    have c6 : (dgB (xI h (k + 16) a9)) = false := c6
                    refine r_aload_n C (dx dX7_look 117 rfl) rfl ?_
                    refine r_aload_n C (dx dX7_look 118 rfl) rfl ?_
                    refine g_X7_34 C (dx dX7_look 119 rfl) ?_
                    refine r_aload_n C (dx dX7_look 120 rfl) rfl ?_
                    refine g_X7_141 (x := nI a9) C (dx dX7_look 121 rfl) Lh3.e23 ?_
                    refine r_iald (j := a9) (x := xI h (k + 16) a9) C rfl rfl (by decide) rfl (by omega) (dx dX7_look 122 rfl) Lh3.tp ?_
                    refine r_bipush (v := nI 59) C (dx dX7_look 123 rfl) rfl ?_
                    refine r_icmp_ne (tgt := 253) C (dx dX7_look 124 rfl) (by decide) (fun c7 => ?_) (fun c7 => ?_)
                    ·
                      have c7 : ¬ xI h (k + 16) a9 = nI 59 := c7
                      refine r_iconst (v := nI 4) C (dx dX7_look 127 rfl) rfl ?_
                      refine p_X7_151 C (dx dX7_look 128 rfl) rfl rfl ?_
                      have Lh8 : Lk h (sI h3 k 24 (nI 4)) k z a9 v := Lh3.fd (by decide)
                      have Fh8 : xI (sI h3 k 24 (nI 4)) k 25 = nI a9 := by rw [sI_at, if_neg (by decide)]; exact Fh3
                      have Th8 : xI (sI h3 k 24 (nI 4)) k 24 = nI 4 := by rw [sI_at, if_pos rfl]
                      generalize sI h3 k 24 (nI 4) = h8 at Lh8 Fh8 Th8 ⊢
                      refine r_aload_n C (dx dX7_look 129 rfl) rfl ?_
                      refine r_dupR C (dx dX7_look 130 rfl) ?_
                      refine g_X7_141 (x := nI a9) C (dx dX7_look 131 rfl) Lh8.e23 ?_
                      refine r_iconst (v := nI 1) C (dx dX7_look 132 rfl) rfl ?_
                      refine rn_iadd (a := a9) (b := 1) C (dx dX7_look 133 rfl) ?_
                      refine p_X7_141 C (dx dX7_look 134 rfl) rfl rfl ?_
                      have Lh9 : Lk h (sI h8 k 23 (nI (a9 + 1))) k z (a9 + 1) v := Lh8.at (by omega)
                      have Fh9 : xI (sI h8 k 23 (nI (a9 + 1))) k 25 = nI a9 := by rw [sI_at, if_neg (by decide)]; exact Fh8
                      have Th9 : xI (sI h8 k 23 (nI (a9 + 1))) k 24 = nI 4 := by rw [sI_at, if_neg (by decide)]; exact Th8
                      generalize sI h8 k 23 (nI (a9 + 1)) = h9 at Lh9 Fh9 Th9 ⊢
                      exact F.2.2.1 _ _ _ rfl (dx dX7_look 135 rfl) Lh9.kk ⟨rfl, _, _, Pk.of Lh9 Fh9 (by omega) (Or.inr (by omega)), by omega, Lh9.e28⟩
                    ·
                      have c7 : xI h (k + 16) a9 = nI 59 := c7
                      refine r_iconst (v := nI 3) C (dx dX7_look 125 rfl) rfl ?_
                      refine r_goto (tgt := 254) C (dx dX7_look 126 rfl) (by decide) ?_
                      refine p_X7_151 C (dx dX7_look 128 rfl) rfl rfl ?_
                      have Lh10 : Lk h (sI h3 k 24 (nI 3)) k z a9 v := Lh3.fd (by decide)
                      have Fh10 : xI (sI h3 k 24 (nI 3)) k 25 = nI a9 := by rw [sI_at, if_neg (by decide)]; exact Fh3
                      have Th10 : xI (sI h3 k 24 (nI 3)) k 24 = nI 3 := by rw [sI_at, if_pos rfl]
                      generalize sI h3 k 24 (nI 3) = h10 at Lh10 Fh10 Th10 ⊢
                      refine r_aload_n C (dx dX7_look 129 rfl) rfl ?_
                      refine r_dupR C (dx dX7_look 130 rfl) ?_
                      refine g_X7_141 (x := nI a9) C (dx dX7_look 131 rfl) Lh10.e23 ?_
                      refine r_iconst (v := nI 1) C (dx dX7_look 132 rfl) rfl ?_
                      refine rn_iadd (a := a9) (b := 1) C (dx dX7_look 133 rfl) ?_
                      refine p_X7_141 C (dx dX7_look 134 rfl) rfl rfl ?_
                      have Lh11 : Lk h (sI h10 k 23 (nI (a9 + 1))) k z (a9 + 1) v := Lh10.at (by omega)
                      have Fh11 : xI (sI h10 k 23 (nI (a9 + 1))) k 25 = nI a9 := by rw [sI_at, if_neg (by decide)]; exact Fh10
                      have Th11 : xI (sI h10 k 23 (nI (a9 + 1))) k 24 = nI 3 := by rw [sI_at, if_neg (by decide)]; exact Th10
                      generalize sI h10 k 23 (nI (a9 + 1)) = h11 at Lh11 Fh11 Th11 ⊢
                      exact F.2.2.1 _ _ _ rfl (dx dX7_look 135 rfl) Lh11.kk ⟨rfl, _, _, Pk.of Lh11 Fh11 (by omega) (Or.inr (by omega)), by omega, Lh11.e28⟩
                  ·
                    have c6 : (dgB (xI h (k + 16) a9)) = true := c6
                    refine r_aload_n C (dx dX7_look 71 rfl) rfl ?_
                    refine r_iconst (v := nI 2) C (dx dX7_look 72 rfl) rfl ?_
                    refine p_X7_151 C (dx dX7_look 73 rfl) rfl rfl ?_
                    have Lh12 : Lk h (sI h3 k 24 (nI 2)) k z a9 v := Lh3.fd (by decide)
                    have Fh12 : xI (sI h3 k 24 (nI 2)) k 25 = nI a9 := by rw [sI_at, if_neg (by decide)]; exact Fh3
                    have Th12 : xI (sI h3 k 24 (nI 2)) k 24 = nI 2 := by rw [sI_at, if_pos rfl]
                    generalize sI h3 k 24 (nI 2) = h12 at Lh12 Fh12 Th12 ⊢
                    refine r_aload_n C (dx dX7_look 74 rfl) rfl ?_
                    refine g_X7_141 (x := nI a9) C (dx dX7_look 75 rfl) Lh12.e23 ?_
                    refine r_aload_n C (dx dX7_look 76 rfl) rfl ?_
                    refine g_X7_138 (x := nI z) C (dx dX7_look 77 rfl) Lh12.e8 ?_
                    refine rn_ge (a := a9) (b := z) (tgt := 267) C (by omega) (by omega) (dx dX7_look 78 rfl) (by decide) (fun c13 => ?_) (fun c13 => ?_)
                    · first
                      | (omega; done)
                      | (
                          have c13 : z ≤ a9 := c13
                          exact F.2.2.1 _ _ _ rfl (dx dX7_look 135 rfl) Lh12.kk ⟨rfl, _, _, Pk.of Lh12 Fh12 (by omega) (Or.inr (by omega)), by omega, Lh12.e28⟩)
                    · first
                      | (omega; done)
                      | (
                          have c13 : a9 < z := c13
                          refine r_aload_n C (dx dX7_look 79 rfl) rfl ?_
                          refine g_X7_34 C (dx dX7_look 80 rfl) ?_
                          refine r_aload_n C (dx dX7_look 81 rfl) rfl ?_
                          refine g_X7_141 (x := nI a9) C (dx dX7_look 82 rfl) Lh12.e23 ?_
                          refine r_iald (j := a9) (x := xI h (k + 16) a9) C rfl rfl (by decide) rfl (by omega) (dx dX7_look 83 rfl) Lh12.tp ?_
                          refine r_csP (as := [vi (xI h (k + 16) a9)]) (st := []) (v := vi (b2i (dgB (xI h (k + 16) a9)))) C X I_X7_isDigit l_X7_157 (c_X7_isDigit _) (by decide) (Nat.le_of_ble_eq_true rfl) (pfx_eq Lh12.kk) (Nat.le_of_ble_eq_true rfl) rfl (dx dX7_look 84 rfl) ?_
                          refine rb_eq (b := dgB (xI h (k + 16) a9)) (tgt := 267) C (dx dX7_look 85 rfl) (by decide) (fun c14 => ?_) (fun c14 => ?_)
                          ·
                            have c14 : (dgB (xI h (k + 16) a9)) = false := c14
                            exact absurd (c6.symm.trans c14) (by decide)
                          ·
                            have c14 : (dgB (xI h (k + 16) a9)) = true := c14
                            refine r_aload_n C (dx dX7_look 86 rfl) rfl ?_
                            refine r_aload_n C (dx dX7_look 87 rfl) rfl ?_
                            refine g_X7_141 (x := nI a9) C (dx dX7_look 88 rfl) Lh12.e23 ?_
                            refine r_aload_n C (dx dX7_look 89 rfl) rfl ?_
                            refine g_X7_144 (x := nI a9) C (dx dX7_look 90 rfl) Fh12 ?_
                            refine rn_isub (a := a9) (b := a9) C (by omega) (dx dX7_look 91 rfl) ?_
                            refine r_iconst (v := nI 2) C (dx dX7_look 92 rfl) rfl ?_
                            refine rn_ge (a := a9 - a9) (b := 2) (tgt := 215) C (by omega) (by omega) (dx dX7_look 93 rfl) (by decide) (fun c15 => ?_) (fun c15 => ?_)
                            · first
                              | (omega; done)
                              | (
                                  have c15 : 2 ≤ a9 - a9 := c15
                                  refine r_ldc2 C n_X7_162 (dx dX7_look 108 rfl) ?_
                                  refine p_X7_147 C (dx dX7_look 109 rfl) ?_
                                  have Lh16 : Lk h (sL h12 k 26 100000) k z a9 v := Lh12.l
                                  have Fh16 : xI (sL h12 k 26 100000) k 25 = nI a9 := Fh12
                                  have Th16 : xI (sL h12 k 26 100000) k 24 = nI 2 := Th12
                                  generalize sL h12 k 26 100000 = h16 at Lh16 Fh16 Th16 ⊢
                                  refine r_aload_n C (dx dX7_look 110 rfl) rfl ?_
                                  refine r_dupR C (dx dX7_look 111 rfl) ?_
                                  refine g_X7_141 (x := nI a9) C (dx dX7_look 112 rfl) Lh16.e23 ?_
                                  refine r_iconst (v := nI 1) C (dx dX7_look 113 rfl) rfl ?_
                                  refine rn_iadd (a := a9) (b := 1) C (dx dX7_look 114 rfl) ?_
                                  refine p_X7_141 C (dx dX7_look 115 rfl) rfl rfl ?_
                                  have Lh17 : Lk h (sI h16 k 23 (nI (a9 + 1))) k z (a9 + 1) v := Lh16.at (by omega)
                                  have Fh17 : xI (sI h16 k 23 (nI (a9 + 1))) k 25 = nI a9 := by rw [sI_at, if_neg (by decide)]; exact Fh16
                                  have Th17 : xI (sI h16 k 23 (nI (a9 + 1))) k 24 = nI 2 := by rw [sI_at, if_neg (by decide)]; exact Th16
                                  generalize sI h16 k 23 (nI (a9 + 1)) = h17 at Lh17 Fh17 Th17 ⊢
                                  refine r_goto (tgt := 149) C (dx dX7_look 116 rfl) (by decide) ?_
                                  have key : ∀ (n a8 : Nat) (h8 : Hp), z - a8 = n → Lk h h8 k z a8 v → a9 < a8 → xI h8 k 25 = nI a9 → xI h8 k 24 = nI 2 → Rr G 149 [(0, vr 7 k)] [] h8 := by
                                    intro n
                                    induction n using Nat.strongRecOn with | ind n ih => _
                                    intro a8 h8 en L8 lo8 F8 T8
                                    have az8 := L8.az
                                    refine r_aload_n C (dx dX7_look 74 rfl) rfl ?_
                                    refine g_X7_141 (x := nI a8) C (dx dX7_look 75 rfl) L8.e23 ?_
                                    refine r_aload_n C (dx dX7_look 76 rfl) rfl ?_
                                    refine g_X7_138 (x := nI z) C (dx dX7_look 77 rfl) L8.e8 ?_
                                    refine rn_ge (a := a8) (b := z) (tgt := 267) C (by omega) (by omega) (dx dX7_look 78 rfl) (by decide) (fun c18 => ?_) (fun c18 => ?_)
                                    · first
                                      | (omega; done)
                                      | (
                                          have c18 : z ≤ a8 := c18
                                          exact F.2.2.1 _ _ _ rfl (dx dX7_look 135 rfl) L8.kk ⟨rfl, _, _, Pk.of L8 F8 (by omega) (Or.inr (by omega)), by omega, L8.e28⟩)
                                    · first
                                      | (omega; done)
                                      | (
                                          have c18 : a8 < z := c18
                                          refine r_aload_n C (dx dX7_look 79 rfl) rfl ?_
                                          refine g_X7_34 C (dx dX7_look 80 rfl) ?_
                                          refine r_aload_n C (dx dX7_look 81 rfl) rfl ?_
                                          refine g_X7_141 (x := nI a8) C (dx dX7_look 82 rfl) L8.e23 ?_
                                          refine r_iald (j := a8) (x := xI h (k + 16) a8) C rfl rfl (by decide) rfl (by omega) (dx dX7_look 83 rfl) L8.tp ?_
                                          refine r_csP (as := [vi (xI h (k + 16) a8)]) (st := []) (v := vi (b2i (dgB (xI h (k + 16) a8)))) C X I_X7_isDigit l_X7_157 (c_X7_isDigit _) (by decide) (Nat.le_of_ble_eq_true rfl) (pfx_eq L8.kk) (Nat.le_of_ble_eq_true rfl) rfl (dx dX7_look 84 rfl) ?_
                                          refine rb_eq (b := dgB (xI h (k + 16) a8)) (tgt := 267) C (dx dX7_look 85 rfl) (by decide) (fun c19 => ?_) (fun c19 => ?_)
                                          ·
                                            have c19 : (dgB (xI h (k + 16) a8)) = false := c19
                                            exact F.2.2.1 _ _ _ rfl (dx dX7_look 135 rfl) L8.kk ⟨rfl, _, _, Pk.of L8 F8 (by omega) (Or.inr (by omega)), by omega, L8.e28⟩
                                          ·
                                            have c19 : (dgB (xI h (k + 16) a8)) = true := c19
                                            refine r_aload_n C (dx dX7_look 86 rfl) rfl ?_
                                            refine r_aload_n C (dx dX7_look 87 rfl) rfl ?_
                                            refine g_X7_141 (x := nI a8) C (dx dX7_look 88 rfl) L8.e23 ?_
                                            refine r_aload_n C (dx dX7_look 89 rfl) rfl ?_
                                            refine g_X7_144 (x := nI a9) C (dx dX7_look 90 rfl) F8 ?_
                                            refine rn_isub (a := a8) (b := a9) C (by omega) (dx dX7_look 91 rfl) ?_
                                            refine r_iconst (v := nI 2) C (dx dX7_look 92 rfl) rfl ?_
                                            refine rn_ge (a := a8 - a9) (b := 2) (tgt := 215) C (by omega) (by omega) (dx dX7_look 93 rfl) (by decide) (fun c20 => ?_) (fun c20 => ?_)
                                            · first
                                              | (omega; done)
                                              | (
                                                  have c20 : 2 ≤ a8 - a9 := c20
                                                  refine r_ldc2 C n_X7_162 (dx dX7_look 108 rfl) ?_
                                                  refine p_X7_147 C (dx dX7_look 109 rfl) ?_
                                                  have Lh21 : Lk h (sL h8 k 26 100000) k z a8 v := L8.l
                                                  have Fh21 : xI (sL h8 k 26 100000) k 25 = nI a9 := F8
                                                  have Th21 : xI (sL h8 k 26 100000) k 24 = nI 2 := T8
                                                  generalize sL h8 k 26 100000 = h21 at Lh21 Fh21 Th21 ⊢
                                                  refine r_aload_n C (dx dX7_look 110 rfl) rfl ?_
                                                  refine r_dupR C (dx dX7_look 111 rfl) ?_
                                                  refine g_X7_141 (x := nI a8) C (dx dX7_look 112 rfl) Lh21.e23 ?_
                                                  refine r_iconst (v := nI 1) C (dx dX7_look 113 rfl) rfl ?_
                                                  refine rn_iadd (a := a8) (b := 1) C (dx dX7_look 114 rfl) ?_
                                                  refine p_X7_141 C (dx dX7_look 115 rfl) rfl rfl ?_
                                                  have Lh22 : Lk h (sI h21 k 23 (nI (a8 + 1))) k z (a8 + 1) v := Lh21.at (by omega)
                                                  have Fh22 : xI (sI h21 k 23 (nI (a8 + 1))) k 25 = nI a9 := by rw [sI_at, if_neg (by decide)]; exact Fh21
                                                  have Th22 : xI (sI h21 k 23 (nI (a8 + 1))) k 24 = nI 2 := by rw [sI_at, if_neg (by decide)]; exact Th21
                                                  generalize sI h21 k 23 (nI (a8 + 1)) = h22 at Lh22 Fh22 Th22 ⊢
                                                  refine r_goto (tgt := 149) C (dx dX7_look 116 rfl) (by decide) ?_
                                                  exact ih _ (by omega) _ _ rfl Lh22 (by omega) Fh22 Th22)
                                            · first
                                              | (omega; done)
                                              | (
                                                  have c20 : a8 - a9 < 2 := c20
                                                  refine r_aload_n C (dx dX7_look 94 rfl) rfl ?_
                                                  refine g_X7_147 C (dx dX7_look 95 rfl) rfl ?_
                                                  refine r_ldc2 C n_X7_120 (dx dX7_look 96 rfl) ?_
                                                  refine r_lmul C (dx dX7_look 97 rfl) ?_
                                                  refine r_aload_n C (dx dX7_look 98 rfl) rfl ?_
                                                  refine g_X7_34 C (dx dX7_look 99 rfl) ?_
                                                  refine r_aload_n C (dx dX7_look 100 rfl) rfl ?_
                                                  refine g_X7_141 (x := nI a8) C (dx dX7_look 101 rfl) L8.e23 ?_
                                                  refine r_iald (j := a8) (x := xI h (k + 16) a8) C rfl rfl (by decide) rfl (by omega) (dx dX7_look 102 rfl) L8.tp ?_
                                                  refine r_i2l C (dx dX7_look 103 rfl) ?_
                                                  refine r_ladd C (dx dX7_look 104 rfl) ?_
                                                  refine r_ldc2 C n_X7_160 (dx dX7_look 105 rfl) ?_
                                                  refine r_lsub C (dx dX7_look 106 rfl) ?_
                                                  refine r_goto (tgt := 218) C (dx dX7_look 107 rfl) (by decide) ?_
                                                  refine p_X7_147 C (dx dX7_look 109 rfl) ?_
                                                  have Lh23 : Lk h (sL h8 k 26 ((((xL h8 k 26) * 10) + ((xI h (k + 16) a8).toInt64)) - 48)) k z a8 v := L8.l
                                                  have Fh23 : xI (sL h8 k 26 ((((xL h8 k 26) * 10) + ((xI h (k + 16) a8).toInt64)) - 48)) k 25 = nI a9 := F8
                                                  have Th23 : xI (sL h8 k 26 ((((xL h8 k 26) * 10) + ((xI h (k + 16) a8).toInt64)) - 48)) k 24 = nI 2 := T8
                                                  generalize sL h8 k 26 ((((xL h8 k 26) * 10) + ((xI h (k + 16) a8).toInt64)) - 48) = h23 at Lh23 Fh23 Th23 ⊢
                                                  refine r_aload_n C (dx dX7_look 110 rfl) rfl ?_
                                                  refine r_dupR C (dx dX7_look 111 rfl) ?_
                                                  refine g_X7_141 (x := nI a8) C (dx dX7_look 112 rfl) Lh23.e23 ?_
                                                  refine r_iconst (v := nI 1) C (dx dX7_look 113 rfl) rfl ?_
                                                  refine rn_iadd (a := a8) (b := 1) C (dx dX7_look 114 rfl) ?_
                                                  refine p_X7_141 C (dx dX7_look 115 rfl) rfl rfl ?_
                                                  have Lh24 : Lk h (sI h23 k 23 (nI (a8 + 1))) k z (a8 + 1) v := Lh23.at (by omega)
                                                  have Fh24 : xI (sI h23 k 23 (nI (a8 + 1))) k 25 = nI a9 := by rw [sI_at, if_neg (by decide)]; exact Fh23
                                                  have Th24 : xI (sI h23 k 23 (nI (a8 + 1))) k 24 = nI 2 := by rw [sI_at, if_neg (by decide)]; exact Th23
                                                  generalize sI h23 k 23 (nI (a8 + 1)) = h24 at Lh24 Fh24 Th24 ⊢
                                                  refine r_goto (tgt := 149) C (dx dX7_look 116 rfl) (by decide) ?_
                                                  exact ih _ (by omega) _ _ rfl Lh24 (by omega) Fh24 Th24))
                                  exact key _ _ _ rfl Lh17 (by omega) Fh17 Th17)
                            · first
                              | (omega; done)
                              | (
                                  have c15 : a9 - a9 < 2 := c15
                                  refine r_aload_n C (dx dX7_look 94 rfl) rfl ?_
                                  refine g_X7_147 C (dx dX7_look 95 rfl) rfl ?_
                                  refine r_ldc2 C n_X7_120 (dx dX7_look 96 rfl) ?_
                                  refine r_lmul C (dx dX7_look 97 rfl) ?_
                                  refine r_aload_n C (dx dX7_look 98 rfl) rfl ?_
                                  refine g_X7_34 C (dx dX7_look 99 rfl) ?_
                                  refine r_aload_n C (dx dX7_look 100 rfl) rfl ?_
                                  refine g_X7_141 (x := nI a9) C (dx dX7_look 101 rfl) Lh12.e23 ?_
                                  refine r_iald (j := a9) (x := xI h (k + 16) a9) C rfl rfl (by decide) rfl (by omega) (dx dX7_look 102 rfl) Lh12.tp ?_
                                  refine r_i2l C (dx dX7_look 103 rfl) ?_
                                  refine r_ladd C (dx dX7_look 104 rfl) ?_
                                  refine r_ldc2 C n_X7_160 (dx dX7_look 105 rfl) ?_
                                  refine r_lsub C (dx dX7_look 106 rfl) ?_
                                  refine r_goto (tgt := 218) C (dx dX7_look 107 rfl) (by decide) ?_
                                  refine p_X7_147 C (dx dX7_look 109 rfl) ?_
                                  have Lh25 : Lk h (sL h12 k 26 ((((xL h12 k 26) * 10) + ((xI h (k + 16) a9).toInt64)) - 48)) k z a9 v := Lh12.l
                                  have Fh25 : xI (sL h12 k 26 ((((xL h12 k 26) * 10) + ((xI h (k + 16) a9).toInt64)) - 48)) k 25 = nI a9 := Fh12
                                  have Th25 : xI (sL h12 k 26 ((((xL h12 k 26) * 10) + ((xI h (k + 16) a9).toInt64)) - 48)) k 24 = nI 2 := Th12
                                  generalize sL h12 k 26 ((((xL h12 k 26) * 10) + ((xI h (k + 16) a9).toInt64)) - 48) = h25 at Lh25 Fh25 Th25 ⊢
                                  refine r_aload_n C (dx dX7_look 110 rfl) rfl ?_
                                  refine r_dupR C (dx dX7_look 111 rfl) ?_
                                  refine g_X7_141 (x := nI a9) C (dx dX7_look 112 rfl) Lh25.e23 ?_
                                  refine r_iconst (v := nI 1) C (dx dX7_look 113 rfl) rfl ?_
                                  refine rn_iadd (a := a9) (b := 1) C (dx dX7_look 114 rfl) ?_
                                  refine p_X7_141 C (dx dX7_look 115 rfl) rfl rfl ?_
                                  have Lh26 : Lk h (sI h25 k 23 (nI (a9 + 1))) k z (a9 + 1) v := Lh25.at (by omega)
                                  have Fh26 : xI (sI h25 k 23 (nI (a9 + 1))) k 25 = nI a9 := by rw [sI_at, if_neg (by decide)]; exact Fh25
                                  have Th26 : xI (sI h25 k 23 (nI (a9 + 1))) k 24 = nI 2 := by rw [sI_at, if_neg (by decide)]; exact Th25
                                  generalize sI h25 k 23 (nI (a9 + 1)) = h26 at Lh26 Fh26 Th26 ⊢
                                  refine r_goto (tgt := 149) C (dx dX7_look 116 rfl) (by decide) ?_
                                  have key : ∀ (n a8 : Nat) (h8 : Hp), z - a8 = n → Lk h h8 k z a8 v → a9 < a8 → xI h8 k 25 = nI a9 → xI h8 k 24 = nI 2 → Rr G 149 [(0, vr 7 k)] [] h8 := by
                                    intro n
                                    induction n using Nat.strongRecOn with | ind n ih => _
                                    intro a8 h8 en L8 lo8 F8 T8
                                    have az8 := L8.az
                                    refine r_aload_n C (dx dX7_look 74 rfl) rfl ?_
                                    refine g_X7_141 (x := nI a8) C (dx dX7_look 75 rfl) L8.e23 ?_
                                    refine r_aload_n C (dx dX7_look 76 rfl) rfl ?_
                                    refine g_X7_138 (x := nI z) C (dx dX7_look 77 rfl) L8.e8 ?_
                                    refine rn_ge (a := a8) (b := z) (tgt := 267) C (by omega) (by omega) (dx dX7_look 78 rfl) (by decide) (fun c27 => ?_) (fun c27 => ?_)
                                    · first
                                      | (omega; done)
                                      | (
                                          have c27 : z ≤ a8 := c27
                                          exact F.2.2.1 _ _ _ rfl (dx dX7_look 135 rfl) L8.kk ⟨rfl, _, _, Pk.of L8 F8 (by omega) (Or.inr (by omega)), by omega, L8.e28⟩)
                                    · first
                                      | (omega; done)
                                      | (
                                          have c27 : a8 < z := c27
                                          refine r_aload_n C (dx dX7_look 79 rfl) rfl ?_
                                          refine g_X7_34 C (dx dX7_look 80 rfl) ?_
                                          refine r_aload_n C (dx dX7_look 81 rfl) rfl ?_
                                          refine g_X7_141 (x := nI a8) C (dx dX7_look 82 rfl) L8.e23 ?_
                                          refine r_iald (j := a8) (x := xI h (k + 16) a8) C rfl rfl (by decide) rfl (by omega) (dx dX7_look 83 rfl) L8.tp ?_
                                          refine r_csP (as := [vi (xI h (k + 16) a8)]) (st := []) (v := vi (b2i (dgB (xI h (k + 16) a8)))) C X I_X7_isDigit l_X7_157 (c_X7_isDigit _) (by decide) (Nat.le_of_ble_eq_true rfl) (pfx_eq L8.kk) (Nat.le_of_ble_eq_true rfl) rfl (dx dX7_look 84 rfl) ?_
                                          refine rb_eq (b := dgB (xI h (k + 16) a8)) (tgt := 267) C (dx dX7_look 85 rfl) (by decide) (fun c28 => ?_) (fun c28 => ?_)
                                          ·
                                            have c28 : (dgB (xI h (k + 16) a8)) = false := c28
                                            exact F.2.2.1 _ _ _ rfl (dx dX7_look 135 rfl) L8.kk ⟨rfl, _, _, Pk.of L8 F8 (by omega) (Or.inr (by omega)), by omega, L8.e28⟩
                                          ·
                                            have c28 : (dgB (xI h (k + 16) a8)) = true := c28
                                            refine r_aload_n C (dx dX7_look 86 rfl) rfl ?_
                                            refine r_aload_n C (dx dX7_look 87 rfl) rfl ?_
                                            refine g_X7_141 (x := nI a8) C (dx dX7_look 88 rfl) L8.e23 ?_
                                            refine r_aload_n C (dx dX7_look 89 rfl) rfl ?_
                                            refine g_X7_144 (x := nI a9) C (dx dX7_look 90 rfl) F8 ?_
                                            refine rn_isub (a := a8) (b := a9) C (by omega) (dx dX7_look 91 rfl) ?_
                                            refine r_iconst (v := nI 2) C (dx dX7_look 92 rfl) rfl ?_
                                            refine rn_ge (a := a8 - a9) (b := 2) (tgt := 215) C (by omega) (by omega) (dx dX7_look 93 rfl) (by decide) (fun c29 => ?_) (fun c29 => ?_)
                                            · first
                                              | (omega; done)
                                              | (
                                                  have c29 : 2 ≤ a8 - a9 := c29
                                                  refine r_ldc2 C n_X7_162 (dx dX7_look 108 rfl) ?_
                                                  refine p_X7_147 C (dx dX7_look 109 rfl) ?_
                                                  have Lh30 : Lk h (sL h8 k 26 100000) k z a8 v := L8.l
                                                  have Fh30 : xI (sL h8 k 26 100000) k 25 = nI a9 := F8
                                                  have Th30 : xI (sL h8 k 26 100000) k 24 = nI 2 := T8
                                                  generalize sL h8 k 26 100000 = h30 at Lh30 Fh30 Th30 ⊢
                                                  refine r_aload_n C (dx dX7_look 110 rfl) rfl ?_
                                                  refine r_dupR C (dx dX7_look 111 rfl) ?_
                                                  refine g_X7_141 (x := nI a8) C (dx dX7_look 112 rfl) Lh30.e23 ?_
                                                  refine r_iconst (v := nI 1) C (dx dX7_look 113 rfl) rfl ?_
                                                  refine rn_iadd (a := a8) (b := 1) C (dx dX7_look 114 rfl) ?_
                                                  refine p_X7_141 C (dx dX7_look 115 rfl) rfl rfl ?_
                                                  have Lh31 : Lk h (sI h30 k 23 (nI (a8 + 1))) k z (a8 + 1) v := Lh30.at (by omega)
                                                  have Fh31 : xI (sI h30 k 23 (nI (a8 + 1))) k 25 = nI a9 := by rw [sI_at, if_neg (by decide)]; exact Fh30
                                                  have Th31 : xI (sI h30 k 23 (nI (a8 + 1))) k 24 = nI 2 := by rw [sI_at, if_neg (by decide)]; exact Th30
                                                  generalize sI h30 k 23 (nI (a8 + 1)) = h31 at Lh31 Fh31 Th31 ⊢
                                                  refine r_goto (tgt := 149) C (dx dX7_look 116 rfl) (by decide) ?_
                                                  exact ih _ (by omega) _ _ rfl Lh31 (by omega) Fh31 Th31)
                                            · first
                                              | (omega; done)
                                              | (
                                                  have c29 : a8 - a9 < 2 := c29
                                                  refine r_aload_n C (dx dX7_look 94 rfl) rfl ?_
                                                  refine g_X7_147 C (dx dX7_look 95 rfl) rfl ?_
                                                  refine r_ldc2 C n_X7_120 (dx dX7_look 96 rfl) ?_
                                                  refine r_lmul C (dx dX7_look 97 rfl) ?_
                                                  refine r_aload_n C (dx dX7_look 98 rfl) rfl ?_
                                                  refine g_X7_34 C (dx dX7_look 99 rfl) ?_
                                                  refine r_aload_n C (dx dX7_look 100 rfl) rfl ?_
                                                  refine g_X7_141 (x := nI a8) C (dx dX7_look 101 rfl) L8.e23 ?_
                                                  refine r_iald (j := a8) (x := xI h (k + 16) a8) C rfl rfl (by decide) rfl (by omega) (dx dX7_look 102 rfl) L8.tp ?_
                                                  refine r_i2l C (dx dX7_look 103 rfl) ?_
                                                  refine r_ladd C (dx dX7_look 104 rfl) ?_
                                                  refine r_ldc2 C n_X7_160 (dx dX7_look 105 rfl) ?_
                                                  refine r_lsub C (dx dX7_look 106 rfl) ?_
                                                  refine r_goto (tgt := 218) C (dx dX7_look 107 rfl) (by decide) ?_
                                                  refine p_X7_147 C (dx dX7_look 109 rfl) ?_
                                                  have Lh32 : Lk h (sL h8 k 26 ((((xL h8 k 26) * 10) + ((xI h (k + 16) a8).toInt64)) - 48)) k z a8 v := L8.l
                                                  have Fh32 : xI (sL h8 k 26 ((((xL h8 k 26) * 10) + ((xI h (k + 16) a8).toInt64)) - 48)) k 25 = nI a9 := F8
                                                  have Th32 : xI (sL h8 k 26 ((((xL h8 k 26) * 10) + ((xI h (k + 16) a8).toInt64)) - 48)) k 24 = nI 2 := T8
                                                  generalize sL h8 k 26 ((((xL h8 k 26) * 10) + ((xI h (k + 16) a8).toInt64)) - 48) = h32 at Lh32 Fh32 Th32 ⊢
                                                  refine r_aload_n C (dx dX7_look 110 rfl) rfl ?_
                                                  refine r_dupR C (dx dX7_look 111 rfl) ?_
                                                  refine g_X7_141 (x := nI a8) C (dx dX7_look 112 rfl) Lh32.e23 ?_
                                                  refine r_iconst (v := nI 1) C (dx dX7_look 113 rfl) rfl ?_
                                                  refine rn_iadd (a := a8) (b := 1) C (dx dX7_look 114 rfl) ?_
                                                  refine p_X7_141 C (dx dX7_look 115 rfl) rfl rfl ?_
                                                  have Lh33 : Lk h (sI h32 k 23 (nI (a8 + 1))) k z (a8 + 1) v := Lh32.at (by omega)
                                                  have Fh33 : xI (sI h32 k 23 (nI (a8 + 1))) k 25 = nI a9 := by rw [sI_at, if_neg (by decide)]; exact Fh32
                                                  have Th33 : xI (sI h32 k 23 (nI (a8 + 1))) k 24 = nI 2 := by rw [sI_at, if_neg (by decide)]; exact Th32
                                                  generalize sI h32 k 23 (nI (a8 + 1)) = h33 at Lh33 Fh33 Th33 ⊢
                                                  refine r_goto (tgt := 149) C (dx dX7_look 116 rfl) (by decide) ?_
                                                  exact ih _ (by omega) _ _ rfl Lh33 (by omega) Fh33 Th33))
                                  exact key _ _ _ rfl Lh26 (by omega) Fh26 Th26))
                ·
                  have c5 : (ltB (xI h (k + 16) a9)) = true := c5
                  refine r_aload_n C (dx dX7_look 42 rfl) rfl ?_
                  refine r_iconst (v := nI 1) C (dx dX7_look 43 rfl) rfl ?_
                  refine p_X7_151 C (dx dX7_look 44 rfl) rfl rfl ?_
                  have Lh34 : Lk h (sI h3 k 24 (nI 1)) k z a9 v := Lh3.fd (by decide)
                  have Fh34 : xI (sI h3 k 24 (nI 1)) k 25 = nI a9 := by rw [sI_at, if_neg (by decide)]; exact Fh3
                  have Th34 : xI (sI h3 k 24 (nI 1)) k 24 = nI 1 := by rw [sI_at, if_pos rfl]
                  generalize sI h3 k 24 (nI 1) = h34 at Lh34 Fh34 Th34 ⊢
                  refine r_aload_n C (dx dX7_look 45 rfl) rfl ?_
                  refine g_X7_141 (x := nI a9) C (dx dX7_look 46 rfl) Lh34.e23 ?_
                  refine r_aload_n C (dx dX7_look 47 rfl) rfl ?_
                  refine g_X7_138 (x := nI z) C (dx dX7_look 48 rfl) Lh34.e8 ?_
                  refine rn_ge (a := a9) (b := z) (tgt := 267) C (by omega) (by omega) (dx dX7_look 49 rfl) (by decide) (fun c35 => ?_) (fun c35 => ?_)
                  · first
                    | (omega; done)
                    | (
                        have c35 : z ≤ a9 := c35
                        exact F.2.2.1 _ _ _ rfl (dx dX7_look 135 rfl) Lh34.kk ⟨rfl, _, _, Pk.of Lh34 Fh34 (by omega) (Or.inr (by omega)), by omega, Lh34.e28⟩)
                  · first
                    | (omega; done)
                    | (
                        have c35 : a9 < z := c35
                        refine r_aload_n C (dx dX7_look 50 rfl) rfl ?_
                        refine g_X7_34 C (dx dX7_look 51 rfl) ?_
                        refine r_aload_n C (dx dX7_look 52 rfl) rfl ?_
                        refine g_X7_141 (x := nI a9) C (dx dX7_look 53 rfl) Lh34.e23 ?_
                        refine r_iald (j := a9) (x := xI h (k + 16) a9) C rfl rfl (by decide) rfl (by omega) (dx dX7_look 54 rfl) Lh34.tp ?_
                        refine r_csP (as := [vi (xI h (k + 16) a9)]) (st := []) (v := vi (b2i (ltB (xI h (k + 16) a9)))) C X I_X7_isLetter l_X7_154 (c_X7_isLetter _) (by decide) (Nat.le_of_ble_eq_true rfl) (pfx_eq Lh34.kk) (Nat.le_of_ble_eq_true rfl) rfl (dx dX7_look 55 rfl) ?_
                        refine rb_eq (b := ltB (xI h (k + 16) a9)) (tgt := 267) C (dx dX7_look 56 rfl) (by decide) (fun c36 => ?_) (fun c36 => ?_)
                        ·
                          have c36 : (ltB (xI h (k + 16) a9)) = false := c36
                          exact absurd (c5.symm.trans c36) (by decide)
                        ·
                          have c36 : (ltB (xI h (k + 16) a9)) = true := c36
                          refine r_aload_n C (dx dX7_look 57 rfl) rfl ?_
                          refine r_dupR C (dx dX7_look 58 rfl) ?_
                          refine g_X7_141 (x := nI a9) C (dx dX7_look 59 rfl) Lh34.e23 ?_
                          refine r_iconst (v := nI 1) C (dx dX7_look 60 rfl) rfl ?_
                          refine rn_iadd (a := a9) (b := 1) C (dx dX7_look 61 rfl) ?_
                          refine p_X7_141 C (dx dX7_look 62 rfl) rfl rfl ?_
                          have Lh37 : Lk h (sI h34 k 23 (nI (a9 + 1))) k z (a9 + 1) v := Lh34.at (by omega)
                          have Fh37 : xI (sI h34 k 23 (nI (a9 + 1))) k 25 = nI a9 := by rw [sI_at, if_neg (by decide)]; exact Fh34
                          have Th37 : xI (sI h34 k 23 (nI (a9 + 1))) k 24 = nI 1 := by rw [sI_at, if_neg (by decide)]; exact Th34
                          generalize sI h34 k 23 (nI (a9 + 1)) = h37 at Lh37 Fh37 Th37 ⊢
                          refine r_goto (tgt := 90) C (dx dX7_look 63 rfl) (by decide) ?_
                          have key : ∀ (n a8 : Nat) (h8 : Hp), z - a8 = n → Lk h h8 k z a8 v → a9 < a8 → xI h8 k 25 = nI a9 → xI h8 k 24 = nI 1 → Rr G 90 [(0, vr 7 k)] [] h8 := by
                            intro n
                            induction n using Nat.strongRecOn with | ind n ih => _
                            intro a8 h8 en L8 lo8 F8 T8
                            have az8 := L8.az
                            refine r_aload_n C (dx dX7_look 45 rfl) rfl ?_
                            refine g_X7_141 (x := nI a8) C (dx dX7_look 46 rfl) L8.e23 ?_
                            refine r_aload_n C (dx dX7_look 47 rfl) rfl ?_
                            refine g_X7_138 (x := nI z) C (dx dX7_look 48 rfl) L8.e8 ?_
                            refine rn_ge (a := a8) (b := z) (tgt := 267) C (by omega) (by omega) (dx dX7_look 49 rfl) (by decide) (fun c38 => ?_) (fun c38 => ?_)
                            · first
                              | (omega; done)
                              | (
                                  have c38 : z ≤ a8 := c38
                                  exact F.2.2.1 _ _ _ rfl (dx dX7_look 135 rfl) L8.kk ⟨rfl, _, _, Pk.of L8 F8 (by omega) (Or.inr (by omega)), by omega, L8.e28⟩)
                            · first
                              | (omega; done)
                              | (
                                  have c38 : a8 < z := c38
                                  refine r_aload_n C (dx dX7_look 50 rfl) rfl ?_
                                  refine g_X7_34 C (dx dX7_look 51 rfl) ?_
                                  refine r_aload_n C (dx dX7_look 52 rfl) rfl ?_
                                  refine g_X7_141 (x := nI a8) C (dx dX7_look 53 rfl) L8.e23 ?_
                                  refine r_iald (j := a8) (x := xI h (k + 16) a8) C rfl rfl (by decide) rfl (by omega) (dx dX7_look 54 rfl) L8.tp ?_
                                  refine r_csP (as := [vi (xI h (k + 16) a8)]) (st := []) (v := vi (b2i (ltB (xI h (k + 16) a8)))) C X I_X7_isLetter l_X7_154 (c_X7_isLetter _) (by decide) (Nat.le_of_ble_eq_true rfl) (pfx_eq L8.kk) (Nat.le_of_ble_eq_true rfl) rfl (dx dX7_look 55 rfl) ?_
                                  refine rb_eq (b := ltB (xI h (k + 16) a8)) (tgt := 267) C (dx dX7_look 56 rfl) (by decide) (fun c39 => ?_) (fun c39 => ?_)
                                  ·
                                    have c39 : (ltB (xI h (k + 16) a8)) = false := c39
                                    exact F.2.2.1 _ _ _ rfl (dx dX7_look 135 rfl) L8.kk ⟨rfl, _, _, Pk.of L8 F8 (by omega) (Or.inr (by omega)), by omega, L8.e28⟩
                                  ·
                                    have c39 : (ltB (xI h (k + 16) a8)) = true := c39
                                    refine r_aload_n C (dx dX7_look 57 rfl) rfl ?_
                                    refine r_dupR C (dx dX7_look 58 rfl) ?_
                                    refine g_X7_141 (x := nI a8) C (dx dX7_look 59 rfl) L8.e23 ?_
                                    refine r_iconst (v := nI 1) C (dx dX7_look 60 rfl) rfl ?_
                                    refine rn_iadd (a := a8) (b := 1) C (dx dX7_look 61 rfl) ?_
                                    refine p_X7_141 C (dx dX7_look 62 rfl) rfl rfl ?_
                                    have Lh40 : Lk h (sI h8 k 23 (nI (a8 + 1))) k z (a8 + 1) v := L8.at (by omega)
                                    have Fh40 : xI (sI h8 k 23 (nI (a8 + 1))) k 25 = nI a9 := by rw [sI_at, if_neg (by decide)]; exact F8
                                    have Th40 : xI (sI h8 k 23 (nI (a8 + 1))) k 24 = nI 1 := by rw [sI_at, if_neg (by decide)]; exact T8
                                    generalize sI h8 k 23 (nI (a8 + 1)) = h40 at Lh40 Fh40 Th40 ⊢
                                    refine r_goto (tgt := 90) C (dx dX7_look 63 rfl) (by decide) ?_
                                    exact ih _ (by omega) _ _ rfl Lh40 (by omega) Fh40 Th40)
                          exact key _ _ _ rfl Lh37 (by omega) Fh37 Th37))
          · first
            | (omega; done)
            | (
                have c4 : a9 = z := c4
                refine r_aload_n C (dx dX7_look 31 rfl) rfl ?_
                refine r_iconst (v := nI 0) C (dx dX7_look 32 rfl) rfl ?_
                refine p_X7_151 C (dx dX7_look 33 rfl) rfl rfl ?_
                have Lh41 : Lk h (sI h3 k 24 (nI 0)) k z a9 v := Lh3.fd (by decide)
                have Fh41 : xI (sI h3 k 24 (nI 0)) k 25 = nI a9 := by rw [sI_at, if_neg (by decide)]; exact Fh3
                have Th41 : xI (sI h3 k 24 (nI 0)) k 24 = nI 0 := by rw [sI_at, if_pos rfl]
                generalize sI h3 k 24 (nI 0) = h41 at Lh41 Fh41 Th41 ⊢
                refine r_goto (tgt := 267) C (dx dX7_look 34 rfl) (by decide) ?_
                exact F.2.2.1 _ _ _ rfl (dx dX7_look 135 rfl) Lh41.kk ⟨rfl, _, _, Pk.of Lh41 Fh41 (by omega) (Or.inl (Th41.trans (by decide))), by omega, Lh41.e28⟩))
    · first
      | (omega; done)
      | (
          have c1 : a9 < z := c1
          refine r_aload_n C (dx dX7_look 5 rfl) rfl ?_
          refine g_X7_34 C (dx dX7_look 6 rfl) ?_
          refine r_aload_n C (dx dX7_look 7 rfl) rfl ?_
          refine g_X7_141 (x := nI a9) C (dx dX7_look 8 rfl) L9.e23 ?_
          refine r_iald (j := a9) (x := xI h (k + 16) a9) C rfl rfl (by decide) rfl (by omega) (dx dX7_look 9 rfl) L9.tp ?_
          refine r_bipush (v := nI 32) C (dx dX7_look 10 rfl) rfl ?_
          refine r_icmp_ne (tgt := 38) C (dx dX7_look 11 rfl) (by decide) (fun c42 => ?_) (fun c42 => ?_)
          ·
            have c42 : ¬ xI h (k + 16) a9 = nI 32 := c42
            refine r_aload_n C (dx dX7_look 19 rfl) rfl ?_
            refine r_aload_n C (dx dX7_look 20 rfl) rfl ?_
            refine g_X7_141 (x := nI a9) C (dx dX7_look 21 rfl) L9.e23 ?_
            refine p_X7_144 C (dx dX7_look 22 rfl) rfl rfl ?_
            have Lh43 : Lk h (sI h9 k 25 (nI a9)) k z a9 v := L9.fd (by decide)
            have Fh43 : xI (sI h9 k 25 (nI a9)) k 25 = nI a9 := by rw [sI_at, if_pos rfl]
            generalize sI h9 k 25 (nI a9) = h43 at Lh43 Fh43 ⊢
            refine r_aload_n C (dx dX7_look 23 rfl) rfl ?_
            refine r_lconst (v := 0) C (dx dX7_look 24 rfl) rfl ?_
            refine p_X7_147 C (dx dX7_look 25 rfl) ?_
            have Lh44 : Lk h (sL h43 k 26 0) k z a9 v := Lh43.l
            have Fh44 : xI (sL h43 k 26 0) k 25 = nI a9 := Fh43
            generalize sL h43 k 26 0 = h44 at Lh44 Fh44 ⊢
            refine r_aload_n C (dx dX7_look 26 rfl) rfl ?_
            refine g_X7_141 (x := nI a9) C (dx dX7_look 27 rfl) Lh44.e23 ?_
            refine r_aload_n C (dx dX7_look 28 rfl) rfl ?_
            refine g_X7_138 (x := nI z) C (dx dX7_look 29 rfl) Lh44.e8 ?_
            refine rn_ne (a := a9) (b := z) (tgt := 70) C (by omega) (by omega) (dx dX7_look 30 rfl) (by decide) (fun c45 => ?_) (fun c45 => ?_)
            · first
              | (omega; done)
              | (
                  have c45 : ¬ a9 = z := c45
                  refine r_aload_n C (dx dX7_look 35 rfl) rfl ?_
                  refine g_X7_34 C (dx dX7_look 36 rfl) ?_
                  refine r_aload_n C (dx dX7_look 37 rfl) rfl ?_
                  refine g_X7_141 (x := nI a9) C (dx dX7_look 38 rfl) Lh44.e23 ?_
                  refine r_iald (j := a9) (x := xI h (k + 16) a9) C rfl rfl (by decide) rfl (by omega) (dx dX7_look 39 rfl) Lh44.tp ?_
                  refine r_csP (as := [vi (xI h (k + 16) a9)]) (st := []) (v := vi (b2i (ltB (xI h (k + 16) a9)))) C X I_X7_isLetter l_X7_154 (c_X7_isLetter _) (by decide) (Nat.le_of_ble_eq_true rfl) (pfx_eq Lh44.kk) (Nat.le_of_ble_eq_true rfl) rfl (dx dX7_look 40 rfl) ?_
                  refine rb_eq (b := ltB (xI h (k + 16) a9)) (tgt := 129) C (dx dX7_look 41 rfl) (by decide) (fun c46 => ?_) (fun c46 => ?_)
                  ·
                    have c46 : (ltB (xI h (k + 16) a9)) = false := c46
                    refine r_aload_n C (dx dX7_look 64 rfl) rfl ?_
                    refine g_X7_34 C (dx dX7_look 65 rfl) ?_
                    refine r_aload_n C (dx dX7_look 66 rfl) rfl ?_
                    refine g_X7_141 (x := nI a9) C (dx dX7_look 67 rfl) Lh44.e23 ?_
                    refine r_iald (j := a9) (x := xI h (k + 16) a9) C rfl rfl (by decide) rfl (by omega) (dx dX7_look 68 rfl) Lh44.tp ?_
                    refine r_csP (as := [vi (xI h (k + 16) a9)]) (st := []) (v := vi (b2i (dgB (xI h (k + 16) a9)))) C X I_X7_isDigit l_X7_157 (c_X7_isDigit _) (by decide) (Nat.le_of_ble_eq_true rfl) (pfx_eq Lh44.kk) (Nat.le_of_ble_eq_true rfl) rfl (dx dX7_look 69 rfl) ?_
                    refine rb_eq (b := dgB (xI h (k + 16) a9)) (tgt := 234) C (dx dX7_look 70 rfl) (by decide) (fun c47 => ?_) (fun c47 => ?_)
                    ·
                      have c47 : (dgB (xI h (k + 16) a9)) = false := c47
                      refine r_aload_n C (dx dX7_look 117 rfl) rfl ?_
                      refine r_aload_n C (dx dX7_look 118 rfl) rfl ?_
                      refine g_X7_34 C (dx dX7_look 119 rfl) ?_
                      refine r_aload_n C (dx dX7_look 120 rfl) rfl ?_
                      refine g_X7_141 (x := nI a9) C (dx dX7_look 121 rfl) Lh44.e23 ?_
                      refine r_iald (j := a9) (x := xI h (k + 16) a9) C rfl rfl (by decide) rfl (by omega) (dx dX7_look 122 rfl) Lh44.tp ?_
                      refine r_bipush (v := nI 59) C (dx dX7_look 123 rfl) rfl ?_
                      refine r_icmp_ne (tgt := 253) C (dx dX7_look 124 rfl) (by decide) (fun c48 => ?_) (fun c48 => ?_)
                      ·
                        have c48 : ¬ xI h (k + 16) a9 = nI 59 := c48
                        refine r_iconst (v := nI 4) C (dx dX7_look 127 rfl) rfl ?_
                        refine p_X7_151 C (dx dX7_look 128 rfl) rfl rfl ?_
                        have Lh49 : Lk h (sI h44 k 24 (nI 4)) k z a9 v := Lh44.fd (by decide)
                        have Fh49 : xI (sI h44 k 24 (nI 4)) k 25 = nI a9 := by rw [sI_at, if_neg (by decide)]; exact Fh44
                        have Th49 : xI (sI h44 k 24 (nI 4)) k 24 = nI 4 := by rw [sI_at, if_pos rfl]
                        generalize sI h44 k 24 (nI 4) = h49 at Lh49 Fh49 Th49 ⊢
                        refine r_aload_n C (dx dX7_look 129 rfl) rfl ?_
                        refine r_dupR C (dx dX7_look 130 rfl) ?_
                        refine g_X7_141 (x := nI a9) C (dx dX7_look 131 rfl) Lh49.e23 ?_
                        refine r_iconst (v := nI 1) C (dx dX7_look 132 rfl) rfl ?_
                        refine rn_iadd (a := a9) (b := 1) C (dx dX7_look 133 rfl) ?_
                        refine p_X7_141 C (dx dX7_look 134 rfl) rfl rfl ?_
                        have Lh50 : Lk h (sI h49 k 23 (nI (a9 + 1))) k z (a9 + 1) v := Lh49.at (by omega)
                        have Fh50 : xI (sI h49 k 23 (nI (a9 + 1))) k 25 = nI a9 := by rw [sI_at, if_neg (by decide)]; exact Fh49
                        have Th50 : xI (sI h49 k 23 (nI (a9 + 1))) k 24 = nI 4 := by rw [sI_at, if_neg (by decide)]; exact Th49
                        generalize sI h49 k 23 (nI (a9 + 1)) = h50 at Lh50 Fh50 Th50 ⊢
                        exact F.2.2.1 _ _ _ rfl (dx dX7_look 135 rfl) Lh50.kk ⟨rfl, _, _, Pk.of Lh50 Fh50 (by omega) (Or.inr (by omega)), by omega, Lh50.e28⟩
                      ·
                        have c48 : xI h (k + 16) a9 = nI 59 := c48
                        refine r_iconst (v := nI 3) C (dx dX7_look 125 rfl) rfl ?_
                        refine r_goto (tgt := 254) C (dx dX7_look 126 rfl) (by decide) ?_
                        refine p_X7_151 C (dx dX7_look 128 rfl) rfl rfl ?_
                        have Lh51 : Lk h (sI h44 k 24 (nI 3)) k z a9 v := Lh44.fd (by decide)
                        have Fh51 : xI (sI h44 k 24 (nI 3)) k 25 = nI a9 := by rw [sI_at, if_neg (by decide)]; exact Fh44
                        have Th51 : xI (sI h44 k 24 (nI 3)) k 24 = nI 3 := by rw [sI_at, if_pos rfl]
                        generalize sI h44 k 24 (nI 3) = h51 at Lh51 Fh51 Th51 ⊢
                        refine r_aload_n C (dx dX7_look 129 rfl) rfl ?_
                        refine r_dupR C (dx dX7_look 130 rfl) ?_
                        refine g_X7_141 (x := nI a9) C (dx dX7_look 131 rfl) Lh51.e23 ?_
                        refine r_iconst (v := nI 1) C (dx dX7_look 132 rfl) rfl ?_
                        refine rn_iadd (a := a9) (b := 1) C (dx dX7_look 133 rfl) ?_
                        refine p_X7_141 C (dx dX7_look 134 rfl) rfl rfl ?_
                        have Lh52 : Lk h (sI h51 k 23 (nI (a9 + 1))) k z (a9 + 1) v := Lh51.at (by omega)
                        have Fh52 : xI (sI h51 k 23 (nI (a9 + 1))) k 25 = nI a9 := by rw [sI_at, if_neg (by decide)]; exact Fh51
                        have Th52 : xI (sI h51 k 23 (nI (a9 + 1))) k 24 = nI 3 := by rw [sI_at, if_neg (by decide)]; exact Th51
                        generalize sI h51 k 23 (nI (a9 + 1)) = h52 at Lh52 Fh52 Th52 ⊢
                        exact F.2.2.1 _ _ _ rfl (dx dX7_look 135 rfl) Lh52.kk ⟨rfl, _, _, Pk.of Lh52 Fh52 (by omega) (Or.inr (by omega)), by omega, Lh52.e28⟩
                    ·
                      have c47 : (dgB (xI h (k + 16) a9)) = true := c47
                      refine r_aload_n C (dx dX7_look 71 rfl) rfl ?_
                      refine r_iconst (v := nI 2) C (dx dX7_look 72 rfl) rfl ?_
                      refine p_X7_151 C (dx dX7_look 73 rfl) rfl rfl ?_
                      have Lh53 : Lk h (sI h44 k 24 (nI 2)) k z a9 v := Lh44.fd (by decide)
                      have Fh53 : xI (sI h44 k 24 (nI 2)) k 25 = nI a9 := by rw [sI_at, if_neg (by decide)]; exact Fh44
                      have Th53 : xI (sI h44 k 24 (nI 2)) k 24 = nI 2 := by rw [sI_at, if_pos rfl]
                      generalize sI h44 k 24 (nI 2) = h53 at Lh53 Fh53 Th53 ⊢
                      refine r_aload_n C (dx dX7_look 74 rfl) rfl ?_
                      refine g_X7_141 (x := nI a9) C (dx dX7_look 75 rfl) Lh53.e23 ?_
                      refine r_aload_n C (dx dX7_look 76 rfl) rfl ?_
                      refine g_X7_138 (x := nI z) C (dx dX7_look 77 rfl) Lh53.e8 ?_
                      refine rn_ge (a := a9) (b := z) (tgt := 267) C (by omega) (by omega) (dx dX7_look 78 rfl) (by decide) (fun c54 => ?_) (fun c54 => ?_)
                      · first
                        | (omega; done)
                        | (
                            have c54 : z ≤ a9 := c54
                            exact F.2.2.1 _ _ _ rfl (dx dX7_look 135 rfl) Lh53.kk ⟨rfl, _, _, Pk.of Lh53 Fh53 (by omega) (Or.inr (by omega)), by omega, Lh53.e28⟩)
                      · first
                        | (omega; done)
                        | (
                            have c54 : a9 < z := c54
                            refine r_aload_n C (dx dX7_look 79 rfl) rfl ?_
                            refine g_X7_34 C (dx dX7_look 80 rfl) ?_
                            refine r_aload_n C (dx dX7_look 81 rfl) rfl ?_
                            refine g_X7_141 (x := nI a9) C (dx dX7_look 82 rfl) Lh53.e23 ?_
                            refine r_iald (j := a9) (x := xI h (k + 16) a9) C rfl rfl (by decide) rfl (by omega) (dx dX7_look 83 rfl) Lh53.tp ?_
                            refine r_csP (as := [vi (xI h (k + 16) a9)]) (st := []) (v := vi (b2i (dgB (xI h (k + 16) a9)))) C X I_X7_isDigit l_X7_157 (c_X7_isDigit _) (by decide) (Nat.le_of_ble_eq_true rfl) (pfx_eq Lh53.kk) (Nat.le_of_ble_eq_true rfl) rfl (dx dX7_look 84 rfl) ?_
                            refine rb_eq (b := dgB (xI h (k + 16) a9)) (tgt := 267) C (dx dX7_look 85 rfl) (by decide) (fun c55 => ?_) (fun c55 => ?_)
                            ·
                              have c55 : (dgB (xI h (k + 16) a9)) = false := c55
                              exact absurd (c47.symm.trans c55) (by decide)
                            ·
                              have c55 : (dgB (xI h (k + 16) a9)) = true := c55
                              refine r_aload_n C (dx dX7_look 86 rfl) rfl ?_
                              refine r_aload_n C (dx dX7_look 87 rfl) rfl ?_
                              refine g_X7_141 (x := nI a9) C (dx dX7_look 88 rfl) Lh53.e23 ?_
                              refine r_aload_n C (dx dX7_look 89 rfl) rfl ?_
                              refine g_X7_144 (x := nI a9) C (dx dX7_look 90 rfl) Fh53 ?_
                              refine rn_isub (a := a9) (b := a9) C (by omega) (dx dX7_look 91 rfl) ?_
                              refine r_iconst (v := nI 2) C (dx dX7_look 92 rfl) rfl ?_
                              refine rn_ge (a := a9 - a9) (b := 2) (tgt := 215) C (by omega) (by omega) (dx dX7_look 93 rfl) (by decide) (fun c56 => ?_) (fun c56 => ?_)
                              · first
                                | (omega; done)
                                | (
                                    have c56 : 2 ≤ a9 - a9 := c56
                                    refine r_ldc2 C n_X7_162 (dx dX7_look 108 rfl) ?_
                                    refine p_X7_147 C (dx dX7_look 109 rfl) ?_
                                    have Lh57 : Lk h (sL h53 k 26 100000) k z a9 v := Lh53.l
                                    have Fh57 : xI (sL h53 k 26 100000) k 25 = nI a9 := Fh53
                                    have Th57 : xI (sL h53 k 26 100000) k 24 = nI 2 := Th53
                                    generalize sL h53 k 26 100000 = h57 at Lh57 Fh57 Th57 ⊢
                                    refine r_aload_n C (dx dX7_look 110 rfl) rfl ?_
                                    refine r_dupR C (dx dX7_look 111 rfl) ?_
                                    refine g_X7_141 (x := nI a9) C (dx dX7_look 112 rfl) Lh57.e23 ?_
                                    refine r_iconst (v := nI 1) C (dx dX7_look 113 rfl) rfl ?_
                                    refine rn_iadd (a := a9) (b := 1) C (dx dX7_look 114 rfl) ?_
                                    refine p_X7_141 C (dx dX7_look 115 rfl) rfl rfl ?_
                                    have Lh58 : Lk h (sI h57 k 23 (nI (a9 + 1))) k z (a9 + 1) v := Lh57.at (by omega)
                                    have Fh58 : xI (sI h57 k 23 (nI (a9 + 1))) k 25 = nI a9 := by rw [sI_at, if_neg (by decide)]; exact Fh57
                                    have Th58 : xI (sI h57 k 23 (nI (a9 + 1))) k 24 = nI 2 := by rw [sI_at, if_neg (by decide)]; exact Th57
                                    generalize sI h57 k 23 (nI (a9 + 1)) = h58 at Lh58 Fh58 Th58 ⊢
                                    refine r_goto (tgt := 149) C (dx dX7_look 116 rfl) (by decide) ?_
                                    have key : ∀ (n a8 : Nat) (h8 : Hp), z - a8 = n → Lk h h8 k z a8 v → a9 < a8 → xI h8 k 25 = nI a9 → xI h8 k 24 = nI 2 → Rr G 149 [(0, vr 7 k)] [] h8 := by
                                      intro n
                                      induction n using Nat.strongRecOn with | ind n ih => _
                                      intro a8 h8 en L8 lo8 F8 T8
                                      have az8 := L8.az
                                      refine r_aload_n C (dx dX7_look 74 rfl) rfl ?_
                                      refine g_X7_141 (x := nI a8) C (dx dX7_look 75 rfl) L8.e23 ?_
                                      refine r_aload_n C (dx dX7_look 76 rfl) rfl ?_
                                      refine g_X7_138 (x := nI z) C (dx dX7_look 77 rfl) L8.e8 ?_
                                      refine rn_ge (a := a8) (b := z) (tgt := 267) C (by omega) (by omega) (dx dX7_look 78 rfl) (by decide) (fun c59 => ?_) (fun c59 => ?_)
                                      · first
                                        | (omega; done)
                                        | (
                                            have c59 : z ≤ a8 := c59
                                            exact F.2.2.1 _ _ _ rfl (dx dX7_look 135 rfl) L8.kk ⟨rfl, _, _, Pk.of L8 F8 (by omega) (Or.inr (by omega)), by omega, L8.e28⟩)
                                      · first
                                        | (omega; done)
                                        | (
                                            have c59 : a8 < z := c59
                                            refine r_aload_n C (dx dX7_look 79 rfl) rfl ?_
                                            refine g_X7_34 C (dx dX7_look 80 rfl) ?_
                                            refine r_aload_n C (dx dX7_look 81 rfl) rfl ?_
                                            refine g_X7_141 (x := nI a8) C (dx dX7_look 82 rfl) L8.e23 ?_
                                            refine r_iald (j := a8) (x := xI h (k + 16) a8) C rfl rfl (by decide) rfl (by omega) (dx dX7_look 83 rfl) L8.tp ?_
                                            refine r_csP (as := [vi (xI h (k + 16) a8)]) (st := []) (v := vi (b2i (dgB (xI h (k + 16) a8)))) C X I_X7_isDigit l_X7_157 (c_X7_isDigit _) (by decide) (Nat.le_of_ble_eq_true rfl) (pfx_eq L8.kk) (Nat.le_of_ble_eq_true rfl) rfl (dx dX7_look 84 rfl) ?_
                                            refine rb_eq (b := dgB (xI h (k + 16) a8)) (tgt := 267) C (dx dX7_look 85 rfl) (by decide) (fun c60 => ?_) (fun c60 => ?_)
                                            ·
                                              have c60 : (dgB (xI h (k + 16) a8)) = false := c60
                                              exact F.2.2.1 _ _ _ rfl (dx dX7_look 135 rfl) L8.kk ⟨rfl, _, _, Pk.of L8 F8 (by omega) (Or.inr (by omega)), by omega, L8.e28⟩
                                            ·
                                              have c60 : (dgB (xI h (k + 16) a8)) = true := c60
                                              refine r_aload_n C (dx dX7_look 86 rfl) rfl ?_
                                              refine r_aload_n C (dx dX7_look 87 rfl) rfl ?_
                                              refine g_X7_141 (x := nI a8) C (dx dX7_look 88 rfl) L8.e23 ?_
                                              refine r_aload_n C (dx dX7_look 89 rfl) rfl ?_
                                              refine g_X7_144 (x := nI a9) C (dx dX7_look 90 rfl) F8 ?_
                                              refine rn_isub (a := a8) (b := a9) C (by omega) (dx dX7_look 91 rfl) ?_
                                              refine r_iconst (v := nI 2) C (dx dX7_look 92 rfl) rfl ?_
                                              refine rn_ge (a := a8 - a9) (b := 2) (tgt := 215) C (by omega) (by omega) (dx dX7_look 93 rfl) (by decide) (fun c61 => ?_) (fun c61 => ?_)
                                              · first
                                                | (omega; done)
                                                | (
                                                    have c61 : 2 ≤ a8 - a9 := c61
                                                    refine r_ldc2 C n_X7_162 (dx dX7_look 108 rfl) ?_
                                                    refine p_X7_147 C (dx dX7_look 109 rfl) ?_
                                                    have Lh62 : Lk h (sL h8 k 26 100000) k z a8 v := L8.l
                                                    have Fh62 : xI (sL h8 k 26 100000) k 25 = nI a9 := F8
                                                    have Th62 : xI (sL h8 k 26 100000) k 24 = nI 2 := T8
                                                    generalize sL h8 k 26 100000 = h62 at Lh62 Fh62 Th62 ⊢
                                                    refine r_aload_n C (dx dX7_look 110 rfl) rfl ?_
                                                    refine r_dupR C (dx dX7_look 111 rfl) ?_
                                                    refine g_X7_141 (x := nI a8) C (dx dX7_look 112 rfl) Lh62.e23 ?_
                                                    refine r_iconst (v := nI 1) C (dx dX7_look 113 rfl) rfl ?_
                                                    refine rn_iadd (a := a8) (b := 1) C (dx dX7_look 114 rfl) ?_
                                                    refine p_X7_141 C (dx dX7_look 115 rfl) rfl rfl ?_
                                                    have Lh63 : Lk h (sI h62 k 23 (nI (a8 + 1))) k z (a8 + 1) v := Lh62.at (by omega)
                                                    have Fh63 : xI (sI h62 k 23 (nI (a8 + 1))) k 25 = nI a9 := by rw [sI_at, if_neg (by decide)]; exact Fh62
                                                    have Th63 : xI (sI h62 k 23 (nI (a8 + 1))) k 24 = nI 2 := by rw [sI_at, if_neg (by decide)]; exact Th62
                                                    generalize sI h62 k 23 (nI (a8 + 1)) = h63 at Lh63 Fh63 Th63 ⊢
                                                    refine r_goto (tgt := 149) C (dx dX7_look 116 rfl) (by decide) ?_
                                                    exact ih _ (by omega) _ _ rfl Lh63 (by omega) Fh63 Th63)
                                              · first
                                                | (omega; done)
                                                | (
                                                    have c61 : a8 - a9 < 2 := c61
                                                    refine r_aload_n C (dx dX7_look 94 rfl) rfl ?_
                                                    refine g_X7_147 C (dx dX7_look 95 rfl) rfl ?_
                                                    refine r_ldc2 C n_X7_120 (dx dX7_look 96 rfl) ?_
                                                    refine r_lmul C (dx dX7_look 97 rfl) ?_
                                                    refine r_aload_n C (dx dX7_look 98 rfl) rfl ?_
                                                    refine g_X7_34 C (dx dX7_look 99 rfl) ?_
                                                    refine r_aload_n C (dx dX7_look 100 rfl) rfl ?_
                                                    refine g_X7_141 (x := nI a8) C (dx dX7_look 101 rfl) L8.e23 ?_
                                                    refine r_iald (j := a8) (x := xI h (k + 16) a8) C rfl rfl (by decide) rfl (by omega) (dx dX7_look 102 rfl) L8.tp ?_
                                                    refine r_i2l C (dx dX7_look 103 rfl) ?_
                                                    refine r_ladd C (dx dX7_look 104 rfl) ?_
                                                    refine r_ldc2 C n_X7_160 (dx dX7_look 105 rfl) ?_
                                                    refine r_lsub C (dx dX7_look 106 rfl) ?_
                                                    refine r_goto (tgt := 218) C (dx dX7_look 107 rfl) (by decide) ?_
                                                    refine p_X7_147 C (dx dX7_look 109 rfl) ?_
                                                    have Lh64 : Lk h (sL h8 k 26 ((((xL h8 k 26) * 10) + ((xI h (k + 16) a8).toInt64)) - 48)) k z a8 v := L8.l
                                                    have Fh64 : xI (sL h8 k 26 ((((xL h8 k 26) * 10) + ((xI h (k + 16) a8).toInt64)) - 48)) k 25 = nI a9 := F8
                                                    have Th64 : xI (sL h8 k 26 ((((xL h8 k 26) * 10) + ((xI h (k + 16) a8).toInt64)) - 48)) k 24 = nI 2 := T8
                                                    generalize sL h8 k 26 ((((xL h8 k 26) * 10) + ((xI h (k + 16) a8).toInt64)) - 48) = h64 at Lh64 Fh64 Th64 ⊢
                                                    refine r_aload_n C (dx dX7_look 110 rfl) rfl ?_
                                                    refine r_dupR C (dx dX7_look 111 rfl) ?_
                                                    refine g_X7_141 (x := nI a8) C (dx dX7_look 112 rfl) Lh64.e23 ?_
                                                    refine r_iconst (v := nI 1) C (dx dX7_look 113 rfl) rfl ?_
                                                    refine rn_iadd (a := a8) (b := 1) C (dx dX7_look 114 rfl) ?_
                                                    refine p_X7_141 C (dx dX7_look 115 rfl) rfl rfl ?_
                                                    have Lh65 : Lk h (sI h64 k 23 (nI (a8 + 1))) k z (a8 + 1) v := Lh64.at (by omega)
                                                    have Fh65 : xI (sI h64 k 23 (nI (a8 + 1))) k 25 = nI a9 := by rw [sI_at, if_neg (by decide)]; exact Fh64
                                                    have Th65 : xI (sI h64 k 23 (nI (a8 + 1))) k 24 = nI 2 := by rw [sI_at, if_neg (by decide)]; exact Th64
                                                    generalize sI h64 k 23 (nI (a8 + 1)) = h65 at Lh65 Fh65 Th65 ⊢
                                                    refine r_goto (tgt := 149) C (dx dX7_look 116 rfl) (by decide) ?_
                                                    exact ih _ (by omega) _ _ rfl Lh65 (by omega) Fh65 Th65))
                                    exact key _ _ _ rfl Lh58 (by omega) Fh58 Th58)
                              · first
                                | (omega; done)
                                | (
                                    have c56 : a9 - a9 < 2 := c56
                                    refine r_aload_n C (dx dX7_look 94 rfl) rfl ?_
                                    refine g_X7_147 C (dx dX7_look 95 rfl) rfl ?_
                                    refine r_ldc2 C n_X7_120 (dx dX7_look 96 rfl) ?_
                                    refine r_lmul C (dx dX7_look 97 rfl) ?_
                                    refine r_aload_n C (dx dX7_look 98 rfl) rfl ?_
                                    refine g_X7_34 C (dx dX7_look 99 rfl) ?_
                                    refine r_aload_n C (dx dX7_look 100 rfl) rfl ?_
                                    refine g_X7_141 (x := nI a9) C (dx dX7_look 101 rfl) Lh53.e23 ?_
                                    refine r_iald (j := a9) (x := xI h (k + 16) a9) C rfl rfl (by decide) rfl (by omega) (dx dX7_look 102 rfl) Lh53.tp ?_
                                    refine r_i2l C (dx dX7_look 103 rfl) ?_
                                    refine r_ladd C (dx dX7_look 104 rfl) ?_
                                    refine r_ldc2 C n_X7_160 (dx dX7_look 105 rfl) ?_
                                    refine r_lsub C (dx dX7_look 106 rfl) ?_
                                    refine r_goto (tgt := 218) C (dx dX7_look 107 rfl) (by decide) ?_
                                    refine p_X7_147 C (dx dX7_look 109 rfl) ?_
                                    have Lh66 : Lk h (sL h53 k 26 ((((xL h53 k 26) * 10) + ((xI h (k + 16) a9).toInt64)) - 48)) k z a9 v := Lh53.l
                                    have Fh66 : xI (sL h53 k 26 ((((xL h53 k 26) * 10) + ((xI h (k + 16) a9).toInt64)) - 48)) k 25 = nI a9 := Fh53
                                    have Th66 : xI (sL h53 k 26 ((((xL h53 k 26) * 10) + ((xI h (k + 16) a9).toInt64)) - 48)) k 24 = nI 2 := Th53
                                    generalize sL h53 k 26 ((((xL h53 k 26) * 10) + ((xI h (k + 16) a9).toInt64)) - 48) = h66 at Lh66 Fh66 Th66 ⊢
                                    refine r_aload_n C (dx dX7_look 110 rfl) rfl ?_
                                    refine r_dupR C (dx dX7_look 111 rfl) ?_
                                    refine g_X7_141 (x := nI a9) C (dx dX7_look 112 rfl) Lh66.e23 ?_
                                    refine r_iconst (v := nI 1) C (dx dX7_look 113 rfl) rfl ?_
                                    refine rn_iadd (a := a9) (b := 1) C (dx dX7_look 114 rfl) ?_
                                    refine p_X7_141 C (dx dX7_look 115 rfl) rfl rfl ?_
                                    have Lh67 : Lk h (sI h66 k 23 (nI (a9 + 1))) k z (a9 + 1) v := Lh66.at (by omega)
                                    have Fh67 : xI (sI h66 k 23 (nI (a9 + 1))) k 25 = nI a9 := by rw [sI_at, if_neg (by decide)]; exact Fh66
                                    have Th67 : xI (sI h66 k 23 (nI (a9 + 1))) k 24 = nI 2 := by rw [sI_at, if_neg (by decide)]; exact Th66
                                    generalize sI h66 k 23 (nI (a9 + 1)) = h67 at Lh67 Fh67 Th67 ⊢
                                    refine r_goto (tgt := 149) C (dx dX7_look 116 rfl) (by decide) ?_
                                    have key : ∀ (n a8 : Nat) (h8 : Hp), z - a8 = n → Lk h h8 k z a8 v → a9 < a8 → xI h8 k 25 = nI a9 → xI h8 k 24 = nI 2 → Rr G 149 [(0, vr 7 k)] [] h8 := by
                                      intro n
                                      induction n using Nat.strongRecOn with | ind n ih => _
                                      intro a8 h8 en L8 lo8 F8 T8
                                      have az8 := L8.az
                                      refine r_aload_n C (dx dX7_look 74 rfl) rfl ?_
                                      refine g_X7_141 (x := nI a8) C (dx dX7_look 75 rfl) L8.e23 ?_
                                      refine r_aload_n C (dx dX7_look 76 rfl) rfl ?_
                                      refine g_X7_138 (x := nI z) C (dx dX7_look 77 rfl) L8.e8 ?_
                                      refine rn_ge (a := a8) (b := z) (tgt := 267) C (by omega) (by omega) (dx dX7_look 78 rfl) (by decide) (fun c68 => ?_) (fun c68 => ?_)
                                      · first
                                        | (omega; done)
                                        | (
                                            have c68 : z ≤ a8 := c68
                                            exact F.2.2.1 _ _ _ rfl (dx dX7_look 135 rfl) L8.kk ⟨rfl, _, _, Pk.of L8 F8 (by omega) (Or.inr (by omega)), by omega, L8.e28⟩)
                                      · first
                                        | (omega; done)
                                        | (
                                            have c68 : a8 < z := c68
                                            refine r_aload_n C (dx dX7_look 79 rfl) rfl ?_
                                            refine g_X7_34 C (dx dX7_look 80 rfl) ?_
                                            refine r_aload_n C (dx dX7_look 81 rfl) rfl ?_
                                            refine g_X7_141 (x := nI a8) C (dx dX7_look 82 rfl) L8.e23 ?_
                                            refine r_iald (j := a8) (x := xI h (k + 16) a8) C rfl rfl (by decide) rfl (by omega) (dx dX7_look 83 rfl) L8.tp ?_
                                            refine r_csP (as := [vi (xI h (k + 16) a8)]) (st := []) (v := vi (b2i (dgB (xI h (k + 16) a8)))) C X I_X7_isDigit l_X7_157 (c_X7_isDigit _) (by decide) (Nat.le_of_ble_eq_true rfl) (pfx_eq L8.kk) (Nat.le_of_ble_eq_true rfl) rfl (dx dX7_look 84 rfl) ?_
                                            refine rb_eq (b := dgB (xI h (k + 16) a8)) (tgt := 267) C (dx dX7_look 85 rfl) (by decide) (fun c69 => ?_) (fun c69 => ?_)
                                            ·
                                              have c69 : (dgB (xI h (k + 16) a8)) = false := c69
                                              exact F.2.2.1 _ _ _ rfl (dx dX7_look 135 rfl) L8.kk ⟨rfl, _, _, Pk.of L8 F8 (by omega) (Or.inr (by omega)), by omega, L8.e28⟩
                                            ·
                                              have c69 : (dgB (xI h (k + 16) a8)) = true := c69
                                              refine r_aload_n C (dx dX7_look 86 rfl) rfl ?_
                                              refine r_aload_n C (dx dX7_look 87 rfl) rfl ?_
                                              refine g_X7_141 (x := nI a8) C (dx dX7_look 88 rfl) L8.e23 ?_
                                              refine r_aload_n C (dx dX7_look 89 rfl) rfl ?_
                                              refine g_X7_144 (x := nI a9) C (dx dX7_look 90 rfl) F8 ?_
                                              refine rn_isub (a := a8) (b := a9) C (by omega) (dx dX7_look 91 rfl) ?_
                                              refine r_iconst (v := nI 2) C (dx dX7_look 92 rfl) rfl ?_
                                              refine rn_ge (a := a8 - a9) (b := 2) (tgt := 215) C (by omega) (by omega) (dx dX7_look 93 rfl) (by decide) (fun c70 => ?_) (fun c70 => ?_)
                                              · first
                                                | (omega; done)
                                                | (
                                                    have c70 : 2 ≤ a8 - a9 := c70
                                                    refine r_ldc2 C n_X7_162 (dx dX7_look 108 rfl) ?_
                                                    refine p_X7_147 C (dx dX7_look 109 rfl) ?_
                                                    have Lh71 : Lk h (sL h8 k 26 100000) k z a8 v := L8.l
                                                    have Fh71 : xI (sL h8 k 26 100000) k 25 = nI a9 := F8
                                                    have Th71 : xI (sL h8 k 26 100000) k 24 = nI 2 := T8
                                                    generalize sL h8 k 26 100000 = h71 at Lh71 Fh71 Th71 ⊢
                                                    refine r_aload_n C (dx dX7_look 110 rfl) rfl ?_
                                                    refine r_dupR C (dx dX7_look 111 rfl) ?_
                                                    refine g_X7_141 (x := nI a8) C (dx dX7_look 112 rfl) Lh71.e23 ?_
                                                    refine r_iconst (v := nI 1) C (dx dX7_look 113 rfl) rfl ?_
                                                    refine rn_iadd (a := a8) (b := 1) C (dx dX7_look 114 rfl) ?_
                                                    refine p_X7_141 C (dx dX7_look 115 rfl) rfl rfl ?_
                                                    have Lh72 : Lk h (sI h71 k 23 (nI (a8 + 1))) k z (a8 + 1) v := Lh71.at (by omega)
                                                    have Fh72 : xI (sI h71 k 23 (nI (a8 + 1))) k 25 = nI a9 := by rw [sI_at, if_neg (by decide)]; exact Fh71
                                                    have Th72 : xI (sI h71 k 23 (nI (a8 + 1))) k 24 = nI 2 := by rw [sI_at, if_neg (by decide)]; exact Th71
                                                    generalize sI h71 k 23 (nI (a8 + 1)) = h72 at Lh72 Fh72 Th72 ⊢
                                                    refine r_goto (tgt := 149) C (dx dX7_look 116 rfl) (by decide) ?_
                                                    exact ih _ (by omega) _ _ rfl Lh72 (by omega) Fh72 Th72)
                                              · first
                                                | (omega; done)
                                                | (
                                                    have c70 : a8 - a9 < 2 := c70
                                                    refine r_aload_n C (dx dX7_look 94 rfl) rfl ?_
                                                    refine g_X7_147 C (dx dX7_look 95 rfl) rfl ?_
                                                    refine r_ldc2 C n_X7_120 (dx dX7_look 96 rfl) ?_
                                                    refine r_lmul C (dx dX7_look 97 rfl) ?_
                                                    refine r_aload_n C (dx dX7_look 98 rfl) rfl ?_
                                                    refine g_X7_34 C (dx dX7_look 99 rfl) ?_
                                                    refine r_aload_n C (dx dX7_look 100 rfl) rfl ?_
                                                    refine g_X7_141 (x := nI a8) C (dx dX7_look 101 rfl) L8.e23 ?_
                                                    refine r_iald (j := a8) (x := xI h (k + 16) a8) C rfl rfl (by decide) rfl (by omega) (dx dX7_look 102 rfl) L8.tp ?_
                                                    refine r_i2l C (dx dX7_look 103 rfl) ?_
                                                    refine r_ladd C (dx dX7_look 104 rfl) ?_
                                                    refine r_ldc2 C n_X7_160 (dx dX7_look 105 rfl) ?_
                                                    refine r_lsub C (dx dX7_look 106 rfl) ?_
                                                    refine r_goto (tgt := 218) C (dx dX7_look 107 rfl) (by decide) ?_
                                                    refine p_X7_147 C (dx dX7_look 109 rfl) ?_
                                                    have Lh73 : Lk h (sL h8 k 26 ((((xL h8 k 26) * 10) + ((xI h (k + 16) a8).toInt64)) - 48)) k z a8 v := L8.l
                                                    have Fh73 : xI (sL h8 k 26 ((((xL h8 k 26) * 10) + ((xI h (k + 16) a8).toInt64)) - 48)) k 25 = nI a9 := F8
                                                    have Th73 : xI (sL h8 k 26 ((((xL h8 k 26) * 10) + ((xI h (k + 16) a8).toInt64)) - 48)) k 24 = nI 2 := T8
                                                    generalize sL h8 k 26 ((((xL h8 k 26) * 10) + ((xI h (k + 16) a8).toInt64)) - 48) = h73 at Lh73 Fh73 Th73 ⊢
                                                    refine r_aload_n C (dx dX7_look 110 rfl) rfl ?_
                                                    refine r_dupR C (dx dX7_look 111 rfl) ?_
                                                    refine g_X7_141 (x := nI a8) C (dx dX7_look 112 rfl) Lh73.e23 ?_
                                                    refine r_iconst (v := nI 1) C (dx dX7_look 113 rfl) rfl ?_
                                                    refine rn_iadd (a := a8) (b := 1) C (dx dX7_look 114 rfl) ?_
                                                    refine p_X7_141 C (dx dX7_look 115 rfl) rfl rfl ?_
                                                    have Lh74 : Lk h (sI h73 k 23 (nI (a8 + 1))) k z (a8 + 1) v := Lh73.at (by omega)
                                                    have Fh74 : xI (sI h73 k 23 (nI (a8 + 1))) k 25 = nI a9 := by rw [sI_at, if_neg (by decide)]; exact Fh73
                                                    have Th74 : xI (sI h73 k 23 (nI (a8 + 1))) k 24 = nI 2 := by rw [sI_at, if_neg (by decide)]; exact Th73
                                                    generalize sI h73 k 23 (nI (a8 + 1)) = h74 at Lh74 Fh74 Th74 ⊢
                                                    refine r_goto (tgt := 149) C (dx dX7_look 116 rfl) (by decide) ?_
                                                    exact ih _ (by omega) _ _ rfl Lh74 (by omega) Fh74 Th74))
                                    exact key _ _ _ rfl Lh67 (by omega) Fh67 Th67))
                  ·
                    have c46 : (ltB (xI h (k + 16) a9)) = true := c46
                    refine r_aload_n C (dx dX7_look 42 rfl) rfl ?_
                    refine r_iconst (v := nI 1) C (dx dX7_look 43 rfl) rfl ?_
                    refine p_X7_151 C (dx dX7_look 44 rfl) rfl rfl ?_
                    have Lh75 : Lk h (sI h44 k 24 (nI 1)) k z a9 v := Lh44.fd (by decide)
                    have Fh75 : xI (sI h44 k 24 (nI 1)) k 25 = nI a9 := by rw [sI_at, if_neg (by decide)]; exact Fh44
                    have Th75 : xI (sI h44 k 24 (nI 1)) k 24 = nI 1 := by rw [sI_at, if_pos rfl]
                    generalize sI h44 k 24 (nI 1) = h75 at Lh75 Fh75 Th75 ⊢
                    refine r_aload_n C (dx dX7_look 45 rfl) rfl ?_
                    refine g_X7_141 (x := nI a9) C (dx dX7_look 46 rfl) Lh75.e23 ?_
                    refine r_aload_n C (dx dX7_look 47 rfl) rfl ?_
                    refine g_X7_138 (x := nI z) C (dx dX7_look 48 rfl) Lh75.e8 ?_
                    refine rn_ge (a := a9) (b := z) (tgt := 267) C (by omega) (by omega) (dx dX7_look 49 rfl) (by decide) (fun c76 => ?_) (fun c76 => ?_)
                    · first
                      | (omega; done)
                      | (
                          have c76 : z ≤ a9 := c76
                          exact F.2.2.1 _ _ _ rfl (dx dX7_look 135 rfl) Lh75.kk ⟨rfl, _, _, Pk.of Lh75 Fh75 (by omega) (Or.inr (by omega)), by omega, Lh75.e28⟩)
                    · first
                      | (omega; done)
                      | (
                          have c76 : a9 < z := c76
                          refine r_aload_n C (dx dX7_look 50 rfl) rfl ?_
                          refine g_X7_34 C (dx dX7_look 51 rfl) ?_
                          refine r_aload_n C (dx dX7_look 52 rfl) rfl ?_
                          refine g_X7_141 (x := nI a9) C (dx dX7_look 53 rfl) Lh75.e23 ?_
                          refine r_iald (j := a9) (x := xI h (k + 16) a9) C rfl rfl (by decide) rfl (by omega) (dx dX7_look 54 rfl) Lh75.tp ?_
                          refine r_csP (as := [vi (xI h (k + 16) a9)]) (st := []) (v := vi (b2i (ltB (xI h (k + 16) a9)))) C X I_X7_isLetter l_X7_154 (c_X7_isLetter _) (by decide) (Nat.le_of_ble_eq_true rfl) (pfx_eq Lh75.kk) (Nat.le_of_ble_eq_true rfl) rfl (dx dX7_look 55 rfl) ?_
                          refine rb_eq (b := ltB (xI h (k + 16) a9)) (tgt := 267) C (dx dX7_look 56 rfl) (by decide) (fun c77 => ?_) (fun c77 => ?_)
                          ·
                            have c77 : (ltB (xI h (k + 16) a9)) = false := c77
                            exact absurd (c46.symm.trans c77) (by decide)
                          ·
                            have c77 : (ltB (xI h (k + 16) a9)) = true := c77
                            refine r_aload_n C (dx dX7_look 57 rfl) rfl ?_
                            refine r_dupR C (dx dX7_look 58 rfl) ?_
                            refine g_X7_141 (x := nI a9) C (dx dX7_look 59 rfl) Lh75.e23 ?_
                            refine r_iconst (v := nI 1) C (dx dX7_look 60 rfl) rfl ?_
                            refine rn_iadd (a := a9) (b := 1) C (dx dX7_look 61 rfl) ?_
                            refine p_X7_141 C (dx dX7_look 62 rfl) rfl rfl ?_
                            have Lh78 : Lk h (sI h75 k 23 (nI (a9 + 1))) k z (a9 + 1) v := Lh75.at (by omega)
                            have Fh78 : xI (sI h75 k 23 (nI (a9 + 1))) k 25 = nI a9 := by rw [sI_at, if_neg (by decide)]; exact Fh75
                            have Th78 : xI (sI h75 k 23 (nI (a9 + 1))) k 24 = nI 1 := by rw [sI_at, if_neg (by decide)]; exact Th75
                            generalize sI h75 k 23 (nI (a9 + 1)) = h78 at Lh78 Fh78 Th78 ⊢
                            refine r_goto (tgt := 90) C (dx dX7_look 63 rfl) (by decide) ?_
                            have key : ∀ (n a8 : Nat) (h8 : Hp), z - a8 = n → Lk h h8 k z a8 v → a9 < a8 → xI h8 k 25 = nI a9 → xI h8 k 24 = nI 1 → Rr G 90 [(0, vr 7 k)] [] h8 := by
                              intro n
                              induction n using Nat.strongRecOn with | ind n ih => _
                              intro a8 h8 en L8 lo8 F8 T8
                              have az8 := L8.az
                              refine r_aload_n C (dx dX7_look 45 rfl) rfl ?_
                              refine g_X7_141 (x := nI a8) C (dx dX7_look 46 rfl) L8.e23 ?_
                              refine r_aload_n C (dx dX7_look 47 rfl) rfl ?_
                              refine g_X7_138 (x := nI z) C (dx dX7_look 48 rfl) L8.e8 ?_
                              refine rn_ge (a := a8) (b := z) (tgt := 267) C (by omega) (by omega) (dx dX7_look 49 rfl) (by decide) (fun c79 => ?_) (fun c79 => ?_)
                              · first
                                | (omega; done)
                                | (
                                    have c79 : z ≤ a8 := c79
                                    exact F.2.2.1 _ _ _ rfl (dx dX7_look 135 rfl) L8.kk ⟨rfl, _, _, Pk.of L8 F8 (by omega) (Or.inr (by omega)), by omega, L8.e28⟩)
                              · first
                                | (omega; done)
                                | (
                                    have c79 : a8 < z := c79
                                    refine r_aload_n C (dx dX7_look 50 rfl) rfl ?_
                                    refine g_X7_34 C (dx dX7_look 51 rfl) ?_
                                    refine r_aload_n C (dx dX7_look 52 rfl) rfl ?_
                                    refine g_X7_141 (x := nI a8) C (dx dX7_look 53 rfl) L8.e23 ?_
                                    refine r_iald (j := a8) (x := xI h (k + 16) a8) C rfl rfl (by decide) rfl (by omega) (dx dX7_look 54 rfl) L8.tp ?_
                                    refine r_csP (as := [vi (xI h (k + 16) a8)]) (st := []) (v := vi (b2i (ltB (xI h (k + 16) a8)))) C X I_X7_isLetter l_X7_154 (c_X7_isLetter _) (by decide) (Nat.le_of_ble_eq_true rfl) (pfx_eq L8.kk) (Nat.le_of_ble_eq_true rfl) rfl (dx dX7_look 55 rfl) ?_
                                    refine rb_eq (b := ltB (xI h (k + 16) a8)) (tgt := 267) C (dx dX7_look 56 rfl) (by decide) (fun c80 => ?_) (fun c80 => ?_)
                                    ·
                                      have c80 : (ltB (xI h (k + 16) a8)) = false := c80
                                      exact F.2.2.1 _ _ _ rfl (dx dX7_look 135 rfl) L8.kk ⟨rfl, _, _, Pk.of L8 F8 (by omega) (Or.inr (by omega)), by omega, L8.e28⟩
                                    ·
                                      have c80 : (ltB (xI h (k + 16) a8)) = true := c80
                                      refine r_aload_n C (dx dX7_look 57 rfl) rfl ?_
                                      refine r_dupR C (dx dX7_look 58 rfl) ?_
                                      refine g_X7_141 (x := nI a8) C (dx dX7_look 59 rfl) L8.e23 ?_
                                      refine r_iconst (v := nI 1) C (dx dX7_look 60 rfl) rfl ?_
                                      refine rn_iadd (a := a8) (b := 1) C (dx dX7_look 61 rfl) ?_
                                      refine p_X7_141 C (dx dX7_look 62 rfl) rfl rfl ?_
                                      have Lh81 : Lk h (sI h8 k 23 (nI (a8 + 1))) k z (a8 + 1) v := L8.at (by omega)
                                      have Fh81 : xI (sI h8 k 23 (nI (a8 + 1))) k 25 = nI a9 := by rw [sI_at, if_neg (by decide)]; exact F8
                                      have Th81 : xI (sI h8 k 23 (nI (a8 + 1))) k 24 = nI 1 := by rw [sI_at, if_neg (by decide)]; exact T8
                                      generalize sI h8 k 23 (nI (a8 + 1)) = h81 at Lh81 Fh81 Th81 ⊢
                                      refine r_goto (tgt := 90) C (dx dX7_look 63 rfl) (by decide) ?_
                                      exact ih _ (by omega) _ _ rfl Lh81 (by omega) Fh81 Th81)
                            exact key _ _ _ rfl Lh78 (by omega) Fh78 Th78))
            · first
              | (omega; done)
              | (
                  have c45 : a9 = z := c45
                  refine r_aload_n C (dx dX7_look 31 rfl) rfl ?_
                  refine r_iconst (v := nI 0) C (dx dX7_look 32 rfl) rfl ?_
                  refine p_X7_151 C (dx dX7_look 33 rfl) rfl rfl ?_
                  have Lh82 : Lk h (sI h44 k 24 (nI 0)) k z a9 v := Lh44.fd (by decide)
                  have Fh82 : xI (sI h44 k 24 (nI 0)) k 25 = nI a9 := by rw [sI_at, if_neg (by decide)]; exact Fh44
                  have Th82 : xI (sI h44 k 24 (nI 0)) k 24 = nI 0 := by rw [sI_at, if_pos rfl]
                  generalize sI h44 k 24 (nI 0) = h82 at Lh82 Fh82 Th82 ⊢
                  refine r_goto (tgt := 267) C (dx dX7_look 34 rfl) (by decide) ?_
                  exact F.2.2.1 _ _ _ rfl (dx dX7_look 135 rfl) Lh82.kk ⟨rfl, _, _, Pk.of Lh82 Fh82 (by omega) (Or.inl (Th82.trans (by decide))), by omega, Lh82.e28⟩)
          ·
            have c42 : xI h (k + 16) a9 = nI 32 := c42
            refine r_aload_n C (dx dX7_look 12 rfl) rfl ?_
            refine r_dupR C (dx dX7_look 13 rfl) ?_
            refine g_X7_141 (x := nI a9) C (dx dX7_look 14 rfl) L9.e23 ?_
            refine r_iconst (v := nI 1) C (dx dX7_look 15 rfl) rfl ?_
            refine rn_iadd (a := a9) (b := 1) C (dx dX7_look 16 rfl) ?_
            refine p_X7_141 C (dx dX7_look 17 rfl) rfl rfl ?_
            have Lh83 : Lk h (sI h9 k 23 (nI (a9 + 1))) k z (a9 + 1) v := L9.at (by omega)
            generalize sI h9 k 23 (nI (a9 + 1)) = h83 at Lh83 ⊢
            refine r_goto (tgt := 0) C (dx dX7_look 18 rfl) (by decide) ?_
            exact ih _ (by omega) _ _ rfl Lh83 (by omega))
  exact key _ _ _ rfl L0 (by omega)
set_option maxHeartbeats 4000000 in
theorem c_X7_wrong {l : Launch} {h : Hp} {k z a f : Nat} {v : Vg} (p : Pk h h k z a f v)  : Ms l yX7_wrong cX7_wrong 1 (some .boolean) 1 [vr 7 k] h (xK h) (fun r h' => ∃ b, r = some (vi (b2i b)) ∧ b = false ∧ (∃ v', Pk h h' k z a f v' ∧ Sz v v')) := by
  refine Ms.of (by decide) (Nat.le_of_ble_eq_true rfl) (fun G C X F => ?_)
  have C : Cx G cX7_wrong 1 RX7 := C
  show Rr G 0 [(0, vr 7 k)] [] h
  have fa := p.fa
  have az := p.az
  have bz := p.bz
  have bP := p.m.bP
  have bM := p.m.bM
  have bN := p.m.bN
  refine r_aload_n C (dx dX7_wrong 0 rfl) rfl ?_
  refine r_aload_n C (dx dX7_wrong 1 rfl) rfl ?_
  refine g_X7_144 (x := nI f) C (dx dX7_wrong 2 rfl) p.e25 ?_
  refine p_X7_164 C (dx dX7_wrong 3 rfl) rfl rfl ?_
  obtain ⟨vh1, ph1, zh1⟩ : ∃ v99, Pk h (sI h k 27 (nI f)) k z a f v99 ∧ Sz v v99 := ⟨v, p.fd (p.m.f (by decide) (by decide) (by decide) (by decide)) (by decide) (by decide) (by decide) (by decide), ⟨rfl, rfl, rfl⟩⟩
  generalize sI h k 27 (nI f) = h1 at ph1 ⊢
  obtain ⟨ah1, bh1, ch1⟩ := zh1
  refine r_iconst (v := nI 0) C (dx dX7_wrong 4 rfl) rfl ?_
  exact F.1 _ _ _ _ .boolean rfl rfl (dx dX7_wrong 5 rfl) ph1.kk ⟨false, rfl, rfl, _, ph1, ⟨by omega, by omega, by omega⟩⟩
set_option maxHeartbeats 4000000 in
theorem c_X7_isWord {l : Launch} {h : Hp} {k z a f : Nat} {v : Vg} (p : Pk h h k z a f v) {i : Nat} (hi : i < 10) : Ms l yX7_isWord cX7_isWord 3 (some .boolean) 5 [vr 7 k, vt (1000 + i)] h (xK h) (fun r h' => (∃ b, (b = true → xI h k 24 = nI 1) ∧ r = some (vi (b2i b))) ∧ h' = h) := by
  refine Ms.of (by decide) (Nat.le_of_ble_eq_true rfl) (fun G C X F => ?_)
  have C : Cx G cX7_isWord 3 RX7 := C
  show Rr G 0 [(0, vr 7 k), (1, vt (1000 + i))] [] h
  have fa := p.fa
  have az := p.az
  have bz := p.bz
  have bP := p.m.bP
  have bM := p.m.bM
  have bN := p.m.bN
  have bl := tx_len hi
  refine r_aload_n C (dx dX7_isWord 0 rfl) rfl ?_
  refine g_X7_151 (x := xI h k 24) C (dx dX7_isWord 1 rfl) rfl ?_
  refine r_iconst (v := nI 1) C (dx dX7_isWord 2 rfl) rfl ?_
  refine r_icmp_ne (tgt := 24) C (dx dX7_isWord 3 rfl) (by decide) (fun c1 => ?_) (fun c1 => ?_)
  ·
    have c1 : ¬ xI h k 24 = nI 1 := c1
    refine r_iconst (v := nI 0) C (dx dX7_isWord 12 rfl) rfl ?_
    exact F.1 _ _ _ _ .boolean rfl rfl (dx dX7_isWord 13 rfl) rfl ⟨⟨false, (fun q => by cases q), rfl⟩, rfl⟩
  ·
    have c1 : xI h k 24 = nI 1 := c1
    have ltc1 := p.lt c1 (by decide)
    refine r_aload_n C (dx dX7_isWord 4 rfl) rfl ?_
    refine g_X7_141 (x := nI a) C (dx dX7_isWord 5 rfl) p.e23 ?_
    refine r_aload_n C (dx dX7_isWord 6 rfl) rfl ?_
    refine g_X7_144 (x := nI f) C (dx dX7_isWord 7 rfl) p.e25 ?_
    refine rn_isub (a := a) (b := f) C (by omega) (dx dX7_isWord 8 rfl) ?_
    refine r_aload_nT C (dx dX7_isWord 9 rfl) rfl ?_
    refine r_cvTP (as := []) (st := [vi (nI (a - f))]) (v := vi (nI (txL.getD i 0))) C X hi I_J0_length_8abf5 l_X7_167 (c_J0_length_8abf5 hi) (by decide) (Nat.le_of_ble_eq_true rfl) List.prefix_rfl rfl (Nat.le_of_ble_eq_true rfl) rfl (dx dX7_isWord 10 rfl) ?_
    refine rn_eq (a := a - f) (b := txL.getD i 0) (tgt := 26) C (by omega) (by omega) (dx dX7_isWord 11 rfl) (by decide) (fun c2 => ?_) (fun c2 => ?_)
    · first
      | (omega; done)
      | (
          have c2 : a - f = txL.getD i 0 := c2
          refine r_iconst (v := nI 0) C (dx dX7_isWord 14 rfl) rfl ?_
          refine r_istore_n (ls' := [(0, vr 7 k), (1, vt (1000 + i)), (2, vi (nI 0))]) C (dx dX7_isWord 15 rfl) (by decide) [1, 2, 0] rfl ?_
          refine loopU (Φ := fun q => Rr G 28 [(0, vr 7 k), (1, vt (1000 + i)), (2, vi (nI q))] [] h) (N := txL.getD i 0) ?_ ?_ 0 (Nat.zero_le _)
          ·
            refine r_iload_n C (dx dX7_isWord 16 rfl) rfl ?_
            refine r_aload_nT C (dx dX7_isWord 17 rfl) rfl ?_
            refine r_cvTP (as := []) (st := [vi (nI (txL.getD i 0))]) (v := vi (nI (txL.getD i 0))) C X hi I_J0_length_8abf5 l_X7_167 (c_J0_length_8abf5 hi) (by decide) (Nat.le_of_ble_eq_true rfl) List.prefix_rfl rfl (Nat.le_of_ble_eq_true rfl) rfl (dx dX7_isWord 18 rfl) ?_
            refine rn_ge (a := txL.getD i 0) (b := txL.getD i 0) (tgt := 63) C (by omega) (by omega) (dx dX7_isWord 19 rfl) (by decide) (fun c3 => ?_) (fun c3 => ?_)
            · first
              | (omega; done)
              | (
                  have c3 : txL.getD i 0 ≤ txL.getD i 0 := c3
                  refine r_iconst (v := nI 1) C (dx dX7_isWord 35 rfl) rfl ?_
                  exact F.1 _ _ _ _ .boolean rfl rfl (dx dX7_isWord 36 rfl) rfl ⟨⟨true, (fun _ => c1), rfl⟩, rfl⟩)
            · first
              | (omega; done)
          ·
            intro q hq ih
            refine r_iload_n C (dx dX7_isWord 16 rfl) rfl ?_
            refine r_aload_nT C (dx dX7_isWord 17 rfl) rfl ?_
            refine r_cvTP (as := []) (st := [vi (nI q)]) (v := vi (nI (txL.getD i 0))) C X hi I_J0_length_8abf5 l_X7_167 (c_J0_length_8abf5 hi) (by decide) (Nat.le_of_ble_eq_true rfl) List.prefix_rfl rfl (Nat.le_of_ble_eq_true rfl) rfl (dx dX7_isWord 18 rfl) ?_
            refine rn_ge (a := q) (b := txL.getD i 0) (tgt := 63) C (by omega) (by omega) (dx dX7_isWord 19 rfl) (by decide) (fun c5 => ?_) (fun c5 => ?_)
            · first
              | (omega; done)
              | (
                  have c5 : txL.getD i 0 ≤ q := c5
                  refine r_iconst (v := nI 1) C (dx dX7_isWord 35 rfl) rfl ?_
                  exact F.1 _ _ _ _ .boolean rfl rfl (dx dX7_isWord 36 rfl) rfl ⟨⟨true, (fun _ => c1), rfl⟩, rfl⟩)
            · first
              | (omega; done)
              | (
                  have c5 : q < txL.getD i 0 := c5
                  refine r_aload_n C (dx dX7_isWord 20 rfl) rfl ?_
                  refine g_X7_34 C (dx dX7_isWord 21 rfl) ?_
                  refine r_aload_n C (dx dX7_isWord 22 rfl) rfl ?_
                  refine g_X7_144 (x := nI f) C (dx dX7_isWord 23 rfl) p.e25 ?_
                  refine r_iload_n C (dx dX7_isWord 24 rfl) rfl ?_
                  refine rn_iadd (a := f) (b := q) C (dx dX7_isWord 25 rfl) ?_
                  refine r_iald (j := f + q) (x := xI h (k + 16) (f + q)) C rfl rfl (by decide) rfl (by omega) (dx dX7_isWord 26 rfl) rfl ?_
                  refine r_aload_nT C (dx dX7_isWord 27 rfl) rfl ?_
                  refine r_iload_n C (dx dX7_isWord 28 rfl) rfl ?_
                  refine r_cvTP (as := [vi (nI q)]) (st := [vi (xI h (k + 16) (f + q))]) (v := vi (txc i q)) C X hi I_J0_charAt_5068e l_X7_173 (c_J0_charAt_5068e (j := q) hi (by omega)) (by decide) (Nat.le_of_ble_eq_true rfl) List.prefix_rfl rfl (Nat.le_of_ble_eq_true rfl) rfl (dx dX7_isWord 29 rfl) ?_
                  refine r_icmp_eq (tgt := 57) C (dx dX7_isWord 30 rfl) (by decide) (fun c6 => ?_) (fun c6 => ?_)
                  ·
                    have c6 : xI h (k + 16) (f + q) = txc i q := c6
                    refine rn_iinc (a := q) (k := 1) (ls' := [(0, vr 7 k), (1, vt (1000 + i)), (2, vi (nI (q + 1)))]) C (dx dX7_isWord 33 rfl) rfl rfl (by decide) [1, 2, 0] rfl ?_
                    refine r_goto (tgt := 28) C (dx dX7_isWord 34 rfl) (by decide) ?_
                    exact ih
                  ·
                    have c6 : ¬ xI h (k + 16) (f + q) = txc i q := c6
                    refine r_iconst (v := nI 0) C (dx dX7_isWord 31 rfl) rfl ?_
                    exact F.1 _ _ _ _ .boolean rfl rfl (dx dX7_isWord 32 rfl) rfl ⟨⟨false, (fun q => by cases q), rfl⟩, rfl⟩))
    · first
      | (omega; done)
      | (
          have c2 : ¬ a - f = txL.getD i 0 := c2
          refine r_iconst (v := nI 0) C (dx dX7_isWord 12 rfl) rfl ?_
          exact F.1 _ _ _ _ .boolean rfl rfl (dx dX7_isWord 13 rfl) rfl ⟨⟨false, (fun q => by cases q), rfl⟩, rfl⟩)
set_option maxHeartbeats 4000000 in
theorem c_X7_number {l : Launch} {h : Hp} {k z a f : Nat} {v : Vg} (p : Pk h h k z a f v) (lo hi : Int32) : Ms l yX7_number cX7_number 3 (some .boolean) 3 [vr 7 k, vi lo, vi hi] h (xK h) (fun r h' => ∃ b, r = some (vi (b2i b)) ∧ ∃ v9, (∃ a' f', Pk h h' k z a' f' v9 ∧ Sz v v9 ∧ a ≤ a' ∧ (b = true → f < a ∧ ∃ t, xI h' k 28 = t ∧ inL t.toInt64 lo.toInt64 hi.toInt64 = true))) := by
  refine Ms.of (by decide) (Nat.le_of_ble_eq_true rfl) (fun G C X F => ?_)
  have C : Cx G cX7_number 3 RX7 := C
  show Rr G 0 [(0, vr 7 k), (1, vi lo), (2, vi hi)] [] h
  have fa := p.fa
  have az := p.az
  have bz := p.bz
  have bP := p.m.bP
  have bM := p.m.bM
  have bN := p.m.bN
  refine r_aload_n C (dx dX7_number 0 rfl) rfl ?_
  refine g_X7_151 (x := xI h k 24) C (dx dX7_number 1 rfl) rfl ?_
  refine r_iconst (v := nI 2) C (dx dX7_number 2 rfl) rfl ?_
  refine r_icmp_ne (tgt := 22) C (dx dX7_number 3 rfl) (by decide) (fun c1 => ?_) (fun c1 => ?_)
  ·
    have c1 : ¬ xI h k 24 = nI 2 := c1
    refine r_aload_n C (dx dX7_number 12 rfl) rfl ?_
    refine r_cv (as := []) (st := []) C X I_X7_wrong l_X7_177 (c_X7_wrong p.slf) (by decide) (Nat.le_of_ble_eq_true rfl) List.prefix_rfl (pfx_eq p.kk) rfl rfl (Nat.le_of_ble_eq_true rfl) rfl (dx dX7_number 13 rfl) ?_
    rintro _ h2 ⟨_, rfl, rfl, vh2, qh2, zh2⟩ kkh2
    have ph2 := p.tr qh2
    obtain ⟨ah2, bh2, ch2⟩ := zh2
    exact F.1 _ _ _ _ .boolean rfl (nar_b _) (dx dX7_number 14 rfl) ph2.kk ⟨false, rfl, _, _, _, ph2, ⟨by omega, by omega, by omega⟩, by omega, fun q => by cases q⟩
  ·
    have c1 : xI h k 24 = nI 2 := c1
    have ltc1 := p.lt c1 (by decide)
    refine r_aload_n C (dx dX7_number 4 rfl) rfl ?_
    refine g_X7_147 C (dx dX7_number 5 rfl) rfl ?_
    refine r_iload_n C (dx dX7_number 6 rfl) rfl ?_
    refine r_i2l C (dx dX7_number 7 rfl) ?_
    refine r_iload_n C (dx dX7_number 8 rfl) rfl ?_
    refine r_i2l C (dx dX7_number 9 rfl) ?_
    refine r_csP (as := [vl (xL h k 26), vl lo.toInt64, vl hi.toInt64]) (st := []) (v := vi (b2i (inL (xL h k 26) lo.toInt64 hi.toInt64))) C X I_X7_in l_X7_67 (c_X7_in _ _ _) (by decide) (Nat.le_of_ble_eq_true rfl) (pfx_eq p.kk) (Nat.le_of_ble_eq_true rfl) rfl (dx dX7_number 10 rfl) ?_
    refine rb_ne (b := inL (xL h k 26) lo.toInt64 hi.toInt64) (tgt := 27) C (dx dX7_number 11 rfl) (by decide) (fun c3 => ?_) (fun c3 => ?_)
    ·
      have c3 : (inL (xL h k 26) lo.toInt64 hi.toInt64) = true := c3
      refine r_aload_n C (dx dX7_number 15 rfl) rfl ?_
      refine r_aload_n C (dx dX7_number 16 rfl) rfl ?_
      refine g_X7_147 C (dx dX7_number 17 rfl) rfl ?_
      refine r_l2i C (dx dX7_number 18 rfl) ?_
      refine p_X7_181 C (dx dX7_number 19 rfl) rfl rfl ?_
      have e28 : xI (sI h k 28 ((xL h k 26).toInt32)) k 28 = (xL h k 26).toInt32 := by rw [sI_at, if_pos rfl]
      have p28 : Pk h (sI h k 28 ((xL h k 26).toInt32)) k z a f v := p.fd (p.m.f (by decide) (by decide) (by decide) (by decide)) (by decide) (by decide) (by decide) (by decide)
      generalize sI h k 28 ((xL h k 26).toInt32) = h28 at e28 p28 ⊢
      refine r_aload_n C (dx dX7_number 20 rfl) rfl ?_
      refine r_cv (as := []) (st := []) C X I_X7_look l_X7_184 (c_X7_look p28.lk) (by decide) (Nat.le_of_ble_eq_true rfl) List.prefix_rfl (pfx_eq p28.kk) rfl rfl (Nat.le_of_ble_eq_true rfl) rfl (dx dX7_number 21 rfl) ?_
      rintro _ h4 ⟨rfl, ah4, fh4, qh4, lh4, uh4⟩ kkh4
      have ph4 := p28.tr qh4
      have fah4 := ph4.fa
      have azh4 := ph4.az
      have t28h4 := uh4.trans e28
      refine r_iconst (v := nI 1) C (dx dX7_number 22 rfl) rfl ?_
      exact F.1 _ _ _ _ .boolean rfl rfl (dx dX7_number 23 rfl) ph4.kk ⟨true, rfl, _, _, _, ph4, ⟨by omega, by omega, by omega⟩, by omega, fun _ => ⟨by omega, _, t28h4, inL_i c3⟩⟩
    ·
      have c3 : (inL (xL h k 26) lo.toInt64 hi.toInt64) = false := c3
      refine r_aload_n C (dx dX7_number 12 rfl) rfl ?_
      refine r_cv (as := []) (st := []) C X I_X7_wrong l_X7_177 (c_X7_wrong p.slf) (by decide) (Nat.le_of_ble_eq_true rfl) List.prefix_rfl (pfx_eq p.kk) rfl rfl (Nat.le_of_ble_eq_true rfl) rfl (dx dX7_number 13 rfl) ?_
      rintro _ h5 ⟨_, rfl, rfl, vh5, qh5, zh5⟩ kkh5
      have ph5 := p.tr qh5
      obtain ⟨ah5, bh5, ch5⟩ := zh5
      exact F.1 _ _ _ _ .boolean rfl (nar_b _) (dx dX7_number 14 rfl) ph5.kk ⟨false, rfl, _, _, _, ph5, ⟨by omega, by omega, by omega⟩, by omega, fun q => by cases q⟩
set_option maxHeartbeats 4000000 in
theorem c_X7_tells {l : Launch} {h : Hp} {k z a f : Nat} {v : Vg} (p : Pk h h k z a f v) {i : Nat} (hi9 : i < 10) (lo hi : Int32) : Ms l yX7_tells cX7_tells 4 (some .boolean) 6 [vr 7 k, vt (1000 + i), vi lo, vi hi] h (xK h) (fun r h' => ∃ b, r = some (vi (b2i b)) ∧ ∃ v9, (∃ a' f', Pk h h' k z a' f' v9 ∧ Sz v v9 ∧ a ≤ a' ∧ (b = true → f < a ∧ a < a' ∧ ∃ t, xI h' k 28 = t ∧ inL t.toInt64 lo.toInt64 hi.toInt64 = true))) := by
  refine Ms.of (by decide) (Nat.le_of_ble_eq_true rfl) (fun G C X F => ?_)
  have C : Cx G cX7_tells 4 RX7 := C
  show Rr G 0 [(0, vr 7 k), (1, vt (1000 + i)), (2, vi lo), (3, vi hi)] [] h
  have fa := p.fa
  have az := p.az
  have bz := p.bz
  have bP := p.m.bP
  have bM := p.m.bM
  have bN := p.m.bN
  refine r_aload_n C (dx dX7_tells 0 rfl) rfl ?_
  refine r_aload_nT C (dx dX7_tells 1 rfl) rfl ?_
  refine r_cvW (as := [vt (1000 + i)]) (st := []) C X I_X7_isWord l_X7_187 (c_X7_isWord p.slf hi9) (by decide) (Nat.le_of_ble_eq_true rfl) (pfx_eq p.kk) rfl rfl (Nat.le_of_ble_eq_true rfl) rfl (dx dX7_tells 2 rfl) ?_
  rintro _ ⟨x1, hx1, rfl⟩
  refine rb_ne (b := x1) (tgt := 13) C (dx dX7_tells 3 rfl) (by decide) (fun c2 => ?_) (fun c2 => ?_)
  ·
    have c2 : x1 = true := c2
    have ltc2 := p.lt (hx1 c2) (by decide)
    refine r_aload_n C (dx dX7_tells 7 rfl) rfl ?_
    refine r_cv (as := []) (st := []) C X I_X7_look l_X7_184 (c_X7_look p.lk) (by decide) (Nat.le_of_ble_eq_true rfl) List.prefix_rfl (pfx_eq p.kk) rfl rfl (Nat.le_of_ble_eq_true rfl) rfl (dx dX7_tells 8 rfl) ?_
    rintro _ h3 ⟨rfl, ah3, fh3, qh3, lh3, uh3⟩ kkh3
    have ph3 := p.tr qh3
    have fah3 := ph3.fa
    have azh3 := ph3.az
    refine r_aload_n C (dx dX7_tells 9 rfl) rfl ?_
    refine r_iload_n C (dx dX7_tells 10 rfl) rfl ?_
    refine r_iload_n C (dx dX7_tells 11 rfl) rfl ?_
    refine r_cv (as := [vi lo, vi hi]) (st := []) C X I_X7_number l_X7_191 (c_X7_number ph3.slf _ _) (by decide) (Nat.le_of_ble_eq_true rfl) List.prefix_rfl (pfx_eq ph3.kk) rfl rfl (Nat.le_of_ble_eq_true rfl) rfl (dx dX7_tells 12 rfl) ?_
    rintro _ h4 ⟨xh4, rfl, vh4, ah4, fh4, qh4, zh4, lh4, gh4⟩ kkh4
    have ph4 := ph3.tr qh4
    have fah4 := ph4.fa
    have azh4 := ph4.az
    obtain ⟨aah4, abh4, ach4⟩ := zh4
    exact F.1 _ _ _ _ .boolean rfl (nar_b _) (dx dX7_tells 13 rfl) ph4.kk ⟨xh4, rfl, _, _, _, ph4, ⟨by omega, by omega, by omega⟩, by omega, fun q => ⟨by omega, by have := (gh4 q).1; omega, (gh4 q).2⟩⟩
  ·
    have c2 : x1 = false := c2
    refine r_aload_n C (dx dX7_tells 4 rfl) rfl ?_
    refine r_cv (as := []) (st := []) C X I_X7_wrong l_X7_177 (c_X7_wrong p.slf) (by decide) (Nat.le_of_ble_eq_true rfl) List.prefix_rfl (pfx_eq p.kk) rfl rfl (Nat.le_of_ble_eq_true rfl) rfl (dx dX7_tells 5 rfl) ?_
    rintro _ h5 ⟨_, rfl, rfl, vh5, qh5, zh5⟩ kkh5
    have ph5 := p.tr qh5
    obtain ⟨ah5, bh5, ch5⟩ := zh5
    exact F.1 _ _ _ _ .boolean rfl (nar_b _) (dx dX7_tells 6 rfl) ph5.kk ⟨false, rfl, _, _, _, ph5, ⟨by omega, by omega, by omega⟩, by omega, fun q => by cases q⟩
set_option maxHeartbeats 4000000 in
theorem c_X7_gets {l : Launch} {h : Hp} {k z a f : Nat} {v : Vg} (p : Pk h h k z a f v) {j : Nat} (hj : j < vP v) (b : Bool) : Ms l yX7_gets cX7_gets 5 (some .boolean) 3 [vr 7 k, vi (nI j), vi (b2i b)] h (xK h) (fun r h' => ∃ b, r = some (vi (b2i b)) ∧ ∃ v9, (∃ a' f', Pk h h' k z a' f' v9 ∧ Sz v v9 ∧ a ≤ a')) := by
  refine Ms.of (by decide) (Nat.le_of_ble_eq_true rfl) (fun G C X F => ?_)
  have C : Cx G cX7_gets 5 RX7 := C
  show Rr G 0 [(0, vr 7 k), (1, vi (nI j)), (2, vi (b2i b))] [] h
  have fa := p.fa
  have az := p.az
  have bz := p.bz
  have bP := p.m.bP
  have bM := p.m.bM
  have bN := p.m.bN
  refine r_iload_n C (dx dX7_gets 0 rfl) rfl ?_
  refine rb_eq (b := b) (tgt := 11) C (dx dX7_gets 1 rfl) (by decide) (fun c1 => ?_) (fun c1 => ?_)
  ·
    have c1 : b = false := c1
    refine r_aload_n C (dx dX7_gets 5 rfl) rfl ?_
    refine g_X7_40 C (dx dX7_gets 6 rfl) ?_
    refine r_astore_n (ls' := [(0, vr 7 k), (1, vi (nI j)), (2, vi (b2i b)), (3, vr 20 (k + 18))]) C (dx dX7_gets 7 rfl) (by decide) [1, 2, 3, 0] rfl ?_
    refine r_aload_n C (dx dX7_gets 8 rfl) rfl ?_
    refine g_X7_151 (x := xI h k 24) C (dx dX7_gets 9 rfl) rfl ?_
    refine r_iconst (v := nI 2) C (dx dX7_gets 10 rfl) rfl ?_
    refine r_icmp_ne (tgt := 42) C (dx dX7_gets 11 rfl) (by decide) (fun c2 => ?_) (fun c2 => ?_)
    ·
      have c2 : ¬ xI h k 24 = nI 2 := c2
      refine r_aload_n C (dx dX7_gets 22 rfl) rfl ?_
      refine r_cv (as := []) (st := []) C X I_X7_wrong l_X7_177 (c_X7_wrong p.slf) (by decide) (Nat.le_of_ble_eq_true rfl) List.prefix_rfl (pfx_eq p.kk) rfl rfl (Nat.le_of_ble_eq_true rfl) rfl (dx dX7_gets 23 rfl) ?_
      rintro _ h3 ⟨_, rfl, rfl, vh3, qh3, zh3⟩ kkh3
      have ph3 := p.tr qh3
      obtain ⟨ah3, bh3, ch3⟩ := zh3
      exact F.1 _ _ _ _ .boolean rfl (nar_b _) (dx dX7_gets 24 rfl) ph3.kk ⟨false, rfl, _, _, _, ph3, ⟨by omega, by omega, by omega⟩, by omega⟩
    ·
      have c2 : xI h k 24 = nI 2 := c2
      have ltc2 := p.lt c2 (by decide)
      refine r_aload_n C (dx dX7_gets 12 rfl) rfl ?_
      refine g_X7_147 C (dx dX7_gets 13 rfl) rfl ?_
      refine r_lconst (v := 0) C (dx dX7_gets 14 rfl) rfl ?_
      refine r_aload_n C (dx dX7_gets 15 rfl) rfl ?_
      refine g_X7_74 (x := nI (vN v)) C (dx dX7_gets 16 rfl) p.m.eN ?_
      refine r_iconst (v := nI 1) C (dx dX7_gets 17 rfl) rfl ?_
      refine r_isub C (dx dX7_gets 18 rfl) ?_
      refine r_i2l C (dx dX7_gets 19 rfl) ?_
      refine r_csP (as := [vl (xL h k 26), vl 0, vl (((nI (vN v)) - (nI 1)).toInt64)]) (st := []) (v := vi (b2i (inL (xL h k 26) 0 (((nI (vN v)) - (nI 1)).toInt64)))) C X I_X7_in l_X7_67 (c_X7_in _ _ _) (by decide) (Nat.le_of_ble_eq_true rfl) (pfx_eq p.kk) (Nat.le_of_ble_eq_true rfl) rfl (dx dX7_gets 20 rfl) ?_
      refine rb_ne (b := inL (xL h k 26) 0 (((nI (vN v)) - (nI 1)).toInt64)) (tgt := 47) C (dx dX7_gets 21 rfl) (by decide) (fun c4 => ?_) (fun c4 => ?_)
      ·
        have c4 : (inL (xL h k 26) 0 (((nI (vN v)) - (nI 1)).toInt64)) = true := c4
        obtain ⟨o9, ho9, eo9⟩ := inL_e0 (n := vN v) (by omega) c4
        refine r_aload_n C (dx dX7_gets 25 rfl) rfl ?_
        refine g_X7_147 C (dx dX7_gets 26 rfl) rfl ?_
        refine r_l2i C (dx dX7_gets 27 rfl) ?_
        rw [eo9]
        refine r_istore (ls' := [(0, vr 7 k), (1, vi (nI j)), (2, vi (b2i b)), (3, vr 20 (k + 18)), (4, vi (nI o9))]) C (dx dX7_gets 28 rfl) (by decide) [1, 2, 3, 4, 0] rfl ?_
        refine r_aload_n C (dx dX7_gets 29 rfl) rfl ?_
        refine r_iload_n C (dx dX7_gets 30 rfl) rfl ?_
        refine r_iald (j := j) (x := vF v 0 j) C rfl rfl (by decide) rfl (by omega) (dx dX7_gets 31 rfl) (p.m.e0 (by omega)) ?_
        refine r_iload C (dx dX7_gets 32 rfl) rfl ?_
        refine r_icmp_eq (tgt := 76) C (dx dX7_gets 33 rfl) (by decide) (fun c5 => ?_) (fun c5 => ?_)
        ·
          have c5 : vF v 0 j = nI o9 := c5
          refine r_aload_n C (dx dX7_gets 41 rfl) rfl ?_
          refine r_iload_n C (dx dX7_gets 42 rfl) rfl ?_
          refine r_iload C (dx dX7_gets 43 rfl) rfl ?_
          refine r_iast (j := j) C rfl rfl (by decide) rfl (by omega) (dx dX7_gets 44 rfl) ?_
          obtain ⟨vh6, ph6, zh6⟩ : ∃ v99, Pk h (sI h (k + 18) j (nI o9)) k z a f v99 ∧ Sz v v99 := ⟨vset v 0 j (nI o9), p.c (p.m.s0) (by omega) (by omega), ⟨rfl, rfl, rfl⟩⟩
          generalize sI h (k + 18) j (nI o9) = h6 at ph6 ⊢
          obtain ⟨ah6, bh6, ch6⟩ := zh6
          refine r_aload_n C (dx dX7_gets 45 rfl) rfl ?_
          refine r_cv (as := []) (st := []) C X I_X7_look l_X7_184 (c_X7_look ph6.lk) (by decide) (Nat.le_of_ble_eq_true rfl) List.prefix_rfl (pfx_eq ph6.kk) rfl rfl (Nat.le_of_ble_eq_true rfl) rfl (dx dX7_gets 46 rfl) ?_
          rintro _ h7 ⟨rfl, ah7, fh7, qh7, lh7, uh7⟩ kkh7
          have ph7 := ph6.tr qh7
          have fah7 := ph7.fa
          have azh7 := ph7.az
          refine r_iconst (v := nI 1) C (dx dX7_gets 47 rfl) rfl ?_
          exact F.1 _ _ _ _ .boolean rfl rfl (dx dX7_gets 48 rfl) ph7.kk ⟨true, rfl, _, _, _, ph7, ⟨by omega, by omega, by omega⟩, by omega⟩
        ·
          have c5 : ¬ vF v 0 j = nI o9 := c5
          refine r_aload_n C (dx dX7_gets 34 rfl) rfl ?_
          refine r_iload C (dx dX7_gets 35 rfl) rfl ?_
          refine r_cvW (as := [vi (nI o9)]) (st := []) C X I_X7_hasRoom l_X7_135 (c_X7_hasRoom p.m (j := o9) (by omega)) (by decide) (Nat.le_of_ble_eq_true rfl) (pfx_eq p.kk) rfl rfl (Nat.le_of_ble_eq_true rfl) rfl (dx dX7_gets 36 rfl) ?_
          rintro _ ⟨x8, rfl⟩
          refine rb_ne (b := x8) (tgt := 76) C (dx dX7_gets 37 rfl) (by decide) (fun c9 => ?_) (fun c9 => ?_)
          ·
            have c9 : x8 = true := c9
            refine r_aload_n C (dx dX7_gets 41 rfl) rfl ?_
            refine r_iload_n C (dx dX7_gets 42 rfl) rfl ?_
            refine r_iload C (dx dX7_gets 43 rfl) rfl ?_
            refine r_iast (j := j) C rfl rfl (by decide) rfl (by omega) (dx dX7_gets 44 rfl) ?_
            obtain ⟨vh10, ph10, zh10⟩ : ∃ v99, Pk h (sI h (k + 18) j (nI o9)) k z a f v99 ∧ Sz v v99 := ⟨vset v 0 j (nI o9), p.c (p.m.s0) (by omega) (by omega), ⟨rfl, rfl, rfl⟩⟩
            generalize sI h (k + 18) j (nI o9) = h10 at ph10 ⊢
            obtain ⟨ah10, bh10, ch10⟩ := zh10
            refine r_aload_n C (dx dX7_gets 45 rfl) rfl ?_
            refine r_cv (as := []) (st := []) C X I_X7_look l_X7_184 (c_X7_look ph10.lk) (by decide) (Nat.le_of_ble_eq_true rfl) List.prefix_rfl (pfx_eq ph10.kk) rfl rfl (Nat.le_of_ble_eq_true rfl) rfl (dx dX7_gets 46 rfl) ?_
            rintro _ h11 ⟨rfl, ah11, fh11, qh11, lh11, uh11⟩ kkh11
            have ph11 := ph10.tr qh11
            have fah11 := ph11.fa
            have azh11 := ph11.az
            refine r_iconst (v := nI 1) C (dx dX7_gets 47 rfl) rfl ?_
            exact F.1 _ _ _ _ .boolean rfl rfl (dx dX7_gets 48 rfl) ph11.kk ⟨true, rfl, _, _, _, ph11, ⟨by omega, by omega, by omega⟩, by omega⟩
          ·
            have c9 : x8 = false := c9
            refine r_aload_n C (dx dX7_gets 38 rfl) rfl ?_
            refine r_cv (as := []) (st := []) C X I_X7_wrong l_X7_177 (c_X7_wrong p.slf) (by decide) (Nat.le_of_ble_eq_true rfl) List.prefix_rfl (pfx_eq p.kk) rfl rfl (Nat.le_of_ble_eq_true rfl) rfl (dx dX7_gets 39 rfl) ?_
            rintro _ h12 ⟨_, rfl, rfl, vh12, qh12, zh12⟩ kkh12
            have ph12 := p.tr qh12
            obtain ⟨ah12, bh12, ch12⟩ := zh12
            exact F.1 _ _ _ _ .boolean rfl (nar_b _) (dx dX7_gets 40 rfl) ph12.kk ⟨false, rfl, _, _, _, ph12, ⟨by omega, by omega, by omega⟩, by omega⟩
      ·
        have c4 : (inL (xL h k 26) 0 (((nI (vN v)) - (nI 1)).toInt64)) = false := c4
        refine r_aload_n C (dx dX7_gets 22 rfl) rfl ?_
        refine r_cv (as := []) (st := []) C X I_X7_wrong l_X7_177 (c_X7_wrong p.slf) (by decide) (Nat.le_of_ble_eq_true rfl) List.prefix_rfl (pfx_eq p.kk) rfl rfl (Nat.le_of_ble_eq_true rfl) rfl (dx dX7_gets 23 rfl) ?_
        rintro _ h13 ⟨_, rfl, rfl, vh13, qh13, zh13⟩ kkh13
        have ph13 := p.tr qh13
        obtain ⟨ah13, bh13, ch13⟩ := zh13
        exact F.1 _ _ _ _ .boolean rfl (nar_b _) (dx dX7_gets 24 rfl) ph13.kk ⟨false, rfl, _, _, _, ph13, ⟨by omega, by omega, by omega⟩, by omega⟩
  ·
    have c1 : b = true := c1
    refine r_aload_n C (dx dX7_gets 2 rfl) rfl ?_
    refine g_X7_43 C (dx dX7_gets 3 rfl) ?_
    refine r_goto (tgt := 15) C (dx dX7_gets 4 rfl) (by decide) ?_
    refine r_astore_n (ls' := [(0, vr 7 k), (1, vi (nI j)), (2, vi (b2i b)), (3, vr 20 (k + 19))]) C (dx dX7_gets 7 rfl) (by decide) [1, 2, 3, 0] rfl ?_
    refine r_aload_n C (dx dX7_gets 8 rfl) rfl ?_
    refine g_X7_151 (x := xI h k 24) C (dx dX7_gets 9 rfl) rfl ?_
    refine r_iconst (v := nI 2) C (dx dX7_gets 10 rfl) rfl ?_
    refine r_icmp_ne (tgt := 42) C (dx dX7_gets 11 rfl) (by decide) (fun c14 => ?_) (fun c14 => ?_)
    ·
      have c14 : ¬ xI h k 24 = nI 2 := c14
      refine r_aload_n C (dx dX7_gets 22 rfl) rfl ?_
      refine r_cv (as := []) (st := []) C X I_X7_wrong l_X7_177 (c_X7_wrong p.slf) (by decide) (Nat.le_of_ble_eq_true rfl) List.prefix_rfl (pfx_eq p.kk) rfl rfl (Nat.le_of_ble_eq_true rfl) rfl (dx dX7_gets 23 rfl) ?_
      rintro _ h15 ⟨_, rfl, rfl, vh15, qh15, zh15⟩ kkh15
      have ph15 := p.tr qh15
      obtain ⟨ah15, bh15, ch15⟩ := zh15
      exact F.1 _ _ _ _ .boolean rfl (nar_b _) (dx dX7_gets 24 rfl) ph15.kk ⟨false, rfl, _, _, _, ph15, ⟨by omega, by omega, by omega⟩, by omega⟩
    ·
      have c14 : xI h k 24 = nI 2 := c14
      have ltc14 := p.lt c14 (by decide)
      refine r_aload_n C (dx dX7_gets 12 rfl) rfl ?_
      refine g_X7_147 C (dx dX7_gets 13 rfl) rfl ?_
      refine r_lconst (v := 0) C (dx dX7_gets 14 rfl) rfl ?_
      refine r_aload_n C (dx dX7_gets 15 rfl) rfl ?_
      refine g_X7_74 (x := nI (vN v)) C (dx dX7_gets 16 rfl) p.m.eN ?_
      refine r_iconst (v := nI 1) C (dx dX7_gets 17 rfl) rfl ?_
      refine r_isub C (dx dX7_gets 18 rfl) ?_
      refine r_i2l C (dx dX7_gets 19 rfl) ?_
      refine r_csP (as := [vl (xL h k 26), vl 0, vl (((nI (vN v)) - (nI 1)).toInt64)]) (st := []) (v := vi (b2i (inL (xL h k 26) 0 (((nI (vN v)) - (nI 1)).toInt64)))) C X I_X7_in l_X7_67 (c_X7_in _ _ _) (by decide) (Nat.le_of_ble_eq_true rfl) (pfx_eq p.kk) (Nat.le_of_ble_eq_true rfl) rfl (dx dX7_gets 20 rfl) ?_
      refine rb_ne (b := inL (xL h k 26) 0 (((nI (vN v)) - (nI 1)).toInt64)) (tgt := 47) C (dx dX7_gets 21 rfl) (by decide) (fun c16 => ?_) (fun c16 => ?_)
      ·
        have c16 : (inL (xL h k 26) 0 (((nI (vN v)) - (nI 1)).toInt64)) = true := c16
        obtain ⟨o9, ho9, eo9⟩ := inL_e0 (n := vN v) (by omega) c16
        refine r_aload_n C (dx dX7_gets 25 rfl) rfl ?_
        refine g_X7_147 C (dx dX7_gets 26 rfl) rfl ?_
        refine r_l2i C (dx dX7_gets 27 rfl) ?_
        rw [eo9]
        refine r_istore (ls' := [(0, vr 7 k), (1, vi (nI j)), (2, vi (b2i b)), (3, vr 20 (k + 19)), (4, vi (nI o9))]) C (dx dX7_gets 28 rfl) (by decide) [1, 2, 3, 4, 0] rfl ?_
        refine r_aload_n C (dx dX7_gets 29 rfl) rfl ?_
        refine r_iload_n C (dx dX7_gets 30 rfl) rfl ?_
        refine r_iald (j := j) (x := vF v 1 j) C rfl rfl (by decide) rfl (by omega) (dx dX7_gets 31 rfl) (p.m.e1 (by omega)) ?_
        refine r_iload C (dx dX7_gets 32 rfl) rfl ?_
        refine r_icmp_eq (tgt := 76) C (dx dX7_gets 33 rfl) (by decide) (fun c17 => ?_) (fun c17 => ?_)
        ·
          have c17 : vF v 1 j = nI o9 := c17
          refine r_aload_n C (dx dX7_gets 41 rfl) rfl ?_
          refine r_iload_n C (dx dX7_gets 42 rfl) rfl ?_
          refine r_iload C (dx dX7_gets 43 rfl) rfl ?_
          refine r_iast (j := j) C rfl rfl (by decide) rfl (by omega) (dx dX7_gets 44 rfl) ?_
          obtain ⟨vh18, ph18, zh18⟩ : ∃ v99, Pk h (sI h (k + 19) j (nI o9)) k z a f v99 ∧ Sz v v99 := ⟨vset v 1 j (nI o9), p.c (p.m.s1) (by omega) (by omega), ⟨rfl, rfl, rfl⟩⟩
          generalize sI h (k + 19) j (nI o9) = h18 at ph18 ⊢
          obtain ⟨ah18, bh18, ch18⟩ := zh18
          refine r_aload_n C (dx dX7_gets 45 rfl) rfl ?_
          refine r_cv (as := []) (st := []) C X I_X7_look l_X7_184 (c_X7_look ph18.lk) (by decide) (Nat.le_of_ble_eq_true rfl) List.prefix_rfl (pfx_eq ph18.kk) rfl rfl (Nat.le_of_ble_eq_true rfl) rfl (dx dX7_gets 46 rfl) ?_
          rintro _ h19 ⟨rfl, ah19, fh19, qh19, lh19, uh19⟩ kkh19
          have ph19 := ph18.tr qh19
          have fah19 := ph19.fa
          have azh19 := ph19.az
          refine r_iconst (v := nI 1) C (dx dX7_gets 47 rfl) rfl ?_
          exact F.1 _ _ _ _ .boolean rfl rfl (dx dX7_gets 48 rfl) ph19.kk ⟨true, rfl, _, _, _, ph19, ⟨by omega, by omega, by omega⟩, by omega⟩
        ·
          have c17 : ¬ vF v 1 j = nI o9 := c17
          refine r_aload_n C (dx dX7_gets 34 rfl) rfl ?_
          refine r_iload C (dx dX7_gets 35 rfl) rfl ?_
          refine r_cvW (as := [vi (nI o9)]) (st := []) C X I_X7_hasRoom l_X7_135 (c_X7_hasRoom p.m (j := o9) (by omega)) (by decide) (Nat.le_of_ble_eq_true rfl) (pfx_eq p.kk) rfl rfl (Nat.le_of_ble_eq_true rfl) rfl (dx dX7_gets 36 rfl) ?_
          rintro _ ⟨x20, rfl⟩
          refine rb_ne (b := x20) (tgt := 76) C (dx dX7_gets 37 rfl) (by decide) (fun c21 => ?_) (fun c21 => ?_)
          ·
            have c21 : x20 = true := c21
            refine r_aload_n C (dx dX7_gets 41 rfl) rfl ?_
            refine r_iload_n C (dx dX7_gets 42 rfl) rfl ?_
            refine r_iload C (dx dX7_gets 43 rfl) rfl ?_
            refine r_iast (j := j) C rfl rfl (by decide) rfl (by omega) (dx dX7_gets 44 rfl) ?_
            obtain ⟨vh22, ph22, zh22⟩ : ∃ v99, Pk h (sI h (k + 19) j (nI o9)) k z a f v99 ∧ Sz v v99 := ⟨vset v 1 j (nI o9), p.c (p.m.s1) (by omega) (by omega), ⟨rfl, rfl, rfl⟩⟩
            generalize sI h (k + 19) j (nI o9) = h22 at ph22 ⊢
            obtain ⟨ah22, bh22, ch22⟩ := zh22
            refine r_aload_n C (dx dX7_gets 45 rfl) rfl ?_
            refine r_cv (as := []) (st := []) C X I_X7_look l_X7_184 (c_X7_look ph22.lk) (by decide) (Nat.le_of_ble_eq_true rfl) List.prefix_rfl (pfx_eq ph22.kk) rfl rfl (Nat.le_of_ble_eq_true rfl) rfl (dx dX7_gets 46 rfl) ?_
            rintro _ h23 ⟨rfl, ah23, fh23, qh23, lh23, uh23⟩ kkh23
            have ph23 := ph22.tr qh23
            have fah23 := ph23.fa
            have azh23 := ph23.az
            refine r_iconst (v := nI 1) C (dx dX7_gets 47 rfl) rfl ?_
            exact F.1 _ _ _ _ .boolean rfl rfl (dx dX7_gets 48 rfl) ph23.kk ⟨true, rfl, _, _, _, ph23, ⟨by omega, by omega, by omega⟩, by omega⟩
          ·
            have c21 : x20 = false := c21
            refine r_aload_n C (dx dX7_gets 38 rfl) rfl ?_
            refine r_cv (as := []) (st := []) C X I_X7_wrong l_X7_177 (c_X7_wrong p.slf) (by decide) (Nat.le_of_ble_eq_true rfl) List.prefix_rfl (pfx_eq p.kk) rfl rfl (Nat.le_of_ble_eq_true rfl) rfl (dx dX7_gets 39 rfl) ?_
            rintro _ h24 ⟨_, rfl, rfl, vh24, qh24, zh24⟩ kkh24
            have ph24 := p.tr qh24
            obtain ⟨ah24, bh24, ch24⟩ := zh24
            exact F.1 _ _ _ _ .boolean rfl (nar_b _) (dx dX7_gets 40 rfl) ph24.kk ⟨false, rfl, _, _, _, ph24, ⟨by omega, by omega, by omega⟩, by omega⟩
      ·
        have c16 : (inL (xL h k 26) 0 (((nI (vN v)) - (nI 1)).toInt64)) = false := c16
        refine r_aload_n C (dx dX7_gets 22 rfl) rfl ?_
        refine r_cv (as := []) (st := []) C X I_X7_wrong l_X7_177 (c_X7_wrong p.slf) (by decide) (Nat.le_of_ble_eq_true rfl) List.prefix_rfl (pfx_eq p.kk) rfl rfl (Nat.le_of_ble_eq_true rfl) rfl (dx dX7_gets 23 rfl) ?_
        rintro _ h25 ⟨_, rfl, rfl, vh25, qh25, zh25⟩ kkh25
        have ph25 := p.tr qh25
        obtain ⟨ah25, bh25, ch25⟩ := zh25
        exact F.1 _ _ _ _ .boolean rfl (nar_b _) (dx dX7_gets 24 rfl) ph25.kk ⟨false, rfl, _, _, _, ph25, ⟨by omega, by omega, by omega⟩, by omega⟩
set_option maxHeartbeats 4000000 in
theorem c_part_p {l : Launch} {h : Hp} {k z a f : Nat} {v : Vg} (p : Pk h h k z a f v) (h12 : vP v < 12) : Ms l yX7_part cX7_part 1 (some .int) 2 [vr 7 k] h (xK h) (fun r h' => r = some (vi (nI (vP v))) ∧ ∃ v9, Pk h h' k z a f v9 ∧ vP v9 = vP v + 1 ∧ vM v9 = vM v ∧ vN v9 = vN v) := by
  refine Ms.of (by decide) (Nat.le_of_ble_eq_true rfl) (fun G C X F => ?_)
  have C : Cx G cX7_part 1 RX7 := C
  show Rr G 0 [(0, vr 7 k)] [] h
  have fa := p.fa
  have az := p.az
  have bz := p.bz
  have bP := p.m.bP
  have bM := p.m.bM
  have bN := p.m.bN
  refine r_aload_n C (dx dX7_part 0 rfl) rfl ?_
  refine g_X7_64 (x := nI (vP v)) C (dx dX7_part 1 rfl) p.m.eP ?_
  refine r_bipush (v := nI 12) C (dx dX7_part 2 rfl) rfl ?_
  refine rn_ne (a := vP v) (b := 12) (tgt := 16) C (by omega) (by omega) (dx dX7_part 3 rfl) (by decide) (fun c1 => ?_) (fun c1 => ?_)
  · first
    | (omega; done)
    | (
        have c1 : ¬ vP v = 12 := c1
        refine r_aload_n C (dx dX7_part 8 rfl) rfl ?_
        refine g_X7_40 C (dx dX7_part 9 rfl) ?_
        refine r_aload_n C (dx dX7_part 10 rfl) rfl ?_
        refine g_X7_64 (x := nI (vP v)) C (dx dX7_part 11 rfl) p.m.eP ?_
        refine r_iconst (v := -1) C (dx dX7_part 12 rfl) rfl ?_
        refine r_iast (j := vP v) C rfl rfl (by decide) rfl (by omega) (dx dX7_part 13 rfl) ?_
        obtain ⟨vh2, ph2, zh2⟩ : ∃ v99, Pk h (sI h (k + 18) (vP v) (-1)) k z a f v99 ∧ Sz v v99 := ⟨vset v 0 (vP v) (-1), p.c (p.m.s0) (by omega) (by omega), ⟨rfl, rfl, rfl⟩⟩
        generalize sI h (k + 18) (vP v) (-1) = h2 at ph2 ⊢
        obtain ⟨ah2, bh2, ch2⟩ := zh2
        refine r_aload_n C (dx dX7_part 14 rfl) rfl ?_
        refine g_X7_43 C (dx dX7_part 15 rfl) ?_
        refine r_aload_n C (dx dX7_part 16 rfl) rfl ?_
        refine g_X7_64 (x := nI (vP vh2)) C (dx dX7_part 17 rfl) ph2.m.eP ?_
        refine r_iconst (v := -1) C (dx dX7_part 18 rfl) rfl ?_
        refine r_iast (j := vP vh2) C rfl rfl (by decide) rfl (by omega) (dx dX7_part 19 rfl) ?_
        obtain ⟨vh3, ph3, zh3⟩ : ∃ v99, Pk h (sI h2 (k + 19) (vP vh2) (-1)) k z a f v99 ∧ Sz vh2 v99 := ⟨vset vh2 1 (vP vh2) (-1), ph2.c (ph2.m.s1) (by omega) (by omega), ⟨rfl, rfl, rfl⟩⟩
        generalize sI h2 (k + 19) (vP vh2) (-1) = h3 at ph3 ⊢
        obtain ⟨ah3, bh3, ch3⟩ := zh3
        refine r_aload_n C (dx dX7_part 20 rfl) rfl ?_
        refine r_dupR C (dx dX7_part 21 rfl) ?_
        refine g_X7_64 (x := nI (vP vh3)) C (dx dX7_part 22 rfl) ph3.m.eP ?_
        refine r_dup_x1 C (dx dX7_part 23 rfl) ?_
        refine r_iconst (v := nI 1) C (dx dX7_part 24 rfl) rfl ?_
        refine rn_iadd (a := vP vh3) (b := 1) C (dx dX7_part 25 rfl) ?_
        refine p_X7_64 C (dx dX7_part 26 rfl) rfl rfl ?_
        have ph4 : Pk h (sI h3 k 10 (nI (vP vh3 + 1))) k z a f (vsP vh3 (vP vh3 + 1)) := ph3.fd (ph3.m.sP (n := vP vh3 + 1) (by omega)) (by decide) (by decide) (by decide) (by decide)
        generalize sI h3 k 10 (nI (vP vh3 + 1)) = h4 at ph4 ⊢
        have ah4 : vP (vsP vh3 (vP vh3 + 1)) = vP vh3 + 1 := rfl
        have bh4 : vM (vsP vh3 (vP vh3 + 1)) = vM vh3 := rfl
        have ch4 : vN (vsP vh3 (vP vh3 + 1)) = vN vh3 := rfl
        exact F.1 _ _ _ _ .int rfl rfl (dx dX7_part 27 rfl) ph4.kk ⟨congrArg (fun q => some (vi (nI q))) (show vP vh3 = vP v by omega), _, ph4, by omega, by omega, by omega⟩)
  · first
    | (omega; done)
    | (
        have c1 : vP v = 12 := c1
        refine r_aload_n C (dx dX7_part 4 rfl) rfl ?_
        refine r_bipush (v := -6) C (dx dX7_part 5 rfl) rfl ?_
        refine r_cv (as := [vi (-6)]) (st := []) C X I_X7_refuse l_X7_83 (c_X7_refuse p.m (x := -6) (j := 6) (by decide) (by decide)) (by decide) (Nat.le_of_ble_eq_true rfl) List.prefix_rfl (pfx_eq p.kk) rfl rfl (Nat.le_of_ble_eq_true rfl) rfl (dx dX7_part 6 rfl) ?_
        rintro _ h5 ⟨rfl, ⟨wh5, m9h5, s9h5⟩, qh5⟩ kkh5
        obtain ⟨vh5, mh5, zh5⟩ : ∃ v9, MilAt h5 k v9 ∧ Sz v v9 := ⟨_, m9h5, s9h5⟩
        have ph5 : Kp k h h5 := qh5
        have kh5 : xK h5 = xK h := (kkh5).trans p.kk
        obtain ⟨ah5, bh5, ch5⟩ := zh5
        exact F.1 _ _ _ _ .int rfl rfl (dx dX7_part 7 rfl) p.kk ⟨congrArg (fun q => some (vi (nI q))) (show None = vP v by omega), _, p, by omega, by omega, by omega⟩)
set_option maxHeartbeats 4000000 in
theorem c_newOne_p {l : Launch} {h : Hp} {k z a f : Nat} {v : Vg} (p : Pk h h k z a f v) (h8 : vN v < 8) : Ms l yX7_newOne cX7_newOne 2 none 1 [vr 7 k] h (xK h) (fun r h' => r = none ∧ ∃ v9, Pk h h' k z a f v9 ∧ Sz v v9) := by
  refine Ms.of (by decide) (Nat.le_of_ble_eq_true rfl) (fun G C X F => ?_)
  have C : Cx G cX7_newOne 2 RX7 := C
  show Rr G 0 [(0, vr 7 k)] [] h
  have fa := p.fa
  have az := p.az
  have bz := p.bz
  have bP := p.m.bP
  have bM := p.m.bM
  have bN := p.m.bN
  refine r_iconst (v := nI 0) C (dx dX7_newOne 0 rfl) rfl ?_
  refine r_istore_n (ls' := [(0, vr 7 k), (1, vi (nI 0))]) C (dx dX7_newOne 1 rfl) (by decide) [1, 0] rfl ?_
  refine loopU (Φ := fun q => ∀ h9 v9, Pk h h9 k z a f v9 → Sz v v9 → Rr G 2 [(0, vr 7 k), (1, vi (nI q))] [] h9) (N := 4) ?_ ?_ 0 (by omega) h v p ⟨rfl, rfl, rfl⟩
  ·
    intro h9 v9 p9 z9
    obtain ⟨a9, b9, c9⟩ := z9
    refine r_iload_n C (dx dX7_newOne 2 rfl) rfl ?_
    refine r_iconst (v := nI 4) C (dx dX7_newOne 3 rfl) rfl ?_
    refine rn_ge (a := 4) (b := 4) (tgt := 25) C (by omega) (by omega) (dx dX7_newOne 4 rfl) (by decide) (fun c1 => ?_) (fun c1 => ?_)
    · first
      | (omega; done)
      | (
          have c1 : 4 ≤ 4 := c1
          exact F.2.2.1 _ _ _ rfl (dx dX7_newOne 15 rfl) p9.kk ⟨rfl, _, p9, ⟨by omega, by omega, by omega⟩⟩)
    · first
      | (omega; done)
  ·
    intro q hq ih h9 v9 p9 z9
    obtain ⟨a9, b9, c9⟩ := z9
    refine r_iload_n C (dx dX7_newOne 2 rfl) rfl ?_
    refine r_iconst (v := nI 4) C (dx dX7_newOne 3 rfl) rfl ?_
    refine rn_ge (a := q) (b := 4) (tgt := 25) C (by omega) (by omega) (dx dX7_newOne 4 rfl) (by decide) (fun c3 => ?_) (fun c3 => ?_)
    · first
      | (omega; done)
      | (
          have c3 : 4 ≤ q := c3
          exact F.2.2.1 _ _ _ rfl (dx dX7_newOne 15 rfl) p9.kk ⟨rfl, _, p9, ⟨by omega, by omega, by omega⟩⟩)
    · first
      | (omega; done)
      | (
          have c3 : q < 4 := c3
          refine r_aload_n C (dx dX7_newOne 5 rfl) rfl ?_
          refine g_X7_54 C (dx dX7_newOne 6 rfl) ?_
          refine r_aload_n C (dx dX7_newOne 7 rfl) rfl ?_
          refine g_X7_74 (x := nI (vN v9)) C (dx dX7_newOne 8 rfl) p9.m.eN ?_
          refine r_aald4 (j := vN v9) C rfl rfl (by decide) rfl (by omega) (dx dX7_newOne 9 rfl) ?_
          refine r_iload_n C (dx dX7_newOne 10 rfl) rfl ?_
          refine r_iconst (v := nI 0) C (dx dX7_newOne 11 rfl) rfl ?_
          refine r_iast (j := q) C rfl rfl (by decide) rfl (by omega) (dx dX7_newOne 12 rfl) ?_
          obtain ⟨vh4, ph4, zh4⟩ : ∃ v99, Pk h (sI h9 (k + 23 + (vN v9)) q (nI 0)) k z a f v99 ∧ Sz v9 v99 := ⟨vset v9 (4 + q) (vN v9) (nI 0), p9.c (p9.m.so (by omega) (by omega)) (by omega) (by omega), ⟨rfl, rfl, rfl⟩⟩
          generalize sI h9 (k + 23 + (vN v9)) q (nI 0) = h4 at ph4 ⊢
          obtain ⟨ah4, bh4, ch4⟩ := zh4
          refine rn_iinc (a := q) (k := 1) (ls' := [(0, vr 7 k), (1, vi (nI (q + 1)))]) C (dx dX7_newOne 13 rfl) rfl rfl (by decide) [1, 0] rfl ?_
          refine r_goto (tgt := 2) C (dx dX7_newOne 14 rfl) (by decide) ?_
          exact ih h4 vh4 ph4 ⟨by omega, by omega, by omega⟩)
set_option maxHeartbeats 4000000 in
theorem c_X7_partTold {l : Launch} {h : Hp} {k z a f : Nat} {v : Vg} (p : Pk h h k z a f v) (h12 : vP v < 12) : Ms l yX7_partTold cX7_partTold 2 (some .boolean) 7 [vr 7 k] h (xK h) (fun r h' => ∃ b, r = some (vi (b2i b)) ∧ (∃ a' f' v', Pk h h' k z a' f' v' ∧ a ≤ a')) := by
  refine Ms.of (by decide) (Nat.le_of_ble_eq_true rfl) (fun G C X F => ?_)
  have C : Cx G cX7_partTold 2 RX7 := C
  show Rr G 0 [(0, vr 7 k)] [] h
  have fa := p.fa
  have az := p.az
  have bz := p.bz
  have bP := p.m.bP
  have bM := p.m.bM
  have bN := p.m.bN
  refine r_aload_n C (dx dX7_partTold 0 rfl) rfl ?_
  refine r_cv (as := []) (st := []) C X I_X7_look l_X7_184 (c_X7_look p.lk) (by decide) (Nat.le_of_ble_eq_true rfl) List.prefix_rfl (pfx_eq p.kk) rfl rfl (Nat.le_of_ble_eq_true rfl) rfl (dx dX7_partTold 1 rfl) ?_
  rintro _ h1 ⟨rfl, ah1, fh1, qh1, lh1, uh1⟩ kkh1
  have ph1 := p.tr qh1
  have fah1 := ph1.fa
  have azh1 := ph1.az
  refine r_aload_n C (dx dX7_partTold 2 rfl) rfl ?_
  refine r_cv (as := []) (st := []) C X I_X7_part l_X7_194 (c_part_p ph1.slf (by omega)) (by decide) (Nat.le_of_ble_eq_true rfl) List.prefix_rfl (pfx_eq ph1.kk) rfl rfl (Nat.le_of_ble_eq_true rfl) rfl (dx dX7_partTold 3 rfl) ?_
  rintro _ h2 ⟨rfl, vh2, qh2, aah2, abh2, ach2⟩ kkh2
  have ph2 := ph1.tr qh2
  refine r_istore_n (ls' := [(0, vr 7 k), (1, vi (nI (vP v)))]) C (dx dX7_partTold 4 rfl) (by decide) [1, 0] rfl ?_
  refine r_aload_n C (dx dX7_partTold 5 rfl) rfl ?_
  refine r_ldcS C 11 rfl (dx dX7_partTold 6 rfl) ?_
  refine r_cvW (as := [vt 1001]) (st := []) C X I_X7_isWord l_X7_187 (c_X7_isWord ph2.slf (i := 1) (by decide)) (by decide) (Nat.le_of_ble_eq_true rfl) (pfx_eq ph2.kk) rfl rfl (Nat.le_of_ble_eq_true rfl) rfl (dx dX7_partTold 7 rfl) ?_
  rintro _ ⟨x3, hx3, rfl⟩
  refine rb_eq (b := x3) (tgt := 33) C (dx dX7_partTold 8 rfl) (by decide) (fun c4 => ?_) (fun c4 => ?_)
  ·
    have c4 : x3 = false := c4
    refine r_aload_n C (dx dX7_partTold 18 rfl) rfl ?_
    refine r_ldcS C 12 rfl (dx dX7_partTold 19 rfl) ?_
    refine r_cvW (as := [vt 1002]) (st := []) C X I_X7_isWord l_X7_187 (c_X7_isWord ph2.slf (i := 2) (by decide)) (by decide) (Nat.le_of_ble_eq_true rfl) (pfx_eq ph2.kk) rfl rfl (Nat.le_of_ble_eq_true rfl) rfl (dx dX7_partTold 20 rfl) ?_
    rintro _ ⟨x5, hx5, rfl⟩
    refine rb_eq (b := x5) (tgt := 53) C (dx dX7_partTold 21 rfl) (by decide) (fun c6 => ?_) (fun c6 => ?_)
    ·
      have c6 : x5 = false := c6
      refine r_iconst (v := nI 1) C (dx dX7_partTold 29 rfl) rfl ?_
      exact F.1 _ _ _ _ .boolean rfl rfl (dx dX7_partTold 30 rfl) ph2.kk ⟨true, rfl, _, _, _, ph2, by omega⟩
    ·
      have c6 : x5 = true := c6
      have ltc6 := ph2.lt (hx5 c6) (by decide)
      refine r_aload_n C (dx dX7_partTold 22 rfl) rfl ?_
      refine r_cv (as := []) (st := []) C X I_X7_look l_X7_184 (c_X7_look ph2.lk) (by decide) (Nat.le_of_ble_eq_true rfl) List.prefix_rfl (pfx_eq ph2.kk) rfl rfl (Nat.le_of_ble_eq_true rfl) rfl (dx dX7_partTold 23 rfl) ?_
      rintro _ h7 ⟨rfl, ah7, fh7, qh7, lh7, uh7⟩ kkh7
      have ph7 := ph2.tr qh7
      have fah7 := ph7.fa
      have azh7 := ph7.az
      refine r_aload_n C (dx dX7_partTold 24 rfl) rfl ?_
      refine r_iload_n C (dx dX7_partTold 25 rfl) rfl ?_
      refine r_iconst (v := nI 1) C (dx dX7_partTold 26 rfl) rfl ?_
      refine r_cv (as := [vi (nI (vP v)), vi (nI 1)]) (st := []) C X I_X7_gets l_X7_199 (c_X7_gets ph7.slf (j := vP v) (by omega) true) (by decide) (Nat.le_of_ble_eq_true rfl) List.prefix_rfl (pfx_eq ph7.kk) rfl rfl (Nat.le_of_ble_eq_true rfl) rfl (dx dX7_partTold 27 rfl) ?_
      rintro _ h8 ⟨xh8, rfl, vh8, ah8, fh8, qh8, zh8, lh8⟩ kkh8
      have ph8 := ph7.tr qh8
      have fah8 := ph8.fa
      have azh8 := ph8.az
      obtain ⟨aah8, abh8, ach8⟩ := zh8
      exact F.1 _ _ _ _ .boolean rfl (nar_b _) (dx dX7_partTold 28 rfl) ph8.kk ⟨xh8, rfl, _, _, _, ph8, by omega⟩
  ·
    have c4 : x3 = true := c4
    have ltc4 := ph2.lt (hx3 c4) (by decide)
    refine r_aload_n C (dx dX7_partTold 9 rfl) rfl ?_
    refine r_cv (as := []) (st := []) C X I_X7_look l_X7_184 (c_X7_look ph2.lk) (by decide) (Nat.le_of_ble_eq_true rfl) List.prefix_rfl (pfx_eq ph2.kk) rfl rfl (Nat.le_of_ble_eq_true rfl) rfl (dx dX7_partTold 10 rfl) ?_
    rintro _ h9 ⟨rfl, ah9, fh9, qh9, lh9, uh9⟩ kkh9
    have ph9 := ph2.tr qh9
    have fah9 := ph9.fa
    have azh9 := ph9.az
    refine r_aload_n C (dx dX7_partTold 11 rfl) rfl ?_
    refine r_iload_n C (dx dX7_partTold 12 rfl) rfl ?_
    refine r_iconst (v := nI 0) C (dx dX7_partTold 13 rfl) rfl ?_
    refine r_cv (as := [vi (nI (vP v)), vi (nI 0)]) (st := []) C X I_X7_gets l_X7_199 (c_X7_gets ph9.slf (j := vP v) (by omega) false) (by decide) (Nat.le_of_ble_eq_true rfl) List.prefix_rfl (pfx_eq ph9.kk) rfl rfl (Nat.le_of_ble_eq_true rfl) rfl (dx dX7_partTold 14 rfl) ?_
    rintro _ h10 ⟨xh10, rfl, vh10, ah10, fh10, qh10, zh10, lh10⟩ kkh10
    have ph10 := ph9.tr qh10
    have fah10 := ph10.fa
    have azh10 := ph10.az
    obtain ⟨aah10, abh10, ach10⟩ := zh10
    refine rb_ne (b := xh10) (tgt := 33) C (dx dX7_partTold 15 rfl) (by decide) (fun c11 => ?_) (fun c11 => ?_)
    ·
      have c11 : xh10 = true := c11
      refine r_aload_n C (dx dX7_partTold 18 rfl) rfl ?_
      refine r_ldcS C 12 rfl (dx dX7_partTold 19 rfl) ?_
      refine r_cvW (as := [vt 1002]) (st := []) C X I_X7_isWord l_X7_187 (c_X7_isWord ph10.slf (i := 2) (by decide)) (by decide) (Nat.le_of_ble_eq_true rfl) (pfx_eq ph10.kk) rfl rfl (Nat.le_of_ble_eq_true rfl) rfl (dx dX7_partTold 20 rfl) ?_
      rintro _ ⟨x12, hx12, rfl⟩
      refine rb_eq (b := x12) (tgt := 53) C (dx dX7_partTold 21 rfl) (by decide) (fun c13 => ?_) (fun c13 => ?_)
      ·
        have c13 : x12 = false := c13
        refine r_iconst (v := nI 1) C (dx dX7_partTold 29 rfl) rfl ?_
        exact F.1 _ _ _ _ .boolean rfl rfl (dx dX7_partTold 30 rfl) ph10.kk ⟨true, rfl, _, _, _, ph10, by omega⟩
      ·
        have c13 : x12 = true := c13
        have ltc13 := ph10.lt (hx12 c13) (by decide)
        refine r_aload_n C (dx dX7_partTold 22 rfl) rfl ?_
        refine r_cv (as := []) (st := []) C X I_X7_look l_X7_184 (c_X7_look ph10.lk) (by decide) (Nat.le_of_ble_eq_true rfl) List.prefix_rfl (pfx_eq ph10.kk) rfl rfl (Nat.le_of_ble_eq_true rfl) rfl (dx dX7_partTold 23 rfl) ?_
        rintro _ h14 ⟨rfl, ah14, fh14, qh14, lh14, uh14⟩ kkh14
        have ph14 := ph10.tr qh14
        have fah14 := ph14.fa
        have azh14 := ph14.az
        refine r_aload_n C (dx dX7_partTold 24 rfl) rfl ?_
        refine r_iload_n C (dx dX7_partTold 25 rfl) rfl ?_
        refine r_iconst (v := nI 1) C (dx dX7_partTold 26 rfl) rfl ?_
        refine r_cv (as := [vi (nI (vP v)), vi (nI 1)]) (st := []) C X I_X7_gets l_X7_199 (c_X7_gets ph14.slf (j := vP v) (by omega) true) (by decide) (Nat.le_of_ble_eq_true rfl) List.prefix_rfl (pfx_eq ph14.kk) rfl rfl (Nat.le_of_ble_eq_true rfl) rfl (dx dX7_partTold 27 rfl) ?_
        rintro _ h15 ⟨xh15, rfl, vh15, ah15, fh15, qh15, zh15, lh15⟩ kkh15
        have ph15 := ph14.tr qh15
        have fah15 := ph15.fa
        have azh15 := ph15.az
        obtain ⟨aah15, abh15, ach15⟩ := zh15
        exact F.1 _ _ _ _ .boolean rfl (nar_b _) (dx dX7_partTold 28 rfl) ph15.kk ⟨xh15, rfl, _, _, _, ph15, by omega⟩
    ·
      have c11 : xh10 = false := c11
      refine r_iconst (v := nI 0) C (dx dX7_partTold 16 rfl) rfl ?_
      exact F.1 _ _ _ _ .boolean rfl rfl (dx dX7_partTold 17 rfl) ph10.kk ⟨false, rfl, _, _, _, ph10, by omega⟩
set_option maxHeartbeats 4000000 in
theorem c_X7_machineTold {l : Launch} {h : Hp} {k z a f : Nat} {v : Vg} (p : Pk h h k z a f v) (h6 : vM v < 6) : Ms l yX7_machineTold cX7_machineTold 2 (some .boolean) 7 [vr 7 k] h (xK h) (fun r h' => ∃ b, r = some (vi (b2i b)) ∧ (∃ a' f' v', Pk h h' k z a' f' v' ∧ a ≤ a')) := by
  refine Ms.of (by decide) (Nat.le_of_ble_eq_true rfl) (fun G C X F => ?_)
  have C : Cx G cX7_machineTold 2 RX7 := C
  show Rr G 0 [(0, vr 7 k)] [] h
  have fa := p.fa
  have az := p.az
  have bz := p.bz
  have bP := p.m.bP
  have bM := p.m.bM
  have bN := p.m.bN
  refine r_aload_n C (dx dX7_machineTold 0 rfl) rfl ?_
  refine r_ldcS C 13 rfl (dx dX7_machineTold 1 rfl) ?_
  refine r_iconst (v := nI 1) C (dx dX7_machineTold 2 rfl) rfl ?_
  refine r_bipush (v := nI 99) C (dx dX7_machineTold 3 rfl) rfl ?_
  refine r_cv (as := [vt 1003, vi (nI 1), vi (nI 99)]) (st := []) C X I_X7_tells l_X7_206 (c_X7_tells p.slf (i := 3) (by decide) _ _) (by decide) (Nat.le_of_ble_eq_true rfl) List.prefix_rfl (pfx_eq p.kk) rfl rfl (Nat.le_of_ble_eq_true rfl) rfl (dx dX7_machineTold 4 rfl) ?_
  rintro _ h1 ⟨xh1, rfl, vh1, ah1, fh1, qh1, zh1, lh1, gh1⟩ kkh1
  have ph1 := p.tr qh1
  have fah1 := ph1.fa
  have azh1 := ph1.az
  obtain ⟨aah1, abh1, ach1⟩ := zh1
  refine rb_ne (b := xh1) (tgt := 14) C (dx dX7_machineTold 5 rfl) (by decide) (fun c2 => ?_) (fun c2 => ?_)
  ·
    have c2 : xh1 = true := c2
    obtain ⟨lth1, lsh1, th1, eh1, ih1⟩ := gh1 c2
    refine r_aload_n C (dx dX7_machineTold 8 rfl) rfl ?_
    refine g_X7_49 C (dx dX7_machineTold 9 rfl) ?_
    refine r_aload_n C (dx dX7_machineTold 10 rfl) rfl ?_
    refine g_X7_71 (x := nI (vM vh1)) C (dx dX7_machineTold 11 rfl) ph1.m.eM ?_
    refine r_aload_n C (dx dX7_machineTold 12 rfl) rfl ?_
    refine g_X7_181 (x := xI h1 k 28) C (dx dX7_machineTold 13 rfl) rfl ?_
    refine r_iast (j := vM vh1) C rfl rfl (by decide) rfl (by omega) (dx dX7_machineTold 14 rfl) ?_
    obtain ⟨vh3, ph3, zh3⟩ : ∃ v99, Pk h (sI h1 (k + 21) (vM vh1) (xI h1 k 28)) k z ah1 fh1 v99 ∧ Sz vh1 v99 := ⟨vset vh1 3 (vM vh1) (xI h1 k 28), ph1.c (ph1.m.s3) (by omega) (by omega), ⟨rfl, rfl, rfl⟩⟩
    generalize sI h1 (k + 21) (vM vh1) (xI h1 k 28) = h3 at ph3 ⊢
    obtain ⟨ah3, bh3, ch3⟩ := zh3
    refine r_aload_n C (dx dX7_machineTold 15 rfl) rfl ?_
    refine r_ldcS C 14 rfl (dx dX7_machineTold 16 rfl) ?_
    refine r_iconst (v := nI 0) C (dx dX7_machineTold 17 rfl) rfl ?_
    refine r_aload_n C (dx dX7_machineTold 18 rfl) rfl ?_
    refine g_X7_64 (x := nI (vP vh3)) C (dx dX7_machineTold 19 rfl) ph3.m.eP ?_
    refine r_iconst (v := nI 1) C (dx dX7_machineTold 20 rfl) rfl ?_
    refine r_isub C (dx dX7_machineTold 21 rfl) ?_
    refine r_cv (as := [vt 1004, vi (nI 0), vi ((nI (vP vh3)) - (nI 1))]) (st := []) C X I_X7_tells l_X7_206 (c_X7_tells ph3.slf (i := 4) (by decide) _ _) (by decide) (Nat.le_of_ble_eq_true rfl) List.prefix_rfl (pfx_eq ph3.kk) rfl rfl (Nat.le_of_ble_eq_true rfl) rfl (dx dX7_machineTold 22 rfl) ?_
    rintro _ h4 ⟨xh4, rfl, vh4, ah4, fh4, qh4, zh4, lh4, gh4⟩ kkh4
    have ph4 := ph3.tr qh4
    have fah4 := ph4.fa
    have azh4 := ph4.az
    obtain ⟨aah4, abh4, ach4⟩ := zh4
    refine rb_ne (b := xh4) (tgt := 45) C (dx dX7_machineTold 23 rfl) (by decide) (fun c5 => ?_) (fun c5 => ?_)
    ·
      have c5 : xh4 = true := c5
      obtain ⟨lth4, lsh4, th4, eh4, ih4⟩ := gh4 c5
      refine r_iconst (v := nI 1) C (dx dX7_machineTold 26 rfl) rfl ?_
      refine r_aload_n C (dx dX7_machineTold 27 rfl) rfl ?_
      refine g_X7_181 (x := xI h4 k 28) C (dx dX7_machineTold 28 rfl) rfl ?_
      refine r_ishl C (dx dX7_machineTold 29 rfl) ?_
      refine r_istore_n (ls' := [(0, vr 7 k), (1, vi ((nI 1) <<< ((xI h4 k 28) &&& 31)))]) C (dx dX7_machineTold 30 rfl) (by decide) [1, 0] rfl ?_
      have key : ∀ (n a9 f9 : Nat) (h9 : Hp) (v9 : Vg) (y9 : Int32), z - a9 = n → Pk h h9 k z a9 f9 v9 → Sz v v9 → a ≤ a9 → Rr G 52 [(0, vr 7 k), (1, vi y9)] [] h9 := by
        intro n
        induction n using Nat.strongRecOn with | ind n ih => _
        intro a9 f9 h9 v9 y9 en p9 z9 lo9
        obtain ⟨aa9, ab9, ac9⟩ := z9
        have az9 := p9.az
        have fa9 := p9.fa
        refine r_aload_n C (dx dX7_machineTold 31 rfl) rfl ?_
        refine r_ldcS C 15 rfl (dx dX7_machineTold 32 rfl) ?_
        refine r_cvW (as := [vt 1005]) (st := []) C X I_X7_isWord l_X7_187 (c_X7_isWord p9.slf (i := 5) (by decide)) (by decide) (Nat.le_of_ble_eq_true rfl) (pfx_eq p9.kk) rfl rfl (Nat.le_of_ble_eq_true rfl) rfl (dx dX7_machineTold 33 rfl) ?_
        rintro _ ⟨x6, hx6, rfl⟩
        refine rb_eq (b := x6) (tgt := 91) C (dx dX7_machineTold 34 rfl) (by decide) (fun c7 => ?_) (fun c7 => ?_)
        ·
          have c7 : x6 = false := c7
          refine r_aload_n C (dx dX7_machineTold 54 rfl) rfl ?_
          refine g_X7_46 C (dx dX7_machineTold 55 rfl) ?_
          refine r_aload_n C (dx dX7_machineTold 56 rfl) rfl ?_
          refine r_dupR C (dx dX7_machineTold 57 rfl) ?_
          refine g_X7_71 (x := nI (vM v9)) C (dx dX7_machineTold 58 rfl) p9.m.eM ?_
          refine r_dup_x1 C (dx dX7_machineTold 59 rfl) ?_
          refine r_iconst (v := nI 1) C (dx dX7_machineTold 60 rfl) rfl ?_
          refine rn_iadd (a := vM v9) (b := 1) C (dx dX7_machineTold 61 rfl) ?_
          refine p_X7_71 C (dx dX7_machineTold 62 rfl) rfl rfl ?_
          have ph8 : Pk h (sI h9 k 13 (nI (vM v9 + 1))) k z a9 f9 (vsM v9 (vM v9 + 1)) := p9.fd (p9.m.sM (n := vM v9 + 1) (by omega)) (by decide) (by decide) (by decide) (by decide)
          generalize sI h9 k 13 (nI (vM v9 + 1)) = h8 at ph8 ⊢
          have ah8 : vP (vsM v9 (vM v9 + 1)) = vP v9 := rfl
          have bh8 : vM (vsM v9 (vM v9 + 1)) = vM v9 + 1 := rfl
          have ch8 : vN (vsM v9 (vM v9 + 1)) = vN v9 := rfl
          refine r_iload_n C (dx dX7_machineTold 63 rfl) rfl ?_
          refine r_iast (j := vM v9) C rfl rfl (by decide) rfl (by omega) (dx dX7_machineTold 64 rfl) ?_
          obtain ⟨vh9, ph9, zh9⟩ : ∃ v99, Pk h (sI h8 (k + 20) (vM v9) y9) k z a9 f9 v99 ∧ Sz (vsM v9 (vM v9 + 1)) v99 := ⟨vset (vsM v9 (vM v9 + 1)) 2 (vM v9) y9, ph8.c (ph8.m.s2) (by omega) (by omega), ⟨rfl, rfl, rfl⟩⟩
          generalize sI h8 (k + 20) (vM v9) y9 = h9 at ph9 ⊢
          obtain ⟨ah9, bh9, ch9⟩ := zh9
          refine r_iconst (v := nI 1) C (dx dX7_machineTold 65 rfl) rfl ?_
          exact F.1 _ _ _ _ .boolean rfl rfl (dx dX7_machineTold 66 rfl) ph9.kk ⟨true, rfl, _, _, _, ph9, by omega⟩
        ·
          have c7 : x6 = true := c7
          have ltc7 := p9.lt (hx6 c7) (by decide)
          refine r_aload_n C (dx dX7_machineTold 35 rfl) rfl ?_
          refine r_ldcS C 15 rfl (dx dX7_machineTold 36 rfl) ?_
          refine r_iconst (v := nI 0) C (dx dX7_machineTold 37 rfl) rfl ?_
          refine r_aload_n C (dx dX7_machineTold 38 rfl) rfl ?_
          refine g_X7_64 (x := nI (vP v9)) C (dx dX7_machineTold 39 rfl) p9.m.eP ?_
          refine r_iconst (v := nI 1) C (dx dX7_machineTold 40 rfl) rfl ?_
          refine r_isub C (dx dX7_machineTold 41 rfl) ?_
          refine r_cv (as := [vt 1005, vi (nI 0), vi ((nI (vP v9)) - (nI 1))]) (st := []) C X I_X7_tells l_X7_206 (c_X7_tells p9.slf (i := 5) (by decide) _ _) (by decide) (Nat.le_of_ble_eq_true rfl) List.prefix_rfl (pfx_eq p9.kk) rfl rfl (Nat.le_of_ble_eq_true rfl) rfl (dx dX7_machineTold 42 rfl) ?_
          rintro _ h10 ⟨xh10, rfl, vh10, ah10, fh10, qh10, zh10, lh10, gh10⟩ kkh10
          have ph10 := p9.tr qh10
          have fah10 := ph10.fa
          have azh10 := ph10.az
          obtain ⟨aah10, abh10, ach10⟩ := zh10
          refine rb_ne (b := xh10) (tgt := 79) C (dx dX7_machineTold 43 rfl) (by decide) (fun c11 => ?_) (fun c11 => ?_)
          ·
            have c11 : xh10 = true := c11
            obtain ⟨lth10, lsh10, th10, eh10, ih10⟩ := gh10 c11
            refine r_iload_n C (dx dX7_machineTold 46 rfl) rfl ?_
            refine r_iconst (v := nI 1) C (dx dX7_machineTold 47 rfl) rfl ?_
            refine r_aload_n C (dx dX7_machineTold 48 rfl) rfl ?_
            refine g_X7_181 (x := xI h10 k 28) C (dx dX7_machineTold 49 rfl) rfl ?_
            refine r_ishl C (dx dX7_machineTold 50 rfl) ?_
            refine r_ior C (dx dX7_machineTold 51 rfl) ?_
            refine r_istore_n (ls' := [(0, vr 7 k), (1, vi (y9 ||| ((nI 1) <<< ((xI h10 k 28) &&& 31))))]) C (dx dX7_machineTold 52 rfl) (by decide) [1, 0] rfl ?_
            refine r_goto (tgt := 52) C (dx dX7_machineTold 53 rfl) (by decide) ?_
            exact ih _ (by omega) _ _ _ _ _ rfl ph10 ⟨by omega, by omega, by omega⟩ (by omega)
          ·
            have c11 : xh10 = false := c11
            refine r_iconst (v := nI 0) C (dx dX7_machineTold 44 rfl) rfl ?_
            exact F.1 _ _ _ _ .boolean rfl rfl (dx dX7_machineTold 45 rfl) ph10.kk ⟨false, rfl, _, _, _, ph10, by omega⟩
      exact key _ _ _ _ _ _ rfl ph4 ⟨by omega, by omega, by omega⟩ (by omega)
    ·
      have c5 : xh4 = false := c5
      refine r_iconst (v := nI 0) C (dx dX7_machineTold 24 rfl) rfl ?_
      exact F.1 _ _ _ _ .boolean rfl rfl (dx dX7_machineTold 25 rfl) ph4.kk ⟨false, rfl, _, _, _, ph4, by omega⟩
  ·
    have c2 : xh1 = false := c2
    refine r_iconst (v := nI 0) C (dx dX7_machineTold 6 rfl) rfl ?_
    exact F.1 _ _ _ _ .boolean rfl rfl (dx dX7_machineTold 7 rfl) ph1.kk ⟨false, rfl, _, _, _, ph1, by omega⟩
set_option maxHeartbeats 4000000 in
theorem c_X7_statement {l : Launch} {h : Hp} {k z a f : Nat} {v : Vg} (p : Pk h h k z a f v)  : Ms l yX7_statement cX7_statement 1 (some .boolean) 8 [vr 7 k] h (xK h) (fun r h' => ∃ b, r = some (vi (b2i b)) ∧ (∃ a' f' v', Pk h h' k z a' f' v' ∧ a ≤ a' ∧ (b = true → f < a))) := by
  refine Ms.of (by decide) (Nat.le_of_ble_eq_true rfl) (fun G C X F => ?_)
  have C : Cx G cX7_statement 1 RX7 := C
  show Rr G 0 [(0, vr 7 k)] [] h
  have fa := p.fa
  have az := p.az
  have bz := p.bz
  have bP := p.m.bP
  have bM := p.m.bM
  have bN := p.m.bN
  refine r_aload_n C (dx dX7_statement 0 rfl) rfl ?_
  refine r_ldcS C 10 rfl (dx dX7_statement 1 rfl) ?_
  refine r_cvW (as := [vt 1000]) (st := []) C X I_X7_isWord l_X7_187 (c_X7_isWord p.slf (i := 0) (by decide)) (by decide) (Nat.le_of_ble_eq_true rfl) (pfx_eq p.kk) rfl rfl (Nat.le_of_ble_eq_true rfl) rfl (dx dX7_statement 2 rfl) ?_
  rintro _ ⟨x1, hx1, rfl⟩
  refine rb_eq (b := x1) (tgt := 23) C (dx dX7_statement 3 rfl) (by decide) (fun c2 => ?_) (fun c2 => ?_)
  ·
    have c2 : x1 = false := c2
    refine r_aload_n C (dx dX7_statement 11 rfl) rfl ?_
    refine r_ldcS C 13 rfl (dx dX7_statement 12 rfl) ?_
    refine r_cvW (as := [vt 1003]) (st := []) C X I_X7_isWord l_X7_187 (c_X7_isWord p.slf (i := 3) (by decide)) (by decide) (Nat.le_of_ble_eq_true rfl) (pfx_eq p.kk) rfl rfl (Nat.le_of_ble_eq_true rfl) rfl (dx dX7_statement 13 rfl) ?_
    rintro _ ⟨x3, hx3, rfl⟩
    refine rb_eq (b := x3) (tgt := 46) C (dx dX7_statement 14 rfl) (by decide) (fun c4 => ?_) (fun c4 => ?_)
    ·
      have c4 : x3 = false := c4
      refine r_aload_n C (dx dX7_statement 22 rfl) rfl ?_
      refine r_ldcS C 16 rfl (dx dX7_statement 23 rfl) ?_
      refine r_cvW (as := [vt 1006]) (st := []) C X I_X7_isWord l_X7_187 (c_X7_isWord p.slf (i := 6) (by decide)) (by decide) (Nat.le_of_ble_eq_true rfl) (pfx_eq p.kk) rfl rfl (Nat.le_of_ble_eq_true rfl) rfl (dx dX7_statement 24 rfl) ?_
      rintro _ ⟨x5, hx5, rfl⟩
      refine rb_eq (b := x5) (tgt := 172) C (dx dX7_statement 25 rfl) (by decide) (fun c6 => ?_) (fun c6 => ?_)
      ·
        have c6 : x5 = false := c6
        refine r_aload_n C (dx dX7_statement 92 rfl) rfl ?_
        refine r_ldcS C 19 rfl (dx dX7_statement 93 rfl) ?_
        refine r_iconst (v := nI 0) C (dx dX7_statement 94 rfl) rfl ?_
        refine r_aload_n C (dx dX7_statement 95 rfl) rfl ?_
        refine g_X7_64 (x := nI (vP v)) C (dx dX7_statement 96 rfl) p.m.eP ?_
        refine r_iconst (v := nI 1) C (dx dX7_statement 97 rfl) rfl ?_
        refine r_isub C (dx dX7_statement 98 rfl) ?_
        refine r_cv (as := [vt 1009, vi (nI 0), vi ((nI (vP v)) - (nI 1))]) (st := []) C X I_X7_tells l_X7_206 (c_X7_tells p.slf (i := 9) (by decide) _ _) (by decide) (Nat.le_of_ble_eq_true rfl) List.prefix_rfl (pfx_eq p.kk) rfl rfl (Nat.le_of_ble_eq_true rfl) rfl (dx dX7_statement 99 rfl) ?_
        rintro _ h7 ⟨xh7, rfl, vh7, ah7, fh7, qh7, zh7, lh7, gh7⟩ kkh7
        have ph7 := p.tr qh7
        have fah7 := ph7.fa
        have azh7 := ph7.az
        obtain ⟨aah7, abh7, ach7⟩ := zh7
        refine rb_eq (b := xh7) (tgt := 204) C (dx dX7_statement 100 rfl) (by decide) (fun c8 => ?_) (fun c8 => ?_)
        ·
          have c8 : xh7 = false := c8
          refine r_iconst (v := nI 0) C (dx dX7_statement 109 rfl) rfl ?_
          exact F.1 _ _ _ _ .boolean rfl rfl (dx dX7_statement 110 rfl) ph7.kk ⟨false, rfl, _, _, _, ph7, by omega, fun q => by cases q⟩
        ·
          have c8 : xh7 = true := c8
          obtain ⟨lth7, lsh7, th7, eh7, ih7⟩ := gh7 c8
          refine r_aload_n C (dx dX7_statement 101 rfl) rfl ?_
          refine r_aload_n C (dx dX7_statement 102 rfl) rfl ?_
          refine g_X7_181 (x := xI h7 k 28) C (dx dX7_statement 103 rfl) rfl ?_
          obtain ⟨j9, hj9, ej9⟩ := inL_ex (by omega) ih7
          have g9 : xI h7 k 28 = nI j9 := eh7.trans ej9
          rw [g9]
          refine r_iconst (v := nI 0) C (dx dX7_statement 104 rfl) rfl ?_
          refine r_cv (as := [vi (nI j9), vi (nI 0)]) (st := []) C X I_X7_gets l_X7_199 (c_X7_gets ph7.slf (j := j9) (by omega) false) (by decide) (Nat.le_of_ble_eq_true rfl) List.prefix_rfl (pfx_eq ph7.kk) rfl rfl (Nat.le_of_ble_eq_true rfl) rfl (dx dX7_statement 105 rfl) ?_
          rintro _ h9 ⟨xh9, rfl, vh9, ah9, fh9, qh9, zh9, lh9⟩ kkh9
          have ph9 := ph7.tr qh9
          have fah9 := ph9.fa
          have azh9 := ph9.az
          obtain ⟨aah9, abh9, ach9⟩ := zh9
          refine rb_eq (b := xh9) (tgt := 204) C (dx dX7_statement 106 rfl) (by decide) (fun c10 => ?_) (fun c10 => ?_)
          ·
            have c10 : xh9 = false := c10
            refine r_iconst (v := nI 0) C (dx dX7_statement 109 rfl) rfl ?_
            exact F.1 _ _ _ _ .boolean rfl rfl (dx dX7_statement 110 rfl) ph9.kk ⟨false, rfl, _, _, _, ph9, by omega, fun q => by cases q⟩
          ·
            have c10 : xh9 = true := c10
            refine r_iconst (v := nI 1) C (dx dX7_statement 107 rfl) rfl ?_
            refine r_goto (tgt := 205) C (dx dX7_statement 108 rfl) (by decide) ?_
            exact F.1 _ _ _ _ .boolean rfl rfl (dx dX7_statement 110 rfl) ph9.kk ⟨true, rfl, _, _, _, ph9, by omega, fun q => by omega⟩
      ·
        have c6 : x5 = true := c6
        have ltc6 := p.lt (hx5 c6) (by decide)
        refine r_aload_n C (dx dX7_statement 26 rfl) rfl ?_
        refine g_X7_74 (x := nI (vN v)) C (dx dX7_statement 27 rfl) p.m.eN ?_
        refine r_bipush (v := nI 8) C (dx dX7_statement 28 rfl) rfl ?_
        refine rn_ge (a := vN v) (b := 8) (tgt := 172) C (by omega) (by omega) (dx dX7_statement 29 rfl) (by decide) (fun c11 => ?_) (fun c11 => ?_)
        · first
          | (omega; done)
          | (
              have c11 : 8 ≤ vN v := c11
              refine r_aload_n C (dx dX7_statement 92 rfl) rfl ?_
              refine r_ldcS C 19 rfl (dx dX7_statement 93 rfl) ?_
              refine r_iconst (v := nI 0) C (dx dX7_statement 94 rfl) rfl ?_
              refine r_aload_n C (dx dX7_statement 95 rfl) rfl ?_
              refine g_X7_64 (x := nI (vP v)) C (dx dX7_statement 96 rfl) p.m.eP ?_
              refine r_iconst (v := nI 1) C (dx dX7_statement 97 rfl) rfl ?_
              refine r_isub C (dx dX7_statement 98 rfl) ?_
              refine r_cv (as := [vt 1009, vi (nI 0), vi ((nI (vP v)) - (nI 1))]) (st := []) C X I_X7_tells l_X7_206 (c_X7_tells p.slf (i := 9) (by decide) _ _) (by decide) (Nat.le_of_ble_eq_true rfl) List.prefix_rfl (pfx_eq p.kk) rfl rfl (Nat.le_of_ble_eq_true rfl) rfl (dx dX7_statement 99 rfl) ?_
              rintro _ h12 ⟨xh12, rfl, vh12, ah12, fh12, qh12, zh12, lh12, gh12⟩ kkh12
              have ph12 := p.tr qh12
              have fah12 := ph12.fa
              have azh12 := ph12.az
              obtain ⟨aah12, abh12, ach12⟩ := zh12
              refine rb_eq (b := xh12) (tgt := 204) C (dx dX7_statement 100 rfl) (by decide) (fun c13 => ?_) (fun c13 => ?_)
              ·
                have c13 : xh12 = false := c13
                refine r_iconst (v := nI 0) C (dx dX7_statement 109 rfl) rfl ?_
                exact F.1 _ _ _ _ .boolean rfl rfl (dx dX7_statement 110 rfl) ph12.kk ⟨false, rfl, _, _, _, ph12, by omega, fun q => by cases q⟩
              ·
                have c13 : xh12 = true := c13
                obtain ⟨lth12, lsh12, th12, eh12, ih12⟩ := gh12 c13
                refine r_aload_n C (dx dX7_statement 101 rfl) rfl ?_
                refine r_aload_n C (dx dX7_statement 102 rfl) rfl ?_
                refine g_X7_181 (x := xI h12 k 28) C (dx dX7_statement 103 rfl) rfl ?_
                obtain ⟨j9, hj9, ej9⟩ := inL_ex (by omega) ih12
                have g9 : xI h12 k 28 = nI j9 := eh12.trans ej9
                rw [g9]
                refine r_iconst (v := nI 0) C (dx dX7_statement 104 rfl) rfl ?_
                refine r_cv (as := [vi (nI j9), vi (nI 0)]) (st := []) C X I_X7_gets l_X7_199 (c_X7_gets ph12.slf (j := j9) (by omega) false) (by decide) (Nat.le_of_ble_eq_true rfl) List.prefix_rfl (pfx_eq ph12.kk) rfl rfl (Nat.le_of_ble_eq_true rfl) rfl (dx dX7_statement 105 rfl) ?_
                rintro _ h14 ⟨xh14, rfl, vh14, ah14, fh14, qh14, zh14, lh14⟩ kkh14
                have ph14 := ph12.tr qh14
                have fah14 := ph14.fa
                have azh14 := ph14.az
                obtain ⟨aah14, abh14, ach14⟩ := zh14
                refine rb_eq (b := xh14) (tgt := 204) C (dx dX7_statement 106 rfl) (by decide) (fun c15 => ?_) (fun c15 => ?_)
                ·
                  have c15 : xh14 = false := c15
                  refine r_iconst (v := nI 0) C (dx dX7_statement 109 rfl) rfl ?_
                  exact F.1 _ _ _ _ .boolean rfl rfl (dx dX7_statement 110 rfl) ph14.kk ⟨false, rfl, _, _, _, ph14, by omega, fun q => by cases q⟩
                ·
                  have c15 : xh14 = true := c15
                  refine r_iconst (v := nI 1) C (dx dX7_statement 107 rfl) rfl ?_
                  refine r_goto (tgt := 205) C (dx dX7_statement 108 rfl) (by decide) ?_
                  exact F.1 _ _ _ _ .boolean rfl rfl (dx dX7_statement 110 rfl) ph14.kk ⟨true, rfl, _, _, _, ph14, by omega, fun q => by omega⟩)
        · first
          | (omega; done)
          | (
              have c11 : vN v < 8 := c11
              refine r_aload_n C (dx dX7_statement 30 rfl) rfl ?_
              refine r_cv (as := []) (st := []) C X I_X7_newOne l_X7_122 (c_newOne_p p.slf (by omega)) (by decide) (Nat.le_of_ble_eq_true rfl) List.prefix_rfl (pfx_eq p.kk) rfl rfl (Nat.le_of_ble_eq_true rfl) rfl (dx dX7_statement 31 rfl) ?_
              rintro _ h16 ⟨rfl, vh16, qh16, zh16⟩ kkh16
              have ph16 := p.tr qh16
              obtain ⟨aah16, abh16, ach16⟩ := zh16
              refine r_aload_n C (dx dX7_statement 32 rfl) rfl ?_
              refine r_ldcS C 16 rfl (dx dX7_statement 33 rfl) ?_
              refine r_iconst (v := nI 0) C (dx dX7_statement 34 rfl) rfl ?_
              refine r_bipush (v := nI 9) C (dx dX7_statement 35 rfl) rfl ?_
              refine r_cv (as := [vt 1006, vi (nI 0), vi (nI 9)]) (st := []) C X I_X7_tells l_X7_206 (c_X7_tells ph16.slf (i := 6) (by decide) _ _) (by decide) (Nat.le_of_ble_eq_true rfl) List.prefix_rfl (pfx_eq ph16.kk) rfl rfl (Nat.le_of_ble_eq_true rfl) rfl (dx dX7_statement 36 rfl) ?_
              rintro _ h17 ⟨xh17, rfl, vh17, ah17, fh17, qh17, zh17, lh17, gh17⟩ kkh17
              have ph17 := ph16.tr qh17
              have fah17 := ph17.fa
              have azh17 := ph17.az
              obtain ⟨aah17, abh17, ach17⟩ := zh17
              refine rb_ne (b := xh17) (tgt := 82) C (dx dX7_statement 37 rfl) (by decide) (fun c18 => ?_) (fun c18 => ?_)
              ·
                have c18 : xh17 = true := c18
                obtain ⟨lth17, lsh17, th17, eh17, ih17⟩ := gh17 c18
                refine r_aload_n C (dx dX7_statement 40 rfl) rfl ?_
                refine g_X7_54 C (dx dX7_statement 41 rfl) ?_
                refine r_aload_n C (dx dX7_statement 42 rfl) rfl ?_
                refine g_X7_74 (x := nI (vN vh17)) C (dx dX7_statement 43 rfl) ph17.m.eN ?_
                refine r_aald4 (j := vN vh17) C rfl rfl (by decide) rfl (by omega) (dx dX7_statement 44 rfl) ?_
                refine r_iconst (v := nI 0) C (dx dX7_statement 45 rfl) rfl ?_
                refine r_aload_n C (dx dX7_statement 46 rfl) rfl ?_
                refine g_X7_181 (x := xI h17 k 28) C (dx dX7_statement 47 rfl) rfl ?_
                refine r_iast (j := 0) C rfl rfl (by decide) rfl (by omega) (dx dX7_statement 48 rfl) ?_
                obtain ⟨vh19, ph19, zh19⟩ : ∃ v99, Pk h (sI h17 (k + 23 + (vN vh17)) 0 (xI h17 k 28)) k z ah17 fh17 v99 ∧ Sz vh17 v99 := ⟨vset vh17 (4 + 0) (vN vh17) (xI h17 k 28), ph17.c (ph17.m.so (by omega) (by omega)) (by omega) (by omega), ⟨rfl, rfl, rfl⟩⟩
                generalize sI h17 (k + 23 + (vN vh17)) 0 (xI h17 k 28) = h19 at ph19 ⊢
                obtain ⟨ah19, bh19, ch19⟩ := zh19
                refine r_aload_n C (dx dX7_statement 49 rfl) rfl ?_
                refine r_ldcS C 17 rfl (dx dX7_statement 50 rfl) ?_
                refine r_cvW (as := [vt 1007]) (st := []) C X I_X7_isWord l_X7_187 (c_X7_isWord ph19.slf (i := 7) (by decide)) (by decide) (Nat.le_of_ble_eq_true rfl) (pfx_eq ph19.kk) rfl rfl (Nat.le_of_ble_eq_true rfl) rfl (dx dX7_statement 51 rfl) ?_
                rintro _ ⟨x20, hx20, rfl⟩
                refine rb_eq (b := x20) (tgt := 135) C (dx dX7_statement 52 rfl) (by decide) (fun c21 => ?_) (fun c21 => ?_)
                ·
                  have c21 : x20 = false := c21
                  refine r_aload_n C (dx dX7_statement 70 rfl) rfl ?_
                  refine r_ldcS C 18 rfl (dx dX7_statement 71 rfl) ?_
                  refine r_cvW (as := [vt 1008]) (st := []) C X I_X7_isWord l_X7_187 (c_X7_isWord ph19.slf (i := 8) (by decide)) (by decide) (Nat.le_of_ble_eq_true rfl) (pfx_eq ph19.kk) rfl rfl (Nat.le_of_ble_eq_true rfl) rfl (dx dX7_statement 72 rfl) ?_
                  rintro _ ⟨x22, hx22, rfl⟩
                  refine rb_eq (b := x22) (tgt := 160) C (dx dX7_statement 73 rfl) (by decide) (fun c23 => ?_) (fun c23 => ?_)
                  ·
                    have c23 : x22 = false := c23
                    refine r_aload_n C (dx dX7_statement 84 rfl) rfl ?_
                    refine r_dupR C (dx dX7_statement 85 rfl) ?_
                    refine g_X7_74 (x := nI (vN vh19)) C (dx dX7_statement 86 rfl) ph19.m.eN ?_
                    refine r_iconst (v := nI 1) C (dx dX7_statement 87 rfl) rfl ?_
                    refine rn_iadd (a := vN vh19) (b := 1) C (dx dX7_statement 88 rfl) ?_
                    refine p_X7_74 C (dx dX7_statement 89 rfl) rfl rfl ?_
                    have ph24 : Pk h (sI h19 k 16 (nI (vN vh19 + 1))) k z ah17 fh17 (vsN vh19 (vN vh19 + 1)) := ph19.fd (ph19.m.sN (n := vN vh19 + 1) (by omega)) (by decide) (by decide) (by decide) (by decide)
                    generalize sI h19 k 16 (nI (vN vh19 + 1)) = h24 at ph24 ⊢
                    have ah24 : vP (vsN vh19 (vN vh19 + 1)) = vP vh19 := rfl
                    have bh24 : vM (vsN vh19 (vN vh19 + 1)) = vM vh19 := rfl
                    have ch24 : vN (vsN vh19 (vN vh19 + 1)) = vN vh19 + 1 := rfl
                    refine r_iconst (v := nI 1) C (dx dX7_statement 90 rfl) rfl ?_
                    exact F.1 _ _ _ _ .boolean rfl rfl (dx dX7_statement 91 rfl) ph24.kk ⟨true, rfl, _, _, _, ph24, by omega, fun q => by omega⟩
                  ·
                    have c23 : x22 = true := c23
                    have ltc23 := ph19.lt (hx22 c23) (by decide)
                    refine r_aload_n C (dx dX7_statement 74 rfl) rfl ?_
                    refine r_cv (as := []) (st := []) C X I_X7_look l_X7_184 (c_X7_look ph19.lk) (by decide) (Nat.le_of_ble_eq_true rfl) List.prefix_rfl (pfx_eq ph19.kk) rfl rfl (Nat.le_of_ble_eq_true rfl) rfl (dx dX7_statement 75 rfl) ?_
                    rintro _ h25 ⟨rfl, ah25, fh25, qh25, lh25, uh25⟩ kkh25
                    have ph25 := ph19.tr qh25
                    have fah25 := ph25.fa
                    have azh25 := ph25.az
                    refine r_aload_n C (dx dX7_statement 76 rfl) rfl ?_
                    refine g_X7_54 C (dx dX7_statement 77 rfl) ?_
                    refine r_aload_n C (dx dX7_statement 78 rfl) rfl ?_
                    refine g_X7_74 (x := nI (vN vh19)) C (dx dX7_statement 79 rfl) ph25.m.eN ?_
                    refine r_aald4 (j := vN vh19) C rfl rfl (by decide) rfl (by omega) (dx dX7_statement 80 rfl) ?_
                    refine r_iconst (v := nI 2) C (dx dX7_statement 81 rfl) rfl ?_
                    refine r_iconst (v := nI 1) C (dx dX7_statement 82 rfl) rfl ?_
                    refine r_iast (j := 2) C rfl rfl (by decide) rfl (by omega) (dx dX7_statement 83 rfl) ?_
                    obtain ⟨vh26, ph26, zh26⟩ : ∃ v99, Pk h (sI h25 (k + 23 + (vN vh19)) 2 (nI 1)) k z ah25 fh25 v99 ∧ Sz vh19 v99 := ⟨vset vh19 (4 + 2) (vN vh19) (nI 1), ph25.c (ph25.m.so (by omega) (by omega)) (by omega) (by omega), ⟨rfl, rfl, rfl⟩⟩
                    generalize sI h25 (k + 23 + (vN vh19)) 2 (nI 1) = h26 at ph26 ⊢
                    obtain ⟨ah26, bh26, ch26⟩ := zh26
                    refine r_aload_n C (dx dX7_statement 84 rfl) rfl ?_
                    refine r_dupR C (dx dX7_statement 85 rfl) ?_
                    refine g_X7_74 (x := nI (vN vh26)) C (dx dX7_statement 86 rfl) ph26.m.eN ?_
                    refine r_iconst (v := nI 1) C (dx dX7_statement 87 rfl) rfl ?_
                    refine rn_iadd (a := vN vh26) (b := 1) C (dx dX7_statement 88 rfl) ?_
                    refine p_X7_74 C (dx dX7_statement 89 rfl) rfl rfl ?_
                    have ph27 : Pk h (sI h26 k 16 (nI (vN vh26 + 1))) k z ah25 fh25 (vsN vh26 (vN vh26 + 1)) := ph26.fd (ph26.m.sN (n := vN vh26 + 1) (by omega)) (by decide) (by decide) (by decide) (by decide)
                    generalize sI h26 k 16 (nI (vN vh26 + 1)) = h27 at ph27 ⊢
                    have ah27 : vP (vsN vh26 (vN vh26 + 1)) = vP vh26 := rfl
                    have bh27 : vM (vsN vh26 (vN vh26 + 1)) = vM vh26 := rfl
                    have ch27 : vN (vsN vh26 (vN vh26 + 1)) = vN vh26 + 1 := rfl
                    refine r_iconst (v := nI 1) C (dx dX7_statement 90 rfl) rfl ?_
                    exact F.1 _ _ _ _ .boolean rfl rfl (dx dX7_statement 91 rfl) ph27.kk ⟨true, rfl, _, _, _, ph27, by omega, fun q => by omega⟩
                ·
                  have c21 : x20 = true := c21
                  have ltc21 := ph19.lt (hx20 c21) (by decide)
                  refine r_aload_n C (dx dX7_statement 53 rfl) rfl ?_
                  refine r_ldcS C 17 rfl (dx dX7_statement 54 rfl) ?_
                  refine r_iconst (v := nI 0) C (dx dX7_statement 55 rfl) rfl ?_
                  refine r_bipush (v := nI 10) C (dx dX7_statement 56 rfl) rfl ?_
                  refine r_cv (as := [vt 1007, vi (nI 0), vi (nI 10)]) (st := []) C X I_X7_tells l_X7_206 (c_X7_tells ph19.slf (i := 7) (by decide) _ _) (by decide) (Nat.le_of_ble_eq_true rfl) List.prefix_rfl (pfx_eq ph19.kk) rfl rfl (Nat.le_of_ble_eq_true rfl) rfl (dx dX7_statement 57 rfl) ?_
                  rintro _ h28 ⟨xh28, rfl, vh28, ah28, fh28, qh28, zh28, lh28, gh28⟩ kkh28
                  have ph28 := ph19.tr qh28
                  have fah28 := ph28.fa
                  have azh28 := ph28.az
                  obtain ⟨aah28, abh28, ach28⟩ := zh28
                  refine rb_ne (b := xh28) (tgt := 120) C (dx dX7_statement 58 rfl) (by decide) (fun c29 => ?_) (fun c29 => ?_)
                  ·
                    have c29 : xh28 = true := c29
                    obtain ⟨lth28, lsh28, th28, eh28, ih28⟩ := gh28 c29
                    refine r_aload_n C (dx dX7_statement 61 rfl) rfl ?_
                    refine g_X7_54 C (dx dX7_statement 62 rfl) ?_
                    refine r_aload_n C (dx dX7_statement 63 rfl) rfl ?_
                    refine g_X7_74 (x := nI (vN vh28)) C (dx dX7_statement 64 rfl) ph28.m.eN ?_
                    refine r_aald4 (j := vN vh28) C rfl rfl (by decide) rfl (by omega) (dx dX7_statement 65 rfl) ?_
                    refine r_iconst (v := nI 1) C (dx dX7_statement 66 rfl) rfl ?_
                    refine r_aload_n C (dx dX7_statement 67 rfl) rfl ?_
                    refine g_X7_181 (x := xI h28 k 28) C (dx dX7_statement 68 rfl) rfl ?_
                    refine r_iast (j := 1) C rfl rfl (by decide) rfl (by omega) (dx dX7_statement 69 rfl) ?_
                    obtain ⟨vh30, ph30, zh30⟩ : ∃ v99, Pk h (sI h28 (k + 23 + (vN vh28)) 1 (xI h28 k 28)) k z ah28 fh28 v99 ∧ Sz vh28 v99 := ⟨vset vh28 (4 + 1) (vN vh28) (xI h28 k 28), ph28.c (ph28.m.so (by omega) (by omega)) (by omega) (by omega), ⟨rfl, rfl, rfl⟩⟩
                    generalize sI h28 (k + 23 + (vN vh28)) 1 (xI h28 k 28) = h30 at ph30 ⊢
                    obtain ⟨ah30, bh30, ch30⟩ := zh30
                    refine r_aload_n C (dx dX7_statement 70 rfl) rfl ?_
                    refine r_ldcS C 18 rfl (dx dX7_statement 71 rfl) ?_
                    refine r_cvW (as := [vt 1008]) (st := []) C X I_X7_isWord l_X7_187 (c_X7_isWord ph30.slf (i := 8) (by decide)) (by decide) (Nat.le_of_ble_eq_true rfl) (pfx_eq ph30.kk) rfl rfl (Nat.le_of_ble_eq_true rfl) rfl (dx dX7_statement 72 rfl) ?_
                    rintro _ ⟨x31, hx31, rfl⟩
                    refine rb_eq (b := x31) (tgt := 160) C (dx dX7_statement 73 rfl) (by decide) (fun c32 => ?_) (fun c32 => ?_)
                    ·
                      have c32 : x31 = false := c32
                      refine r_aload_n C (dx dX7_statement 84 rfl) rfl ?_
                      refine r_dupR C (dx dX7_statement 85 rfl) ?_
                      refine g_X7_74 (x := nI (vN vh30)) C (dx dX7_statement 86 rfl) ph30.m.eN ?_
                      refine r_iconst (v := nI 1) C (dx dX7_statement 87 rfl) rfl ?_
                      refine rn_iadd (a := vN vh30) (b := 1) C (dx dX7_statement 88 rfl) ?_
                      refine p_X7_74 C (dx dX7_statement 89 rfl) rfl rfl ?_
                      have ph33 : Pk h (sI h30 k 16 (nI (vN vh30 + 1))) k z ah28 fh28 (vsN vh30 (vN vh30 + 1)) := ph30.fd (ph30.m.sN (n := vN vh30 + 1) (by omega)) (by decide) (by decide) (by decide) (by decide)
                      generalize sI h30 k 16 (nI (vN vh30 + 1)) = h33 at ph33 ⊢
                      have ah33 : vP (vsN vh30 (vN vh30 + 1)) = vP vh30 := rfl
                      have bh33 : vM (vsN vh30 (vN vh30 + 1)) = vM vh30 := rfl
                      have ch33 : vN (vsN vh30 (vN vh30 + 1)) = vN vh30 + 1 := rfl
                      refine r_iconst (v := nI 1) C (dx dX7_statement 90 rfl) rfl ?_
                      exact F.1 _ _ _ _ .boolean rfl rfl (dx dX7_statement 91 rfl) ph33.kk ⟨true, rfl, _, _, _, ph33, by omega, fun q => by omega⟩
                    ·
                      have c32 : x31 = true := c32
                      have ltc32 := ph30.lt (hx31 c32) (by decide)
                      refine r_aload_n C (dx dX7_statement 74 rfl) rfl ?_
                      refine r_cv (as := []) (st := []) C X I_X7_look l_X7_184 (c_X7_look ph30.lk) (by decide) (Nat.le_of_ble_eq_true rfl) List.prefix_rfl (pfx_eq ph30.kk) rfl rfl (Nat.le_of_ble_eq_true rfl) rfl (dx dX7_statement 75 rfl) ?_
                      rintro _ h34 ⟨rfl, ah34, fh34, qh34, lh34, uh34⟩ kkh34
                      have ph34 := ph30.tr qh34
                      have fah34 := ph34.fa
                      have azh34 := ph34.az
                      refine r_aload_n C (dx dX7_statement 76 rfl) rfl ?_
                      refine g_X7_54 C (dx dX7_statement 77 rfl) ?_
                      refine r_aload_n C (dx dX7_statement 78 rfl) rfl ?_
                      refine g_X7_74 (x := nI (vN vh30)) C (dx dX7_statement 79 rfl) ph34.m.eN ?_
                      refine r_aald4 (j := vN vh30) C rfl rfl (by decide) rfl (by omega) (dx dX7_statement 80 rfl) ?_
                      refine r_iconst (v := nI 2) C (dx dX7_statement 81 rfl) rfl ?_
                      refine r_iconst (v := nI 1) C (dx dX7_statement 82 rfl) rfl ?_
                      refine r_iast (j := 2) C rfl rfl (by decide) rfl (by omega) (dx dX7_statement 83 rfl) ?_
                      obtain ⟨vh35, ph35, zh35⟩ : ∃ v99, Pk h (sI h34 (k + 23 + (vN vh30)) 2 (nI 1)) k z ah34 fh34 v99 ∧ Sz vh30 v99 := ⟨vset vh30 (4 + 2) (vN vh30) (nI 1), ph34.c (ph34.m.so (by omega) (by omega)) (by omega) (by omega), ⟨rfl, rfl, rfl⟩⟩
                      generalize sI h34 (k + 23 + (vN vh30)) 2 (nI 1) = h35 at ph35 ⊢
                      obtain ⟨ah35, bh35, ch35⟩ := zh35
                      refine r_aload_n C (dx dX7_statement 84 rfl) rfl ?_
                      refine r_dupR C (dx dX7_statement 85 rfl) ?_
                      refine g_X7_74 (x := nI (vN vh35)) C (dx dX7_statement 86 rfl) ph35.m.eN ?_
                      refine r_iconst (v := nI 1) C (dx dX7_statement 87 rfl) rfl ?_
                      refine rn_iadd (a := vN vh35) (b := 1) C (dx dX7_statement 88 rfl) ?_
                      refine p_X7_74 C (dx dX7_statement 89 rfl) rfl rfl ?_
                      have ph36 : Pk h (sI h35 k 16 (nI (vN vh35 + 1))) k z ah34 fh34 (vsN vh35 (vN vh35 + 1)) := ph35.fd (ph35.m.sN (n := vN vh35 + 1) (by omega)) (by decide) (by decide) (by decide) (by decide)
                      generalize sI h35 k 16 (nI (vN vh35 + 1)) = h36 at ph36 ⊢
                      have ah36 : vP (vsN vh35 (vN vh35 + 1)) = vP vh35 := rfl
                      have bh36 : vM (vsN vh35 (vN vh35 + 1)) = vM vh35 := rfl
                      have ch36 : vN (vsN vh35 (vN vh35 + 1)) = vN vh35 + 1 := rfl
                      refine r_iconst (v := nI 1) C (dx dX7_statement 90 rfl) rfl ?_
                      exact F.1 _ _ _ _ .boolean rfl rfl (dx dX7_statement 91 rfl) ph36.kk ⟨true, rfl, _, _, _, ph36, by omega, fun q => by omega⟩
                  ·
                    have c29 : xh28 = false := c29
                    refine r_iconst (v := nI 0) C (dx dX7_statement 59 rfl) rfl ?_
                    exact F.1 _ _ _ _ .boolean rfl rfl (dx dX7_statement 60 rfl) ph28.kk ⟨false, rfl, _, _, _, ph28, by omega, fun q => by cases q⟩
              ·
                have c18 : xh17 = false := c18
                refine r_iconst (v := nI 0) C (dx dX7_statement 38 rfl) rfl ?_
                exact F.1 _ _ _ _ .boolean rfl rfl (dx dX7_statement 39 rfl) ph17.kk ⟨false, rfl, _, _, _, ph17, by omega, fun q => by cases q⟩)
    ·
      have c4 : x3 = true := c4
      have ltc4 := p.lt (hx3 c4) (by decide)
      refine r_aload_n C (dx dX7_statement 15 rfl) rfl ?_
      refine g_X7_71 (x := nI (vM v)) C (dx dX7_statement 16 rfl) p.m.eM ?_
      refine r_bipush (v := nI 6) C (dx dX7_statement 17 rfl) rfl ?_
      refine rn_ge (a := vM v) (b := 6) (tgt := 46) C (by omega) (by omega) (dx dX7_statement 18 rfl) (by decide) (fun c37 => ?_) (fun c37 => ?_)
      · first
        | (omega; done)
        | (
            have c37 : 6 ≤ vM v := c37
            refine r_aload_n C (dx dX7_statement 22 rfl) rfl ?_
            refine r_ldcS C 16 rfl (dx dX7_statement 23 rfl) ?_
            refine r_cvW (as := [vt 1006]) (st := []) C X I_X7_isWord l_X7_187 (c_X7_isWord p.slf (i := 6) (by decide)) (by decide) (Nat.le_of_ble_eq_true rfl) (pfx_eq p.kk) rfl rfl (Nat.le_of_ble_eq_true rfl) rfl (dx dX7_statement 24 rfl) ?_
            rintro _ ⟨x38, hx38, rfl⟩
            refine rb_eq (b := x38) (tgt := 172) C (dx dX7_statement 25 rfl) (by decide) (fun c39 => ?_) (fun c39 => ?_)
            ·
              have c39 : x38 = false := c39
              refine r_aload_n C (dx dX7_statement 92 rfl) rfl ?_
              refine r_ldcS C 19 rfl (dx dX7_statement 93 rfl) ?_
              refine r_iconst (v := nI 0) C (dx dX7_statement 94 rfl) rfl ?_
              refine r_aload_n C (dx dX7_statement 95 rfl) rfl ?_
              refine g_X7_64 (x := nI (vP v)) C (dx dX7_statement 96 rfl) p.m.eP ?_
              refine r_iconst (v := nI 1) C (dx dX7_statement 97 rfl) rfl ?_
              refine r_isub C (dx dX7_statement 98 rfl) ?_
              refine r_cv (as := [vt 1009, vi (nI 0), vi ((nI (vP v)) - (nI 1))]) (st := []) C X I_X7_tells l_X7_206 (c_X7_tells p.slf (i := 9) (by decide) _ _) (by decide) (Nat.le_of_ble_eq_true rfl) List.prefix_rfl (pfx_eq p.kk) rfl rfl (Nat.le_of_ble_eq_true rfl) rfl (dx dX7_statement 99 rfl) ?_
              rintro _ h40 ⟨xh40, rfl, vh40, ah40, fh40, qh40, zh40, lh40, gh40⟩ kkh40
              have ph40 := p.tr qh40
              have fah40 := ph40.fa
              have azh40 := ph40.az
              obtain ⟨aah40, abh40, ach40⟩ := zh40
              refine rb_eq (b := xh40) (tgt := 204) C (dx dX7_statement 100 rfl) (by decide) (fun c41 => ?_) (fun c41 => ?_)
              ·
                have c41 : xh40 = false := c41
                refine r_iconst (v := nI 0) C (dx dX7_statement 109 rfl) rfl ?_
                exact F.1 _ _ _ _ .boolean rfl rfl (dx dX7_statement 110 rfl) ph40.kk ⟨false, rfl, _, _, _, ph40, by omega, fun q => by cases q⟩
              ·
                have c41 : xh40 = true := c41
                obtain ⟨lth40, lsh40, th40, eh40, ih40⟩ := gh40 c41
                refine r_aload_n C (dx dX7_statement 101 rfl) rfl ?_
                refine r_aload_n C (dx dX7_statement 102 rfl) rfl ?_
                refine g_X7_181 (x := xI h40 k 28) C (dx dX7_statement 103 rfl) rfl ?_
                obtain ⟨j9, hj9, ej9⟩ := inL_ex (by omega) ih40
                have g9 : xI h40 k 28 = nI j9 := eh40.trans ej9
                rw [g9]
                refine r_iconst (v := nI 0) C (dx dX7_statement 104 rfl) rfl ?_
                refine r_cv (as := [vi (nI j9), vi (nI 0)]) (st := []) C X I_X7_gets l_X7_199 (c_X7_gets ph40.slf (j := j9) (by omega) false) (by decide) (Nat.le_of_ble_eq_true rfl) List.prefix_rfl (pfx_eq ph40.kk) rfl rfl (Nat.le_of_ble_eq_true rfl) rfl (dx dX7_statement 105 rfl) ?_
                rintro _ h42 ⟨xh42, rfl, vh42, ah42, fh42, qh42, zh42, lh42⟩ kkh42
                have ph42 := ph40.tr qh42
                have fah42 := ph42.fa
                have azh42 := ph42.az
                obtain ⟨aah42, abh42, ach42⟩ := zh42
                refine rb_eq (b := xh42) (tgt := 204) C (dx dX7_statement 106 rfl) (by decide) (fun c43 => ?_) (fun c43 => ?_)
                ·
                  have c43 : xh42 = false := c43
                  refine r_iconst (v := nI 0) C (dx dX7_statement 109 rfl) rfl ?_
                  exact F.1 _ _ _ _ .boolean rfl rfl (dx dX7_statement 110 rfl) ph42.kk ⟨false, rfl, _, _, _, ph42, by omega, fun q => by cases q⟩
                ·
                  have c43 : xh42 = true := c43
                  refine r_iconst (v := nI 1) C (dx dX7_statement 107 rfl) rfl ?_
                  refine r_goto (tgt := 205) C (dx dX7_statement 108 rfl) (by decide) ?_
                  exact F.1 _ _ _ _ .boolean rfl rfl (dx dX7_statement 110 rfl) ph42.kk ⟨true, rfl, _, _, _, ph42, by omega, fun q => by omega⟩
            ·
              have c39 : x38 = true := c39
              have ltc39 := p.lt (hx38 c39) (by decide)
              refine r_aload_n C (dx dX7_statement 26 rfl) rfl ?_
              refine g_X7_74 (x := nI (vN v)) C (dx dX7_statement 27 rfl) p.m.eN ?_
              refine r_bipush (v := nI 8) C (dx dX7_statement 28 rfl) rfl ?_
              refine rn_ge (a := vN v) (b := 8) (tgt := 172) C (by omega) (by omega) (dx dX7_statement 29 rfl) (by decide) (fun c44 => ?_) (fun c44 => ?_)
              · first
                | (omega; done)
                | (
                    have c44 : 8 ≤ vN v := c44
                    refine r_aload_n C (dx dX7_statement 92 rfl) rfl ?_
                    refine r_ldcS C 19 rfl (dx dX7_statement 93 rfl) ?_
                    refine r_iconst (v := nI 0) C (dx dX7_statement 94 rfl) rfl ?_
                    refine r_aload_n C (dx dX7_statement 95 rfl) rfl ?_
                    refine g_X7_64 (x := nI (vP v)) C (dx dX7_statement 96 rfl) p.m.eP ?_
                    refine r_iconst (v := nI 1) C (dx dX7_statement 97 rfl) rfl ?_
                    refine r_isub C (dx dX7_statement 98 rfl) ?_
                    refine r_cv (as := [vt 1009, vi (nI 0), vi ((nI (vP v)) - (nI 1))]) (st := []) C X I_X7_tells l_X7_206 (c_X7_tells p.slf (i := 9) (by decide) _ _) (by decide) (Nat.le_of_ble_eq_true rfl) List.prefix_rfl (pfx_eq p.kk) rfl rfl (Nat.le_of_ble_eq_true rfl) rfl (dx dX7_statement 99 rfl) ?_
                    rintro _ h45 ⟨xh45, rfl, vh45, ah45, fh45, qh45, zh45, lh45, gh45⟩ kkh45
                    have ph45 := p.tr qh45
                    have fah45 := ph45.fa
                    have azh45 := ph45.az
                    obtain ⟨aah45, abh45, ach45⟩ := zh45
                    refine rb_eq (b := xh45) (tgt := 204) C (dx dX7_statement 100 rfl) (by decide) (fun c46 => ?_) (fun c46 => ?_)
                    ·
                      have c46 : xh45 = false := c46
                      refine r_iconst (v := nI 0) C (dx dX7_statement 109 rfl) rfl ?_
                      exact F.1 _ _ _ _ .boolean rfl rfl (dx dX7_statement 110 rfl) ph45.kk ⟨false, rfl, _, _, _, ph45, by omega, fun q => by cases q⟩
                    ·
                      have c46 : xh45 = true := c46
                      obtain ⟨lth45, lsh45, th45, eh45, ih45⟩ := gh45 c46
                      refine r_aload_n C (dx dX7_statement 101 rfl) rfl ?_
                      refine r_aload_n C (dx dX7_statement 102 rfl) rfl ?_
                      refine g_X7_181 (x := xI h45 k 28) C (dx dX7_statement 103 rfl) rfl ?_
                      obtain ⟨j9, hj9, ej9⟩ := inL_ex (by omega) ih45
                      have g9 : xI h45 k 28 = nI j9 := eh45.trans ej9
                      rw [g9]
                      refine r_iconst (v := nI 0) C (dx dX7_statement 104 rfl) rfl ?_
                      refine r_cv (as := [vi (nI j9), vi (nI 0)]) (st := []) C X I_X7_gets l_X7_199 (c_X7_gets ph45.slf (j := j9) (by omega) false) (by decide) (Nat.le_of_ble_eq_true rfl) List.prefix_rfl (pfx_eq ph45.kk) rfl rfl (Nat.le_of_ble_eq_true rfl) rfl (dx dX7_statement 105 rfl) ?_
                      rintro _ h47 ⟨xh47, rfl, vh47, ah47, fh47, qh47, zh47, lh47⟩ kkh47
                      have ph47 := ph45.tr qh47
                      have fah47 := ph47.fa
                      have azh47 := ph47.az
                      obtain ⟨aah47, abh47, ach47⟩ := zh47
                      refine rb_eq (b := xh47) (tgt := 204) C (dx dX7_statement 106 rfl) (by decide) (fun c48 => ?_) (fun c48 => ?_)
                      ·
                        have c48 : xh47 = false := c48
                        refine r_iconst (v := nI 0) C (dx dX7_statement 109 rfl) rfl ?_
                        exact F.1 _ _ _ _ .boolean rfl rfl (dx dX7_statement 110 rfl) ph47.kk ⟨false, rfl, _, _, _, ph47, by omega, fun q => by cases q⟩
                      ·
                        have c48 : xh47 = true := c48
                        refine r_iconst (v := nI 1) C (dx dX7_statement 107 rfl) rfl ?_
                        refine r_goto (tgt := 205) C (dx dX7_statement 108 rfl) (by decide) ?_
                        exact F.1 _ _ _ _ .boolean rfl rfl (dx dX7_statement 110 rfl) ph47.kk ⟨true, rfl, _, _, _, ph47, by omega, fun q => by omega⟩)
              · first
                | (omega; done)
                | (
                    have c44 : vN v < 8 := c44
                    refine r_aload_n C (dx dX7_statement 30 rfl) rfl ?_
                    refine r_cv (as := []) (st := []) C X I_X7_newOne l_X7_122 (c_newOne_p p.slf (by omega)) (by decide) (Nat.le_of_ble_eq_true rfl) List.prefix_rfl (pfx_eq p.kk) rfl rfl (Nat.le_of_ble_eq_true rfl) rfl (dx dX7_statement 31 rfl) ?_
                    rintro _ h49 ⟨rfl, vh49, qh49, zh49⟩ kkh49
                    have ph49 := p.tr qh49
                    obtain ⟨aah49, abh49, ach49⟩ := zh49
                    refine r_aload_n C (dx dX7_statement 32 rfl) rfl ?_
                    refine r_ldcS C 16 rfl (dx dX7_statement 33 rfl) ?_
                    refine r_iconst (v := nI 0) C (dx dX7_statement 34 rfl) rfl ?_
                    refine r_bipush (v := nI 9) C (dx dX7_statement 35 rfl) rfl ?_
                    refine r_cv (as := [vt 1006, vi (nI 0), vi (nI 9)]) (st := []) C X I_X7_tells l_X7_206 (c_X7_tells ph49.slf (i := 6) (by decide) _ _) (by decide) (Nat.le_of_ble_eq_true rfl) List.prefix_rfl (pfx_eq ph49.kk) rfl rfl (Nat.le_of_ble_eq_true rfl) rfl (dx dX7_statement 36 rfl) ?_
                    rintro _ h50 ⟨xh50, rfl, vh50, ah50, fh50, qh50, zh50, lh50, gh50⟩ kkh50
                    have ph50 := ph49.tr qh50
                    have fah50 := ph50.fa
                    have azh50 := ph50.az
                    obtain ⟨aah50, abh50, ach50⟩ := zh50
                    refine rb_ne (b := xh50) (tgt := 82) C (dx dX7_statement 37 rfl) (by decide) (fun c51 => ?_) (fun c51 => ?_)
                    ·
                      have c51 : xh50 = true := c51
                      obtain ⟨lth50, lsh50, th50, eh50, ih50⟩ := gh50 c51
                      refine r_aload_n C (dx dX7_statement 40 rfl) rfl ?_
                      refine g_X7_54 C (dx dX7_statement 41 rfl) ?_
                      refine r_aload_n C (dx dX7_statement 42 rfl) rfl ?_
                      refine g_X7_74 (x := nI (vN vh50)) C (dx dX7_statement 43 rfl) ph50.m.eN ?_
                      refine r_aald4 (j := vN vh50) C rfl rfl (by decide) rfl (by omega) (dx dX7_statement 44 rfl) ?_
                      refine r_iconst (v := nI 0) C (dx dX7_statement 45 rfl) rfl ?_
                      refine r_aload_n C (dx dX7_statement 46 rfl) rfl ?_
                      refine g_X7_181 (x := xI h50 k 28) C (dx dX7_statement 47 rfl) rfl ?_
                      refine r_iast (j := 0) C rfl rfl (by decide) rfl (by omega) (dx dX7_statement 48 rfl) ?_
                      obtain ⟨vh52, ph52, zh52⟩ : ∃ v99, Pk h (sI h50 (k + 23 + (vN vh50)) 0 (xI h50 k 28)) k z ah50 fh50 v99 ∧ Sz vh50 v99 := ⟨vset vh50 (4 + 0) (vN vh50) (xI h50 k 28), ph50.c (ph50.m.so (by omega) (by omega)) (by omega) (by omega), ⟨rfl, rfl, rfl⟩⟩
                      generalize sI h50 (k + 23 + (vN vh50)) 0 (xI h50 k 28) = h52 at ph52 ⊢
                      obtain ⟨ah52, bh52, ch52⟩ := zh52
                      refine r_aload_n C (dx dX7_statement 49 rfl) rfl ?_
                      refine r_ldcS C 17 rfl (dx dX7_statement 50 rfl) ?_
                      refine r_cvW (as := [vt 1007]) (st := []) C X I_X7_isWord l_X7_187 (c_X7_isWord ph52.slf (i := 7) (by decide)) (by decide) (Nat.le_of_ble_eq_true rfl) (pfx_eq ph52.kk) rfl rfl (Nat.le_of_ble_eq_true rfl) rfl (dx dX7_statement 51 rfl) ?_
                      rintro _ ⟨x53, hx53, rfl⟩
                      refine rb_eq (b := x53) (tgt := 135) C (dx dX7_statement 52 rfl) (by decide) (fun c54 => ?_) (fun c54 => ?_)
                      ·
                        have c54 : x53 = false := c54
                        refine r_aload_n C (dx dX7_statement 70 rfl) rfl ?_
                        refine r_ldcS C 18 rfl (dx dX7_statement 71 rfl) ?_
                        refine r_cvW (as := [vt 1008]) (st := []) C X I_X7_isWord l_X7_187 (c_X7_isWord ph52.slf (i := 8) (by decide)) (by decide) (Nat.le_of_ble_eq_true rfl) (pfx_eq ph52.kk) rfl rfl (Nat.le_of_ble_eq_true rfl) rfl (dx dX7_statement 72 rfl) ?_
                        rintro _ ⟨x55, hx55, rfl⟩
                        refine rb_eq (b := x55) (tgt := 160) C (dx dX7_statement 73 rfl) (by decide) (fun c56 => ?_) (fun c56 => ?_)
                        ·
                          have c56 : x55 = false := c56
                          refine r_aload_n C (dx dX7_statement 84 rfl) rfl ?_
                          refine r_dupR C (dx dX7_statement 85 rfl) ?_
                          refine g_X7_74 (x := nI (vN vh52)) C (dx dX7_statement 86 rfl) ph52.m.eN ?_
                          refine r_iconst (v := nI 1) C (dx dX7_statement 87 rfl) rfl ?_
                          refine rn_iadd (a := vN vh52) (b := 1) C (dx dX7_statement 88 rfl) ?_
                          refine p_X7_74 C (dx dX7_statement 89 rfl) rfl rfl ?_
                          have ph57 : Pk h (sI h52 k 16 (nI (vN vh52 + 1))) k z ah50 fh50 (vsN vh52 (vN vh52 + 1)) := ph52.fd (ph52.m.sN (n := vN vh52 + 1) (by omega)) (by decide) (by decide) (by decide) (by decide)
                          generalize sI h52 k 16 (nI (vN vh52 + 1)) = h57 at ph57 ⊢
                          have ah57 : vP (vsN vh52 (vN vh52 + 1)) = vP vh52 := rfl
                          have bh57 : vM (vsN vh52 (vN vh52 + 1)) = vM vh52 := rfl
                          have ch57 : vN (vsN vh52 (vN vh52 + 1)) = vN vh52 + 1 := rfl
                          refine r_iconst (v := nI 1) C (dx dX7_statement 90 rfl) rfl ?_
                          exact F.1 _ _ _ _ .boolean rfl rfl (dx dX7_statement 91 rfl) ph57.kk ⟨true, rfl, _, _, _, ph57, by omega, fun q => by omega⟩
                        ·
                          have c56 : x55 = true := c56
                          have ltc56 := ph52.lt (hx55 c56) (by decide)
                          refine r_aload_n C (dx dX7_statement 74 rfl) rfl ?_
                          refine r_cv (as := []) (st := []) C X I_X7_look l_X7_184 (c_X7_look ph52.lk) (by decide) (Nat.le_of_ble_eq_true rfl) List.prefix_rfl (pfx_eq ph52.kk) rfl rfl (Nat.le_of_ble_eq_true rfl) rfl (dx dX7_statement 75 rfl) ?_
                          rintro _ h58 ⟨rfl, ah58, fh58, qh58, lh58, uh58⟩ kkh58
                          have ph58 := ph52.tr qh58
                          have fah58 := ph58.fa
                          have azh58 := ph58.az
                          refine r_aload_n C (dx dX7_statement 76 rfl) rfl ?_
                          refine g_X7_54 C (dx dX7_statement 77 rfl) ?_
                          refine r_aload_n C (dx dX7_statement 78 rfl) rfl ?_
                          refine g_X7_74 (x := nI (vN vh52)) C (dx dX7_statement 79 rfl) ph58.m.eN ?_
                          refine r_aald4 (j := vN vh52) C rfl rfl (by decide) rfl (by omega) (dx dX7_statement 80 rfl) ?_
                          refine r_iconst (v := nI 2) C (dx dX7_statement 81 rfl) rfl ?_
                          refine r_iconst (v := nI 1) C (dx dX7_statement 82 rfl) rfl ?_
                          refine r_iast (j := 2) C rfl rfl (by decide) rfl (by omega) (dx dX7_statement 83 rfl) ?_
                          obtain ⟨vh59, ph59, zh59⟩ : ∃ v99, Pk h (sI h58 (k + 23 + (vN vh52)) 2 (nI 1)) k z ah58 fh58 v99 ∧ Sz vh52 v99 := ⟨vset vh52 (4 + 2) (vN vh52) (nI 1), ph58.c (ph58.m.so (by omega) (by omega)) (by omega) (by omega), ⟨rfl, rfl, rfl⟩⟩
                          generalize sI h58 (k + 23 + (vN vh52)) 2 (nI 1) = h59 at ph59 ⊢
                          obtain ⟨ah59, bh59, ch59⟩ := zh59
                          refine r_aload_n C (dx dX7_statement 84 rfl) rfl ?_
                          refine r_dupR C (dx dX7_statement 85 rfl) ?_
                          refine g_X7_74 (x := nI (vN vh59)) C (dx dX7_statement 86 rfl) ph59.m.eN ?_
                          refine r_iconst (v := nI 1) C (dx dX7_statement 87 rfl) rfl ?_
                          refine rn_iadd (a := vN vh59) (b := 1) C (dx dX7_statement 88 rfl) ?_
                          refine p_X7_74 C (dx dX7_statement 89 rfl) rfl rfl ?_
                          have ph60 : Pk h (sI h59 k 16 (nI (vN vh59 + 1))) k z ah58 fh58 (vsN vh59 (vN vh59 + 1)) := ph59.fd (ph59.m.sN (n := vN vh59 + 1) (by omega)) (by decide) (by decide) (by decide) (by decide)
                          generalize sI h59 k 16 (nI (vN vh59 + 1)) = h60 at ph60 ⊢
                          have ah60 : vP (vsN vh59 (vN vh59 + 1)) = vP vh59 := rfl
                          have bh60 : vM (vsN vh59 (vN vh59 + 1)) = vM vh59 := rfl
                          have ch60 : vN (vsN vh59 (vN vh59 + 1)) = vN vh59 + 1 := rfl
                          refine r_iconst (v := nI 1) C (dx dX7_statement 90 rfl) rfl ?_
                          exact F.1 _ _ _ _ .boolean rfl rfl (dx dX7_statement 91 rfl) ph60.kk ⟨true, rfl, _, _, _, ph60, by omega, fun q => by omega⟩
                      ·
                        have c54 : x53 = true := c54
                        have ltc54 := ph52.lt (hx53 c54) (by decide)
                        refine r_aload_n C (dx dX7_statement 53 rfl) rfl ?_
                        refine r_ldcS C 17 rfl (dx dX7_statement 54 rfl) ?_
                        refine r_iconst (v := nI 0) C (dx dX7_statement 55 rfl) rfl ?_
                        refine r_bipush (v := nI 10) C (dx dX7_statement 56 rfl) rfl ?_
                        refine r_cv (as := [vt 1007, vi (nI 0), vi (nI 10)]) (st := []) C X I_X7_tells l_X7_206 (c_X7_tells ph52.slf (i := 7) (by decide) _ _) (by decide) (Nat.le_of_ble_eq_true rfl) List.prefix_rfl (pfx_eq ph52.kk) rfl rfl (Nat.le_of_ble_eq_true rfl) rfl (dx dX7_statement 57 rfl) ?_
                        rintro _ h61 ⟨xh61, rfl, vh61, ah61, fh61, qh61, zh61, lh61, gh61⟩ kkh61
                        have ph61 := ph52.tr qh61
                        have fah61 := ph61.fa
                        have azh61 := ph61.az
                        obtain ⟨aah61, abh61, ach61⟩ := zh61
                        refine rb_ne (b := xh61) (tgt := 120) C (dx dX7_statement 58 rfl) (by decide) (fun c62 => ?_) (fun c62 => ?_)
                        ·
                          have c62 : xh61 = true := c62
                          obtain ⟨lth61, lsh61, th61, eh61, ih61⟩ := gh61 c62
                          refine r_aload_n C (dx dX7_statement 61 rfl) rfl ?_
                          refine g_X7_54 C (dx dX7_statement 62 rfl) ?_
                          refine r_aload_n C (dx dX7_statement 63 rfl) rfl ?_
                          refine g_X7_74 (x := nI (vN vh61)) C (dx dX7_statement 64 rfl) ph61.m.eN ?_
                          refine r_aald4 (j := vN vh61) C rfl rfl (by decide) rfl (by omega) (dx dX7_statement 65 rfl) ?_
                          refine r_iconst (v := nI 1) C (dx dX7_statement 66 rfl) rfl ?_
                          refine r_aload_n C (dx dX7_statement 67 rfl) rfl ?_
                          refine g_X7_181 (x := xI h61 k 28) C (dx dX7_statement 68 rfl) rfl ?_
                          refine r_iast (j := 1) C rfl rfl (by decide) rfl (by omega) (dx dX7_statement 69 rfl) ?_
                          obtain ⟨vh63, ph63, zh63⟩ : ∃ v99, Pk h (sI h61 (k + 23 + (vN vh61)) 1 (xI h61 k 28)) k z ah61 fh61 v99 ∧ Sz vh61 v99 := ⟨vset vh61 (4 + 1) (vN vh61) (xI h61 k 28), ph61.c (ph61.m.so (by omega) (by omega)) (by omega) (by omega), ⟨rfl, rfl, rfl⟩⟩
                          generalize sI h61 (k + 23 + (vN vh61)) 1 (xI h61 k 28) = h63 at ph63 ⊢
                          obtain ⟨ah63, bh63, ch63⟩ := zh63
                          refine r_aload_n C (dx dX7_statement 70 rfl) rfl ?_
                          refine r_ldcS C 18 rfl (dx dX7_statement 71 rfl) ?_
                          refine r_cvW (as := [vt 1008]) (st := []) C X I_X7_isWord l_X7_187 (c_X7_isWord ph63.slf (i := 8) (by decide)) (by decide) (Nat.le_of_ble_eq_true rfl) (pfx_eq ph63.kk) rfl rfl (Nat.le_of_ble_eq_true rfl) rfl (dx dX7_statement 72 rfl) ?_
                          rintro _ ⟨x64, hx64, rfl⟩
                          refine rb_eq (b := x64) (tgt := 160) C (dx dX7_statement 73 rfl) (by decide) (fun c65 => ?_) (fun c65 => ?_)
                          ·
                            have c65 : x64 = false := c65
                            refine r_aload_n C (dx dX7_statement 84 rfl) rfl ?_
                            refine r_dupR C (dx dX7_statement 85 rfl) ?_
                            refine g_X7_74 (x := nI (vN vh63)) C (dx dX7_statement 86 rfl) ph63.m.eN ?_
                            refine r_iconst (v := nI 1) C (dx dX7_statement 87 rfl) rfl ?_
                            refine rn_iadd (a := vN vh63) (b := 1) C (dx dX7_statement 88 rfl) ?_
                            refine p_X7_74 C (dx dX7_statement 89 rfl) rfl rfl ?_
                            have ph66 : Pk h (sI h63 k 16 (nI (vN vh63 + 1))) k z ah61 fh61 (vsN vh63 (vN vh63 + 1)) := ph63.fd (ph63.m.sN (n := vN vh63 + 1) (by omega)) (by decide) (by decide) (by decide) (by decide)
                            generalize sI h63 k 16 (nI (vN vh63 + 1)) = h66 at ph66 ⊢
                            have ah66 : vP (vsN vh63 (vN vh63 + 1)) = vP vh63 := rfl
                            have bh66 : vM (vsN vh63 (vN vh63 + 1)) = vM vh63 := rfl
                            have ch66 : vN (vsN vh63 (vN vh63 + 1)) = vN vh63 + 1 := rfl
                            refine r_iconst (v := nI 1) C (dx dX7_statement 90 rfl) rfl ?_
                            exact F.1 _ _ _ _ .boolean rfl rfl (dx dX7_statement 91 rfl) ph66.kk ⟨true, rfl, _, _, _, ph66, by omega, fun q => by omega⟩
                          ·
                            have c65 : x64 = true := c65
                            have ltc65 := ph63.lt (hx64 c65) (by decide)
                            refine r_aload_n C (dx dX7_statement 74 rfl) rfl ?_
                            refine r_cv (as := []) (st := []) C X I_X7_look l_X7_184 (c_X7_look ph63.lk) (by decide) (Nat.le_of_ble_eq_true rfl) List.prefix_rfl (pfx_eq ph63.kk) rfl rfl (Nat.le_of_ble_eq_true rfl) rfl (dx dX7_statement 75 rfl) ?_
                            rintro _ h67 ⟨rfl, ah67, fh67, qh67, lh67, uh67⟩ kkh67
                            have ph67 := ph63.tr qh67
                            have fah67 := ph67.fa
                            have azh67 := ph67.az
                            refine r_aload_n C (dx dX7_statement 76 rfl) rfl ?_
                            refine g_X7_54 C (dx dX7_statement 77 rfl) ?_
                            refine r_aload_n C (dx dX7_statement 78 rfl) rfl ?_
                            refine g_X7_74 (x := nI (vN vh63)) C (dx dX7_statement 79 rfl) ph67.m.eN ?_
                            refine r_aald4 (j := vN vh63) C rfl rfl (by decide) rfl (by omega) (dx dX7_statement 80 rfl) ?_
                            refine r_iconst (v := nI 2) C (dx dX7_statement 81 rfl) rfl ?_
                            refine r_iconst (v := nI 1) C (dx dX7_statement 82 rfl) rfl ?_
                            refine r_iast (j := 2) C rfl rfl (by decide) rfl (by omega) (dx dX7_statement 83 rfl) ?_
                            obtain ⟨vh68, ph68, zh68⟩ : ∃ v99, Pk h (sI h67 (k + 23 + (vN vh63)) 2 (nI 1)) k z ah67 fh67 v99 ∧ Sz vh63 v99 := ⟨vset vh63 (4 + 2) (vN vh63) (nI 1), ph67.c (ph67.m.so (by omega) (by omega)) (by omega) (by omega), ⟨rfl, rfl, rfl⟩⟩
                            generalize sI h67 (k + 23 + (vN vh63)) 2 (nI 1) = h68 at ph68 ⊢
                            obtain ⟨ah68, bh68, ch68⟩ := zh68
                            refine r_aload_n C (dx dX7_statement 84 rfl) rfl ?_
                            refine r_dupR C (dx dX7_statement 85 rfl) ?_
                            refine g_X7_74 (x := nI (vN vh68)) C (dx dX7_statement 86 rfl) ph68.m.eN ?_
                            refine r_iconst (v := nI 1) C (dx dX7_statement 87 rfl) rfl ?_
                            refine rn_iadd (a := vN vh68) (b := 1) C (dx dX7_statement 88 rfl) ?_
                            refine p_X7_74 C (dx dX7_statement 89 rfl) rfl rfl ?_
                            have ph69 : Pk h (sI h68 k 16 (nI (vN vh68 + 1))) k z ah67 fh67 (vsN vh68 (vN vh68 + 1)) := ph68.fd (ph68.m.sN (n := vN vh68 + 1) (by omega)) (by decide) (by decide) (by decide) (by decide)
                            generalize sI h68 k 16 (nI (vN vh68 + 1)) = h69 at ph69 ⊢
                            have ah69 : vP (vsN vh68 (vN vh68 + 1)) = vP vh68 := rfl
                            have bh69 : vM (vsN vh68 (vN vh68 + 1)) = vM vh68 := rfl
                            have ch69 : vN (vsN vh68 (vN vh68 + 1)) = vN vh68 + 1 := rfl
                            refine r_iconst (v := nI 1) C (dx dX7_statement 90 rfl) rfl ?_
                            exact F.1 _ _ _ _ .boolean rfl rfl (dx dX7_statement 91 rfl) ph69.kk ⟨true, rfl, _, _, _, ph69, by omega, fun q => by omega⟩
                        ·
                          have c62 : xh61 = false := c62
                          refine r_iconst (v := nI 0) C (dx dX7_statement 59 rfl) rfl ?_
                          exact F.1 _ _ _ _ .boolean rfl rfl (dx dX7_statement 60 rfl) ph61.kk ⟨false, rfl, _, _, _, ph61, by omega, fun q => by cases q⟩
                    ·
                      have c51 : xh50 = false := c51
                      refine r_iconst (v := nI 0) C (dx dX7_statement 38 rfl) rfl ?_
                      exact F.1 _ _ _ _ .boolean rfl rfl (dx dX7_statement 39 rfl) ph50.kk ⟨false, rfl, _, _, _, ph50, by omega, fun q => by cases q⟩))
      · first
        | (omega; done)
        | (
            have c37 : vM v < 6 := c37
            refine r_aload_n C (dx dX7_statement 19 rfl) rfl ?_
            refine r_cv (as := []) (st := []) C X I_X7_machineTold l_X7_218 (c_X7_machineTold p.slf (by omega)) (by decide) (Nat.le_of_ble_eq_true rfl) List.prefix_rfl (pfx_eq p.kk) rfl rfl (Nat.le_of_ble_eq_true rfl) rfl (dx dX7_statement 20 rfl) ?_
            rintro _ h70 ⟨xh70, rfl, ah70, fh70, vh70, qh70, lh70⟩ kkh70
            have ph70 := p.tr qh70
            have fah70 := ph70.fa
            have azh70 := ph70.az
            exact F.1 _ _ _ _ .boolean rfl (nar_b _) (dx dX7_statement 21 rfl) ph70.kk ⟨xh70, rfl, _, _, _, ph70, by omega, fun q => by omega⟩)
  ·
    have c2 : x1 = true := c2
    have ltc2 := p.lt (hx1 c2) (by decide)
    refine r_aload_n C (dx dX7_statement 4 rfl) rfl ?_
    refine g_X7_64 (x := nI (vP v)) C (dx dX7_statement 5 rfl) p.m.eP ?_
    refine r_bipush (v := nI 12) C (dx dX7_statement 6 rfl) rfl ?_
    refine rn_ge (a := vP v) (b := 12) (tgt := 23) C (by omega) (by omega) (dx dX7_statement 7 rfl) (by decide) (fun c71 => ?_) (fun c71 => ?_)
    · first
      | (omega; done)
      | (
          have c71 : 12 ≤ vP v := c71
          refine r_aload_n C (dx dX7_statement 11 rfl) rfl ?_
          refine r_ldcS C 13 rfl (dx dX7_statement 12 rfl) ?_
          refine r_cvW (as := [vt 1003]) (st := []) C X I_X7_isWord l_X7_187 (c_X7_isWord p.slf (i := 3) (by decide)) (by decide) (Nat.le_of_ble_eq_true rfl) (pfx_eq p.kk) rfl rfl (Nat.le_of_ble_eq_true rfl) rfl (dx dX7_statement 13 rfl) ?_
          rintro _ ⟨x72, hx72, rfl⟩
          refine rb_eq (b := x72) (tgt := 46) C (dx dX7_statement 14 rfl) (by decide) (fun c73 => ?_) (fun c73 => ?_)
          ·
            have c73 : x72 = false := c73
            refine r_aload_n C (dx dX7_statement 22 rfl) rfl ?_
            refine r_ldcS C 16 rfl (dx dX7_statement 23 rfl) ?_
            refine r_cvW (as := [vt 1006]) (st := []) C X I_X7_isWord l_X7_187 (c_X7_isWord p.slf (i := 6) (by decide)) (by decide) (Nat.le_of_ble_eq_true rfl) (pfx_eq p.kk) rfl rfl (Nat.le_of_ble_eq_true rfl) rfl (dx dX7_statement 24 rfl) ?_
            rintro _ ⟨x74, hx74, rfl⟩
            refine rb_eq (b := x74) (tgt := 172) C (dx dX7_statement 25 rfl) (by decide) (fun c75 => ?_) (fun c75 => ?_)
            ·
              have c75 : x74 = false := c75
              refine r_aload_n C (dx dX7_statement 92 rfl) rfl ?_
              refine r_ldcS C 19 rfl (dx dX7_statement 93 rfl) ?_
              refine r_iconst (v := nI 0) C (dx dX7_statement 94 rfl) rfl ?_
              refine r_aload_n C (dx dX7_statement 95 rfl) rfl ?_
              refine g_X7_64 (x := nI (vP v)) C (dx dX7_statement 96 rfl) p.m.eP ?_
              refine r_iconst (v := nI 1) C (dx dX7_statement 97 rfl) rfl ?_
              refine r_isub C (dx dX7_statement 98 rfl) ?_
              refine r_cv (as := [vt 1009, vi (nI 0), vi ((nI (vP v)) - (nI 1))]) (st := []) C X I_X7_tells l_X7_206 (c_X7_tells p.slf (i := 9) (by decide) _ _) (by decide) (Nat.le_of_ble_eq_true rfl) List.prefix_rfl (pfx_eq p.kk) rfl rfl (Nat.le_of_ble_eq_true rfl) rfl (dx dX7_statement 99 rfl) ?_
              rintro _ h76 ⟨xh76, rfl, vh76, ah76, fh76, qh76, zh76, lh76, gh76⟩ kkh76
              have ph76 := p.tr qh76
              have fah76 := ph76.fa
              have azh76 := ph76.az
              obtain ⟨aah76, abh76, ach76⟩ := zh76
              refine rb_eq (b := xh76) (tgt := 204) C (dx dX7_statement 100 rfl) (by decide) (fun c77 => ?_) (fun c77 => ?_)
              ·
                have c77 : xh76 = false := c77
                refine r_iconst (v := nI 0) C (dx dX7_statement 109 rfl) rfl ?_
                exact F.1 _ _ _ _ .boolean rfl rfl (dx dX7_statement 110 rfl) ph76.kk ⟨false, rfl, _, _, _, ph76, by omega, fun q => by cases q⟩
              ·
                have c77 : xh76 = true := c77
                obtain ⟨lth76, lsh76, th76, eh76, ih76⟩ := gh76 c77
                refine r_aload_n C (dx dX7_statement 101 rfl) rfl ?_
                refine r_aload_n C (dx dX7_statement 102 rfl) rfl ?_
                refine g_X7_181 (x := xI h76 k 28) C (dx dX7_statement 103 rfl) rfl ?_
                obtain ⟨j9, hj9, ej9⟩ := inL_ex (by omega) ih76
                have g9 : xI h76 k 28 = nI j9 := eh76.trans ej9
                rw [g9]
                refine r_iconst (v := nI 0) C (dx dX7_statement 104 rfl) rfl ?_
                refine r_cv (as := [vi (nI j9), vi (nI 0)]) (st := []) C X I_X7_gets l_X7_199 (c_X7_gets ph76.slf (j := j9) (by omega) false) (by decide) (Nat.le_of_ble_eq_true rfl) List.prefix_rfl (pfx_eq ph76.kk) rfl rfl (Nat.le_of_ble_eq_true rfl) rfl (dx dX7_statement 105 rfl) ?_
                rintro _ h78 ⟨xh78, rfl, vh78, ah78, fh78, qh78, zh78, lh78⟩ kkh78
                have ph78 := ph76.tr qh78
                have fah78 := ph78.fa
                have azh78 := ph78.az
                obtain ⟨aah78, abh78, ach78⟩ := zh78
                refine rb_eq (b := xh78) (tgt := 204) C (dx dX7_statement 106 rfl) (by decide) (fun c79 => ?_) (fun c79 => ?_)
                ·
                  have c79 : xh78 = false := c79
                  refine r_iconst (v := nI 0) C (dx dX7_statement 109 rfl) rfl ?_
                  exact F.1 _ _ _ _ .boolean rfl rfl (dx dX7_statement 110 rfl) ph78.kk ⟨false, rfl, _, _, _, ph78, by omega, fun q => by cases q⟩
                ·
                  have c79 : xh78 = true := c79
                  refine r_iconst (v := nI 1) C (dx dX7_statement 107 rfl) rfl ?_
                  refine r_goto (tgt := 205) C (dx dX7_statement 108 rfl) (by decide) ?_
                  exact F.1 _ _ _ _ .boolean rfl rfl (dx dX7_statement 110 rfl) ph78.kk ⟨true, rfl, _, _, _, ph78, by omega, fun q => by omega⟩
            ·
              have c75 : x74 = true := c75
              have ltc75 := p.lt (hx74 c75) (by decide)
              refine r_aload_n C (dx dX7_statement 26 rfl) rfl ?_
              refine g_X7_74 (x := nI (vN v)) C (dx dX7_statement 27 rfl) p.m.eN ?_
              refine r_bipush (v := nI 8) C (dx dX7_statement 28 rfl) rfl ?_
              refine rn_ge (a := vN v) (b := 8) (tgt := 172) C (by omega) (by omega) (dx dX7_statement 29 rfl) (by decide) (fun c80 => ?_) (fun c80 => ?_)
              · first
                | (omega; done)
                | (
                    have c80 : 8 ≤ vN v := c80
                    refine r_aload_n C (dx dX7_statement 92 rfl) rfl ?_
                    refine r_ldcS C 19 rfl (dx dX7_statement 93 rfl) ?_
                    refine r_iconst (v := nI 0) C (dx dX7_statement 94 rfl) rfl ?_
                    refine r_aload_n C (dx dX7_statement 95 rfl) rfl ?_
                    refine g_X7_64 (x := nI (vP v)) C (dx dX7_statement 96 rfl) p.m.eP ?_
                    refine r_iconst (v := nI 1) C (dx dX7_statement 97 rfl) rfl ?_
                    refine r_isub C (dx dX7_statement 98 rfl) ?_
                    refine r_cv (as := [vt 1009, vi (nI 0), vi ((nI (vP v)) - (nI 1))]) (st := []) C X I_X7_tells l_X7_206 (c_X7_tells p.slf (i := 9) (by decide) _ _) (by decide) (Nat.le_of_ble_eq_true rfl) List.prefix_rfl (pfx_eq p.kk) rfl rfl (Nat.le_of_ble_eq_true rfl) rfl (dx dX7_statement 99 rfl) ?_
                    rintro _ h81 ⟨xh81, rfl, vh81, ah81, fh81, qh81, zh81, lh81, gh81⟩ kkh81
                    have ph81 := p.tr qh81
                    have fah81 := ph81.fa
                    have azh81 := ph81.az
                    obtain ⟨aah81, abh81, ach81⟩ := zh81
                    refine rb_eq (b := xh81) (tgt := 204) C (dx dX7_statement 100 rfl) (by decide) (fun c82 => ?_) (fun c82 => ?_)
                    ·
                      have c82 : xh81 = false := c82
                      refine r_iconst (v := nI 0) C (dx dX7_statement 109 rfl) rfl ?_
                      exact F.1 _ _ _ _ .boolean rfl rfl (dx dX7_statement 110 rfl) ph81.kk ⟨false, rfl, _, _, _, ph81, by omega, fun q => by cases q⟩
                    ·
                      have c82 : xh81 = true := c82
                      obtain ⟨lth81, lsh81, th81, eh81, ih81⟩ := gh81 c82
                      refine r_aload_n C (dx dX7_statement 101 rfl) rfl ?_
                      refine r_aload_n C (dx dX7_statement 102 rfl) rfl ?_
                      refine g_X7_181 (x := xI h81 k 28) C (dx dX7_statement 103 rfl) rfl ?_
                      obtain ⟨j9, hj9, ej9⟩ := inL_ex (by omega) ih81
                      have g9 : xI h81 k 28 = nI j9 := eh81.trans ej9
                      rw [g9]
                      refine r_iconst (v := nI 0) C (dx dX7_statement 104 rfl) rfl ?_
                      refine r_cv (as := [vi (nI j9), vi (nI 0)]) (st := []) C X I_X7_gets l_X7_199 (c_X7_gets ph81.slf (j := j9) (by omega) false) (by decide) (Nat.le_of_ble_eq_true rfl) List.prefix_rfl (pfx_eq ph81.kk) rfl rfl (Nat.le_of_ble_eq_true rfl) rfl (dx dX7_statement 105 rfl) ?_
                      rintro _ h83 ⟨xh83, rfl, vh83, ah83, fh83, qh83, zh83, lh83⟩ kkh83
                      have ph83 := ph81.tr qh83
                      have fah83 := ph83.fa
                      have azh83 := ph83.az
                      obtain ⟨aah83, abh83, ach83⟩ := zh83
                      refine rb_eq (b := xh83) (tgt := 204) C (dx dX7_statement 106 rfl) (by decide) (fun c84 => ?_) (fun c84 => ?_)
                      ·
                        have c84 : xh83 = false := c84
                        refine r_iconst (v := nI 0) C (dx dX7_statement 109 rfl) rfl ?_
                        exact F.1 _ _ _ _ .boolean rfl rfl (dx dX7_statement 110 rfl) ph83.kk ⟨false, rfl, _, _, _, ph83, by omega, fun q => by cases q⟩
                      ·
                        have c84 : xh83 = true := c84
                        refine r_iconst (v := nI 1) C (dx dX7_statement 107 rfl) rfl ?_
                        refine r_goto (tgt := 205) C (dx dX7_statement 108 rfl) (by decide) ?_
                        exact F.1 _ _ _ _ .boolean rfl rfl (dx dX7_statement 110 rfl) ph83.kk ⟨true, rfl, _, _, _, ph83, by omega, fun q => by omega⟩)
              · first
                | (omega; done)
                | (
                    have c80 : vN v < 8 := c80
                    refine r_aload_n C (dx dX7_statement 30 rfl) rfl ?_
                    refine r_cv (as := []) (st := []) C X I_X7_newOne l_X7_122 (c_newOne_p p.slf (by omega)) (by decide) (Nat.le_of_ble_eq_true rfl) List.prefix_rfl (pfx_eq p.kk) rfl rfl (Nat.le_of_ble_eq_true rfl) rfl (dx dX7_statement 31 rfl) ?_
                    rintro _ h85 ⟨rfl, vh85, qh85, zh85⟩ kkh85
                    have ph85 := p.tr qh85
                    obtain ⟨aah85, abh85, ach85⟩ := zh85
                    refine r_aload_n C (dx dX7_statement 32 rfl) rfl ?_
                    refine r_ldcS C 16 rfl (dx dX7_statement 33 rfl) ?_
                    refine r_iconst (v := nI 0) C (dx dX7_statement 34 rfl) rfl ?_
                    refine r_bipush (v := nI 9) C (dx dX7_statement 35 rfl) rfl ?_
                    refine r_cv (as := [vt 1006, vi (nI 0), vi (nI 9)]) (st := []) C X I_X7_tells l_X7_206 (c_X7_tells ph85.slf (i := 6) (by decide) _ _) (by decide) (Nat.le_of_ble_eq_true rfl) List.prefix_rfl (pfx_eq ph85.kk) rfl rfl (Nat.le_of_ble_eq_true rfl) rfl (dx dX7_statement 36 rfl) ?_
                    rintro _ h86 ⟨xh86, rfl, vh86, ah86, fh86, qh86, zh86, lh86, gh86⟩ kkh86
                    have ph86 := ph85.tr qh86
                    have fah86 := ph86.fa
                    have azh86 := ph86.az
                    obtain ⟨aah86, abh86, ach86⟩ := zh86
                    refine rb_ne (b := xh86) (tgt := 82) C (dx dX7_statement 37 rfl) (by decide) (fun c87 => ?_) (fun c87 => ?_)
                    ·
                      have c87 : xh86 = true := c87
                      obtain ⟨lth86, lsh86, th86, eh86, ih86⟩ := gh86 c87
                      refine r_aload_n C (dx dX7_statement 40 rfl) rfl ?_
                      refine g_X7_54 C (dx dX7_statement 41 rfl) ?_
                      refine r_aload_n C (dx dX7_statement 42 rfl) rfl ?_
                      refine g_X7_74 (x := nI (vN vh86)) C (dx dX7_statement 43 rfl) ph86.m.eN ?_
                      refine r_aald4 (j := vN vh86) C rfl rfl (by decide) rfl (by omega) (dx dX7_statement 44 rfl) ?_
                      refine r_iconst (v := nI 0) C (dx dX7_statement 45 rfl) rfl ?_
                      refine r_aload_n C (dx dX7_statement 46 rfl) rfl ?_
                      refine g_X7_181 (x := xI h86 k 28) C (dx dX7_statement 47 rfl) rfl ?_
                      refine r_iast (j := 0) C rfl rfl (by decide) rfl (by omega) (dx dX7_statement 48 rfl) ?_
                      obtain ⟨vh88, ph88, zh88⟩ : ∃ v99, Pk h (sI h86 (k + 23 + (vN vh86)) 0 (xI h86 k 28)) k z ah86 fh86 v99 ∧ Sz vh86 v99 := ⟨vset vh86 (4 + 0) (vN vh86) (xI h86 k 28), ph86.c (ph86.m.so (by omega) (by omega)) (by omega) (by omega), ⟨rfl, rfl, rfl⟩⟩
                      generalize sI h86 (k + 23 + (vN vh86)) 0 (xI h86 k 28) = h88 at ph88 ⊢
                      obtain ⟨ah88, bh88, ch88⟩ := zh88
                      refine r_aload_n C (dx dX7_statement 49 rfl) rfl ?_
                      refine r_ldcS C 17 rfl (dx dX7_statement 50 rfl) ?_
                      refine r_cvW (as := [vt 1007]) (st := []) C X I_X7_isWord l_X7_187 (c_X7_isWord ph88.slf (i := 7) (by decide)) (by decide) (Nat.le_of_ble_eq_true rfl) (pfx_eq ph88.kk) rfl rfl (Nat.le_of_ble_eq_true rfl) rfl (dx dX7_statement 51 rfl) ?_
                      rintro _ ⟨x89, hx89, rfl⟩
                      refine rb_eq (b := x89) (tgt := 135) C (dx dX7_statement 52 rfl) (by decide) (fun c90 => ?_) (fun c90 => ?_)
                      ·
                        have c90 : x89 = false := c90
                        refine r_aload_n C (dx dX7_statement 70 rfl) rfl ?_
                        refine r_ldcS C 18 rfl (dx dX7_statement 71 rfl) ?_
                        refine r_cvW (as := [vt 1008]) (st := []) C X I_X7_isWord l_X7_187 (c_X7_isWord ph88.slf (i := 8) (by decide)) (by decide) (Nat.le_of_ble_eq_true rfl) (pfx_eq ph88.kk) rfl rfl (Nat.le_of_ble_eq_true rfl) rfl (dx dX7_statement 72 rfl) ?_
                        rintro _ ⟨x91, hx91, rfl⟩
                        refine rb_eq (b := x91) (tgt := 160) C (dx dX7_statement 73 rfl) (by decide) (fun c92 => ?_) (fun c92 => ?_)
                        ·
                          have c92 : x91 = false := c92
                          refine r_aload_n C (dx dX7_statement 84 rfl) rfl ?_
                          refine r_dupR C (dx dX7_statement 85 rfl) ?_
                          refine g_X7_74 (x := nI (vN vh88)) C (dx dX7_statement 86 rfl) ph88.m.eN ?_
                          refine r_iconst (v := nI 1) C (dx dX7_statement 87 rfl) rfl ?_
                          refine rn_iadd (a := vN vh88) (b := 1) C (dx dX7_statement 88 rfl) ?_
                          refine p_X7_74 C (dx dX7_statement 89 rfl) rfl rfl ?_
                          have ph93 : Pk h (sI h88 k 16 (nI (vN vh88 + 1))) k z ah86 fh86 (vsN vh88 (vN vh88 + 1)) := ph88.fd (ph88.m.sN (n := vN vh88 + 1) (by omega)) (by decide) (by decide) (by decide) (by decide)
                          generalize sI h88 k 16 (nI (vN vh88 + 1)) = h93 at ph93 ⊢
                          have ah93 : vP (vsN vh88 (vN vh88 + 1)) = vP vh88 := rfl
                          have bh93 : vM (vsN vh88 (vN vh88 + 1)) = vM vh88 := rfl
                          have ch93 : vN (vsN vh88 (vN vh88 + 1)) = vN vh88 + 1 := rfl
                          refine r_iconst (v := nI 1) C (dx dX7_statement 90 rfl) rfl ?_
                          exact F.1 _ _ _ _ .boolean rfl rfl (dx dX7_statement 91 rfl) ph93.kk ⟨true, rfl, _, _, _, ph93, by omega, fun q => by omega⟩
                        ·
                          have c92 : x91 = true := c92
                          have ltc92 := ph88.lt (hx91 c92) (by decide)
                          refine r_aload_n C (dx dX7_statement 74 rfl) rfl ?_
                          refine r_cv (as := []) (st := []) C X I_X7_look l_X7_184 (c_X7_look ph88.lk) (by decide) (Nat.le_of_ble_eq_true rfl) List.prefix_rfl (pfx_eq ph88.kk) rfl rfl (Nat.le_of_ble_eq_true rfl) rfl (dx dX7_statement 75 rfl) ?_
                          rintro _ h94 ⟨rfl, ah94, fh94, qh94, lh94, uh94⟩ kkh94
                          have ph94 := ph88.tr qh94
                          have fah94 := ph94.fa
                          have azh94 := ph94.az
                          refine r_aload_n C (dx dX7_statement 76 rfl) rfl ?_
                          refine g_X7_54 C (dx dX7_statement 77 rfl) ?_
                          refine r_aload_n C (dx dX7_statement 78 rfl) rfl ?_
                          refine g_X7_74 (x := nI (vN vh88)) C (dx dX7_statement 79 rfl) ph94.m.eN ?_
                          refine r_aald4 (j := vN vh88) C rfl rfl (by decide) rfl (by omega) (dx dX7_statement 80 rfl) ?_
                          refine r_iconst (v := nI 2) C (dx dX7_statement 81 rfl) rfl ?_
                          refine r_iconst (v := nI 1) C (dx dX7_statement 82 rfl) rfl ?_
                          refine r_iast (j := 2) C rfl rfl (by decide) rfl (by omega) (dx dX7_statement 83 rfl) ?_
                          obtain ⟨vh95, ph95, zh95⟩ : ∃ v99, Pk h (sI h94 (k + 23 + (vN vh88)) 2 (nI 1)) k z ah94 fh94 v99 ∧ Sz vh88 v99 := ⟨vset vh88 (4 + 2) (vN vh88) (nI 1), ph94.c (ph94.m.so (by omega) (by omega)) (by omega) (by omega), ⟨rfl, rfl, rfl⟩⟩
                          generalize sI h94 (k + 23 + (vN vh88)) 2 (nI 1) = h95 at ph95 ⊢
                          obtain ⟨ah95, bh95, ch95⟩ := zh95
                          refine r_aload_n C (dx dX7_statement 84 rfl) rfl ?_
                          refine r_dupR C (dx dX7_statement 85 rfl) ?_
                          refine g_X7_74 (x := nI (vN vh95)) C (dx dX7_statement 86 rfl) ph95.m.eN ?_
                          refine r_iconst (v := nI 1) C (dx dX7_statement 87 rfl) rfl ?_
                          refine rn_iadd (a := vN vh95) (b := 1) C (dx dX7_statement 88 rfl) ?_
                          refine p_X7_74 C (dx dX7_statement 89 rfl) rfl rfl ?_
                          have ph96 : Pk h (sI h95 k 16 (nI (vN vh95 + 1))) k z ah94 fh94 (vsN vh95 (vN vh95 + 1)) := ph95.fd (ph95.m.sN (n := vN vh95 + 1) (by omega)) (by decide) (by decide) (by decide) (by decide)
                          generalize sI h95 k 16 (nI (vN vh95 + 1)) = h96 at ph96 ⊢
                          have ah96 : vP (vsN vh95 (vN vh95 + 1)) = vP vh95 := rfl
                          have bh96 : vM (vsN vh95 (vN vh95 + 1)) = vM vh95 := rfl
                          have ch96 : vN (vsN vh95 (vN vh95 + 1)) = vN vh95 + 1 := rfl
                          refine r_iconst (v := nI 1) C (dx dX7_statement 90 rfl) rfl ?_
                          exact F.1 _ _ _ _ .boolean rfl rfl (dx dX7_statement 91 rfl) ph96.kk ⟨true, rfl, _, _, _, ph96, by omega, fun q => by omega⟩
                      ·
                        have c90 : x89 = true := c90
                        have ltc90 := ph88.lt (hx89 c90) (by decide)
                        refine r_aload_n C (dx dX7_statement 53 rfl) rfl ?_
                        refine r_ldcS C 17 rfl (dx dX7_statement 54 rfl) ?_
                        refine r_iconst (v := nI 0) C (dx dX7_statement 55 rfl) rfl ?_
                        refine r_bipush (v := nI 10) C (dx dX7_statement 56 rfl) rfl ?_
                        refine r_cv (as := [vt 1007, vi (nI 0), vi (nI 10)]) (st := []) C X I_X7_tells l_X7_206 (c_X7_tells ph88.slf (i := 7) (by decide) _ _) (by decide) (Nat.le_of_ble_eq_true rfl) List.prefix_rfl (pfx_eq ph88.kk) rfl rfl (Nat.le_of_ble_eq_true rfl) rfl (dx dX7_statement 57 rfl) ?_
                        rintro _ h97 ⟨xh97, rfl, vh97, ah97, fh97, qh97, zh97, lh97, gh97⟩ kkh97
                        have ph97 := ph88.tr qh97
                        have fah97 := ph97.fa
                        have azh97 := ph97.az
                        obtain ⟨aah97, abh97, ach97⟩ := zh97
                        refine rb_ne (b := xh97) (tgt := 120) C (dx dX7_statement 58 rfl) (by decide) (fun c98 => ?_) (fun c98 => ?_)
                        ·
                          have c98 : xh97 = true := c98
                          obtain ⟨lth97, lsh97, th97, eh97, ih97⟩ := gh97 c98
                          refine r_aload_n C (dx dX7_statement 61 rfl) rfl ?_
                          refine g_X7_54 C (dx dX7_statement 62 rfl) ?_
                          refine r_aload_n C (dx dX7_statement 63 rfl) rfl ?_
                          refine g_X7_74 (x := nI (vN vh97)) C (dx dX7_statement 64 rfl) ph97.m.eN ?_
                          refine r_aald4 (j := vN vh97) C rfl rfl (by decide) rfl (by omega) (dx dX7_statement 65 rfl) ?_
                          refine r_iconst (v := nI 1) C (dx dX7_statement 66 rfl) rfl ?_
                          refine r_aload_n C (dx dX7_statement 67 rfl) rfl ?_
                          refine g_X7_181 (x := xI h97 k 28) C (dx dX7_statement 68 rfl) rfl ?_
                          refine r_iast (j := 1) C rfl rfl (by decide) rfl (by omega) (dx dX7_statement 69 rfl) ?_
                          obtain ⟨vh99, ph99, zh99⟩ : ∃ v99, Pk h (sI h97 (k + 23 + (vN vh97)) 1 (xI h97 k 28)) k z ah97 fh97 v99 ∧ Sz vh97 v99 := ⟨vset vh97 (4 + 1) (vN vh97) (xI h97 k 28), ph97.c (ph97.m.so (by omega) (by omega)) (by omega) (by omega), ⟨rfl, rfl, rfl⟩⟩
                          generalize sI h97 (k + 23 + (vN vh97)) 1 (xI h97 k 28) = h99 at ph99 ⊢
                          obtain ⟨ah99, bh99, ch99⟩ := zh99
                          refine r_aload_n C (dx dX7_statement 70 rfl) rfl ?_
                          refine r_ldcS C 18 rfl (dx dX7_statement 71 rfl) ?_
                          refine r_cvW (as := [vt 1008]) (st := []) C X I_X7_isWord l_X7_187 (c_X7_isWord ph99.slf (i := 8) (by decide)) (by decide) (Nat.le_of_ble_eq_true rfl) (pfx_eq ph99.kk) rfl rfl (Nat.le_of_ble_eq_true rfl) rfl (dx dX7_statement 72 rfl) ?_
                          rintro _ ⟨x100, hx100, rfl⟩
                          refine rb_eq (b := x100) (tgt := 160) C (dx dX7_statement 73 rfl) (by decide) (fun c101 => ?_) (fun c101 => ?_)
                          ·
                            have c101 : x100 = false := c101
                            refine r_aload_n C (dx dX7_statement 84 rfl) rfl ?_
                            refine r_dupR C (dx dX7_statement 85 rfl) ?_
                            refine g_X7_74 (x := nI (vN vh99)) C (dx dX7_statement 86 rfl) ph99.m.eN ?_
                            refine r_iconst (v := nI 1) C (dx dX7_statement 87 rfl) rfl ?_
                            refine rn_iadd (a := vN vh99) (b := 1) C (dx dX7_statement 88 rfl) ?_
                            refine p_X7_74 C (dx dX7_statement 89 rfl) rfl rfl ?_
                            have ph102 : Pk h (sI h99 k 16 (nI (vN vh99 + 1))) k z ah97 fh97 (vsN vh99 (vN vh99 + 1)) := ph99.fd (ph99.m.sN (n := vN vh99 + 1) (by omega)) (by decide) (by decide) (by decide) (by decide)
                            generalize sI h99 k 16 (nI (vN vh99 + 1)) = h102 at ph102 ⊢
                            have ah102 : vP (vsN vh99 (vN vh99 + 1)) = vP vh99 := rfl
                            have bh102 : vM (vsN vh99 (vN vh99 + 1)) = vM vh99 := rfl
                            have ch102 : vN (vsN vh99 (vN vh99 + 1)) = vN vh99 + 1 := rfl
                            refine r_iconst (v := nI 1) C (dx dX7_statement 90 rfl) rfl ?_
                            exact F.1 _ _ _ _ .boolean rfl rfl (dx dX7_statement 91 rfl) ph102.kk ⟨true, rfl, _, _, _, ph102, by omega, fun q => by omega⟩
                          ·
                            have c101 : x100 = true := c101
                            have ltc101 := ph99.lt (hx100 c101) (by decide)
                            refine r_aload_n C (dx dX7_statement 74 rfl) rfl ?_
                            refine r_cv (as := []) (st := []) C X I_X7_look l_X7_184 (c_X7_look ph99.lk) (by decide) (Nat.le_of_ble_eq_true rfl) List.prefix_rfl (pfx_eq ph99.kk) rfl rfl (Nat.le_of_ble_eq_true rfl) rfl (dx dX7_statement 75 rfl) ?_
                            rintro _ h103 ⟨rfl, ah103, fh103, qh103, lh103, uh103⟩ kkh103
                            have ph103 := ph99.tr qh103
                            have fah103 := ph103.fa
                            have azh103 := ph103.az
                            refine r_aload_n C (dx dX7_statement 76 rfl) rfl ?_
                            refine g_X7_54 C (dx dX7_statement 77 rfl) ?_
                            refine r_aload_n C (dx dX7_statement 78 rfl) rfl ?_
                            refine g_X7_74 (x := nI (vN vh99)) C (dx dX7_statement 79 rfl) ph103.m.eN ?_
                            refine r_aald4 (j := vN vh99) C rfl rfl (by decide) rfl (by omega) (dx dX7_statement 80 rfl) ?_
                            refine r_iconst (v := nI 2) C (dx dX7_statement 81 rfl) rfl ?_
                            refine r_iconst (v := nI 1) C (dx dX7_statement 82 rfl) rfl ?_
                            refine r_iast (j := 2) C rfl rfl (by decide) rfl (by omega) (dx dX7_statement 83 rfl) ?_
                            obtain ⟨vh104, ph104, zh104⟩ : ∃ v99, Pk h (sI h103 (k + 23 + (vN vh99)) 2 (nI 1)) k z ah103 fh103 v99 ∧ Sz vh99 v99 := ⟨vset vh99 (4 + 2) (vN vh99) (nI 1), ph103.c (ph103.m.so (by omega) (by omega)) (by omega) (by omega), ⟨rfl, rfl, rfl⟩⟩
                            generalize sI h103 (k + 23 + (vN vh99)) 2 (nI 1) = h104 at ph104 ⊢
                            obtain ⟨ah104, bh104, ch104⟩ := zh104
                            refine r_aload_n C (dx dX7_statement 84 rfl) rfl ?_
                            refine r_dupR C (dx dX7_statement 85 rfl) ?_
                            refine g_X7_74 (x := nI (vN vh104)) C (dx dX7_statement 86 rfl) ph104.m.eN ?_
                            refine r_iconst (v := nI 1) C (dx dX7_statement 87 rfl) rfl ?_
                            refine rn_iadd (a := vN vh104) (b := 1) C (dx dX7_statement 88 rfl) ?_
                            refine p_X7_74 C (dx dX7_statement 89 rfl) rfl rfl ?_
                            have ph105 : Pk h (sI h104 k 16 (nI (vN vh104 + 1))) k z ah103 fh103 (vsN vh104 (vN vh104 + 1)) := ph104.fd (ph104.m.sN (n := vN vh104 + 1) (by omega)) (by decide) (by decide) (by decide) (by decide)
                            generalize sI h104 k 16 (nI (vN vh104 + 1)) = h105 at ph105 ⊢
                            have ah105 : vP (vsN vh104 (vN vh104 + 1)) = vP vh104 := rfl
                            have bh105 : vM (vsN vh104 (vN vh104 + 1)) = vM vh104 := rfl
                            have ch105 : vN (vsN vh104 (vN vh104 + 1)) = vN vh104 + 1 := rfl
                            refine r_iconst (v := nI 1) C (dx dX7_statement 90 rfl) rfl ?_
                            exact F.1 _ _ _ _ .boolean rfl rfl (dx dX7_statement 91 rfl) ph105.kk ⟨true, rfl, _, _, _, ph105, by omega, fun q => by omega⟩
                        ·
                          have c98 : xh97 = false := c98
                          refine r_iconst (v := nI 0) C (dx dX7_statement 59 rfl) rfl ?_
                          exact F.1 _ _ _ _ .boolean rfl rfl (dx dX7_statement 60 rfl) ph97.kk ⟨false, rfl, _, _, _, ph97, by omega, fun q => by cases q⟩
                    ·
                      have c87 : xh86 = false := c87
                      refine r_iconst (v := nI 0) C (dx dX7_statement 38 rfl) rfl ?_
                      exact F.1 _ _ _ _ .boolean rfl rfl (dx dX7_statement 39 rfl) ph86.kk ⟨false, rfl, _, _, _, ph86, by omega, fun q => by cases q⟩)
          ·
            have c73 : x72 = true := c73
            have ltc73 := p.lt (hx72 c73) (by decide)
            refine r_aload_n C (dx dX7_statement 15 rfl) rfl ?_
            refine g_X7_71 (x := nI (vM v)) C (dx dX7_statement 16 rfl) p.m.eM ?_
            refine r_bipush (v := nI 6) C (dx dX7_statement 17 rfl) rfl ?_
            refine rn_ge (a := vM v) (b := 6) (tgt := 46) C (by omega) (by omega) (dx dX7_statement 18 rfl) (by decide) (fun c106 => ?_) (fun c106 => ?_)
            · first
              | (omega; done)
              | (
                  have c106 : 6 ≤ vM v := c106
                  refine r_aload_n C (dx dX7_statement 22 rfl) rfl ?_
                  refine r_ldcS C 16 rfl (dx dX7_statement 23 rfl) ?_
                  refine r_cvW (as := [vt 1006]) (st := []) C X I_X7_isWord l_X7_187 (c_X7_isWord p.slf (i := 6) (by decide)) (by decide) (Nat.le_of_ble_eq_true rfl) (pfx_eq p.kk) rfl rfl (Nat.le_of_ble_eq_true rfl) rfl (dx dX7_statement 24 rfl) ?_
                  rintro _ ⟨x107, hx107, rfl⟩
                  refine rb_eq (b := x107) (tgt := 172) C (dx dX7_statement 25 rfl) (by decide) (fun c108 => ?_) (fun c108 => ?_)
                  ·
                    have c108 : x107 = false := c108
                    refine r_aload_n C (dx dX7_statement 92 rfl) rfl ?_
                    refine r_ldcS C 19 rfl (dx dX7_statement 93 rfl) ?_
                    refine r_iconst (v := nI 0) C (dx dX7_statement 94 rfl) rfl ?_
                    refine r_aload_n C (dx dX7_statement 95 rfl) rfl ?_
                    refine g_X7_64 (x := nI (vP v)) C (dx dX7_statement 96 rfl) p.m.eP ?_
                    refine r_iconst (v := nI 1) C (dx dX7_statement 97 rfl) rfl ?_
                    refine r_isub C (dx dX7_statement 98 rfl) ?_
                    refine r_cv (as := [vt 1009, vi (nI 0), vi ((nI (vP v)) - (nI 1))]) (st := []) C X I_X7_tells l_X7_206 (c_X7_tells p.slf (i := 9) (by decide) _ _) (by decide) (Nat.le_of_ble_eq_true rfl) List.prefix_rfl (pfx_eq p.kk) rfl rfl (Nat.le_of_ble_eq_true rfl) rfl (dx dX7_statement 99 rfl) ?_
                    rintro _ h109 ⟨xh109, rfl, vh109, ah109, fh109, qh109, zh109, lh109, gh109⟩ kkh109
                    have ph109 := p.tr qh109
                    have fah109 := ph109.fa
                    have azh109 := ph109.az
                    obtain ⟨aah109, abh109, ach109⟩ := zh109
                    refine rb_eq (b := xh109) (tgt := 204) C (dx dX7_statement 100 rfl) (by decide) (fun c110 => ?_) (fun c110 => ?_)
                    ·
                      have c110 : xh109 = false := c110
                      refine r_iconst (v := nI 0) C (dx dX7_statement 109 rfl) rfl ?_
                      exact F.1 _ _ _ _ .boolean rfl rfl (dx dX7_statement 110 rfl) ph109.kk ⟨false, rfl, _, _, _, ph109, by omega, fun q => by cases q⟩
                    ·
                      have c110 : xh109 = true := c110
                      obtain ⟨lth109, lsh109, th109, eh109, ih109⟩ := gh109 c110
                      refine r_aload_n C (dx dX7_statement 101 rfl) rfl ?_
                      refine r_aload_n C (dx dX7_statement 102 rfl) rfl ?_
                      refine g_X7_181 (x := xI h109 k 28) C (dx dX7_statement 103 rfl) rfl ?_
                      obtain ⟨j9, hj9, ej9⟩ := inL_ex (by omega) ih109
                      have g9 : xI h109 k 28 = nI j9 := eh109.trans ej9
                      rw [g9]
                      refine r_iconst (v := nI 0) C (dx dX7_statement 104 rfl) rfl ?_
                      refine r_cv (as := [vi (nI j9), vi (nI 0)]) (st := []) C X I_X7_gets l_X7_199 (c_X7_gets ph109.slf (j := j9) (by omega) false) (by decide) (Nat.le_of_ble_eq_true rfl) List.prefix_rfl (pfx_eq ph109.kk) rfl rfl (Nat.le_of_ble_eq_true rfl) rfl (dx dX7_statement 105 rfl) ?_
                      rintro _ h111 ⟨xh111, rfl, vh111, ah111, fh111, qh111, zh111, lh111⟩ kkh111
                      have ph111 := ph109.tr qh111
                      have fah111 := ph111.fa
                      have azh111 := ph111.az
                      obtain ⟨aah111, abh111, ach111⟩ := zh111
                      refine rb_eq (b := xh111) (tgt := 204) C (dx dX7_statement 106 rfl) (by decide) (fun c112 => ?_) (fun c112 => ?_)
                      ·
                        have c112 : xh111 = false := c112
                        refine r_iconst (v := nI 0) C (dx dX7_statement 109 rfl) rfl ?_
                        exact F.1 _ _ _ _ .boolean rfl rfl (dx dX7_statement 110 rfl) ph111.kk ⟨false, rfl, _, _, _, ph111, by omega, fun q => by cases q⟩
                      ·
                        have c112 : xh111 = true := c112
                        refine r_iconst (v := nI 1) C (dx dX7_statement 107 rfl) rfl ?_
                        refine r_goto (tgt := 205) C (dx dX7_statement 108 rfl) (by decide) ?_
                        exact F.1 _ _ _ _ .boolean rfl rfl (dx dX7_statement 110 rfl) ph111.kk ⟨true, rfl, _, _, _, ph111, by omega, fun q => by omega⟩
                  ·
                    have c108 : x107 = true := c108
                    have ltc108 := p.lt (hx107 c108) (by decide)
                    refine r_aload_n C (dx dX7_statement 26 rfl) rfl ?_
                    refine g_X7_74 (x := nI (vN v)) C (dx dX7_statement 27 rfl) p.m.eN ?_
                    refine r_bipush (v := nI 8) C (dx dX7_statement 28 rfl) rfl ?_
                    refine rn_ge (a := vN v) (b := 8) (tgt := 172) C (by omega) (by omega) (dx dX7_statement 29 rfl) (by decide) (fun c113 => ?_) (fun c113 => ?_)
                    · first
                      | (omega; done)
                      | (
                          have c113 : 8 ≤ vN v := c113
                          refine r_aload_n C (dx dX7_statement 92 rfl) rfl ?_
                          refine r_ldcS C 19 rfl (dx dX7_statement 93 rfl) ?_
                          refine r_iconst (v := nI 0) C (dx dX7_statement 94 rfl) rfl ?_
                          refine r_aload_n C (dx dX7_statement 95 rfl) rfl ?_
                          refine g_X7_64 (x := nI (vP v)) C (dx dX7_statement 96 rfl) p.m.eP ?_
                          refine r_iconst (v := nI 1) C (dx dX7_statement 97 rfl) rfl ?_
                          refine r_isub C (dx dX7_statement 98 rfl) ?_
                          refine r_cv (as := [vt 1009, vi (nI 0), vi ((nI (vP v)) - (nI 1))]) (st := []) C X I_X7_tells l_X7_206 (c_X7_tells p.slf (i := 9) (by decide) _ _) (by decide) (Nat.le_of_ble_eq_true rfl) List.prefix_rfl (pfx_eq p.kk) rfl rfl (Nat.le_of_ble_eq_true rfl) rfl (dx dX7_statement 99 rfl) ?_
                          rintro _ h114 ⟨xh114, rfl, vh114, ah114, fh114, qh114, zh114, lh114, gh114⟩ kkh114
                          have ph114 := p.tr qh114
                          have fah114 := ph114.fa
                          have azh114 := ph114.az
                          obtain ⟨aah114, abh114, ach114⟩ := zh114
                          refine rb_eq (b := xh114) (tgt := 204) C (dx dX7_statement 100 rfl) (by decide) (fun c115 => ?_) (fun c115 => ?_)
                          ·
                            have c115 : xh114 = false := c115
                            refine r_iconst (v := nI 0) C (dx dX7_statement 109 rfl) rfl ?_
                            exact F.1 _ _ _ _ .boolean rfl rfl (dx dX7_statement 110 rfl) ph114.kk ⟨false, rfl, _, _, _, ph114, by omega, fun q => by cases q⟩
                          ·
                            have c115 : xh114 = true := c115
                            obtain ⟨lth114, lsh114, th114, eh114, ih114⟩ := gh114 c115
                            refine r_aload_n C (dx dX7_statement 101 rfl) rfl ?_
                            refine r_aload_n C (dx dX7_statement 102 rfl) rfl ?_
                            refine g_X7_181 (x := xI h114 k 28) C (dx dX7_statement 103 rfl) rfl ?_
                            obtain ⟨j9, hj9, ej9⟩ := inL_ex (by omega) ih114
                            have g9 : xI h114 k 28 = nI j9 := eh114.trans ej9
                            rw [g9]
                            refine r_iconst (v := nI 0) C (dx dX7_statement 104 rfl) rfl ?_
                            refine r_cv (as := [vi (nI j9), vi (nI 0)]) (st := []) C X I_X7_gets l_X7_199 (c_X7_gets ph114.slf (j := j9) (by omega) false) (by decide) (Nat.le_of_ble_eq_true rfl) List.prefix_rfl (pfx_eq ph114.kk) rfl rfl (Nat.le_of_ble_eq_true rfl) rfl (dx dX7_statement 105 rfl) ?_
                            rintro _ h116 ⟨xh116, rfl, vh116, ah116, fh116, qh116, zh116, lh116⟩ kkh116
                            have ph116 := ph114.tr qh116
                            have fah116 := ph116.fa
                            have azh116 := ph116.az
                            obtain ⟨aah116, abh116, ach116⟩ := zh116
                            refine rb_eq (b := xh116) (tgt := 204) C (dx dX7_statement 106 rfl) (by decide) (fun c117 => ?_) (fun c117 => ?_)
                            ·
                              have c117 : xh116 = false := c117
                              refine r_iconst (v := nI 0) C (dx dX7_statement 109 rfl) rfl ?_
                              exact F.1 _ _ _ _ .boolean rfl rfl (dx dX7_statement 110 rfl) ph116.kk ⟨false, rfl, _, _, _, ph116, by omega, fun q => by cases q⟩
                            ·
                              have c117 : xh116 = true := c117
                              refine r_iconst (v := nI 1) C (dx dX7_statement 107 rfl) rfl ?_
                              refine r_goto (tgt := 205) C (dx dX7_statement 108 rfl) (by decide) ?_
                              exact F.1 _ _ _ _ .boolean rfl rfl (dx dX7_statement 110 rfl) ph116.kk ⟨true, rfl, _, _, _, ph116, by omega, fun q => by omega⟩)
                    · first
                      | (omega; done)
                      | (
                          have c113 : vN v < 8 := c113
                          refine r_aload_n C (dx dX7_statement 30 rfl) rfl ?_
                          refine r_cv (as := []) (st := []) C X I_X7_newOne l_X7_122 (c_newOne_p p.slf (by omega)) (by decide) (Nat.le_of_ble_eq_true rfl) List.prefix_rfl (pfx_eq p.kk) rfl rfl (Nat.le_of_ble_eq_true rfl) rfl (dx dX7_statement 31 rfl) ?_
                          rintro _ h118 ⟨rfl, vh118, qh118, zh118⟩ kkh118
                          have ph118 := p.tr qh118
                          obtain ⟨aah118, abh118, ach118⟩ := zh118
                          refine r_aload_n C (dx dX7_statement 32 rfl) rfl ?_
                          refine r_ldcS C 16 rfl (dx dX7_statement 33 rfl) ?_
                          refine r_iconst (v := nI 0) C (dx dX7_statement 34 rfl) rfl ?_
                          refine r_bipush (v := nI 9) C (dx dX7_statement 35 rfl) rfl ?_
                          refine r_cv (as := [vt 1006, vi (nI 0), vi (nI 9)]) (st := []) C X I_X7_tells l_X7_206 (c_X7_tells ph118.slf (i := 6) (by decide) _ _) (by decide) (Nat.le_of_ble_eq_true rfl) List.prefix_rfl (pfx_eq ph118.kk) rfl rfl (Nat.le_of_ble_eq_true rfl) rfl (dx dX7_statement 36 rfl) ?_
                          rintro _ h119 ⟨xh119, rfl, vh119, ah119, fh119, qh119, zh119, lh119, gh119⟩ kkh119
                          have ph119 := ph118.tr qh119
                          have fah119 := ph119.fa
                          have azh119 := ph119.az
                          obtain ⟨aah119, abh119, ach119⟩ := zh119
                          refine rb_ne (b := xh119) (tgt := 82) C (dx dX7_statement 37 rfl) (by decide) (fun c120 => ?_) (fun c120 => ?_)
                          ·
                            have c120 : xh119 = true := c120
                            obtain ⟨lth119, lsh119, th119, eh119, ih119⟩ := gh119 c120
                            refine r_aload_n C (dx dX7_statement 40 rfl) rfl ?_
                            refine g_X7_54 C (dx dX7_statement 41 rfl) ?_
                            refine r_aload_n C (dx dX7_statement 42 rfl) rfl ?_
                            refine g_X7_74 (x := nI (vN vh119)) C (dx dX7_statement 43 rfl) ph119.m.eN ?_
                            refine r_aald4 (j := vN vh119) C rfl rfl (by decide) rfl (by omega) (dx dX7_statement 44 rfl) ?_
                            refine r_iconst (v := nI 0) C (dx dX7_statement 45 rfl) rfl ?_
                            refine r_aload_n C (dx dX7_statement 46 rfl) rfl ?_
                            refine g_X7_181 (x := xI h119 k 28) C (dx dX7_statement 47 rfl) rfl ?_
                            refine r_iast (j := 0) C rfl rfl (by decide) rfl (by omega) (dx dX7_statement 48 rfl) ?_
                            obtain ⟨vh121, ph121, zh121⟩ : ∃ v99, Pk h (sI h119 (k + 23 + (vN vh119)) 0 (xI h119 k 28)) k z ah119 fh119 v99 ∧ Sz vh119 v99 := ⟨vset vh119 (4 + 0) (vN vh119) (xI h119 k 28), ph119.c (ph119.m.so (by omega) (by omega)) (by omega) (by omega), ⟨rfl, rfl, rfl⟩⟩
                            generalize sI h119 (k + 23 + (vN vh119)) 0 (xI h119 k 28) = h121 at ph121 ⊢
                            obtain ⟨ah121, bh121, ch121⟩ := zh121
                            refine r_aload_n C (dx dX7_statement 49 rfl) rfl ?_
                            refine r_ldcS C 17 rfl (dx dX7_statement 50 rfl) ?_
                            refine r_cvW (as := [vt 1007]) (st := []) C X I_X7_isWord l_X7_187 (c_X7_isWord ph121.slf (i := 7) (by decide)) (by decide) (Nat.le_of_ble_eq_true rfl) (pfx_eq ph121.kk) rfl rfl (Nat.le_of_ble_eq_true rfl) rfl (dx dX7_statement 51 rfl) ?_
                            rintro _ ⟨x122, hx122, rfl⟩
                            refine rb_eq (b := x122) (tgt := 135) C (dx dX7_statement 52 rfl) (by decide) (fun c123 => ?_) (fun c123 => ?_)
                            ·
                              have c123 : x122 = false := c123
                              refine r_aload_n C (dx dX7_statement 70 rfl) rfl ?_
                              refine r_ldcS C 18 rfl (dx dX7_statement 71 rfl) ?_
                              refine r_cvW (as := [vt 1008]) (st := []) C X I_X7_isWord l_X7_187 (c_X7_isWord ph121.slf (i := 8) (by decide)) (by decide) (Nat.le_of_ble_eq_true rfl) (pfx_eq ph121.kk) rfl rfl (Nat.le_of_ble_eq_true rfl) rfl (dx dX7_statement 72 rfl) ?_
                              rintro _ ⟨x124, hx124, rfl⟩
                              refine rb_eq (b := x124) (tgt := 160) C (dx dX7_statement 73 rfl) (by decide) (fun c125 => ?_) (fun c125 => ?_)
                              ·
                                have c125 : x124 = false := c125
                                refine r_aload_n C (dx dX7_statement 84 rfl) rfl ?_
                                refine r_dupR C (dx dX7_statement 85 rfl) ?_
                                refine g_X7_74 (x := nI (vN vh121)) C (dx dX7_statement 86 rfl) ph121.m.eN ?_
                                refine r_iconst (v := nI 1) C (dx dX7_statement 87 rfl) rfl ?_
                                refine rn_iadd (a := vN vh121) (b := 1) C (dx dX7_statement 88 rfl) ?_
                                refine p_X7_74 C (dx dX7_statement 89 rfl) rfl rfl ?_
                                have ph126 : Pk h (sI h121 k 16 (nI (vN vh121 + 1))) k z ah119 fh119 (vsN vh121 (vN vh121 + 1)) := ph121.fd (ph121.m.sN (n := vN vh121 + 1) (by omega)) (by decide) (by decide) (by decide) (by decide)
                                generalize sI h121 k 16 (nI (vN vh121 + 1)) = h126 at ph126 ⊢
                                have ah126 : vP (vsN vh121 (vN vh121 + 1)) = vP vh121 := rfl
                                have bh126 : vM (vsN vh121 (vN vh121 + 1)) = vM vh121 := rfl
                                have ch126 : vN (vsN vh121 (vN vh121 + 1)) = vN vh121 + 1 := rfl
                                refine r_iconst (v := nI 1) C (dx dX7_statement 90 rfl) rfl ?_
                                exact F.1 _ _ _ _ .boolean rfl rfl (dx dX7_statement 91 rfl) ph126.kk ⟨true, rfl, _, _, _, ph126, by omega, fun q => by omega⟩
                              ·
                                have c125 : x124 = true := c125
                                have ltc125 := ph121.lt (hx124 c125) (by decide)
                                refine r_aload_n C (dx dX7_statement 74 rfl) rfl ?_
                                refine r_cv (as := []) (st := []) C X I_X7_look l_X7_184 (c_X7_look ph121.lk) (by decide) (Nat.le_of_ble_eq_true rfl) List.prefix_rfl (pfx_eq ph121.kk) rfl rfl (Nat.le_of_ble_eq_true rfl) rfl (dx dX7_statement 75 rfl) ?_
                                rintro _ h127 ⟨rfl, ah127, fh127, qh127, lh127, uh127⟩ kkh127
                                have ph127 := ph121.tr qh127
                                have fah127 := ph127.fa
                                have azh127 := ph127.az
                                refine r_aload_n C (dx dX7_statement 76 rfl) rfl ?_
                                refine g_X7_54 C (dx dX7_statement 77 rfl) ?_
                                refine r_aload_n C (dx dX7_statement 78 rfl) rfl ?_
                                refine g_X7_74 (x := nI (vN vh121)) C (dx dX7_statement 79 rfl) ph127.m.eN ?_
                                refine r_aald4 (j := vN vh121) C rfl rfl (by decide) rfl (by omega) (dx dX7_statement 80 rfl) ?_
                                refine r_iconst (v := nI 2) C (dx dX7_statement 81 rfl) rfl ?_
                                refine r_iconst (v := nI 1) C (dx dX7_statement 82 rfl) rfl ?_
                                refine r_iast (j := 2) C rfl rfl (by decide) rfl (by omega) (dx dX7_statement 83 rfl) ?_
                                obtain ⟨vh128, ph128, zh128⟩ : ∃ v99, Pk h (sI h127 (k + 23 + (vN vh121)) 2 (nI 1)) k z ah127 fh127 v99 ∧ Sz vh121 v99 := ⟨vset vh121 (4 + 2) (vN vh121) (nI 1), ph127.c (ph127.m.so (by omega) (by omega)) (by omega) (by omega), ⟨rfl, rfl, rfl⟩⟩
                                generalize sI h127 (k + 23 + (vN vh121)) 2 (nI 1) = h128 at ph128 ⊢
                                obtain ⟨ah128, bh128, ch128⟩ := zh128
                                refine r_aload_n C (dx dX7_statement 84 rfl) rfl ?_
                                refine r_dupR C (dx dX7_statement 85 rfl) ?_
                                refine g_X7_74 (x := nI (vN vh128)) C (dx dX7_statement 86 rfl) ph128.m.eN ?_
                                refine r_iconst (v := nI 1) C (dx dX7_statement 87 rfl) rfl ?_
                                refine rn_iadd (a := vN vh128) (b := 1) C (dx dX7_statement 88 rfl) ?_
                                refine p_X7_74 C (dx dX7_statement 89 rfl) rfl rfl ?_
                                have ph129 : Pk h (sI h128 k 16 (nI (vN vh128 + 1))) k z ah127 fh127 (vsN vh128 (vN vh128 + 1)) := ph128.fd (ph128.m.sN (n := vN vh128 + 1) (by omega)) (by decide) (by decide) (by decide) (by decide)
                                generalize sI h128 k 16 (nI (vN vh128 + 1)) = h129 at ph129 ⊢
                                have ah129 : vP (vsN vh128 (vN vh128 + 1)) = vP vh128 := rfl
                                have bh129 : vM (vsN vh128 (vN vh128 + 1)) = vM vh128 := rfl
                                have ch129 : vN (vsN vh128 (vN vh128 + 1)) = vN vh128 + 1 := rfl
                                refine r_iconst (v := nI 1) C (dx dX7_statement 90 rfl) rfl ?_
                                exact F.1 _ _ _ _ .boolean rfl rfl (dx dX7_statement 91 rfl) ph129.kk ⟨true, rfl, _, _, _, ph129, by omega, fun q => by omega⟩
                            ·
                              have c123 : x122 = true := c123
                              have ltc123 := ph121.lt (hx122 c123) (by decide)
                              refine r_aload_n C (dx dX7_statement 53 rfl) rfl ?_
                              refine r_ldcS C 17 rfl (dx dX7_statement 54 rfl) ?_
                              refine r_iconst (v := nI 0) C (dx dX7_statement 55 rfl) rfl ?_
                              refine r_bipush (v := nI 10) C (dx dX7_statement 56 rfl) rfl ?_
                              refine r_cv (as := [vt 1007, vi (nI 0), vi (nI 10)]) (st := []) C X I_X7_tells l_X7_206 (c_X7_tells ph121.slf (i := 7) (by decide) _ _) (by decide) (Nat.le_of_ble_eq_true rfl) List.prefix_rfl (pfx_eq ph121.kk) rfl rfl (Nat.le_of_ble_eq_true rfl) rfl (dx dX7_statement 57 rfl) ?_
                              rintro _ h130 ⟨xh130, rfl, vh130, ah130, fh130, qh130, zh130, lh130, gh130⟩ kkh130
                              have ph130 := ph121.tr qh130
                              have fah130 := ph130.fa
                              have azh130 := ph130.az
                              obtain ⟨aah130, abh130, ach130⟩ := zh130
                              refine rb_ne (b := xh130) (tgt := 120) C (dx dX7_statement 58 rfl) (by decide) (fun c131 => ?_) (fun c131 => ?_)
                              ·
                                have c131 : xh130 = true := c131
                                obtain ⟨lth130, lsh130, th130, eh130, ih130⟩ := gh130 c131
                                refine r_aload_n C (dx dX7_statement 61 rfl) rfl ?_
                                refine g_X7_54 C (dx dX7_statement 62 rfl) ?_
                                refine r_aload_n C (dx dX7_statement 63 rfl) rfl ?_
                                refine g_X7_74 (x := nI (vN vh130)) C (dx dX7_statement 64 rfl) ph130.m.eN ?_
                                refine r_aald4 (j := vN vh130) C rfl rfl (by decide) rfl (by omega) (dx dX7_statement 65 rfl) ?_
                                refine r_iconst (v := nI 1) C (dx dX7_statement 66 rfl) rfl ?_
                                refine r_aload_n C (dx dX7_statement 67 rfl) rfl ?_
                                refine g_X7_181 (x := xI h130 k 28) C (dx dX7_statement 68 rfl) rfl ?_
                                refine r_iast (j := 1) C rfl rfl (by decide) rfl (by omega) (dx dX7_statement 69 rfl) ?_
                                obtain ⟨vh132, ph132, zh132⟩ : ∃ v99, Pk h (sI h130 (k + 23 + (vN vh130)) 1 (xI h130 k 28)) k z ah130 fh130 v99 ∧ Sz vh130 v99 := ⟨vset vh130 (4 + 1) (vN vh130) (xI h130 k 28), ph130.c (ph130.m.so (by omega) (by omega)) (by omega) (by omega), ⟨rfl, rfl, rfl⟩⟩
                                generalize sI h130 (k + 23 + (vN vh130)) 1 (xI h130 k 28) = h132 at ph132 ⊢
                                obtain ⟨ah132, bh132, ch132⟩ := zh132
                                refine r_aload_n C (dx dX7_statement 70 rfl) rfl ?_
                                refine r_ldcS C 18 rfl (dx dX7_statement 71 rfl) ?_
                                refine r_cvW (as := [vt 1008]) (st := []) C X I_X7_isWord l_X7_187 (c_X7_isWord ph132.slf (i := 8) (by decide)) (by decide) (Nat.le_of_ble_eq_true rfl) (pfx_eq ph132.kk) rfl rfl (Nat.le_of_ble_eq_true rfl) rfl (dx dX7_statement 72 rfl) ?_
                                rintro _ ⟨x133, hx133, rfl⟩
                                refine rb_eq (b := x133) (tgt := 160) C (dx dX7_statement 73 rfl) (by decide) (fun c134 => ?_) (fun c134 => ?_)
                                ·
                                  have c134 : x133 = false := c134
                                  refine r_aload_n C (dx dX7_statement 84 rfl) rfl ?_
                                  refine r_dupR C (dx dX7_statement 85 rfl) ?_
                                  refine g_X7_74 (x := nI (vN vh132)) C (dx dX7_statement 86 rfl) ph132.m.eN ?_
                                  refine r_iconst (v := nI 1) C (dx dX7_statement 87 rfl) rfl ?_
                                  refine rn_iadd (a := vN vh132) (b := 1) C (dx dX7_statement 88 rfl) ?_
                                  refine p_X7_74 C (dx dX7_statement 89 rfl) rfl rfl ?_
                                  have ph135 : Pk h (sI h132 k 16 (nI (vN vh132 + 1))) k z ah130 fh130 (vsN vh132 (vN vh132 + 1)) := ph132.fd (ph132.m.sN (n := vN vh132 + 1) (by omega)) (by decide) (by decide) (by decide) (by decide)
                                  generalize sI h132 k 16 (nI (vN vh132 + 1)) = h135 at ph135 ⊢
                                  have ah135 : vP (vsN vh132 (vN vh132 + 1)) = vP vh132 := rfl
                                  have bh135 : vM (vsN vh132 (vN vh132 + 1)) = vM vh132 := rfl
                                  have ch135 : vN (vsN vh132 (vN vh132 + 1)) = vN vh132 + 1 := rfl
                                  refine r_iconst (v := nI 1) C (dx dX7_statement 90 rfl) rfl ?_
                                  exact F.1 _ _ _ _ .boolean rfl rfl (dx dX7_statement 91 rfl) ph135.kk ⟨true, rfl, _, _, _, ph135, by omega, fun q => by omega⟩
                                ·
                                  have c134 : x133 = true := c134
                                  have ltc134 := ph132.lt (hx133 c134) (by decide)
                                  refine r_aload_n C (dx dX7_statement 74 rfl) rfl ?_
                                  refine r_cv (as := []) (st := []) C X I_X7_look l_X7_184 (c_X7_look ph132.lk) (by decide) (Nat.le_of_ble_eq_true rfl) List.prefix_rfl (pfx_eq ph132.kk) rfl rfl (Nat.le_of_ble_eq_true rfl) rfl (dx dX7_statement 75 rfl) ?_
                                  rintro _ h136 ⟨rfl, ah136, fh136, qh136, lh136, uh136⟩ kkh136
                                  have ph136 := ph132.tr qh136
                                  have fah136 := ph136.fa
                                  have azh136 := ph136.az
                                  refine r_aload_n C (dx dX7_statement 76 rfl) rfl ?_
                                  refine g_X7_54 C (dx dX7_statement 77 rfl) ?_
                                  refine r_aload_n C (dx dX7_statement 78 rfl) rfl ?_
                                  refine g_X7_74 (x := nI (vN vh132)) C (dx dX7_statement 79 rfl) ph136.m.eN ?_
                                  refine r_aald4 (j := vN vh132) C rfl rfl (by decide) rfl (by omega) (dx dX7_statement 80 rfl) ?_
                                  refine r_iconst (v := nI 2) C (dx dX7_statement 81 rfl) rfl ?_
                                  refine r_iconst (v := nI 1) C (dx dX7_statement 82 rfl) rfl ?_
                                  refine r_iast (j := 2) C rfl rfl (by decide) rfl (by omega) (dx dX7_statement 83 rfl) ?_
                                  obtain ⟨vh137, ph137, zh137⟩ : ∃ v99, Pk h (sI h136 (k + 23 + (vN vh132)) 2 (nI 1)) k z ah136 fh136 v99 ∧ Sz vh132 v99 := ⟨vset vh132 (4 + 2) (vN vh132) (nI 1), ph136.c (ph136.m.so (by omega) (by omega)) (by omega) (by omega), ⟨rfl, rfl, rfl⟩⟩
                                  generalize sI h136 (k + 23 + (vN vh132)) 2 (nI 1) = h137 at ph137 ⊢
                                  obtain ⟨ah137, bh137, ch137⟩ := zh137
                                  refine r_aload_n C (dx dX7_statement 84 rfl) rfl ?_
                                  refine r_dupR C (dx dX7_statement 85 rfl) ?_
                                  refine g_X7_74 (x := nI (vN vh137)) C (dx dX7_statement 86 rfl) ph137.m.eN ?_
                                  refine r_iconst (v := nI 1) C (dx dX7_statement 87 rfl) rfl ?_
                                  refine rn_iadd (a := vN vh137) (b := 1) C (dx dX7_statement 88 rfl) ?_
                                  refine p_X7_74 C (dx dX7_statement 89 rfl) rfl rfl ?_
                                  have ph138 : Pk h (sI h137 k 16 (nI (vN vh137 + 1))) k z ah136 fh136 (vsN vh137 (vN vh137 + 1)) := ph137.fd (ph137.m.sN (n := vN vh137 + 1) (by omega)) (by decide) (by decide) (by decide) (by decide)
                                  generalize sI h137 k 16 (nI (vN vh137 + 1)) = h138 at ph138 ⊢
                                  have ah138 : vP (vsN vh137 (vN vh137 + 1)) = vP vh137 := rfl
                                  have bh138 : vM (vsN vh137 (vN vh137 + 1)) = vM vh137 := rfl
                                  have ch138 : vN (vsN vh137 (vN vh137 + 1)) = vN vh137 + 1 := rfl
                                  refine r_iconst (v := nI 1) C (dx dX7_statement 90 rfl) rfl ?_
                                  exact F.1 _ _ _ _ .boolean rfl rfl (dx dX7_statement 91 rfl) ph138.kk ⟨true, rfl, _, _, _, ph138, by omega, fun q => by omega⟩
                              ·
                                have c131 : xh130 = false := c131
                                refine r_iconst (v := nI 0) C (dx dX7_statement 59 rfl) rfl ?_
                                exact F.1 _ _ _ _ .boolean rfl rfl (dx dX7_statement 60 rfl) ph130.kk ⟨false, rfl, _, _, _, ph130, by omega, fun q => by cases q⟩
                          ·
                            have c120 : xh119 = false := c120
                            refine r_iconst (v := nI 0) C (dx dX7_statement 38 rfl) rfl ?_
                            exact F.1 _ _ _ _ .boolean rfl rfl (dx dX7_statement 39 rfl) ph119.kk ⟨false, rfl, _, _, _, ph119, by omega, fun q => by cases q⟩))
            · first
              | (omega; done)
              | (
                  have c106 : vM v < 6 := c106
                  refine r_aload_n C (dx dX7_statement 19 rfl) rfl ?_
                  refine r_cv (as := []) (st := []) C X I_X7_machineTold l_X7_218 (c_X7_machineTold p.slf (by omega)) (by decide) (Nat.le_of_ble_eq_true rfl) List.prefix_rfl (pfx_eq p.kk) rfl rfl (Nat.le_of_ble_eq_true rfl) rfl (dx dX7_statement 20 rfl) ?_
                  rintro _ h139 ⟨xh139, rfl, ah139, fh139, vh139, qh139, lh139⟩ kkh139
                  have ph139 := p.tr qh139
                  have fah139 := ph139.fa
                  have azh139 := ph139.az
                  exact F.1 _ _ _ _ .boolean rfl (nar_b _) (dx dX7_statement 21 rfl) ph139.kk ⟨xh139, rfl, _, _, _, ph139, by omega, fun q => by omega⟩))
    · first
      | (omega; done)
      | (
          have c71 : vP v < 12 := c71
          refine r_aload_n C (dx dX7_statement 8 rfl) rfl ?_
          refine r_cv (as := []) (st := []) C X I_X7_partTold l_X7_215 (c_X7_partTold p.slf (by omega)) (by decide) (Nat.le_of_ble_eq_true rfl) List.prefix_rfl (pfx_eq p.kk) rfl rfl (Nat.le_of_ble_eq_true rfl) rfl (dx dX7_statement 9 rfl) ?_
          rintro _ h140 ⟨xh140, rfl, ah140, fh140, vh140, qh140, lh140⟩ kkh140
          have ph140 := p.tr qh140
          have fah140 := ph140.fa
          have azh140 := ph140.az
          exact F.1 _ _ _ _ .boolean rfl (nar_b _) (dx dX7_statement 10 rfl) ph140.kk ⟨xh140, rfl, _, _, _, ph140, by omega, fun q => by omega⟩)
set_option maxHeartbeats 4000000 in
theorem c_X7_readAll {l : Launch} {h : Hp} {k z : Nat} {v : Vg} (hm : MilAt h k v) (e8 : xI h k 8 = nI z) (bz : z ≤ 250)  : Ms l yX7_readAll cX7_readAll 1 (some .boolean) 9 [vr 7 k] h (xK h) (fun r h' => ∃ b, r = some (vi (b2i b)) ∧ ∃ a' f' v', Pk h h' k z a' f' v') := by
  refine Ms.of (by decide) (Nat.le_of_ble_eq_true rfl) (fun G C X F => ?_)
  have C : Cx G cX7_readAll 1 RX7 := C
  show Rr G 0 [(0, vr 7 k)] [] h
  have bP := hm.bP
  have bM := hm.bM
  have bN := hm.bN
  refine r_aload_n C (dx dX7_readAll 0 rfl) rfl ?_
  refine r_iconst (v := nI 1) C (dx dX7_readAll 1 rfl) rfl ?_
  refine p_X7_228 C (dx dX7_readAll 2 rfl) rfl rfl ?_
  have m1 : MilAt (sI h k 29 (nI 1)) k v := hm.f (by decide) (by decide) (by decide) (by decide)
  have q1 : xI (sI h k 29 (nI 1)) k 8 = nI z := by rw [sI_at, if_neg (by decide)]; exact e8
  have k1 : Kp k h (sI h k 29 (nI 1)) := Kp.f (by decide)
  have kk1 : xK (sI h k 29 (nI 1)) = xK h := rfl
  generalize sI h k 29 (nI 1) = h1 at m1 q1 k1 kk1 ⊢
  refine r_aload_n C (dx dX7_readAll 3 rfl) rfl ?_
  refine r_iconst (v := nI 0) C (dx dX7_readAll 4 rfl) rfl ?_
  refine p_X7_141 C (dx dX7_readAll 5 rfl) rfl rfl ?_
  have m2 : MilAt (sI h1 k 23 (nI 0)) k v := m1.f (by decide) (by decide) (by decide) (by decide)
  have q2 : xI (sI h1 k 23 (nI 0)) k 8 = nI z := by rw [sI_at, if_neg (by decide)]; exact q1
  have k2 : Kp k h (sI h1 k 23 (nI 0)) := k1.tr (Kp.f (by decide))
  have kk2 : xK (sI h1 k 23 (nI 0)) = xK h := kk1
  have e2 : xI (sI h1 k 23 (nI 0)) k 23 = nI 0 := by rw [sI_at, if_pos rfl]
  generalize sI h1 k 23 (nI 0) = h2 at m2 q2 k2 kk2 e2 ⊢
  have L2 : Lk h2 h2 k z 0 v := ⟨m2, q2, e2, Nat.zero_le _, bz, Kp.rf, rfl, rfl⟩
  refine r_aload_n C (dx dX7_readAll 6 rfl) rfl ?_
  refine r_cv (as := []) (st := []) C X I_X7_look l_X7_184 (c_X7_look L2) (by decide) (Nat.le_of_ble_eq_true rfl) List.prefix_rfl (pfx_eq kk2) rfl rfl (Nat.le_of_ble_eq_true rfl) rfl (dx dX7_readAll 7 rfl) ?_
  rintro _ h3 ⟨rfl, a3, f3, q3, l3, u3⟩ kk3
  have p3 := q3.pre k2 kk2
  have fa3 := p3.fa
  have az3 := p3.az
  refine r_aload_n C (dx dX7_readAll 8 rfl) rfl ?_
  refine r_cv (as := []) (st := []) C X I_X7_statement l_X7_231 (c_X7_statement p3.slf) (by decide) (Nat.le_of_ble_eq_true rfl) List.prefix_rfl (pfx_eq p3.kk) rfl rfl (Nat.le_of_ble_eq_true rfl) rfl (dx dX7_readAll 9 rfl) ?_
  rintro _ h1 ⟨xh1, rfl, ah1, fh1, vh1, qh1, lh1, gh1⟩ kkh1
  have ph1 := p3.tr qh1
  have fah1 := ph1.fa
  have azh1 := ph1.az
  refine rb_ne (b := xh1) (tgt := 23) C (dx dX7_readAll 10 rfl) (by decide) (fun c2 => ?_) (fun c2 => ?_)
  ·
    have c2 : xh1 = true := c2
    have lth1 := gh1 c2
    have key : ∀ (n a9 f9 : Nat) (h9 : Hp) (v9 : Vg), z - a9 = n → Pk h h9 k z a9 f9 v9 → Rr G 23 [(0, vr 7 k)] [] h9 := by
      intro n
      induction n using Nat.strongRecOn with | ind n ih => _
      intro a9 f9 h9 v9 en p9
      have az9 := p9.az
      have fa9 := p9.fa
      refine r_aload_n C (dx dX7_readAll 13 rfl) rfl ?_
      refine g_X7_151 (x := xI h9 k 24) C (dx dX7_readAll 14 rfl) rfl ?_
      refine r_if_eq (tgt := 69) C (dx dX7_readAll 15 rfl) (by decide) (fun c3 => ?_) (fun c3 => ?_)
      ·
        have c3 : xI h9 k 24 = 0 := c3
        refine r_iconst (v := nI 1) C (dx dX7_readAll 37 rfl) rfl ?_
        exact F.1 _ _ _ _ .boolean rfl rfl (dx dX7_readAll 38 rfl) p9.kk ⟨true, rfl, _, _, _, p9⟩
      ·
        have c3 : ¬ xI h9 k 24 = 0 := c3
        refine r_aload_n C (dx dX7_readAll 16 rfl) rfl ?_
        refine g_X7_151 (x := xI h9 k 24) C (dx dX7_readAll 17 rfl) rfl ?_
        refine r_iconst (v := nI 3) C (dx dX7_readAll 18 rfl) rfl ?_
        refine r_icmp_eq (tgt := 43) C (dx dX7_readAll 19 rfl) (by decide) (fun c4 => ?_) (fun c4 => ?_)
        ·
          have c4 : xI h9 k 24 = nI 3 := c4
          have ltc4 := p9.lt c4 (by decide)
          refine r_aload_n C (dx dX7_readAll 23 rfl) rfl ?_
          refine r_cv (as := []) (st := []) C X I_X7_look l_X7_184 (c_X7_look p9.lk) (by decide) (Nat.le_of_ble_eq_true rfl) List.prefix_rfl (pfx_eq p9.kk) rfl rfl (Nat.le_of_ble_eq_true rfl) rfl (dx dX7_readAll 24 rfl) ?_
          rintro _ h5 ⟨rfl, ah5, fh5, qh5, lh5, uh5⟩ kkh5
          have ph5 := p9.tr qh5
          have fah5 := ph5.fa
          have azh5 := ph5.az
          refine r_aload_n C (dx dX7_readAll 25 rfl) rfl ?_
          refine r_cv (as := []) (st := []) C X I_X7_statement l_X7_231 (c_X7_statement ph5.slf) (by decide) (Nat.le_of_ble_eq_true rfl) List.prefix_rfl (pfx_eq ph5.kk) rfl rfl (Nat.le_of_ble_eq_true rfl) rfl (dx dX7_readAll 26 rfl) ?_
          rintro _ h6 ⟨xh6, rfl, ah6, fh6, vh6, qh6, lh6, gh6⟩ kkh6
          have ph6 := ph5.tr qh6
          have fah6 := ph6.fa
          have azh6 := ph6.az
          refine rb_ne (b := xh6) (tgt := 56) C (dx dX7_readAll 27 rfl) (by decide) (fun c7 => ?_) (fun c7 => ?_)
          ·
            have c7 : xh6 = true := c7
            have lth6 := gh6 c7
            refine r_aload_n C (dx dX7_readAll 30 rfl) rfl ?_
            refine r_dupR C (dx dX7_readAll 31 rfl) ?_
            refine g_X7_228 (x := xI h6 k 29) C (dx dX7_readAll 32 rfl) rfl ?_
            refine r_iconst (v := nI 1) C (dx dX7_readAll 33 rfl) rfl ?_
            refine r_iadd C (dx dX7_readAll 34 rfl) ?_
            refine p_X7_228 C (dx dX7_readAll 35 rfl) rfl rfl ?_
            obtain ⟨vh8, ph8, zh8⟩ : ∃ v99, Pk h (sI h6 k 29 ((xI h6 k 29) + (nI 1))) k z ah6 fh6 v99 ∧ Sz vh6 v99 := ⟨vh6, ph6.fd (ph6.m.f (by decide) (by decide) (by decide) (by decide)) (by decide) (by decide) (by decide) (by decide), ⟨rfl, rfl, rfl⟩⟩
            generalize sI h6 k 29 ((xI h6 k 29) + (nI 1)) = h8 at ph8 ⊢
            obtain ⟨ah8, bh8, ch8⟩ := zh8
            refine r_goto (tgt := 23) C (dx dX7_readAll 36 rfl) (by decide) ?_
            exact ih _ (by omega) _ _ _ _ rfl ph8
          ·
            have c7 : xh6 = false := c7
            refine r_iconst (v := nI 0) C (dx dX7_readAll 28 rfl) rfl ?_
            exact F.1 _ _ _ _ .boolean rfl rfl (dx dX7_readAll 29 rfl) ph6.kk ⟨false, rfl, _, _, _, ph6⟩
        ·
          have c4 : ¬ xI h9 k 24 = nI 3 := c4
          refine r_aload_n C (dx dX7_readAll 20 rfl) rfl ?_
          refine r_cv (as := []) (st := []) C X I_X7_wrong l_X7_177 (c_X7_wrong p9.slf) (by decide) (Nat.le_of_ble_eq_true rfl) List.prefix_rfl (pfx_eq p9.kk) rfl rfl (Nat.le_of_ble_eq_true rfl) rfl (dx dX7_readAll 21 rfl) ?_
          rintro _ h9 ⟨_, rfl, rfl, vh9, qh9, zh9⟩ kkh9
          have ph9 := p9.tr qh9
          obtain ⟨ah9, bh9, ch9⟩ := zh9
          exact F.1 _ _ _ _ .boolean rfl (nar_b _) (dx dX7_readAll 22 rfl) ph9.kk ⟨false, rfl, _, _, _, ph9⟩
    exact key _ _ _ _ _ rfl ph1
  ·
    have c2 : xh1 = false := c2
    refine r_iconst (v := nI 0) C (dx dX7_readAll 11 rfl) rfl ?_
    exact F.1 _ _ _ _ .boolean rfl rfl (dx dX7_readAll 12 rfl) ph1.kk ⟨false, rfl, _, _, _, ph1⟩
