/-! PART 36: the reference: texts read -/
/-- the state while a token is looked for -/
def Lk (h0 h : Hp) (k z a : Nat) (v : Vg) : Prop := MilAt h k v ∧ xI h k 8 = nI z ∧ xI h k 23 = nI a ∧ a ≤ z ∧ z ≤ 250 ∧ Kp k h0 h ∧ xI h k 28 = xI h0 k 28 ∧ xK h = xK h0
/-- the state between: size, place, where the token begins -/
def Pk (h0 h : Hp) (k z a f : Nat) (v : Vg) : Prop := MilAt h k v ∧ xI h k 8 = nI z ∧ xI h k 23 = nI a ∧ xI h k 25 = nI f ∧ f ≤ a ∧ a ≤ z ∧ z ≤ 250 ∧ (xI h k 24 = 0 ∨ f < a) ∧ Kp k h0 h ∧ xK h = xK h0
section LK
variable {h0 h h1 h2 : Hp} {k z a a' f f' j : Nat} {v v' : Vg} {x : Int32} {y : Int64}
theorem Lk.m (p : Lk h0 h k z a v) : MilAt h k v := p.1
theorem Lk.e8 (p : Lk h0 h k z a v) : xI h k 8 = nI z := p.2.1
theorem Lk.e23 (p : Lk h0 h k z a v) : xI h k 23 = nI a := p.2.2.1
theorem Lk.az (p : Lk h0 h k z a v) : a ≤ z := p.2.2.2.1
theorem Lk.bz (p : Lk h0 h k z a v) : z ≤ 250 := p.2.2.2.2.1
theorem Lk.kp (p : Lk h0 h k z a v) : Kp k h0 h := p.2.2.2.2.2.1
theorem Lk.e28 (p : Lk h0 h k z a v) : xI h k 28 = xI h0 k 28 := p.2.2.2.2.2.2.1
theorem Lk.kk (p : Lk h0 h k z a v) : xK h = xK h0 := p.2.2.2.2.2.2.2
theorem Lk.tp (p : Lk h0 h k z a v) {i : Nat} : xI h (k + 16) i = xI h0 (k + 16) i := by rw [(p.kp.2.2 (k + 16) (fun q => by unfold VC at q; omega)).1]
theorem Lk.at (p : Lk h0 h k z a v) (ha : a' ≤ z) : Lk h0 (sI h k 23 (nI a')) k z a' v :=
  ⟨p.m.f (by decide) (by decide) (by decide) (by decide), by rw [sI_at, if_neg (by decide)]; exact p.e8, by rw [sI_at, if_pos rfl], ha, p.bz, p.kp.tr (Kp.f (by decide)), by rw [sI_at, if_neg (by decide)]; exact p.e28, p.kk⟩
theorem Lk.fd (p : Lk h0 h k z a v) (hj : j = 24 ∨ j = 25) : Lk h0 (sI h k j x) k z a v :=
  ⟨p.m.f (by omega) (by omega) (by omega) (by omega), by rw [sI_at, if_neg (by omega)]; exact p.e8, by rw [sI_at, if_neg (by omega)]; exact p.e23, p.az, p.bz, p.kp.tr (Kp.f (by omega)), by rw [sI_at, if_neg (by omega)]; exact p.e28, p.kk⟩
theorem Lk.l (p : Lk h0 h k z a v) : Lk h0 (sL h k j y) k z a v :=
  ⟨p.m.fL, p.e8, p.e23, p.az, p.bz, p.kp.tr Kp.fL, p.e28, p.kk⟩
theorem Pk.m (p : Pk h0 h k z a f v) : MilAt h k v := p.1
theorem Pk.e8 (p : Pk h0 h k z a f v) : xI h k 8 = nI z := p.2.1
theorem Pk.e23 (p : Pk h0 h k z a f v) : xI h k 23 = nI a := p.2.2.1
theorem Pk.e25 (p : Pk h0 h k z a f v) : xI h k 25 = nI f := p.2.2.2.1
theorem Pk.fa (p : Pk h0 h k z a f v) : f ≤ a := p.2.2.2.2.1
theorem Pk.az (p : Pk h0 h k z a f v) : a ≤ z := p.2.2.2.2.2.1
theorem Pk.bz (p : Pk h0 h k z a f v) : z ≤ 250 := p.2.2.2.2.2.2.1
theorem Pk.tk (p : Pk h0 h k z a f v) : xI h k 24 = 0 ∨ f < a := p.2.2.2.2.2.2.2.1
theorem Pk.kp (p : Pk h0 h k z a f v) : Kp k h0 h := p.2.2.2.2.2.2.2.2.1
theorem Pk.kk (p : Pk h0 h k z a f v) : xK h = xK h0 := p.2.2.2.2.2.2.2.2.2
theorem Pk.slf (p : Pk h0 h k z a f v) : Pk h h k z a f v := ⟨p.m, p.e8, p.e23, p.e25, p.fa, p.az, p.bz, p.tk, Kp.rf, rfl⟩
theorem Pk.lk (p : Pk h0 h k z a f v) : Lk h h k z a v := ⟨p.m, p.e8, p.e23, p.az, p.bz, Kp.rf, rfl, rfl⟩
theorem Pk.tr (p : Pk h0 h1 k z a f v) (q : Pk h1 h2 k z a' f' v') : Pk h0 h2 k z a' f' v' := ⟨q.m, q.e8, q.e23, q.e25, q.fa, q.az, q.bz, q.tk, p.kp.tr q.kp, q.kk.trans p.kk⟩
theorem Pk.pre (p : Pk h1 h2 k z a f v) (c : Kp k h0 h1) (e : xK h1 = xK h0) : Pk h0 h2 k z a f v := ⟨p.m, p.e8, p.e23, p.e25, p.fa, p.az, p.bz, p.tk, c.tr p.kp, p.kk.trans e⟩
theorem Pk.of (p : Lk h0 h k z a v) (e : xI h k 25 = nI f) (b : f ≤ a) (t : xI h k 24 = 0 ∨ f < a) : Pk h0 h k z a f v := ⟨p.m, p.e8, p.e23, e, b, p.az, p.bz, t, p.kp, p.kk⟩
/-- another cell of the village written; a field of it -/
theorem Pk.c {b : Nat} (p : Pk h0 h k z a f v) (m' : MilAt (sI h b j x) k v') (h1 : k + 17 ≤ b) (h2 : b < k + 32) : Pk h0 (sI h b j x) k z a f v' := by
  have e : xI (sI h b j x) k = xI h k := (oth_sI k (by omega)).1
  exact ⟨m', by rw [e]; exact p.e8, by rw [e]; exact p.e23, by rw [e]; exact p.e25, p.fa, p.az, p.bz, by rw [e]; exact p.tk, p.kp.tr (Kp.c h1 h2), p.kk⟩
theorem Pk.fd (p : Pk h0 h k z a f v) (m' : MilAt (sI h k j x) k v') (h1 : j ≠ 8) (h2 : j ≠ 23) (h3 : j ≠ 24) (h4 : j ≠ 25) : Pk h0 (sI h k j x) k z a f v' :=
  ⟨m', by rw [sI_at, if_neg (Ne.symm h1)]; exact p.e8, by rw [sI_at, if_neg (Ne.symm h2)]; exact p.e23, by rw [sI_at, if_neg (Ne.symm h4)]; exact p.e25, p.fa, p.az, p.bz, by rw [sI_at, if_neg (Ne.symm h3)]; exact p.tk, p.kp.tr (Kp.f h1), p.kk⟩
theorem Pk.lt (p : Pk h0 h k z a f v) {n : Nat} (e : xI h k 24 = nI n) (hn : 0 < n ∧ n < 5) : f < a := by
  rcases p.tk with q | q
  · exact absurd (e.symm.trans q) (by
      intro c; have := congrArg Int32.toInt c; rw [nI_toInt (by omega), show (0 : Int32).toInt = 0 by decide] at this; omega)
  · exact q
end LK
def ltB (x : Int32) : Bool := decide (¬ x < nI 97) && decide (¬ nI 122 < x)
def dgB (x : Int32) : Bool := decide (¬ x < nI 48) && decide (¬ nI 57 < x)
/-- a long between two ints is an int -/
theorem inL_i {F : Int64} {a b : Int32} (h : inL F a.toInt64 b.toInt64 = true) : inL F.toInt32.toInt64 a.toInt64 b.toInt64 = true := by
  have e : F.toInt32.toInt64 = F := by
    unfold inL at h
    simp only [Bool.and_eq_true, decide_eq_true_eq, Int64.le_iff_toInt_le, Int32.toInt_toInt64] at h
    have h1 := Int32.le_toInt a
    have h2 := Int32.toInt_lt b
    apply Int64.toInt_inj.mp
    rw [Int32.toInt_toInt64, Int64.toInt_toInt32]
    exact Int.bmod_eq_of_le (by omega) (by omega)
  rw [e]; exact h
theorem inL_ex {t : Int32} {n : Nat} (hn : n < 2 ^ 30) (h : inL t.toInt64 (nI 0).toInt64 (nI n - nI 1).toInt64 = true) : ∃ j, j < n ∧ t = nI j := by
  rw [show (nI 0).toInt64 = 0 by decide, inL_N hn] at h
  exact inR_ex (by omega) h
theorem inL_e0 {F : Int64} {n : Nat} (hn : n < 2 ^ 30) (h : inL F 0 (nI n - nI 1).toInt64 = true) : ∃ j, j < n ∧ F.toInt32 = nI j := by
  rw [show (0 : Int64) = (nI 0).toInt64 by decide] at h
  exact inL_ex hn (inL_i h)
set_option maxHeartbeats 4000000 in
theorem c_X7_isLetter {l : Launch} {h : Hp} (x : Int32) : Mp l yX7_isLetter cX7_isLetter 1 (some .boolean) 1 [vi x] h (vi (b2i (ltB x))) := by
  refine Ms.of (by decide) (Nat.le_of_ble_eq_true rfl) (fun G C X F => ?_)
  have C : Cx G cX7_isLetter 1 RX7 := C
  show Rr G 0 [(0, vi x)] [] h
  refine r_iload_n C (dx dX7_isLetter 0 rfl) rfl ?_
  refine r_bipush (v := nI 97) C (dx dX7_isLetter 1 rfl) rfl ?_
  refine r_icmp_lt (tgt := 16) C (dx dX7_isLetter 2 rfl) (by decide) (fun c1 => ?_) (fun c1 => ?_)
  ·
    have c1 : x < nI 97 := c1
    refine r_iconst (v := nI 0) C (dx dX7_isLetter 8 rfl) rfl ?_
    exact F.1 _ _ _ _ _ rfl rfl (dx dX7_isLetter 9 rfl) rfl ⟨congrArg (fun x => some (vi x)) (show nI 0 = b2i _ by rw [show (ltB x) = false by (unfold ltB; first | (rw [decide_eq_false (not_not_intro c1)]; rfl) | (rw [decide_eq_true c1, decide_eq_false (not_not_intro c1)]; rfl) | (rw [decide_eq_true c1, decide_eq_true c1]; rfl))]; rfl), rfl⟩
  ·
    have c1 : ¬ x < nI 97 := c1
    refine r_iload_n C (dx dX7_isLetter 3 rfl) rfl ?_
    refine r_bipush (v := nI 122) C (dx dX7_isLetter 4 rfl) rfl ?_
    refine r_icmp_gt (tgt := 16) C (dx dX7_isLetter 5 rfl) (by decide) (fun c2 => ?_) (fun c2 => ?_)
    ·
      have c2 : nI 122 < x := c2
      refine r_iconst (v := nI 0) C (dx dX7_isLetter 8 rfl) rfl ?_
      exact F.1 _ _ _ _ _ rfl rfl (dx dX7_isLetter 9 rfl) rfl ⟨congrArg (fun x => some (vi x)) (show nI 0 = b2i _ by rw [show (ltB x) = false by (unfold ltB; first | (rw [decide_eq_false (not_not_intro c1)]; rfl) | (rw [decide_eq_true c1, decide_eq_false (not_not_intro c2)]; rfl) | (rw [decide_eq_true c1, decide_eq_true c2]; rfl))]; rfl), rfl⟩
    ·
      have c2 : ¬ nI 122 < x := c2
      refine r_iconst (v := nI 1) C (dx dX7_isLetter 6 rfl) rfl ?_
      refine r_goto (tgt := 17) C (dx dX7_isLetter 7 rfl) (by decide) ?_
      exact F.1 _ _ _ _ _ rfl rfl (dx dX7_isLetter 9 rfl) rfl ⟨congrArg (fun x => some (vi x)) (show nI 1 = b2i _ by rw [show (ltB x) = true by (unfold ltB; first | (rw [decide_eq_false (not_not_intro c1)]; rfl) | (rw [decide_eq_true c1, decide_eq_false (not_not_intro c2)]; rfl) | (rw [decide_eq_true c1, decide_eq_true c2]; rfl))]; rfl), rfl⟩
set_option maxHeartbeats 4000000 in
theorem c_X7_isDigit {l : Launch} {h : Hp} (x : Int32) : Mp l yX7_isDigit cX7_isDigit 1 (some .boolean) 1 [vi x] h (vi (b2i (dgB x))) := by
  refine Ms.of (by decide) (Nat.le_of_ble_eq_true rfl) (fun G C X F => ?_)
  have C : Cx G cX7_isDigit 1 RX7 := C
  show Rr G 0 [(0, vi x)] [] h
  refine r_iload_n C (dx dX7_isDigit 0 rfl) rfl ?_
  refine r_bipush (v := nI 48) C (dx dX7_isDigit 1 rfl) rfl ?_
  refine r_icmp_lt (tgt := 16) C (dx dX7_isDigit 2 rfl) (by decide) (fun c1 => ?_) (fun c1 => ?_)
  ·
    have c1 : x < nI 48 := c1
    refine r_iconst (v := nI 0) C (dx dX7_isDigit 8 rfl) rfl ?_
    exact F.1 _ _ _ _ _ rfl rfl (dx dX7_isDigit 9 rfl) rfl ⟨congrArg (fun x => some (vi x)) (show nI 0 = b2i _ by rw [show (dgB x) = false by (unfold dgB; first | (rw [decide_eq_false (not_not_intro c1)]; rfl) | (rw [decide_eq_true c1, decide_eq_false (not_not_intro c1)]; rfl) | (rw [decide_eq_true c1, decide_eq_true c1]; rfl))]; rfl), rfl⟩
  ·
    have c1 : ¬ x < nI 48 := c1
    refine r_iload_n C (dx dX7_isDigit 3 rfl) rfl ?_
    refine r_bipush (v := nI 57) C (dx dX7_isDigit 4 rfl) rfl ?_
    refine r_icmp_gt (tgt := 16) C (dx dX7_isDigit 5 rfl) (by decide) (fun c2 => ?_) (fun c2 => ?_)
    ·
      have c2 : nI 57 < x := c2
      refine r_iconst (v := nI 0) C (dx dX7_isDigit 8 rfl) rfl ?_
      exact F.1 _ _ _ _ _ rfl rfl (dx dX7_isDigit 9 rfl) rfl ⟨congrArg (fun x => some (vi x)) (show nI 0 = b2i _ by rw [show (dgB x) = false by (unfold dgB; first | (rw [decide_eq_false (not_not_intro c1)]; rfl) | (rw [decide_eq_true c1, decide_eq_false (not_not_intro c2)]; rfl) | (rw [decide_eq_true c1, decide_eq_true c2]; rfl))]; rfl), rfl⟩
    ·
      have c2 : ¬ nI 57 < x := c2
      refine r_iconst (v := nI 1) C (dx dX7_isDigit 6 rfl) rfl ?_
      refine r_goto (tgt := 17) C (dx dX7_isDigit 7 rfl) (by decide) ?_
      exact F.1 _ _ _ _ _ rfl rfl (dx dX7_isDigit 9 rfl) rfl ⟨congrArg (fun x => some (vi x)) (show nI 1 = b2i _ by rw [show (dgB x) = true by (unfold dgB; first | (rw [decide_eq_false (not_not_intro c1)]; rfl) | (rw [decide_eq_true c1, decide_eq_false (not_not_intro c2)]; rfl) | (rw [decide_eq_true c1, decide_eq_true c2]; rfl))]; rfl), rfl⟩
