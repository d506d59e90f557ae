/-! PART 13: holdings: who is given what -/
/-- nothing outside a set of cells has changed -/
def Fs (A : Nat → Prop) (h h' : Hp) : Prop := ∀ b, ¬ A b → xI h' b = xI h b ∧ xL h' b = xL h b ∧ xN h' b = xN h b
theorem Fs.rf {A : Nat → Prop} {h : Hp} : Fs A h h := fun _ _ => ⟨rfl, rfl, rfl⟩
theorem Fs.tr {A : Nat → Prop} {h h1 h2 : Hp} (a : Fs A h h1) (b : Fs A h1 h2) : Fs A h h2 := fun q hq => ⟨(b q hq).1.trans (a q hq).1, (b q hq).2.1.trans (a q hq).2.1, (b q hq).2.2.trans (a q hq).2.2⟩
theorem Fs.of {A : Nat → Prop} {lo hi : Nat} {h h1 : Hp} (a : Fr lo hi h h1) (q : ∀ b, lo ≤ b → b < hi → A b) : Fs A h h1 := fun b hb => a b (by rcases Nat.lt_or_ge b lo with h | h; exact Or.inl h; rcases Nat.lt_or_ge b hi with h2 | h2; exact absurd (q b h h2) hb; exact Or.inr h2)
theorem Fs.mono {A B : Nat → Prop} {h h1 : Hp} (a : Fs A h h1) (q : ∀ b, A b → B b) : Fs B h h1 := fun b hb => a b (fun z => hb (q b z))
/-- the cells of the rules' room and of a village -/
def RA (k kv b : Nat) : Prop := b = k + 1 ∨ (kv ≤ b ∧ b < kv + 9)
def RoomAt (h : Hp) (k : Nat) (r : Nat → Int32) : Prop := ∀ i, i < 8 → xI h (k + 1) i = r i
theorem RoomAt.fr {h h1 : Hp} {k lo hi : Nat} {r : Nat → Int32} (a : RoomAt h k r) (f : Fr lo hi h h1) (hk : k + 2 ≤ lo ∨ hi ≤ k + 1) : RoomAt h1 k r := fun i hi => (f.I (by omega) i).trans (a i hi)
/-- the first below a number of which something holds; -1 -/
def fstF (P : Nat → Bool) (F : Nat → Int32) : Nat → Nat → Int32
  | 0, _ => -1
  | n + 1, i => if P i then F i else fstF P F n (i + 1)
theorem fst_step {P : Nat → Bool} {F : Nat → Int32} {N i : Nat} (h : i < N) : fstF P F (N - i) i = if P i then F i else fstF P F (N - (i + 1)) (i + 1) := by
  rw [show N - i = (N - (i + 1)) + 1 by omega]; rfl
theorem fst_y {P : Nat → Bool} {F : Nat → Int32} {N i : Nat} {x : Int32} (q : x = fstF P F (N - i) i) (h : i < N) (hp : P i = true) : x = F i := by rw [q, fst_step h, if_pos hp]
theorem fst_n {P : Nat → Bool} {F : Nat → Int32} {N i : Nat} {x : Int32} (q : x = fstF P F (N - i) i) (h : i < N) (hp : P i = false) : x = fstF P F (N - (i + 1)) (i + 1) := by rw [q, fst_step h, hp]; rfl
theorem fst_e {P : Nat → Bool} {F : Nat → Int32} {N : Nat} {x : Int32} (q : x = fstF P F (N - N) N) : x = -1 := by rw [q, Nat.sub_self]; rfl
def tkn (r : Nat → Int32) (x : Int32) : Nat → Int32 := fun i => if inR x 8 = true ∧ i = x.toNatClampNeg then r i - nI 1 else r i
def fwP (r : Nat → Int32) (s : Int32) (o : Nat) : Bool := decide (¬ s &&& (nI 1 <<< (nI o &&& 31)) = 0) && decide (¬ r o ≤ 0)
def fwR (r : Nat → Int32) (s : Int32) (am : Nat) : Int32 := fstF (fwP r s) nI am 0
/-- the number of a place, counted round -/
def rnd (n : Nat) (x : Int32) (i : Nat) : Int32 := if x + nI i < nI n then x + nI i else x + nI i - nI n
def nxP (n : Nat) (r : Nat → Int32) (x but : Int32) (i : Nat) : Bool := decide (¬ rnd n x i = but) && (inR (rnd n x i) n && decide (¬ r (rnd n x i).toNatClampNeg ≤ 0))
def nxR (n : Nat) (r : Nat → Int32) (x but : Int32) : Int32 := fstF (nxP n r x but) (rnd n x) n 0
/-- the greatest worth that isn't done -/
def wtS (v : Vg) (done : Int32) : Nat → Int32 × Int32
  | 0 => (-1, nI 0)
  | m + 1 => if done &&& (nI 1 <<< (nI m &&& 31)) = 0 ∧ ¬ vF v 3 m ≤ (wtS v done m).2 then (nI m, vF v 3 m) else wtS v done m
set_option maxHeartbeats 4000000 in
theorem c_X0_firstWithRoom {l : Launch} {h : Hp} {k : Nat} {r : Nat → Int32} (hr : RoomAt h k r) (s : Int32) {am : Nat} (ha : am ≤ 8) : Mp l yX0_firstWithRoom cX0_firstWithRoom 4 (some .int) 1 [vr 0 k, vi s, vi (nI am)] h (vi (fwR r s am)) := by
  refine Ms.of (by decide) (Nat.le_of_ble_eq_true rfl) (fun G C X F => ?_)
  have C : Cx G cX0_firstWithRoom 4 RX0 := C
  show Rr G 0 [(0, vr 0 k), (1, vi s), (2, vi (nI am))] [] h
  refine r_iconst (v := nI 0) C (dx dX0_firstWithRoom 0 rfl) rfl ?_
  refine r_istore_n (ls' := [(0, vr 0 k), (1, vi s), (2, vi (nI am)), (3, vi (nI 0))]) C (dx dX0_firstWithRoom 1 rfl) (by decide) [1, 2, 3, 0] rfl ?_
  refine loopU (Φ := fun p => fstF (fwP r s) (nI) (am) 0 = fstF (fwP r s) (nI) (am - p) p → Rr G 2 [(0, vr 0 k), (1, vi s), (2, vi (nI am)), (3, vi (nI p))] [] h) (N := am) ?_ ?_ 0 (Nat.zero_le _) rfl
  ·
    intro hI
    refine r_iload_n C (dx dX0_firstWithRoom 2 rfl) rfl ?_
    refine r_iload_n C (dx dX0_firstWithRoom 3 rfl) rfl ?_
    refine rn_ge (a := am) (b := am) (tgt := 38) C (by omega) (by omega) (dx dX0_firstWithRoom 4 rfl) (by decide) (fun c1 => ?_) (fun c1 => ?_)
    · first
      | (omega; done)
      | (
          have c1 : am ≤ am := c1
          refine r_iconst (v := -1) C (dx dX0_firstWithRoom 23 rfl) rfl ?_
          exact F.1 _ _ _ _ _ rfl rfl (dx dX0_firstWithRoom 24 rfl) rfl ⟨congrArg (fun x => some (vi x)) (show -1 = fwR r s am by unfold fwR; first | exact (fst_e hI).symm | exact (fst_y hI hp (by simp [fwP, c1])).symm), rfl⟩)
    · first
      | (omega; done)
      | (
          have c1 : am < am := c1
          refine r_iload_n C (dx dX0_firstWithRoom 5 rfl) rfl ?_
          refine r_bipush (v := nI 8) C (dx dX0_firstWithRoom 6 rfl) rfl ?_
          refine rn_ge (a := am) (b := 8) (tgt := 38) C (by omega) (by omega) (dx dX0_firstWithRoom 7 rfl) (by decide) (fun c2 => ?_) (fun c2 => ?_)
          · first
            | (omega; done)
            | (
                have c2 : 8 ≤ am := c2
                refine r_iconst (v := -1) C (dx dX0_firstWithRoom 23 rfl) rfl ?_
                exact F.1 _ _ _ _ _ rfl rfl (dx dX0_firstWithRoom 24 rfl) rfl ⟨congrArg (fun x => some (vi x)) (show -1 = fwR r s am by unfold fwR; first | exact (fst_e hI).symm | exact (fst_y hI hp (by simp [fwP, c1, c2])).symm), rfl⟩)
          · first
            | (omega; done))
  ·
    intro p hp ih hI
    refine r_iload_n C (dx dX0_firstWithRoom 2 rfl) rfl ?_
    refine r_iload_n C (dx dX0_firstWithRoom 3 rfl) rfl ?_
    refine rn_ge (a := p) (b := am) (tgt := 38) C (by omega) (by omega) (dx dX0_firstWithRoom 4 rfl) (by decide) (fun c4 => ?_) (fun c4 => ?_)
    · first
      | (omega; done)
      | (
          have c4 : am ≤ p := c4
          refine r_iconst (v := -1) C (dx dX0_firstWithRoom 23 rfl) rfl ?_
          exact F.1 _ _ _ _ _ rfl rfl (dx dX0_firstWithRoom 24 rfl) rfl ⟨congrArg (fun x => some (vi x)) (show -1 = fwR r s am by unfold fwR; first | exact (fst_e hI).symm | exact (fst_y hI hp (by simp [fwP, c4])).symm), rfl⟩)
    · first
      | (omega; done)
      | (
          have c4 : p < am := c4
          refine r_iload_n C (dx dX0_firstWithRoom 5 rfl) rfl ?_
          refine r_bipush (v := nI 8) C (dx dX0_firstWithRoom 6 rfl) rfl ?_
          refine rn_ge (a := p) (b := 8) (tgt := 38) C (by omega) (by omega) (dx dX0_firstWithRoom 7 rfl) (by decide) (fun c5 => ?_) (fun c5 => ?_)
          · first
            | (omega; done)
            | (
                have c5 : 8 ≤ p := c5
                refine r_iconst (v := -1) C (dx dX0_firstWithRoom 23 rfl) rfl ?_
                exact F.1 _ _ _ _ _ rfl rfl (dx dX0_firstWithRoom 24 rfl) rfl ⟨congrArg (fun x => some (vi x)) (show -1 = fwR r s am by unfold fwR; first | exact (fst_e hI).symm | exact (fst_y hI hp (by simp [fwP, c4, c5])).symm), rfl⟩)
          · first
            | (omega; done)
            | (
                have c5 : p < 8 := c5
                refine r_iload_n C (dx dX0_firstWithRoom 8 rfl) rfl ?_
                refine r_iconst (v := nI 1) C (dx dX0_firstWithRoom 9 rfl) rfl ?_
                refine r_iload_n C (dx dX0_firstWithRoom 10 rfl) rfl ?_
                refine r_ishl C (dx dX0_firstWithRoom 11 rfl) ?_
                refine r_iand C (dx dX0_firstWithRoom 12 rfl) ?_
                refine r_if_eq (tgt := 32) C (dx dX0_firstWithRoom 13 rfl) (by decide) (fun c6 => ?_) (fun c6 => ?_)
                ·
                  have c6 : s &&& ((nI 1) <<< ((nI p) &&& 31)) = 0 := c6
                  refine rn_iinc (a := p) (k := 1) (ls' := [(0, vr 0 k), (1, vi s), (2, vi (nI am)), (3, vi (nI (p + 1)))]) C (dx dX0_firstWithRoom 21 rfl) rfl rfl (by decide) [1, 2, 3, 0] rfl ?_
                  refine r_goto (tgt := 2) C (dx dX0_firstWithRoom 22 rfl) (by decide) ?_
                  exact ih (fst_n hI hp (by simp [fwP, c4, c5, c6]))
                ·
                  have c6 : ¬ s &&& ((nI 1) <<< ((nI p) &&& 31)) = 0 := c6
                  refine r_aload_n C (dx dX0_firstWithRoom 14 rfl) rfl ?_
                  refine g_X0_9 C (dx dX0_firstWithRoom 15 rfl) ?_
                  refine r_iload_n C (dx dX0_firstWithRoom 16 rfl) rfl ?_
                  refine r_iald (j := p) (x := r p) C rfl rfl (by decide) rfl (by omega) (dx dX0_firstWithRoom 17 rfl) (hr _ (by omega)) ?_
                  refine r_if_le (tgt := 32) C (dx dX0_firstWithRoom 18 rfl) (by decide) (fun c7 => ?_) (fun c7 => ?_)
                  ·
                    have c7 : r p ≤ 0 := c7
                    refine rn_iinc (a := p) (k := 1) (ls' := [(0, vr 0 k), (1, vi s), (2, vi (nI am)), (3, vi (nI (p + 1)))]) C (dx dX0_firstWithRoom 21 rfl) rfl rfl (by decide) [1, 2, 3, 0] rfl ?_
                    refine r_goto (tgt := 2) C (dx dX0_firstWithRoom 22 rfl) (by decide) ?_
                    exact ih (fst_n hI hp (by simp [fwP, c4, c5, c6, c7]))
                  ·
                    have c7 : ¬ r p ≤ 0 := c7
                    refine r_iload_n C (dx dX0_firstWithRoom 19 rfl) rfl ?_
                    exact F.1 _ _ _ _ _ rfl rfl (dx dX0_firstWithRoom 20 rfl) rfl ⟨congrArg (fun x => some (vi x)) (show nI p = fwR r s am by unfold fwR; first | exact (fst_e hI).symm | exact (fst_y hI hp (by simp [fwP, c4, c5, c6, c7])).symm), rfl⟩))
theorem tkn_at {h : Hp} {k o : Nat} {r : Nat → Int32} (hr : RoomAt h k r) (ho : o < 8) : RoomAt (sI h (k + 1) o (r o - nI 1)) k (tkn r (nI o)) := by
  intro i hi
  have e : inR (nI o) 8 = true := by rw [inR_nI (by omega)]; exact decide_eq_true ho
  have c : (nI o).toNatClampNeg = o := nI_clamp (by omega)
  rw [sI_at, hr i hi]; unfold tkn
  by_cases q : i = o
  · subst q; rw [if_pos rfl, if_pos ⟨e, c.symm⟩]
  · rw [if_neg q, if_neg (by rw [c]; exact fun z => q z.2)]
theorem tkn_no {r : Nat → Int32} {x : Int32} (e : inR x 8 = false) : tkn r x = r := by funext i; unfold tkn; simp [e]
set_option maxHeartbeats 4000000 in
theorem c_X0_taken {l : Launch} {h : Hp} {k : Nat} {r : Nat → Int32} (hr : RoomAt h k r) (x : Int32) : Ms l yX0_taken cX0_taken 2 (some .int) 1 [vr 0 k, vi x] h (xK h) (fun r0 h' => r0 = some (vi x) ∧ RoomAt h' k (tkn r x) ∧ Fr (k + 1) (k + 2) h h') := by
  refine Ms.of (by decide) (Nat.le_of_ble_eq_true rfl) (fun G C X F => ?_)
  have C : Cx G cX0_taken 2 RX0 := C
  show Rr G 0 [(0, vr 0 k), (1, vi x)] [] h
  rcases inR_c x (n := 8) (by omega) with ⟨o, ho, rfl, eo⟩ | eo
  ·
    refine r_iload_n C (dx dX0_taken 0 rfl) rfl ?_
    refine r_if_lt (tgt := 20) C (dx dX0_taken 1 rfl) (by decide) (fun c1 => ?_) (fun c1 => ?_)
    · exact absurd c1 (nI_pos (by omega))
    ·
      have c1 : ¬ nI o < 0 := c1
      refine r_iload_n C (dx dX0_taken 2 rfl) rfl ?_
      refine r_bipush (v := nI 8) C (dx dX0_taken 3 rfl) rfl ?_
      refine rn_ge (a := o) (b := 8) (tgt := 20) C (by omega) (by omega) (dx dX0_taken 4 rfl) (by decide) (fun c2 => ?_) (fun c2 => ?_)
      · omega
      ·
        have c2 : o < 8 := c2
        refine r_aload_n C (dx dX0_taken 5 rfl) rfl ?_
        refine g_X0_9 C (dx dX0_taken 6 rfl) ?_
        refine r_iload_n C (dx dX0_taken 7 rfl) rfl ?_
        refine r_dup2 C (dx dX0_taken 8 rfl) ?_
        refine r_iald (j := o) (x := r o) C rfl rfl (by decide) rfl (by omega) (dx dX0_taken 9 rfl) (hr _ (by omega)) ?_
        refine r_iconst (v := nI 1) C (dx dX0_taken 10 rfl) rfl ?_
        refine r_isub C (dx dX0_taken 11 rfl) ?_
        refine r_iast (j := o) C rfl rfl (by decide) rfl (by omega) (dx dX0_taken 12 rfl) ?_
        have mh3 : RoomAt (sI h (k + 1) o ((r o) - (nI 1))) k (tkn r (nI o)) := tkn_at hr ho
        have fh3 : Fr (k + 1) (k + 2) h (sI h (k + 1) o ((r o) - (nI 1))) := Fr.sI (by omega) (by omega)
        have kh3 : xK (sI h (k + 1) o ((r o) - (nI 1))) = xK h := rfl
        generalize sI h (k + 1) o ((r o) - (nI 1)) = h3 at mh3 fh3 kh3 ⊢
        refine r_iload_n C (dx dX0_taken 13 rfl) rfl ?_
        exact F.1 _ _ _ _ _ rfl rfl (dx dX0_taken 14 rfl) kh3 ⟨congrArg (fun x => some (vi x)) rfl, mh3, fh3⟩
  ·
    refine r_iload_n C (dx dX0_taken 0 rfl) rfl ?_
    refine r_if_lt (tgt := 20) C (dx dX0_taken 1 rfl) (by decide) (fun c4 => ?_) (fun c4 => ?_)
    ·
      have c4 : x < 0 := c4
      refine r_iload_n C (dx dX0_taken 13 rfl) rfl ?_
      exact F.1 _ _ _ _ _ rfl rfl (dx dX0_taken 14 rfl) rfl ⟨congrArg (fun x => some (vi x)) rfl, (tkn_no eo).symm ▸ hr, Fr.rf⟩
    ·
      have c4 : ¬ x < 0 := c4
      refine r_iload_n C (dx dX0_taken 2 rfl) rfl ?_
      refine r_bipush (v := nI 8) C (dx dX0_taken 3 rfl) rfl ?_
      refine r_icmp_ge (tgt := 20) C (dx dX0_taken 4 rfl) (by decide) (fun c5 => ?_) (fun c5 => ?_)
      ·
        have c5 : nI 8 ≤ x := c5
        refine r_iload_n C (dx dX0_taken 13 rfl) rfl ?_
        exact F.1 _ _ _ _ _ rfl rfl (dx dX0_taken 14 rfl) rfl ⟨congrArg (fun x => some (vi x)) rfl, (tkn_no eo).symm ▸ hr, Fr.rf⟩
      · exact absurd ((inR_ok (n := 8) (by omega) (by assumption) c5).symm.trans eo) (by decide)
