section
/-! PART 13: holdings: who is given what -/
/-- nothing outside a set of cells has changed -/
def Fs (A : Nat → Prop) (h h' : Hp) : Prop := ∀ b, ¬ A b → xI h' b = xI h b ∧ xL h' b = xL h b ∧ xN h' b = xN h b
theorem Fs.rf {A : Nat → Prop} {h : Hp} : Fs A h h := fun _ _ => ⟨rfl, rfl, rfl⟩
theorem Fs.tr {A : Nat → Prop} {h h1 h2 : Hp} (a : Fs A h h1) (b : Fs A h1 h2) : Fs A h h2 := fun q hq => ⟨(b q hq).1.trans (a q hq).1, (b q hq).2.1.trans (a q hq).2.1, (b q hq).2.2.trans (a q hq).2.2⟩
theorem Fs.of {A : Nat → Prop} {lo hi : Nat} {h h1 : Hp} (a : Fr lo hi h h1) (q : ∀ b, lo ≤ b → b < hi → A b) : Fs A h h1 := fun b hb => a b (by rcases Nat.lt_or_ge b lo with h | h; exact Or.inl h; rcases Nat.lt_or_ge b hi with h2 | h2; exact absurd (q b h h2) hb; exact Or.inr h2)
theorem Fs.mono {A B : Nat → Prop} {h h1 : Hp} (a : Fs A h h1) (q : ∀ b, A b → B b) : Fs B h h1 := fun b hb => a b (fun z => hb (q b z))
/-- the cells of the rules' room and of a village -/
def RA (k kv b : Nat) : Prop := b = k + 1 ∨ (kv ≤ b ∧ b < kv + 9)
def RoomAt (h : Hp) (k : Nat) (r : Nat → Int32) : Prop := ∀ i, i < 8 → xI h (k + 1) i = r i
theorem RoomAt.fr {h h1 : Hp} {k lo hi : Nat} {r : Nat → Int32} (a : RoomAt h k r) (f : Fr lo hi h h1) (hk : k + 2 ≤ lo ∨ hi ≤ k + 1) : RoomAt h1 k r := fun i hi => (f.I (by omega) i).trans (a i hi)
/-- the first below a number of which something holds; -1 -/
def fstF (P : Nat → Bool) (F : Nat → Int32) : Nat → Nat → Int32
  | 0, _ => -1
  | n + 1, i => if P i then F i else fstF P F n (i + 1)
theorem fst_step {P : Nat → Bool} {F : Nat → Int32} {N i : Nat} (h : i < N) : fstF P F (N - i) i = if P i then F i else fstF P F (N - (i + 1)) (i + 1) := by
  rw [show N - i = (N - (i + 1)) + 1 by omega]; rfl
theorem fst_y {P : Nat → Bool} {F : Nat → Int32} {N i : Nat} {x : Int32} (q : x = fstF P F (N - i) i) (h : i < N) (hp : P i = true) : x = F i := by rw [q, fst_step h, if_pos hp]
theorem fst_n {P : Nat → Bool} {F : Nat → Int32} {N i : Nat} {x : Int32} (q : x = fstF P F (N - i) i) (h : i < N) (hp : P i = false) : x = fstF P F (N - (i + 1)) (i + 1) := by rw [q, fst_step h, hp]; rfl
theorem fst_e {P : Nat → Bool} {F : Nat → Int32} {N : Nat} {x : Int32} (q : x = fstF P F (N - N) N) : x = -1 := by rw [q, Nat.sub_self]; rfl
def tkn (r : Nat → Int32) (x : Int32) : Nat → Int32 := fun i => if inR x 8 = true ∧ i = x.toNatClampNeg then r i - nI 1 else r i
def fwP (r : Nat → Int32) (s : Int32) (o : Nat) : Bool := decide (¬ s &&& (nI 1 <<< (nI o &&& 31)) = 0) && decide (¬ r o ≤ 0)
def fwR (r : Nat → Int32) (s : Int32) (am : Nat) : Int32 := fstF (fwP r s) nI am 0
/-- the number of a place, counted round -/
def rnd (n : Nat) (x : Int32) (i : Nat) : Int32 := if x + nI i < nI n then x + nI i else x + nI i - nI n
def nxP (n : Nat) (r : Nat → Int32) (x but : Int32) (i : Nat) : Bool := decide (¬ rnd n x i = but) && (inR (rnd n x i) n && decide (¬ r (rnd n x i).toNatClampNeg ≤ 0))
def nxR (n : Nat) (r : Nat → Int32) (x but : Int32) : Int32 := fstF (nxP n r x but) (rnd n x) n 0
/-- the greatest worth that isn't done -/
def wtS (v : Vg) (done : Int32) : Nat → Int32 × Int32
  | 0 => (-1, nI 0)
  | m + 1 => if done &&& (nI 1 <<< (nI m &&& 31)) = 0 ∧ ¬ vF v 3 m ≤ (wtS v done m).2 then (nI m, vF v 3 m) else wtS v done m
set_option maxHeartbeats 4000000 in
theorem c_X0_firstWithRoom {l : Launch} {h : Hp} {k : Nat} {r : Nat → Int32} (hr : RoomAt h k r) (s : Int32) {am : Nat} (ha : am ≤ 8) : Mp l yX0_firstWithRoom cX0_firstWithRoom 4 (some .int) 1 [vr 0 k, vi s, vi (nI am)] h (vi (fwR r s am)) := by
  refine Ms.of (by decide) (Nat.le_of_ble_eq_true rfl) (fun G C X F => ?_)
  have C : Cx G cX0_firstWithRoom 4 RX0 := C
  show Rr G 0 [(0, vr 0 k), (1, vi s), (2, vi (nI am))] [] h
  refine r_iconst (v := nI 0) C (dx dX0_firstWithRoom 0 rfl) rfl ?_
  refine r_istore_n (ls' := [(0, vr 0 k), (1, vi s), (2, vi (nI am)), (3, vi (nI 0))]) C (dx dX0_firstWithRoom 1 rfl) (by decide) [1, 2, 3, 0] rfl ?_
  refine loopU (Φ := fun p => fstF (fwP r s) (nI) (am) 0 = fstF (fwP r s) (nI) (am - p) p → Rr G 2 [(0, vr 0 k), (1, vi s), (2, vi (nI am)), (3, vi (nI p))] [] h) (N := am) ?_ ?_ 0 (Nat.zero_le _) rfl
  ·
    intro hI
    refine r_iload_n C (dx dX0_firstWithRoom 2 rfl) rfl ?_
    refine r_iload_n C (dx dX0_firstWithRoom 3 rfl) rfl ?_
    refine rn_ge (a := am) (b := am) (tgt := 38) C (by omega) (by omega) (dx dX0_firstWithRoom 4 rfl) (by decide) (fun c1 => ?_) (fun c1 => ?_)
    · first
      | (omega; done)
      | (
          have c1 : am ≤ am := c1
          refine r_iconst (v := -1) C (dx dX0_firstWithRoom 23 rfl) rfl ?_
          exact F.1 _ _ _ _ _ rfl rfl (dx dX0_firstWithRoom 24 rfl) rfl ⟨congrArg (fun x => some (vi x)) (show -1 = fwR r s am by unfold fwR; first | exact (fst_e hI).symm | exact (fst_y hI hp (by simp [fwP, c1])).symm), rfl⟩)
    · first
      | (omega; done)
      | (
          have c1 : am < am := c1
          refine r_iload_n C (dx dX0_firstWithRoom 5 rfl) rfl ?_
          refine r_bipush (v := nI 8) C (dx dX0_firstWithRoom 6 rfl) rfl ?_
          refine rn_ge (a := am) (b := 8) (tgt := 38) C (by omega) (by omega) (dx dX0_firstWithRoom 7 rfl) (by decide) (fun c2 => ?_) (fun c2 => ?_)
          · first
            | (omega; done)
            | (
                have c2 : 8 ≤ am := c2
                refine r_iconst (v := -1) C (dx dX0_firstWithRoom 23 rfl) rfl ?_
                exact F.1 _ _ _ _ _ rfl rfl (dx dX0_firstWithRoom 24 rfl) rfl ⟨congrArg (fun x => some (vi x)) (show -1 = fwR r s am by unfold fwR; first | exact (fst_e hI).symm | exact (fst_y hI hp (by simp [fwP, c1, c2])).symm), rfl⟩)
          · first
            | (omega; done))
  ·
    intro p hp ih hI
    refine r_iload_n C (dx dX0_firstWithRoom 2 rfl) rfl ?_
    refine r_iload_n C (dx dX0_firstWithRoom 3 rfl) rfl ?_
    refine rn_ge (a := p) (b := am) (tgt := 38) C (by omega) (by omega) (dx dX0_firstWithRoom 4 rfl) (by decide) (fun c4 => ?_) (fun c4 => ?_)
    · first
      | (omega; done)
      | (
          have c4 : am ≤ p := c4
          refine r_iconst (v := -1) C (dx dX0_firstWithRoom 23 rfl) rfl ?_
          exact F.1 _ _ _ _ _ rfl rfl (dx dX0_firstWithRoom 24 rfl) rfl ⟨congrArg (fun x => some (vi x)) (show -1 = fwR r s am by unfold fwR; first | exact (fst_e hI).symm | exact (fst_y hI hp (by simp [fwP, c4])).symm), rfl⟩)
    · first
      | (omega; done)
      | (
          have c4 : p < am := c4
          refine r_iload_n C (dx dX0_firstWithRoom 5 rfl) rfl ?_
          refine r_bipush (v := nI 8) C (dx dX0_firstWithRoom 6 rfl) rfl ?_
          refine rn_ge (a := p) (b := 8) (tgt := 38) C (by omega) (by omega) (dx dX0_firstWithRoom 7 rfl) (by decide) (fun c5 => ?_) (fun c5 => ?_)
          · first
            | (omega; done)
            | (
                have c5 : 8 ≤ p := c5
                refine r_iconst (v := -1) C (dx dX0_firstWithRoom 23 rfl) rfl ?_
                exact F.1 _ _ _ _ _ rfl rfl (dx dX0_firstWithRoom 24 rfl) rfl ⟨congrArg (fun x => some (vi x)) (show -1 = fwR r s am by unfold fwR; first | exact (fst_e hI).symm | exact (fst_y hI hp (by simp [fwP, c4, c5])).symm), rfl⟩)
          · first
            | (omega; done)
            | (
                have c5 : p < 8 := c5
                refine r_iload_n C (dx dX0_firstWithRoom 8 rfl) rfl ?_
                refine r_iconst (v := nI 1) C (dx dX0_firstWithRoom 9 rfl) rfl ?_
                refine r_iload_n C (dx dX0_firstWithRoom 10 rfl) rfl ?_
                refine r_ishl C (dx dX0_firstWithRoom 11 rfl) ?_
                refine r_iand C (dx dX0_firstWithRoom 12 rfl) ?_
                refine r_if_eq (tgt := 32) C (dx dX0_firstWithRoom 13 rfl) (by decide) (fun c6 => ?_) (fun c6 => ?_)
                ·
                  have c6 : s &&& ((nI 1) <<< ((nI p) &&& 31)) = 0 := c6
                  refine rn_iinc (a := p) (k := 1) (ls' := [(0, vr 0 k), (1, vi s), (2, vi (nI am)), (3, vi (nI (p + 1)))]) C (dx dX0_firstWithRoom 21 rfl) rfl rfl (by decide) [1, 2, 3, 0] rfl ?_
                  refine r_goto (tgt := 2) C (dx dX0_firstWithRoom 22 rfl) (by decide) ?_
                  exact ih (fst_n hI hp (by simp [fwP, c4, c5, c6]))
                ·
                  have c6 : ¬ s &&& ((nI 1) <<< ((nI p) &&& 31)) = 0 := c6
                  refine r_aload_n C (dx dX0_firstWithRoom 14 rfl) rfl ?_
                  refine g_X0_9 C (dx dX0_firstWithRoom 15 rfl) ?_
                  refine r_iload_n C (dx dX0_firstWithRoom 16 rfl) rfl ?_
                  refine r_iald (j := p) (x := r p) C rfl rfl (by decide) rfl (by omega) (dx dX0_firstWithRoom 17 rfl) (hr _ (by omega)) ?_
                  refine r_if_le (tgt := 32) C (dx dX0_firstWithRoom 18 rfl) (by decide) (fun c7 => ?_) (fun c7 => ?_)
                  ·
                    have c7 : r p ≤ 0 := c7
                    refine rn_iinc (a := p) (k := 1) (ls' := [(0, vr 0 k), (1, vi s), (2, vi (nI am)), (3, vi (nI (p + 1)))]) C (dx dX0_firstWithRoom 21 rfl) rfl rfl (by decide) [1, 2, 3, 0] rfl ?_
                    refine r_goto (tgt := 2) C (dx dX0_firstWithRoom 22 rfl) (by decide) ?_
                    exact ih (fst_n hI hp (by simp [fwP, c4, c5, c6, c7]))
                  ·
                    have c7 : ¬ r p ≤ 0 := c7
                    refine r_iload_n C (dx dX0_firstWithRoom 19 rfl) rfl ?_
                    exact F.1 _ _ _ _ _ rfl rfl (dx dX0_firstWithRoom 20 rfl) rfl ⟨congrArg (fun x => some (vi x)) (show nI p = fwR r s am by unfold fwR; first | exact (fst_e hI).symm | exact (fst_y hI hp (by simp [fwP, c4, c5, c6, c7])).symm), rfl⟩))
theorem tkn_at {h : Hp} {k o : Nat} {r : Nat → Int32} (hr : RoomAt h k r) (ho : o < 8) : RoomAt (sI h (k + 1) o (r o - nI 1)) k (tkn r (nI o)) := by
  intro i hi
  have e : inR (nI o) 8 = true := by rw [inR_nI (by omega)]; exact decide_eq_true ho
  have c : (nI o).toNatClampNeg = o := nI_clamp (by omega)
  rw [sI_at, hr i hi]; unfold tkn
  by_cases q : i = o
  · subst q; rw [if_pos rfl, if_pos ⟨e, c.symm⟩]
  · rw [if_neg q, if_neg (by rw [c]; exact fun z => q z.2)]
theorem tkn_no {r : Nat → Int32} {x : Int32} (e : inR x 8 = false) : tkn r x = r := by funext i; unfold tkn; simp [e]
set_option maxHeartbeats 4000000 in
theorem c_X0_taken {l : Launch} {h : Hp} {k : Nat} {r : Nat → Int32} (hr : RoomAt h k r) (x : Int32) : Ms l yX0_taken cX0_taken 2 (some .int) 1 [vr 0 k, vi x] h (xK h) (fun r0 h' => r0 = some (vi x) ∧ RoomAt h' k (tkn r x) ∧ Fr (k + 1) (k + 2) h h') := by
  refine Ms.of (by decide) (Nat.le_of_ble_eq_true rfl) (fun G C X F => ?_)
  have C : Cx G cX0_taken 2 RX0 := C
  show Rr G 0 [(0, vr 0 k), (1, vi x)] [] h
  rcases inR_c x (n := 8) (by omega) with ⟨o, ho, rfl, eo⟩ | eo
  ·
    refine r_iload_n C (dx dX0_taken 0 rfl) rfl ?_
    refine r_if_lt (tgt := 20) C (dx dX0_taken 1 rfl) (by decide) (fun c1 => ?_) (fun c1 => ?_)
    · exact absurd c1 (nI_pos (by omega))
    ·
      have c1 : ¬ nI o < 0 := c1
      refine r_iload_n C (dx dX0_taken 2 rfl) rfl ?_
      refine r_bipush (v := nI 8) C (dx dX0_taken 3 rfl) rfl ?_
      refine rn_ge (a := o) (b := 8) (tgt := 20) C (by omega) (by omega) (dx dX0_taken 4 rfl) (by decide) (fun c2 => ?_) (fun c2 => ?_)
      · omega
      ·
        have c2 : o < 8 := c2
        refine r_aload_n C (dx dX0_taken 5 rfl) rfl ?_
        refine g_X0_9 C (dx dX0_taken 6 rfl) ?_
        refine r_iload_n C (dx dX0_taken 7 rfl) rfl ?_
        refine r_dup2 C (dx dX0_taken 8 rfl) ?_
        refine r_iald (j := o) (x := r o) C rfl rfl (by decide) rfl (by omega) (dx dX0_taken 9 rfl) (hr _ (by omega)) ?_
        refine r_iconst (v := nI 1) C (dx dX0_taken 10 rfl) rfl ?_
        refine r_isub C (dx dX0_taken 11 rfl) ?_
        refine r_iast (j := o) C rfl rfl (by decide) rfl (by omega) (dx dX0_taken 12 rfl) ?_
        have mh3 : RoomAt (sI h (k + 1) o ((r o) - (nI 1))) k (tkn r (nI o)) := tkn_at hr ho
        have fh3 : Fr (k + 1) (k + 2) h (sI h (k + 1) o ((r o) - (nI 1))) := Fr.sI (by omega) (by omega)
        have kh3 : xK (sI h (k + 1) o ((r o) - (nI 1))) = xK h := rfl
        generalize sI h (k + 1) o ((r o) - (nI 1)) = h3 at mh3 fh3 kh3 ⊢
        refine r_iload_n C (dx dX0_taken 13 rfl) rfl ?_
        exact F.1 _ _ _ _ _ rfl rfl (dx dX0_taken 14 rfl) kh3 ⟨congrArg (fun x => some (vi x)) rfl, mh3, fh3⟩
  ·
    refine r_iload_n C (dx dX0_taken 0 rfl) rfl ?_
    refine r_if_lt (tgt := 20) C (dx dX0_taken 1 rfl) (by decide) (fun c4 => ?_) (fun c4 => ?_)
    ·
      have c4 : x < 0 := c4
      refine r_iload_n C (dx dX0_taken 13 rfl) rfl ?_
      exact F.1 _ _ _ _ _ rfl rfl (dx dX0_taken 14 rfl) rfl ⟨congrArg (fun x => some (vi x)) rfl, (tkn_no eo).symm ▸ hr, Fr.rf⟩
    ·
      have c4 : ¬ x < 0 := c4
      refine r_iload_n C (dx dX0_taken 2 rfl) rfl ?_
      refine r_bipush (v := nI 8) C (dx dX0_taken 3 rfl) rfl ?_
      refine r_icmp_ge (tgt := 20) C (dx dX0_taken 4 rfl) (by decide) (fun c5 => ?_) (fun c5 => ?_)
      ·
        have c5 : nI 8 ≤ x := c5
        refine r_iload_n C (dx dX0_taken 13 rfl) rfl ?_
        exact F.1 _ _ _ _ _ rfl rfl (dx dX0_taken 14 rfl) rfl ⟨congrArg (fun x => some (vi x)) rfl, (tkn_no eo).symm ▸ hr, Fr.rf⟩
      · exact absurd ((inR_ok (n := 8) (by omega) (by assumption) c5).symm.trans eo) (by decide)
theorem inR_at {x : Int32} {n : Nat} (hn : n < 2 ^ 31) (h : inR x n = true) : x = nI x.toNatClampNeg ∧ x.toNatClampNeg < n := by
  rcases inR_c x hn with ⟨j, hj, rfl, _⟩ | q
  · rw [nI_clamp (by omega)]; exact ⟨rfl, hj⟩
  · rw [q] at h; cases h
def sf (f : Nat → Int32) (i : Nat) (x : Int32) : Nat → Int32 := fun j => if j = i then x else f j
def vcol (v : Vg) (c : Nat) (f : Nat → Int32) : Vg := (vP v, vM v, vN v, fun c' i => if c' = c then f i else vF v c' i, vS v)
theorem vset_col {v : Vg} {c : Nat} {f : Nat → Int32} {i : Nat} {x : Int32} : vset (vcol v c f) c i x = vcol v c (sf f i x) := by
  unfold vset vcol sf
  refine Prod.ext rfl (Prod.ext rfl (Prod.ext rfl (Prod.ext ?_ rfl)))
  funext c' j
  simp only
  by_cases h1 : c' = c <;> by_cases h2 : j = i <;> simp [h1, h2, vF]
theorem vcol_id {v : Vg} {c : Nat} : vcol v c (vF v c) = v := by
  unfold vcol
  refine Prod.ext rfl (Prod.ext rfl (Prod.ext rfl (Prod.ext ?_ rfl)))
  funext c' j
  simp only
  by_cases h1 : c' = c <;> simp [h1, vF]
/-- round and round: one by one; c the column written -/
def gvR (n : Nat) (bt : (Nat → Int32) → Nat → Int32) (f r : Nat → Int32) (x : Int32) : Nat → (Nat → Int32) × (Nat → Int32) × Int32
  | 0 => (f, r, x)
  | p + 1 => (sf (gvR n bt f r x p).1 p (nxR n (gvR n bt f r x p).2.1 (gvR n bt f r x p).2.2 (bt (gvR n bt f r x p).1 p)),
      tkn (gvR n bt f r x p).2.1 (nxR n (gvR n bt f r x p).2.1 (gvR n bt f r x p).2.2 (bt (gvR n bt f r x p).1 p)),
      if nxR n (gvR n bt f r x p).2.1 (gvR n bt f r x p).2.2 (bt (gvR n bt f r x p).1 p) = -1 then (gvR n bt f r x p).2.2 else nxR n (gvR n bt f r x p).2.1 (gvR n bt f r x p).2.2 (bt (gvR n bt f r x p).1 p) + nI 1)
/-- the one with room who is away least -/
def suR (v : Vg) (r : Nat → Int32) : Nat → Int32 × Int32
  | 0 => (-1, nI 11)
  | o + 1 => if ¬ (suR v r o).2 ≤ vF v 5 o ∧ ¬ r o ≤ 0 then (nI o, vF v 5 o) else suR v r o
def gvS (v : Vg) (f r : Nat → Int32) : Nat → (Nat → Int32) × (Nat → Int32)
  | 0 => (f, r)
  | p + 1 => (sf (gvS v f r p).1 p (suR v (gvS v f r p).2 (vN v)).1, tkn (gvS v f r p).2 (suR v (gvS v f r p).2 (vN v)).1)
set_option maxHeartbeats 4000000 in
theorem c_X0_worthiest {l : Launch} {h : Hp} {k kv : Nat} {v : Vg} {r : Nat → Int32} (hv : VilAt h kv v) (hr : RoomAt h k r) (hd : k + 2 ≤ kv ∨ kv + 9 ≤ k) (s : Int32) : Mp l yX0_worthiest cX0_worthiest 6 (some .int) 1 [vr 0 k, vr 5 kv, vi s] h (vi ((wtS v s (vM v)).1)) := by
  refine Ms.of (by decide) (Nat.le_of_ble_eq_true rfl) (fun G C X F => ?_)
  have C : Cx G cX0_worthiest 6 RX0 := C
  show Rr G 0 [(0, vr 0 k), (1, vr 5 kv), (2, vi s)] [] h
  have bP := hv.bP
  have bM := hv.bM
  have bN := hv.bN
  refine r_iconst (v := -1) C (dx dX0_worthiest 0 rfl) rfl ?_
  refine r_istore_n (ls' := [(0, vr 0 k), (1, vr 5 kv), (2, vi s), (3, vi (-1))]) C (dx dX0_worthiest 1 rfl) (by decide) [1, 2, 3, 0] rfl ?_
  refine r_iconst (v := nI 0) C (dx dX0_worthiest 2 rfl) rfl ?_
  refine r_istore (ls' := [(0, vr 0 k), (1, vr 5 kv), (2, vi s), (3, vi (-1)), (4, vi (nI 0))]) C (dx dX0_worthiest 3 rfl) (by decide) [1, 2, 3, 4, 0] rfl ?_
  refine r_iconst (v := nI 0) C (dx dX0_worthiest 4 rfl) rfl ?_
  refine r_istore (ls' := [(0, vr 0 k), (1, vr 5 kv), (2, vi s), (3, vi (-1)), (4, vi (nI 0)), (5, vi (nI 0))]) C (dx dX0_worthiest 5 rfl) (by decide) [1, 2, 3, 4, 5, 0] rfl ?_
  refine loopU (Φ := fun p => Rr G 8 [(0, vr 0 k), (1, vr 5 kv), (2, vi s), (3, vi ((wtS v s p).1)), (4, vi ((wtS v s p).2)), (5, vi (nI p))] [] h) (N := vM v) ?_ ?_ 0 (Nat.zero_le _)
  ·
    refine r_iload C (dx dX0_worthiest 6 rfl) rfl ?_
    refine r_aload_n C (dx dX0_worthiest 7 rfl) rfl ?_
    refine g_X0_54 (x := nI (vM v)) C (dx dX0_worthiest 8 rfl) hv.eM ?_
    refine rn_ge (a := vM v) (b := vM v) (tgt := 56) C (by omega) (by omega) (dx dX0_worthiest 9 rfl) (by decide) (fun c1 => ?_) (fun c1 => ?_)
    · first
      | (omega; done)
      | (
          have c1 : vM v ≤ vM v := c1
          refine r_iload_n C (dx dX0_worthiest 31 rfl) rfl ?_
          exact F.1 _ _ _ _ _ rfl rfl (dx dX0_worthiest 32 rfl) rfl ⟨congrArg (fun x => some (vi x)) rfl, rfl⟩)
    · first
      | (omega; done)
  ·
    intro p hp ih
    refine r_iload C (dx dX0_worthiest 6 rfl) rfl ?_
    refine r_aload_n C (dx dX0_worthiest 7 rfl) rfl ?_
    refine g_X0_54 (x := nI (vM v)) C (dx dX0_worthiest 8 rfl) hv.eM ?_
    refine rn_ge (a := p) (b := vM v) (tgt := 56) C (by omega) (by omega) (dx dX0_worthiest 9 rfl) (by decide) (fun c3 => ?_) (fun c3 => ?_)
    · first
      | (omega; done)
      | (
          have c3 : vM v ≤ p := c3
          refine r_iload_n C (dx dX0_worthiest 31 rfl) rfl ?_
          exact F.1 _ _ _ _ _ rfl rfl (dx dX0_worthiest 32 rfl) rfl ⟨congrArg (fun x => some (vi x)) (show (wtS v s p).1 = (wtS v s (vM v)).1 by rfl), rfl⟩)
    · first
      | (omega; done)
      | (
          have c3 : p < vM v := c3
          refine r_iload_n C (dx dX0_worthiest 10 rfl) rfl ?_
          refine r_iconst (v := nI 1) C (dx dX0_worthiest 11 rfl) rfl ?_
          refine r_iload C (dx dX0_worthiest 12 rfl) rfl ?_
          refine r_ishl C (dx dX0_worthiest 13 rfl) ?_
          refine r_iand C (dx dX0_worthiest 14 rfl) ?_
          refine r_if_ne (tgt := 50) C (dx dX0_worthiest 15 rfl) (by decide) (fun c4 => ?_) (fun c4 => ?_)
          ·
            have c4 : ¬ s &&& ((nI 1) <<< ((nI p) &&& 31)) = 0 := c4
            refine rn_iinc (a := p) (k := 1) (ls' := [(0, vr 0 k), (1, vr 5 kv), (2, vi s), (3, vi ((wtS v s p).1)), (4, vi ((wtS v s p).2)), (5, vi (nI (p + 1)))]) C (dx dX0_worthiest 29 rfl) rfl rfl (by decide) [1, 2, 3, 4, 5, 0] rfl ?_
            refine r_goto (tgt := 8) C (dx dX0_worthiest 30 rfl) (by decide) ?_
            have e9 : ((wtS v s p).1) = ((wtS v s (p + 1)).1) := by simp [wtS, c4]
            rw [e9]
            have e9 : ((wtS v s p).2) = ((wtS v s (p + 1)).2) := by simp [wtS, c4]
            rw [e9]
            exact ih
          ·
            have c4 : s &&& ((nI 1) <<< ((nI p) &&& 31)) = 0 := c4
            refine r_aload_n C (dx dX0_worthiest 16 rfl) rfl ?_
            refine g_X0_78 C (dx dX0_worthiest 17 rfl) ?_
            refine r_iload C (dx dX0_worthiest 18 rfl) rfl ?_
            refine r_iald (j := p) (x := vF v 3 p) C rfl rfl (by decide) rfl (by omega) (dx dX0_worthiest 19 rfl) (hv.e3 (by omega)) ?_
            refine r_iload C (dx dX0_worthiest 20 rfl) rfl ?_
            refine r_icmp_le (tgt := 50) C (dx dX0_worthiest 21 rfl) (by decide) (fun c5 => ?_) (fun c5 => ?_)
            ·
              have c5 : vF v 3 p ≤ (wtS v s p).2 := c5
              refine rn_iinc (a := p) (k := 1) (ls' := [(0, vr 0 k), (1, vr 5 kv), (2, vi s), (3, vi ((wtS v s p).1)), (4, vi ((wtS v s p).2)), (5, vi (nI (p + 1)))]) C (dx dX0_worthiest 29 rfl) rfl rfl (by decide) [1, 2, 3, 4, 5, 0] rfl ?_
              refine r_goto (tgt := 8) C (dx dX0_worthiest 30 rfl) (by decide) ?_
              have e9 : ((wtS v s p).1) = ((wtS v s (p + 1)).1) := by simp [wtS, c4, c5]
              rw [e9]
              have e9 : ((wtS v s p).2) = ((wtS v s (p + 1)).2) := by simp [wtS, c4, c5]
              rw [e9]
              exact ih
            ·
              have c5 : ¬ vF v 3 p ≤ (wtS v s p).2 := c5
              refine r_aload_n C (dx dX0_worthiest 22 rfl) rfl ?_
              refine g_X0_78 C (dx dX0_worthiest 23 rfl) ?_
              refine r_iload C (dx dX0_worthiest 24 rfl) rfl ?_
              refine r_iald (j := p) (x := vF v 3 p) C rfl rfl (by decide) rfl (by omega) (dx dX0_worthiest 25 rfl) (hv.e3 (by omega)) ?_
              refine r_istore (ls' := [(0, vr 0 k), (1, vr 5 kv), (2, vi s), (3, vi ((wtS v s p).1)), (4, vi (vF v 3 p)), (5, vi (nI p))]) C (dx dX0_worthiest 26 rfl) (by decide) [1, 2, 3, 4, 0, 5] rfl ?_
              refine r_iload C (dx dX0_worthiest 27 rfl) rfl ?_
              refine r_istore_n (ls' := [(0, vr 0 k), (1, vr 5 kv), (2, vi s), (3, vi (nI p)), (4, vi (vF v 3 p)), (5, vi (nI p))]) C (dx dX0_worthiest 28 rfl) (by decide) [1, 2, 3, 0, 4, 5] rfl ?_
              refine rn_iinc (a := p) (k := 1) (ls' := [(0, vr 0 k), (1, vr 5 kv), (2, vi s), (3, vi (nI p)), (4, vi (vF v 3 p)), (5, vi (nI (p + 1)))]) C (dx dX0_worthiest 29 rfl) rfl rfl (by decide) [1, 2, 3, 4, 5, 0] rfl ?_
              refine r_goto (tgt := 8) C (dx dX0_worthiest 30 rfl) (by decide) ?_
              have e9 : (nI p) = ((wtS v s (p + 1)).1) := by simp [wtS, c4, c5]
              rw [e9]
              have e9 : (vF v 3 p) = ((wtS v s (p + 1)).2) := by simp [wtS, c4, c5]
              rw [e9]
              exact ih)
set_option maxHeartbeats 4000000 in
theorem c_X0_nextWithRoom {l : Launch} {h : Hp} {k kv : Nat} {v : Vg} {r : Nat → Int32} (hv : VilAt h kv v) (hr : RoomAt h k r) (hd : k + 2 ≤ kv ∨ kv + 9 ≤ k) (x y : Int32) : Mp l yX0_nextWithRoom cX0_nextWithRoom 6 (some .int) 1 [vr 0 k, vr 5 kv, vi x, vi y] h (vi (nxR (vN v) r x y)) := by
  refine Ms.of (by decide) (Nat.le_of_ble_eq_true rfl) (fun G C X F => ?_)
  have C : Cx G cX0_nextWithRoom 6 RX0 := C
  show Rr G 0 [(0, vr 0 k), (1, vr 5 kv), (2, vi x), (3, vi y)] [] h
  have bP := hv.bP
  have bM := hv.bM
  have bN := hv.bN
  refine r_iconst (v := nI 0) C (dx dX0_nextWithRoom 0 rfl) rfl ?_
  refine r_istore (ls' := [(0, vr 0 k), (1, vr 5 kv), (2, vi x), (3, vi y), (4, vi (nI 0))]) C (dx dX0_nextWithRoom 1 rfl) (by decide) [1, 2, 3, 4, 0] rfl ?_
  refine loopU (Φ := fun p => fstF (nxP (vN v) r x y) (rnd (vN v) x) (vN v) 0 = fstF (nxP (vN v) r x y) (rnd (vN v) x) (vN v - p) p → Rr G 3 [(0, vr 0 k), (1, vr 5 kv), (2, vi x), (3, vi y), (4, vi (nI p))] [] h) (N := vN v) ?_ ?_ 0 (Nat.zero_le _) rfl
  ·
    intro hI
    refine r_iload C (dx dX0_nextWithRoom 2 rfl) rfl ?_
    refine r_aload_n C (dx dX0_nextWithRoom 3 rfl) rfl ?_
    refine g_X0_27 (x := nI (vN v)) C (dx dX0_nextWithRoom 4 rfl) hv.eN ?_
    refine rn_ge (a := vN v) (b := vN v) (tgt := 75) C (by omega) (by omega) (dx dX0_nextWithRoom 5 rfl) (by decide) (fun c1 => ?_) (fun c1 => ?_)
    · first
      | (omega; done)
      | (
          have c1 : vN v ≤ vN v := c1
          refine r_iconst (v := -1) C (dx dX0_nextWithRoom 37 rfl) rfl ?_
          exact F.1 _ _ _ _ _ rfl rfl (dx dX0_nextWithRoom 38 rfl) rfl ⟨congrArg (fun x => some (vi x)) (show -1 = nxR (vN v) r x y by unfold nxR; exact (fst_e hI).symm), rfl⟩)
    · first
      | (omega; done)
  ·
    intro p hp ih hI
    refine r_iload C (dx dX0_nextWithRoom 2 rfl) rfl ?_
    refine r_aload_n C (dx dX0_nextWithRoom 3 rfl) rfl ?_
    refine g_X0_27 (x := nI (vN v)) C (dx dX0_nextWithRoom 4 rfl) hv.eN ?_
    refine rn_ge (a := p) (b := vN v) (tgt := 75) C (by omega) (by omega) (dx dX0_nextWithRoom 5 rfl) (by decide) (fun c4 => ?_) (fun c4 => ?_)
    · first
      | (omega; done)
      | (
          have c4 : vN v ≤ p := c4
          refine r_iconst (v := -1) C (dx dX0_nextWithRoom 37 rfl) rfl ?_
          exact F.1 _ _ _ _ _ rfl rfl (dx dX0_nextWithRoom 38 rfl) rfl ⟨congrArg (fun x => some (vi x)) (show -1 = nxR (vN v) r x y by unfold nxR; exact (fst_e hI).symm), rfl⟩)
    · first
      | (omega; done)
      | (
          have c4 : p < vN v := c4
          refine r_iload_n C (dx dX0_nextWithRoom 6 rfl) rfl ?_
          refine r_iload C (dx dX0_nextWithRoom 7 rfl) rfl ?_
          refine r_iadd C (dx dX0_nextWithRoom 8 rfl) ?_
          refine r_istore (ls' := [(0, vr 0 k), (1, vr 5 kv), (2, vi x), (3, vi y), (4, vi (nI p)), (5, vi (x + (nI p)))]) C (dx dX0_nextWithRoom 9 rfl) (by decide) [1, 2, 3, 4, 5, 0] rfl ?_
          refine r_iload C (dx dX0_nextWithRoom 10 rfl) rfl ?_
          refine r_aload_n C (dx dX0_nextWithRoom 11 rfl) rfl ?_
          refine g_X0_27 (x := nI (vN v)) C (dx dX0_nextWithRoom 12 rfl) hv.eN ?_
          refine r_icmp_lt (tgt := 36) C (dx dX0_nextWithRoom 13 rfl) (by decide) (fun c5 => ?_) (fun c5 => ?_)
          ·
            have c5 : x + (nI p) < nI (vN v) := c5
            rw [show x + (nI p) = rnd (vN v) x p by simp [rnd, c5]]
            refine r_iload C (dx dX0_nextWithRoom 19 rfl) rfl ?_
            refine r_iload_n C (dx dX0_nextWithRoom 20 rfl) rfl ?_
            refine r_icmp_eq (tgt := 69) C (dx dX0_nextWithRoom 21 rfl) (by decide) (fun c6 => ?_) (fun c6 => ?_)
            ·
              have c6 : rnd (vN v) x p = y := c6
              refine rn_iinc (a := p) (k := 1) (ls' := [(0, vr 0 k), (1, vr 5 kv), (2, vi x), (3, vi y), (4, vi (nI (p + 1))), (5, vi (rnd (vN v) x p))]) C (dx dX0_nextWithRoom 35 rfl) rfl rfl (by decide) [1, 2, 3, 4, 0, 5] rfl ?_
              refine r_goto (tgt := 3) C (dx dX0_nextWithRoom 36 rfl) (by decide) ?_
              refine r_weak C [0, 1, 2, 3, 4] rfl ?_
              exact ih (fst_n hI hp (by first | (simp [nxP, c6]; done) | (simp [nxP, inR_neg c6]; done) | (simp [nxP, inR_big (by omega) c6]; done)))
            ·
              have c6 : ¬ rnd (vN v) x p = y := c6
              refine r_iload C (dx dX0_nextWithRoom 22 rfl) rfl ?_
              refine r_if_lt (tgt := 69) C (dx dX0_nextWithRoom 23 rfl) (by decide) (fun c7 => ?_) (fun c7 => ?_)
              ·
                have c7 : rnd (vN v) x p < 0 := c7
                refine rn_iinc (a := p) (k := 1) (ls' := [(0, vr 0 k), (1, vr 5 kv), (2, vi x), (3, vi y), (4, vi (nI (p + 1))), (5, vi (rnd (vN v) x p))]) C (dx dX0_nextWithRoom 35 rfl) rfl rfl (by decide) [1, 2, 3, 4, 0, 5] rfl ?_
                refine r_goto (tgt := 3) C (dx dX0_nextWithRoom 36 rfl) (by decide) ?_
                refine r_weak C [0, 1, 2, 3, 4] rfl ?_
                exact ih (fst_n hI hp (by first | (simp [nxP, c7]; done) | (simp [nxP, inR_neg c7]; done) | (simp [nxP, inR_big (by omega) c7]; done)))
              ·
                have c7 : ¬ rnd (vN v) x p < 0 := c7
                refine r_iload C (dx dX0_nextWithRoom 24 rfl) rfl ?_
                refine r_aload_n C (dx dX0_nextWithRoom 25 rfl) rfl ?_
                refine g_X0_27 (x := nI (vN v)) C (dx dX0_nextWithRoom 26 rfl) hv.eN ?_
                refine r_icmp_ge (tgt := 69) C (dx dX0_nextWithRoom 27 rfl) (by decide) (fun c8 => ?_) (fun c8 => ?_)
                ·
                  have c8 : nI (vN v) ≤ rnd (vN v) x p := c8
                  refine rn_iinc (a := p) (k := 1) (ls' := [(0, vr 0 k), (1, vr 5 kv), (2, vi x), (3, vi y), (4, vi (nI (p + 1))), (5, vi (rnd (vN v) x p))]) C (dx dX0_nextWithRoom 35 rfl) rfl rfl (by decide) [1, 2, 3, 4, 0, 5] rfl ?_
                  refine r_goto (tgt := 3) C (dx dX0_nextWithRoom 36 rfl) (by decide) ?_
                  refine r_weak C [0, 1, 2, 3, 4] rfl ?_
                  exact ih (fst_n hI hp (by first | (simp [nxP, c8]; done) | (simp [nxP, inR_neg c8]; done) | (simp [nxP, inR_big (by omega) c8]; done)))
                ·
                  have c8 : ¬ nI (vN v) ≤ rnd (vN v) x p := c8
                  refine r_aload_n C (dx dX0_nextWithRoom 28 rfl) rfl ?_
                  refine g_X0_9 C (dx dX0_nextWithRoom 29 rfl) ?_
                  refine r_iload C (dx dX0_nextWithRoom 30 rfl) rfl ?_
                  refine r_iald (j := (rnd (vN v) x p).toNatClampNeg) (x := r (rnd (vN v) x p).toNatClampNeg) C rfl rfl (by decide) (inR_at (by omega) (inR_ok (n := vN v) (by omega) c7 c8)).1 (Nat.lt_of_lt_of_le (inR_at (by omega) (inR_ok (n := vN v) (by omega) c7 c8)).2 (by omega)) (dx dX0_nextWithRoom 31 rfl) (hr _ (Nat.lt_of_lt_of_le (inR_at (by omega) (inR_ok (n := vN v) (by omega) c7 c8)).2 (by omega))) ?_
                  refine r_if_le (tgt := 69) C (dx dX0_nextWithRoom 32 rfl) (by decide) (fun c9 => ?_) (fun c9 => ?_)
                  ·
                    have c9 : r (rnd (vN v) x p).toNatClampNeg ≤ 0 := c9
                    refine rn_iinc (a := p) (k := 1) (ls' := [(0, vr 0 k), (1, vr 5 kv), (2, vi x), (3, vi y), (4, vi (nI (p + 1))), (5, vi (rnd (vN v) x p))]) C (dx dX0_nextWithRoom 35 rfl) rfl rfl (by decide) [1, 2, 3, 4, 0, 5] rfl ?_
                    refine r_goto (tgt := 3) C (dx dX0_nextWithRoom 36 rfl) (by decide) ?_
                    refine r_weak C [0, 1, 2, 3, 4] rfl ?_
                    exact ih (fst_n hI hp (by first | (simp [nxP, c9]; done) | (simp [nxP, inR_neg c9]; done) | (simp [nxP, inR_big (by omega) c9]; done)))
                  ·
                    have c9 : ¬ r (rnd (vN v) x p).toNatClampNeg ≤ 0 := c9
                    refine r_iload C (dx dX0_nextWithRoom 33 rfl) rfl ?_
                    exact F.1 _ _ _ _ _ rfl rfl (dx dX0_nextWithRoom 34 rfl) rfl ⟨congrArg (fun x => some (vi x)) (show rnd (vN v) x p = nxR (vN v) r x y by unfold nxR; exact (fst_y hI hp (by simp [nxP, c6, (inR_ok (n := vN v) (by omega) c7 c8), c9])).symm), rfl⟩
          ·
            have c5 : ¬ x + (nI p) < nI (vN v) := c5
            refine r_iload C (dx dX0_nextWithRoom 14 rfl) rfl ?_
            refine r_aload_n C (dx dX0_nextWithRoom 15 rfl) rfl ?_
            refine g_X0_27 (x := nI (vN v)) C (dx dX0_nextWithRoom 16 rfl) hv.eN ?_
            refine r_isub C (dx dX0_nextWithRoom 17 rfl) ?_
            refine r_istore (ls' := [(0, vr 0 k), (1, vr 5 kv), (2, vi x), (3, vi y), (4, vi (nI p)), (5, vi ((x + (nI p)) - (nI (vN v))))]) C (dx dX0_nextWithRoom 18 rfl) (by decide) [1, 2, 3, 4, 5, 0] rfl ?_
            rw [show (x + (nI p)) - (nI (vN v)) = rnd (vN v) x p by simp [rnd, c5]]
            refine r_iload C (dx dX0_nextWithRoom 19 rfl) rfl ?_
            refine r_iload_n C (dx dX0_nextWithRoom 20 rfl) rfl ?_
            refine r_icmp_eq (tgt := 69) C (dx dX0_nextWithRoom 21 rfl) (by decide) (fun c10 => ?_) (fun c10 => ?_)
            ·
              have c10 : rnd (vN v) x p = y := c10
              refine rn_iinc (a := p) (k := 1) (ls' := [(0, vr 0 k), (1, vr 5 kv), (2, vi x), (3, vi y), (4, vi (nI (p + 1))), (5, vi (rnd (vN v) x p))]) C (dx dX0_nextWithRoom 35 rfl) rfl rfl (by decide) [1, 2, 3, 4, 0, 5] rfl ?_
              refine r_goto (tgt := 3) C (dx dX0_nextWithRoom 36 rfl) (by decide) ?_
              refine r_weak C [0, 1, 2, 3, 4] rfl ?_
              exact ih (fst_n hI hp (by first | (simp [nxP, c10]; done) | (simp [nxP, inR_neg c10]; done) | (simp [nxP, inR_big (by omega) c10]; done)))
            ·
              have c10 : ¬ rnd (vN v) x p = y := c10
              refine r_iload C (dx dX0_nextWithRoom 22 rfl) rfl ?_
              refine r_if_lt (tgt := 69) C (dx dX0_nextWithRoom 23 rfl) (by decide) (fun c11 => ?_) (fun c11 => ?_)
              ·
                have c11 : rnd (vN v) x p < 0 := c11
                refine rn_iinc (a := p) (k := 1) (ls' := [(0, vr 0 k), (1, vr 5 kv), (2, vi x), (3, vi y), (4, vi (nI (p + 1))), (5, vi (rnd (vN v) x p))]) C (dx dX0_nextWithRoom 35 rfl) rfl rfl (by decide) [1, 2, 3, 4, 0, 5] rfl ?_
                refine r_goto (tgt := 3) C (dx dX0_nextWithRoom 36 rfl) (by decide) ?_
                refine r_weak C [0, 1, 2, 3, 4] rfl ?_
                exact ih (fst_n hI hp (by first | (simp [nxP, c11]; done) | (simp [nxP, inR_neg c11]; done) | (simp [nxP, inR_big (by omega) c11]; done)))
              ·
                have c11 : ¬ rnd (vN v) x p < 0 := c11
                refine r_iload C (dx dX0_nextWithRoom 24 rfl) rfl ?_
                refine r_aload_n C (dx dX0_nextWithRoom 25 rfl) rfl ?_
                refine g_X0_27 (x := nI (vN v)) C (dx dX0_nextWithRoom 26 rfl) hv.eN ?_
                refine r_icmp_ge (tgt := 69) C (dx dX0_nextWithRoom 27 rfl) (by decide) (fun c12 => ?_) (fun c12 => ?_)
                ·
                  have c12 : nI (vN v) ≤ rnd (vN v) x p := c12
                  refine rn_iinc (a := p) (k := 1) (ls' := [(0, vr 0 k), (1, vr 5 kv), (2, vi x), (3, vi y), (4, vi (nI (p + 1))), (5, vi (rnd (vN v) x p))]) C (dx dX0_nextWithRoom 35 rfl) rfl rfl (by decide) [1, 2, 3, 4, 0, 5] rfl ?_
                  refine r_goto (tgt := 3) C (dx dX0_nextWithRoom 36 rfl) (by decide) ?_
                  refine r_weak C [0, 1, 2, 3, 4] rfl ?_
                  exact ih (fst_n hI hp (by first | (simp [nxP, c12]; done) | (simp [nxP, inR_neg c12]; done) | (simp [nxP, inR_big (by omega) c12]; done)))
                ·
                  have c12 : ¬ nI (vN v) ≤ rnd (vN v) x p := c12
                  refine r_aload_n C (dx dX0_nextWithRoom 28 rfl) rfl ?_
                  refine g_X0_9 C (dx dX0_nextWithRoom 29 rfl) ?_
                  refine r_iload C (dx dX0_nextWithRoom 30 rfl) rfl ?_
                  refine r_iald (j := (rnd (vN v) x p).toNatClampNeg) (x := r (rnd (vN v) x p).toNatClampNeg) C rfl rfl (by decide) (inR_at (by omega) (inR_ok (n := vN v) (by omega) c11 c12)).1 (Nat.lt_of_lt_of_le (inR_at (by omega) (inR_ok (n := vN v) (by omega) c11 c12)).2 (by omega)) (dx dX0_nextWithRoom 31 rfl) (hr _ (Nat.lt_of_lt_of_le (inR_at (by omega) (inR_ok (n := vN v) (by omega) c11 c12)).2 (by omega))) ?_
                  refine r_if_le (tgt := 69) C (dx dX0_nextWithRoom 32 rfl) (by decide) (fun c13 => ?_) (fun c13 => ?_)
                  ·
                    have c13 : r (rnd (vN v) x p).toNatClampNeg ≤ 0 := c13
                    refine rn_iinc (a := p) (k := 1) (ls' := [(0, vr 0 k), (1, vr 5 kv), (2, vi x), (3, vi y), (4, vi (nI (p + 1))), (5, vi (rnd (vN v) x p))]) C (dx dX0_nextWithRoom 35 rfl) rfl rfl (by decide) [1, 2, 3, 4, 0, 5] rfl ?_
                    refine r_goto (tgt := 3) C (dx dX0_nextWithRoom 36 rfl) (by decide) ?_
                    refine r_weak C [0, 1, 2, 3, 4] rfl ?_
                    exact ih (fst_n hI hp (by first | (simp [nxP, c13]; done) | (simp [nxP, inR_neg c13]; done) | (simp [nxP, inR_big (by omega) c13]; done)))
                  ·
                    have c13 : ¬ r (rnd (vN v) x p).toNatClampNeg ≤ 0 := c13
                    refine r_iload C (dx dX0_nextWithRoom 33 rfl) rfl ?_
                    exact F.1 _ _ _ _ _ rfl rfl (dx dX0_nextWithRoom 34 rfl) rfl ⟨congrArg (fun x => some (vi x)) (show rnd (vN v) x p = nxR (vN v) r x y by unfold nxR; exact (fst_y hI hp (by simp [nxP, c10, (inR_ok (n := vN v) (by omega) c11 c12), c13])).symm), rfl⟩)
set_option maxHeartbeats 4000000 in
theorem c_X0_giveRoundAgain {l : Launch} {h : Hp} {k kv : Nat} {v : Vg} {r : Nat → Int32} (hv : VilAt h kv v) (hr : RoomAt h k r) (hd : k + 2 ≤ kv ∨ kv + 9 ≤ k) (x : Int32) : Ms l yX0_giveRoundAgain cX0_giveRoundAgain 6 none 2 [vr 0 k, vr 5 kv, vi x] h (xK h) (fun r0 h' => r0 = none ∧ VilAt h' kv (vcol v 1 (gvR (vN v) (fun _ i => vF v 0 i) (vF v 1) r x (vP v)).1) ∧ RoomAt h' k ((gvR (vN v) (fun _ i => vF v 0 i) (vF v 1) r x (vP v)).2.1) ∧ Fs (RA k kv) h h') := by
  refine Ms.of (by decide) (Nat.le_of_ble_eq_true rfl) (fun G C X F => ?_)
  have C : Cx G cX0_giveRoundAgain 6 RX0 := C
  show Rr G 0 [(0, vr 0 k), (1, vr 5 kv), (2, vi x)] [] h
  have bP := hv.bP
  have bM := hv.bM
  have bN := hv.bN
  refine r_iload_n C (dx dX0_giveRoundAgain 0 rfl) rfl ?_
  refine r_istore_n (ls' := [(0, vr 0 k), (1, vr 5 kv), (2, vi x), (3, vi x)]) C (dx dX0_giveRoundAgain 1 rfl) (by decide) [1, 2, 3, 0] rfl ?_
  refine r_iconst (v := nI 0) C (dx dX0_giveRoundAgain 2 rfl) rfl ?_
  refine r_istore (ls' := [(0, vr 0 k), (1, vr 5 kv), (2, vi x), (3, vi x), (4, vi (nI 0))]) C (dx dX0_giveRoundAgain 3 rfl) (by decide) [1, 2, 3, 4, 0] rfl ?_
  refine loopU (Φ := fun p => ∀ h9, VilAt h9 kv (vcol v 1 (gvR (vN v) (fun _ i => vF v 0 i) (vF v 1) r x p).1) → RoomAt h9 k ((gvR (vN v) (fun _ i => vF v 0 i) (vF v 1) r x p).2.1) → Fs (RA k kv) h h9 → xK h9 = xK h → Rr G 5 [(0, vr 0 k), (1, vr 5 kv), (2, vi x), (3, vi ((gvR (vN v) (fun _ i => vF v 0 i) (vF v 1) r x p).2.2)), (4, vi (nI p))] [] h9) (N := vP v) ?_ ?_ 0 (Nat.zero_le _) _ (by rw [show vcol v 1 (gvR (vN v) (fun _ i => vF v 0 i) (vF v 1) r x 0).1 = v from vcol_id]; exact hv) hr Fs.rf rfl
  ·
    intro h1 wh1 mh1 fh1 kh1
    refine r_iload C (dx dX0_giveRoundAgain 4 rfl) rfl ?_
    refine r_aload_n C (dx dX0_giveRoundAgain 5 rfl) rfl ?_
    refine g_X0_15 (x := nI (vP v)) C (dx dX0_giveRoundAgain 6 rfl) wh1.eP ?_
    refine rn_ge (a := vP v) (b := vP v) (tgt := 63) C (by omega) (by omega) (dx dX0_giveRoundAgain 7 rfl) (by decide) (fun c2 => ?_) (fun c2 => ?_)
    · first
      | (omega; done)
      | (
          have c2 : vP v ≤ vP v := c2
          exact F.2.2.1 _ _ _ rfl (dx dX0_giveRoundAgain 35 rfl) kh1 ⟨rfl, wh1, mh1, fh1⟩)
    · first
      | (omega; done)
  ·
    intro p hp ih h6 wh6 mh6 fh6 kh6
    refine r_iload C (dx dX0_giveRoundAgain 4 rfl) rfl ?_
    refine r_aload_n C (dx dX0_giveRoundAgain 5 rfl) rfl ?_
    refine g_X0_15 (x := nI (vP v)) C (dx dX0_giveRoundAgain 6 rfl) wh6.eP ?_
    refine rn_ge (a := p) (b := vP v) (tgt := 63) C (by omega) (by omega) (dx dX0_giveRoundAgain 7 rfl) (by decide) (fun c7 => ?_) (fun c7 => ?_)
    · first
      | (omega; done)
      | (
          have c7 : vP v ≤ p := c7
          exact F.2.2.1 _ _ _ rfl (dx dX0_giveRoundAgain 35 rfl) kh6 ⟨rfl, wh6, mh6, fh6⟩)
    · first
      | (omega; done)
      | (
          have c7 : p < vP v := c7
          refine r_aload_n C (dx dX0_giveRoundAgain 8 rfl) rfl ?_
          refine r_aload_n C (dx dX0_giveRoundAgain 9 rfl) rfl ?_
          refine r_iload_n C (dx dX0_giveRoundAgain 10 rfl) rfl ?_
          refine r_aload_n C (dx dX0_giveRoundAgain 11 rfl) rfl ?_
          refine g_X0_21 C (dx dX0_giveRoundAgain 12 rfl) ?_
          refine r_iload C (dx dX0_giveRoundAgain 13 rfl) rfl ?_
          refine r_iald (j := p) (x := vF v 0 p) C rfl rfl (by decide) rfl (by omega) (dx dX0_giveRoundAgain 14 rfl) (wh6.e0 (by omega)) ?_
          refine r_cvP (as := [vr 5 kv, vi ((gvR (vN v) (fun _ i => vF v 0 i) (vF v 1) r x p).2.2), vi (vF v 0 p)]) (st := []) (v := vi (nxR (vN v) ((gvR (vN v) (fun _ i => vF v 0 i) (vF v 1) r x p).2.1) ((gvR (vN v) (fun _ i => vF v 0 i) (vF v 1) r x p).2.2) (vF v 0 p))) C X I_X0_nextWithRoom l_X0_81 (c_X0_nextWithRoom wh6 mh6 hd ((gvR (vN v) (fun _ i => vF v 0 i) (vF v 1) r x p).2.2) (vF v 0 p)) (by decide) (Nat.le_of_ble_eq_true rfl) (pfx_eq kh6) rfl rfl (Nat.le_of_ble_eq_true rfl) rfl (dx dX0_giveRoundAgain 15 rfl) ?_
          refine r_istore (ls' := [(0, vr 0 k), (1, vr 5 kv), (2, vi x), (3, vi ((gvR (vN v) (fun _ i => vF v 0 i) (vF v 1) r x p).2.2)), (4, vi (nI p)), (5, vi (nxR (vN v) ((gvR (vN v) (fun _ i => vF v 0 i) (vF v 1) r x p).2.1) ((gvR (vN v) (fun _ i => vF v 0 i) (vF v 1) r x p).2.2) (vF v 0 p)))]) C (dx dX0_giveRoundAgain 16 rfl) (by decide) [1, 2, 3, 4, 5, 0] rfl ?_
          refine r_aload_n C (dx dX0_giveRoundAgain 17 rfl) rfl ?_
          refine g_X0_24 C (dx dX0_giveRoundAgain 18 rfl) ?_
          refine r_iload C (dx dX0_giveRoundAgain 19 rfl) rfl ?_
          refine r_aload_n C (dx dX0_giveRoundAgain 20 rfl) rfl ?_
          refine r_iload C (dx dX0_giveRoundAgain 21 rfl) rfl ?_
          refine r_cv (as := [vi (nxR (vN v) ((gvR (vN v) (fun _ i => vF v 0 i) (vF v 1) r x p).2.1) ((gvR (vN v) (fun _ i => vF v 0 i) (vF v 1) r x p).2.2) (vF v 0 p))]) (st := [vi (nI p), vr 20 (kv + 2)]) C X I_X0_taken l_X0_74 (c_X0_taken mh6 (nxR (vN v) ((gvR (vN v) (fun _ i => vF v 0 i) (vF v 1) r x p).2.1) ((gvR (vN v) (fun _ i => vF v 0 i) (vF v 1) r x p).2.2) (vF v 0 p))) (by decide) (Nat.le_of_ble_eq_true rfl) List.prefix_rfl (pfx_eq kh6) rfl rfl (Nat.le_of_ble_eq_true rfl) rfl (dx dX0_giveRoundAgain 22 rfl) ?_
          intro rh8 h8 hph8 kkh8
          obtain ⟨rfl, mh8, gh8⟩ := hph8
          have wh8 : VilAt h8 kv (vcol v 1 (gvR (vN v) (fun _ i => vF v 0 i) (vF v 1) r x p).1) := wh6.fr gh8 (by omega)
          have fh8 : Fs (RA k kv) h h8 := fh6.tr (Fs.of gh8 (fun b h1 h2 => Or.inl (by omega)))
          have kh8 : xK h8 = xK h := kkh8.trans kh6
          refine r_iast (j := p) C rfl rfl (by decide) rfl (by omega) (dx dX0_giveRoundAgain 23 rfl) ?_
          have wh9 : VilAt (sI h8 (kv + 2) p (nxR (vN v) ((gvR (vN v) (fun _ i => vF v 0 i) (vF v 1) r x p).2.1) ((gvR (vN v) (fun _ i => vF v 0 i) (vF v 1) r x p).2.2) (vF v 0 p))) kv (vcol v 1 (sf (gvR (vN v) (fun _ i => vF v 0 i) (vF v 1) r x p).1 p (nxR (vN v) ((gvR (vN v) (fun _ i => vF v 0 i) (vF v 1) r x p).2.1) ((gvR (vN v) (fun _ i => vF v 0 i) (vF v 1) r x p).2.2) (vF v 0 p)))) := by rw [← vset_col]; exact wh8.s1
          have mh9 : RoomAt (sI h8 (kv + 2) p (nxR (vN v) ((gvR (vN v) (fun _ i => vF v 0 i) (vF v 1) r x p).2.1) ((gvR (vN v) (fun _ i => vF v 0 i) (vF v 1) r x p).2.2) (vF v 0 p))) k (tkn ((gvR (vN v) (fun _ i => vF v 0 i) (vF v 1) r x p).2.1) (nxR (vN v) ((gvR (vN v) (fun _ i => vF v 0 i) (vF v 1) r x p).2.1) ((gvR (vN v) (fun _ i => vF v 0 i) (vF v 1) r x p).2.2) (vF v 0 p))) := mh8.fr (Fr.sI (lo := kv) (hi := kv + 9) (by omega) (by omega)) (by omega)
          have fh9 : Fs (RA k kv) h (sI h8 (kv + 2) p (nxR (vN v) ((gvR (vN v) (fun _ i => vF v 0 i) (vF v 1) r x p).2.1) ((gvR (vN v) (fun _ i => vF v 0 i) (vF v 1) r x p).2.2) (vF v 0 p))) := fh8.tr (Fs.of (Fr.sI (lo := kv) (hi := kv + 9) (by omega) (by omega)) (fun b h1 h2 => Or.inr ⟨h1, h2⟩))
          have kh9 : xK (sI h8 (kv + 2) p (nxR (vN v) ((gvR (vN v) (fun _ i => vF v 0 i) (vF v 1) r x p).2.1) ((gvR (vN v) (fun _ i => vF v 0 i) (vF v 1) r x p).2.2) (vF v 0 p))) = xK h := kh8
          generalize sI h8 (kv + 2) p (nxR (vN v) ((gvR (vN v) (fun _ i => vF v 0 i) (vF v 1) r x p).2.1) ((gvR (vN v) (fun _ i => vF v 0 i) (vF v 1) r x p).2.2) (vF v 0 p)) = h9 at wh9 mh9 fh9 kh9 ⊢
          refine r_iload C (dx dX0_giveRoundAgain 24 rfl) rfl ?_
          refine r_iconst (v := -1) C (dx dX0_giveRoundAgain 25 rfl) rfl ?_
          refine r_icmp_ne (tgt := 52) C (dx dX0_giveRoundAgain 26 rfl) (by decide) (fun c10 => ?_) (fun c10 => ?_)
          ·
            have c10 : ¬ nxR (vN v) ((gvR (vN v) (fun _ i => vF v 0 i) (vF v 1) r x p).2.1) ((gvR (vN v) (fun _ i => vF v 0 i) (vF v 1) r x p).2.2) (vF v 0 p) = -1 := c10
            refine r_iload C (dx dX0_giveRoundAgain 29 rfl) rfl ?_
            refine r_iconst (v := nI 1) C (dx dX0_giveRoundAgain 30 rfl) rfl ?_
            refine r_iadd C (dx dX0_giveRoundAgain 31 rfl) ?_
            refine r_istore_n (ls' := [(0, vr 0 k), (1, vr 5 kv), (2, vi x), (3, vi ((nxR (vN v) ((gvR (vN v) (fun _ i => vF v 0 i) (vF v 1) r x p).2.1) ((gvR (vN v) (fun _ i => vF v 0 i) (vF v 1) r x p).2.2) (vF v 0 p)) + (nI 1))), (4, vi (nI p)), (5, vi (nxR (vN v) ((gvR (vN v) (fun _ i => vF v 0 i) (vF v 1) r x p).2.1) ((gvR (vN v) (fun _ i => vF v 0 i) (vF v 1) r x p).2.2) (vF v 0 p)))]) C (dx dX0_giveRoundAgain 32 rfl) (by decide) [1, 2, 3, 0, 4, 5] rfl ?_
            refine rn_iinc (a := p) (k := 1) (ls' := [(0, vr 0 k), (1, vr 5 kv), (2, vi x), (3, vi ((nxR (vN v) ((gvR (vN v) (fun _ i => vF v 0 i) (vF v 1) r x p).2.1) ((gvR (vN v) (fun _ i => vF v 0 i) (vF v 1) r x p).2.2) (vF v 0 p)) + (nI 1))), (4, vi (nI (p + 1))), (5, vi (nxR (vN v) ((gvR (vN v) (fun _ i => vF v 0 i) (vF v 1) r x p).2.1) ((gvR (vN v) (fun _ i => vF v 0 i) (vF v 1) r x p).2.2) (vF v 0 p)))]) C (dx dX0_giveRoundAgain 33 rfl) rfl rfl (by decide) [1, 2, 3, 4, 0, 5] rfl ?_
            refine r_goto (tgt := 5) C (dx dX0_giveRoundAgain 34 rfl) (by decide) ?_
            refine (?_ : Rr G 5 [(0, vr 0 k), (1, vr 5 kv), (2, vi x), (3, vi ((nxR (vN v) ((gvR (vN v) (fun _ i => vF v 0 i) (vF v 1) r x p).2.1) ((gvR (vN v) (fun _ i => vF v 0 i) (vF v 1) r x p).2.2) (vF v 0 p)) + (nI 1))), (4, vi (nI (p + 1))), (5, vi (nxR (vN v) ((gvR (vN v) (fun _ i => vF v 0 i) (vF v 1) r x p).2.1) ((gvR (vN v) (fun _ i => vF v 0 i) (vF v 1) r x p).2.2) (vF v 0 p)))] [] h9)
            refine r_weak C [0, 1, 2, 3, 4] rfl ?_
            rw [show ((nxR (vN v) ((gvR (vN v) (fun _ i => vF v 0 i) (vF v 1) r x p).2.1) ((gvR (vN v) (fun _ i => vF v 0 i) (vF v 1) r x p).2.2) (vF v 0 p)) + (nI 1)) = ((gvR (vN v) (fun _ i => vF v 0 i) (vF v 1) r x (p + 1)).2.2) by simp [gvR, c10]]
            exact ih _ (by first | exact wh9 | (rw [show (vcol v 1 (gvR (vN v) (fun _ i => vF v 0 i) (vF v 1) r x (p + 1)).1) = (vcol v 1 (sf (gvR (vN v) (fun _ i => vF v 0 i) (vF v 1) r x p).1 p (nxR (vN v) ((gvR (vN v) (fun _ i => vF v 0 i) (vF v 1) r x p).2.1) ((gvR (vN v) (fun _ i => vF v 0 i) (vF v 1) r x p).2.2) (vF v 0 p)))) by simp [gvR, c10]]; exact wh9)) (by first | exact mh9 | (rw [show ((gvR (vN v) (fun _ i => vF v 0 i) (vF v 1) r x (p + 1)).2.1) = (tkn ((gvR (vN v) (fun _ i => vF v 0 i) (vF v 1) r x p).2.1) (nxR (vN v) ((gvR (vN v) (fun _ i => vF v 0 i) (vF v 1) r x p).2.1) ((gvR (vN v) (fun _ i => vF v 0 i) (vF v 1) r x p).2.2) (vF v 0 p))) by simp [gvR, c10]]; exact mh9)) fh9 kh9
          ·
            have c10 : nxR (vN v) ((gvR (vN v) (fun _ i => vF v 0 i) (vF v 1) r x p).2.1) ((gvR (vN v) (fun _ i => vF v 0 i) (vF v 1) r x p).2.2) (vF v 0 p) = -1 := c10
            refine r_iload_n C (dx dX0_giveRoundAgain 27 rfl) rfl ?_
            refine r_goto (tgt := 56) C (dx dX0_giveRoundAgain 28 rfl) (by decide) ?_
            refine r_istore_n (ls' := [(0, vr 0 k), (1, vr 5 kv), (2, vi x), (3, vi ((gvR (vN v) (fun _ i => vF v 0 i) (vF v 1) r x p).2.2)), (4, vi (nI p)), (5, vi (nxR (vN v) ((gvR (vN v) (fun _ i => vF v 0 i) (vF v 1) r x p).2.1) ((gvR (vN v) (fun _ i => vF v 0 i) (vF v 1) r x p).2.2) (vF v 0 p)))]) C (dx dX0_giveRoundAgain 32 rfl) (by decide) [1, 2, 3, 0, 4, 5] rfl ?_
            refine rn_iinc (a := p) (k := 1) (ls' := [(0, vr 0 k), (1, vr 5 kv), (2, vi x), (3, vi ((gvR (vN v) (fun _ i => vF v 0 i) (vF v 1) r x p).2.2)), (4, vi (nI (p + 1))), (5, vi (nxR (vN v) ((gvR (vN v) (fun _ i => vF v 0 i) (vF v 1) r x p).2.1) ((gvR (vN v) (fun _ i => vF v 0 i) (vF v 1) r x p).2.2) (vF v 0 p)))]) C (dx dX0_giveRoundAgain 33 rfl) rfl rfl (by decide) [1, 2, 3, 4, 0, 5] rfl ?_
            refine r_goto (tgt := 5) C (dx dX0_giveRoundAgain 34 rfl) (by decide) ?_
            refine (?_ : Rr G 5 [(0, vr 0 k), (1, vr 5 kv), (2, vi x), (3, vi ((gvR (vN v) (fun _ i => vF v 0 i) (vF v 1) r x p).2.2)), (4, vi (nI (p + 1))), (5, vi (nxR (vN v) ((gvR (vN v) (fun _ i => vF v 0 i) (vF v 1) r x p).2.1) ((gvR (vN v) (fun _ i => vF v 0 i) (vF v 1) r x p).2.2) (vF v 0 p)))] [] h9)
            refine r_weak C [0, 1, 2, 3, 4] rfl ?_
            rw [show ((gvR (vN v) (fun _ i => vF v 0 i) (vF v 1) r x p).2.2) = ((gvR (vN v) (fun _ i => vF v 0 i) (vF v 1) r x (p + 1)).2.2) by simp [gvR, c10]]
            exact ih _ (by first | exact wh9 | (rw [show (vcol v 1 (gvR (vN v) (fun _ i => vF v 0 i) (vF v 1) r x (p + 1)).1) = (vcol v 1 (sf (gvR (vN v) (fun _ i => vF v 0 i) (vF v 1) r x p).1 p (nxR (vN v) ((gvR (vN v) (fun _ i => vF v 0 i) (vF v 1) r x p).2.1) ((gvR (vN v) (fun _ i => vF v 0 i) (vF v 1) r x p).2.2) (vF v 0 p)))) by simp [gvR, c10]]; exact wh9)) (by first | exact mh9 | (rw [show ((gvR (vN v) (fun _ i => vF v 0 i) (vF v 1) r x (p + 1)).2.1) = (tkn ((gvR (vN v) (fun _ i => vF v 0 i) (vF v 1) r x p).2.1) (nxR (vN v) ((gvR (vN v) (fun _ i => vF v 0 i) (vF v 1) r x p).2.1) ((gvR (vN v) (fun _ i => vF v 0 i) (vF v 1) r x p).2.2) (vF v 0 p))) by simp [gvR, c10]]; exact mh9)) fh9 kh9)
/-- the first place -/
def rst (n : Nat) (b : Int32) : Int32 := if nI n = 0 then nI 0 else b - b / nI n * nI n
set_option maxHeartbeats 4000000 in
theorem c_X0_giveRound {l : Launch} {h : Hp} {k kv : Nat} {v : Vg} {r : Nat → Int32} (hv : VilAt h kv v) (hr : RoomAt h k r) (hd : k + 2 ≤ kv ∨ kv + 9 ≤ k) (x : Int32) : Ms l yX0_giveRound cX0_giveRound 6 (some .int) 2 [vr 0 k, vr 5 kv, vi x] h (xK h) (fun r0 h' => r0 = some (vi (gvR (vN v) (fun _ _ => -1) (vF v 0) r (rst (vN v) x) (vP v)).2.2) ∧ VilAt h' kv (vcol v 0 (gvR (vN v) (fun _ _ => -1) (vF v 0) r (rst (vN v) x) (vP v)).1) ∧ RoomAt h' k ((gvR (vN v) (fun _ _ => -1) (vF v 0) r (rst (vN v) x) (vP v)).2.1) ∧ Fs (RA k kv) h h') := by
  refine Ms.of (by decide) (Nat.le_of_ble_eq_true rfl) (fun G C X F => ?_)
  have C : Cx G cX0_giveRound 6 RX0 := C
  show Rr G 0 [(0, vr 0 k), (1, vr 5 kv), (2, vi x)] [] h
  have bP := hv.bP
  have bM := hv.bM
  have bN := hv.bN
  have tail : Rr G 17 [(0, vr 0 k), (1, vr 5 kv), (2, vi x)] [vi (rst (vN v) x)] h := by
    refine r_istore_n (ls' := [(0, vr 0 k), (1, vr 5 kv), (2, vi x), (3, vi (rst (vN v) x))]) C (dx dX0_giveRound 9 rfl) (by decide) [1, 2, 3, 0] rfl ?_
    refine r_iconst (v := nI 0) C (dx dX0_giveRound 10 rfl) rfl ?_
    refine r_istore (ls' := [(0, vr 0 k), (1, vr 5 kv), (2, vi x), (3, vi (rst (vN v) x)), (4, vi (nI 0))]) C (dx dX0_giveRound 11 rfl) (by decide) [1, 2, 3, 4, 0] rfl ?_
    refine loopU (Φ := fun p => ∀ h9, VilAt h9 kv (vcol v 0 (gvR (vN v) (fun _ _ => -1) (vF v 0) r (rst (vN v) x) p).1) → RoomAt h9 k ((gvR (vN v) (fun _ _ => -1) (vF v 0) r (rst (vN v) x) p).2.1) → Fs (RA k kv) h h9 → xK h9 = xK h → Rr G 21 [(0, vr 0 k), (1, vr 5 kv), (2, vi x), (3, vi ((gvR (vN v) (fun _ _ => -1) (vF v 0) r (rst (vN v) x) p).2.2)), (4, vi (nI p))] [] h9) (N := vP v) ?_ ?_ 0 (Nat.zero_le _) _ (by rw [show vcol v 0 (gvR (vN v) (fun _ _ => -1) (vF v 0) r (rst (vN v) x) 0).1 = v from vcol_id]; exact hv) hr Fs.rf rfl
    ·
      intro h1 wh1 mh1 fh1 kh1
      refine r_iload C (dx dX0_giveRound 12 rfl) rfl ?_
      refine r_aload_n C (dx dX0_giveRound 13 rfl) rfl ?_
      refine g_X0_15 (x := nI (vP v)) C (dx dX0_giveRound 14 rfl) wh1.eP ?_
      refine rn_ge (a := vP v) (b := vP v) (tgt := 73) C (by omega) (by omega) (dx dX0_giveRound 15 rfl) (by decide) (fun c2 => ?_) (fun c2 => ?_)
      · first
        | (omega; done)
        | (
            have c2 : vP v ≤ vP v := c2
            refine r_iload_n C (dx dX0_giveRound 40 rfl) rfl ?_
            exact F.1 _ _ _ _ _ rfl rfl (dx dX0_giveRound 41 rfl) kh1 ⟨congrArg (fun x => some (vi x)) rfl, wh1, mh1, fh1⟩)
      · first
        | (omega; done)
    ·
      intro p hp ih h6 wh6 mh6 fh6 kh6
      refine r_iload C (dx dX0_giveRound 12 rfl) rfl ?_
      refine r_aload_n C (dx dX0_giveRound 13 rfl) rfl ?_
      refine g_X0_15 (x := nI (vP v)) C (dx dX0_giveRound 14 rfl) wh6.eP ?_
      refine rn_ge (a := p) (b := vP v) (tgt := 73) C (by omega) (by omega) (dx dX0_giveRound 15 rfl) (by decide) (fun c7 => ?_) (fun c7 => ?_)
      · first
        | (omega; done)
        | (
            have c7 : vP v ≤ p := c7
            refine r_iload_n C (dx dX0_giveRound 40 rfl) rfl ?_
            exact F.1 _ _ _ _ _ rfl rfl (dx dX0_giveRound 41 rfl) kh6 ⟨congrArg (fun x => some (vi x)) (show (gvR (vN v) (fun _ _ => -1) (vF v 0) r (rst (vN v) x) p).2.2 = (gvR (vN v) (fun _ _ => -1) (vF v 0) r (rst (vN v) x) (vP v)).2.2 by rfl), wh6, mh6, fh6⟩)
      · first
        | (omega; done)
        | (
            have c7 : p < vP v := c7
            refine r_aload_n C (dx dX0_giveRound 16 rfl) rfl ?_
            refine r_aload_n C (dx dX0_giveRound 17 rfl) rfl ?_
            refine r_iload_n C (dx dX0_giveRound 18 rfl) rfl ?_
            refine r_iconst (v := -1) C (dx dX0_giveRound 19 rfl) rfl ?_
            refine r_cvP (as := [vr 5 kv, vi ((gvR (vN v) (fun _ _ => -1) (vF v 0) r (rst (vN v) x) p).2.2), vi (-1)]) (st := []) (v := vi (nxR (vN v) ((gvR (vN v) (fun _ _ => -1) (vF v 0) r (rst (vN v) x) p).2.1) ((gvR (vN v) (fun _ _ => -1) (vF v 0) r (rst (vN v) x) p).2.2) (-1))) C X I_X0_nextWithRoom l_X0_81 (c_X0_nextWithRoom wh6 mh6 hd ((gvR (vN v) (fun _ _ => -1) (vF v 0) r (rst (vN v) x) p).2.2) (-1)) (by decide) (Nat.le_of_ble_eq_true rfl) (pfx_eq kh6) rfl rfl (Nat.le_of_ble_eq_true rfl) rfl (dx dX0_giveRound 20 rfl) ?_
            refine r_istore (ls' := [(0, vr 0 k), (1, vr 5 kv), (2, vi x), (3, vi ((gvR (vN v) (fun _ _ => -1) (vF v 0) r (rst (vN v) x) p).2.2)), (4, vi (nI p)), (5, vi (nxR (vN v) ((gvR (vN v) (fun _ _ => -1) (vF v 0) r (rst (vN v) x) p).2.1) ((gvR (vN v) (fun _ _ => -1) (vF v 0) r (rst (vN v) x) p).2.2) (-1)))]) C (dx dX0_giveRound 21 rfl) (by decide) [1, 2, 3, 4, 5, 0] rfl ?_
            refine r_aload_n C (dx dX0_giveRound 22 rfl) rfl ?_
            refine g_X0_21 C (dx dX0_giveRound 23 rfl) ?_
            refine r_iload C (dx dX0_giveRound 24 rfl) rfl ?_
            refine r_aload_n C (dx dX0_giveRound 25 rfl) rfl ?_
            refine r_iload C (dx dX0_giveRound 26 rfl) rfl ?_
            refine r_cv (as := [vi (nxR (vN v) ((gvR (vN v) (fun _ _ => -1) (vF v 0) r (rst (vN v) x) p).2.1) ((gvR (vN v) (fun _ _ => -1) (vF v 0) r (rst (vN v) x) p).2.2) (-1))]) (st := [vi (nI p), vr 20 (kv + 1)]) C X I_X0_taken l_X0_74 (c_X0_taken mh6 (nxR (vN v) ((gvR (vN v) (fun _ _ => -1) (vF v 0) r (rst (vN v) x) p).2.1) ((gvR (vN v) (fun _ _ => -1) (vF v 0) r (rst (vN v) x) p).2.2) (-1))) (by decide) (Nat.le_of_ble_eq_true rfl) List.prefix_rfl (pfx_eq kh6) rfl rfl (Nat.le_of_ble_eq_true rfl) rfl (dx dX0_giveRound 27 rfl) ?_
            intro rh8 h8 hph8 kkh8
            obtain ⟨rfl, mh8, gh8⟩ := hph8
            have wh8 : VilAt h8 kv (vcol v 0 (gvR (vN v) (fun _ _ => -1) (vF v 0) r (rst (vN v) x) p).1) := wh6.fr gh8 (by omega)
            have fh8 : Fs (RA k kv) h h8 := fh6.tr (Fs.of gh8 (fun b h1 h2 => Or.inl (by omega)))
            have kh8 : xK h8 = xK h := kkh8.trans kh6
            refine r_iast (j := p) C rfl rfl (by decide) rfl (by omega) (dx dX0_giveRound 28 rfl) ?_
            have wh9 : VilAt (sI h8 (kv + 1) p (nxR (vN v) ((gvR (vN v) (fun _ _ => -1) (vF v 0) r (rst (vN v) x) p).2.1) ((gvR (vN v) (fun _ _ => -1) (vF v 0) r (rst (vN v) x) p).2.2) (-1))) kv (vcol v 0 (sf (gvR (vN v) (fun _ _ => -1) (vF v 0) r (rst (vN v) x) p).1 p (nxR (vN v) ((gvR (vN v) (fun _ _ => -1) (vF v 0) r (rst (vN v) x) p).2.1) ((gvR (vN v) (fun _ _ => -1) (vF v 0) r (rst (vN v) x) p).2.2) (-1)))) := by rw [← vset_col]; exact wh8.s0
            have mh9 : RoomAt (sI h8 (kv + 1) p (nxR (vN v) ((gvR (vN v) (fun _ _ => -1) (vF v 0) r (rst (vN v) x) p).2.1) ((gvR (vN v) (fun _ _ => -1) (vF v 0) r (rst (vN v) x) p).2.2) (-1))) k (tkn ((gvR (vN v) (fun _ _ => -1) (vF v 0) r (rst (vN v) x) p).2.1) (nxR (vN v) ((gvR (vN v) (fun _ _ => -1) (vF v 0) r (rst (vN v) x) p).2.1) ((gvR (vN v) (fun _ _ => -1) (vF v 0) r (rst (vN v) x) p).2.2) (-1))) := mh8.fr (Fr.sI (lo := kv) (hi := kv + 9) (by omega) (by omega)) (by omega)
            have fh9 : Fs (RA k kv) h (sI h8 (kv + 1) p (nxR (vN v) ((gvR (vN v) (fun _ _ => -1) (vF v 0) r (rst (vN v) x) p).2.1) ((gvR (vN v) (fun _ _ => -1) (vF v 0) r (rst (vN v) x) p).2.2) (-1))) := fh8.tr (Fs.of (Fr.sI (lo := kv) (hi := kv + 9) (by omega) (by omega)) (fun b h1 h2 => Or.inr ⟨h1, h2⟩))
            have kh9 : xK (sI h8 (kv + 1) p (nxR (vN v) ((gvR (vN v) (fun _ _ => -1) (vF v 0) r (rst (vN v) x) p).2.1) ((gvR (vN v) (fun _ _ => -1) (vF v 0) r (rst (vN v) x) p).2.2) (-1))) = xK h := kh8
            generalize sI h8 (kv + 1) p (nxR (vN v) ((gvR (vN v) (fun _ _ => -1) (vF v 0) r (rst (vN v) x) p).2.1) ((gvR (vN v) (fun _ _ => -1) (vF v 0) r (rst (vN v) x) p).2.2) (-1)) = h9 at wh9 mh9 fh9 kh9 ⊢
            refine r_iload C (dx dX0_giveRound 29 rfl) rfl ?_
            refine r_iconst (v := -1) C (dx dX0_giveRound 30 rfl) rfl ?_
            refine r_icmp_ne (tgt := 62) C (dx dX0_giveRound 31 rfl) (by decide) (fun c10 => ?_) (fun c10 => ?_)
            ·
              have c10 : ¬ nxR (vN v) ((gvR (vN v) (fun _ _ => -1) (vF v 0) r (rst (vN v) x) p).2.1) ((gvR (vN v) (fun _ _ => -1) (vF v 0) r (rst (vN v) x) p).2.2) (-1) = -1 := c10
              refine r_iload C (dx dX0_giveRound 34 rfl) rfl ?_
              refine r_iconst (v := nI 1) C (dx dX0_giveRound 35 rfl) rfl ?_
              refine r_iadd C (dx dX0_giveRound 36 rfl) ?_
              refine r_istore_n (ls' := [(0, vr 0 k), (1, vr 5 kv), (2, vi x), (3, vi ((nxR (vN v) ((gvR (vN v) (fun _ _ => -1) (vF v 0) r (rst (vN v) x) p).2.1) ((gvR (vN v) (fun _ _ => -1) (vF v 0) r (rst (vN v) x) p).2.2) (-1)) + (nI 1))), (4, vi (nI p)), (5, vi (nxR (vN v) ((gvR (vN v) (fun _ _ => -1) (vF v 0) r (rst (vN v) x) p).2.1) ((gvR (vN v) (fun _ _ => -1) (vF v 0) r (rst (vN v) x) p).2.2) (-1)))]) C (dx dX0_giveRound 37 rfl) (by decide) [1, 2, 3, 0, 4, 5] rfl ?_
              refine rn_iinc (a := p) (k := 1) (ls' := [(0, vr 0 k), (1, vr 5 kv), (2, vi x), (3, vi ((nxR (vN v) ((gvR (vN v) (fun _ _ => -1) (vF v 0) r (rst (vN v) x) p).2.1) ((gvR (vN v) (fun _ _ => -1) (vF v 0) r (rst (vN v) x) p).2.2) (-1)) + (nI 1))), (4, vi (nI (p + 1))), (5, vi (nxR (vN v) ((gvR (vN v) (fun _ _ => -1) (vF v 0) r (rst (vN v) x) p).2.1) ((gvR (vN v) (fun _ _ => -1) (vF v 0) r (rst (vN v) x) p).2.2) (-1)))]) C (dx dX0_giveRound 38 rfl) rfl rfl (by decide) [1, 2, 3, 4, 0, 5] rfl ?_
              refine r_goto (tgt := 21) C (dx dX0_giveRound 39 rfl) (by decide) ?_
              refine (?_ : Rr G 21 [(0, vr 0 k), (1, vr 5 kv), (2, vi x), (3, vi ((nxR (vN v) ((gvR (vN v) (fun _ _ => -1) (vF v 0) r (rst (vN v) x) p).2.1) ((gvR (vN v) (fun _ _ => -1) (vF v 0) r (rst (vN v) x) p).2.2) (-1)) + (nI 1))), (4, vi (nI (p + 1))), (5, vi (nxR (vN v) ((gvR (vN v) (fun _ _ => -1) (vF v 0) r (rst (vN v) x) p).2.1) ((gvR (vN v) (fun _ _ => -1) (vF v 0) r (rst (vN v) x) p).2.2) (-1)))] [] h9)
              refine r_weak C [0, 1, 2, 3, 4] rfl ?_
              rw [show ((nxR (vN v) ((gvR (vN v) (fun _ _ => -1) (vF v 0) r (rst (vN v) x) p).2.1) ((gvR (vN v) (fun _ _ => -1) (vF v 0) r (rst (vN v) x) p).2.2) (-1)) + (nI 1)) = ((gvR (vN v) (fun _ _ => -1) (vF v 0) r (rst (vN v) x) (p + 1)).2.2) by simp [gvR, c10]]
              exact ih _ (by first | exact wh9 | (rw [show (vcol v 0 (gvR (vN v) (fun _ _ => -1) (vF v 0) r (rst (vN v) x) (p + 1)).1) = (vcol v 0 (sf (gvR (vN v) (fun _ _ => -1) (vF v 0) r (rst (vN v) x) p).1 p (nxR (vN v) ((gvR (vN v) (fun _ _ => -1) (vF v 0) r (rst (vN v) x) p).2.1) ((gvR (vN v) (fun _ _ => -1) (vF v 0) r (rst (vN v) x) p).2.2) (-1)))) by simp [gvR, c10]]; exact wh9)) (by first | exact mh9 | (rw [show ((gvR (vN v) (fun _ _ => -1) (vF v 0) r (rst (vN v) x) (p + 1)).2.1) = (tkn ((gvR (vN v) (fun _ _ => -1) (vF v 0) r (rst (vN v) x) p).2.1) (nxR (vN v) ((gvR (vN v) (fun _ _ => -1) (vF v 0) r (rst (vN v) x) p).2.1) ((gvR (vN v) (fun _ _ => -1) (vF v 0) r (rst (vN v) x) p).2.2) (-1))) by simp [gvR, c10]]; exact mh9)) fh9 kh9
            ·
              have c10 : nxR (vN v) ((gvR (vN v) (fun _ _ => -1) (vF v 0) r (rst (vN v) x) p).2.1) ((gvR (vN v) (fun _ _ => -1) (vF v 0) r (rst (vN v) x) p).2.2) (-1) = -1 := c10
              refine r_iload_n C (dx dX0_giveRound 32 rfl) rfl ?_
              refine r_goto (tgt := 66) C (dx dX0_giveRound 33 rfl) (by decide) ?_
              refine r_istore_n (ls' := [(0, vr 0 k), (1, vr 5 kv), (2, vi x), (3, vi ((gvR (vN v) (fun _ _ => -1) (vF v 0) r (rst (vN v) x) p).2.2)), (4, vi (nI p)), (5, vi (nxR (vN v) ((gvR (vN v) (fun _ _ => -1) (vF v 0) r (rst (vN v) x) p).2.1) ((gvR (vN v) (fun _ _ => -1) (vF v 0) r (rst (vN v) x) p).2.2) (-1)))]) C (dx dX0_giveRound 37 rfl) (by decide) [1, 2, 3, 0, 4, 5] rfl ?_
              refine rn_iinc (a := p) (k := 1) (ls' := [(0, vr 0 k), (1, vr 5 kv), (2, vi x), (3, vi ((gvR (vN v) (fun _ _ => -1) (vF v 0) r (rst (vN v) x) p).2.2)), (4, vi (nI (p + 1))), (5, vi (nxR (vN v) ((gvR (vN v) (fun _ _ => -1) (vF v 0) r (rst (vN v) x) p).2.1) ((gvR (vN v) (fun _ _ => -1) (vF v 0) r (rst (vN v) x) p).2.2) (-1)))]) C (dx dX0_giveRound 38 rfl) rfl rfl (by decide) [1, 2, 3, 4, 0, 5] rfl ?_
              refine r_goto (tgt := 21) C (dx dX0_giveRound 39 rfl) (by decide) ?_
              refine (?_ : Rr G 21 [(0, vr 0 k), (1, vr 5 kv), (2, vi x), (3, vi ((gvR (vN v) (fun _ _ => -1) (vF v 0) r (rst (vN v) x) p).2.2)), (4, vi (nI (p + 1))), (5, vi (nxR (vN v) ((gvR (vN v) (fun _ _ => -1) (vF v 0) r (rst (vN v) x) p).2.1) ((gvR (vN v) (fun _ _ => -1) (vF v 0) r (rst (vN v) x) p).2.2) (-1)))] [] h9)
              refine r_weak C [0, 1, 2, 3, 4] rfl ?_
              rw [show ((gvR (vN v) (fun _ _ => -1) (vF v 0) r (rst (vN v) x) p).2.2) = ((gvR (vN v) (fun _ _ => -1) (vF v 0) r (rst (vN v) x) (p + 1)).2.2) by simp [gvR, c10]]
              exact ih _ (by first | exact wh9 | (rw [show (vcol v 0 (gvR (vN v) (fun _ _ => -1) (vF v 0) r (rst (vN v) x) (p + 1)).1) = (vcol v 0 (sf (gvR (vN v) (fun _ _ => -1) (vF v 0) r (rst (vN v) x) p).1 p (nxR (vN v) ((gvR (vN v) (fun _ _ => -1) (vF v 0) r (rst (vN v) x) p).2.1) ((gvR (vN v) (fun _ _ => -1) (vF v 0) r (rst (vN v) x) p).2.2) (-1)))) by simp [gvR, c10]]; exact wh9)) (by first | exact mh9 | (rw [show ((gvR (vN v) (fun _ _ => -1) (vF v 0) r (rst (vN v) x) (p + 1)).2.1) = (tkn ((gvR (vN v) (fun _ _ => -1) (vF v 0) r (rst (vN v) x) p).2.1) (nxR (vN v) ((gvR (vN v) (fun _ _ => -1) (vF v 0) r (rst (vN v) x) p).2.1) ((gvR (vN v) (fun _ _ => -1) (vF v 0) r (rst (vN v) x) p).2.2) (-1))) by simp [gvR, c10]]; exact mh9)) fh9 kh9)
  refine r_aload_n C (dx dX0_giveRound 0 rfl) rfl ?_
  refine g_X0_27 (x := nI (vN v)) C (dx dX0_giveRound 1 rfl) hv.eN ?_
  refine r_if_ne (tgt := 11) C (dx dX0_giveRound 2 rfl) (by decide) (fun c11 => ?_) (fun c11 => ?_)
  ·
    have c11 : ¬ nI (vN v) = 0 := c11
    refine r_iload_n C (dx dX0_giveRound 5 rfl) rfl ?_
    refine r_aload_n C (dx dX0_giveRound 6 rfl) rfl ?_
    refine g_X0_27 (x := nI (vN v)) C (dx dX0_giveRound 7 rfl) hv.eN ?_
    refine r_irem C (dx dX0_giveRound 8 rfl) c11 ?_
    rw [show x - x / (nI (vN v)) * (nI (vN v)) = rst (vN v) x by simp [rst, c11]]
    exact tail
  ·
    have c11 : nI (vN v) = 0 := c11
    refine r_iconst (v := nI 0) C (dx dX0_giveRound 3 rfl) rfl ?_
    refine r_goto (tgt := 17) C (dx dX0_giveRound 4 rfl) (by decide) ?_
    rw [show nI 0 = rst (vN v) x by simp [rst, c11]]
    exact tail
set_option maxHeartbeats 4000000 in
theorem c_X0_giveSure {l : Launch} {h : Hp} {k kv : Nat} {v : Vg} {r : Nat → Int32} (hv : VilAt h kv v) (hr : RoomAt h k r) (hd : k + 2 ≤ kv ∨ kv + 9 ≤ k)  : Ms l yX0_giveSure cX0_giveSure 6 none 2 [vr 0 k, vr 5 kv] h (xK h) (fun r0 h' => r0 = none ∧ VilAt h' kv (vcol v 0 (gvS v (vF v 0) r (vP v)).1) ∧ RoomAt h' k ((gvS v (vF v 0) r (vP v)).2) ∧ Fs (RA k kv) h h') := by
  refine Ms.of (by decide) (Nat.le_of_ble_eq_true rfl) (fun G C X F => ?_)
  have C : Cx G cX0_giveSure 6 RX0 := C
  show Rr G 0 [(0, vr 0 k), (1, vr 5 kv)] [] h
  have bP := hv.bP
  have bM := hv.bM
  have bN := hv.bN
  refine r_iconst (v := nI 0) C (dx dX0_giveSure 0 rfl) rfl ?_
  refine r_istore_n (ls' := [(0, vr 0 k), (1, vr 5 kv), (2, vi (nI 0))]) C (dx dX0_giveSure 1 rfl) (by decide) [1, 2, 0] rfl ?_
  refine loopU (Φ := fun p => ∀ h9, VilAt h9 kv (vcol v 0 (gvS v (vF v 0) r p).1) → RoomAt h9 k ((gvS v (vF v 0) r p).2) → Fs (RA k kv) h h9 → xK h9 = xK h → Rr G 2 [(0, vr 0 k), (1, vr 5 kv), (2, vi (nI p))] [] h9) (N := vP v) ?_ ?_ 0 (Nat.zero_le _) _ (by rw [show vcol v 0 (gvS v (vF v 0) r 0).1 = v from vcol_id]; exact hv) hr Fs.rf rfl
  ·
    intro h1 wh1 mh1 fh1 kh1
    refine r_iload_n C (dx dX0_giveSure 2 rfl) rfl ?_
    refine r_aload_n C (dx dX0_giveSure 3 rfl) rfl ?_
    refine g_X0_15 (x := nI (vP v)) C (dx dX0_giveSure 4 rfl) wh1.eP ?_
    refine rn_ge (a := vP v) (b := vP v) (tgt := 85) C (by omega) (by omega) (dx dX0_giveSure 5 rfl) (by decide) (fun c2 => ?_) (fun c2 => ?_)
    · first
      | (omega; done)
      | (
          have c2 : vP v ≤ vP v := c2
          exact F.2.2.1 _ _ _ rfl (dx dX0_giveSure 45 rfl) kh1 ⟨rfl, wh1, mh1, fh1⟩)
    · first
      | (omega; done)
      | (
          have c2 : vP v < vP v := c2
          refine r_iconst (v := -1) C (dx dX0_giveSure 6 rfl) rfl ?_
          refine r_istore_n (ls' := [(0, vr 0 k), (1, vr 5 kv), (2, vi (nI (vP v))), (3, vi (-1))]) C (dx dX0_giveSure 7 rfl) (by decide) [1, 2, 3, 0] rfl ?_
          refine r_bipush (v := nI 11) C (dx dX0_giveSure 8 rfl) rfl ?_
          refine r_istore (ls' := [(0, vr 0 k), (1, vr 5 kv), (2, vi (nI (vP v))), (3, vi (-1)), (4, vi (nI 11))]) C (dx dX0_giveSure 9 rfl) (by decide) [1, 2, 3, 4, 0] rfl ?_
          refine r_iconst (v := nI 0) C (dx dX0_giveSure 10 rfl) rfl ?_
          refine r_istore (ls' := [(0, vr 0 k), (1, vr 5 kv), (2, vi (nI (vP v))), (3, vi (-1)), (4, vi (nI 11)), (5, vi (nI 0))]) C (dx dX0_giveSure 11 rfl) (by decide) [1, 2, 3, 4, 5, 0] rfl ?_
          refine loopU (Φ := fun o => Rr G 19 [(0, vr 0 k), (1, vr 5 kv), (2, vi (nI (vP v))), (3, vi ((suR v (gvS v (vF v 0) r (vP v)).2 o).1)), (4, vi ((suR v (gvS v (vF v 0) r (vP v)).2 o).2)), (5, vi (nI o))] [] h1) (N := vN v) ?_ ?_ 0 (Nat.zero_le _)
          ·
            refine r_iload C (dx dX0_giveSure 12 rfl) rfl ?_
            refine r_aload_n C (dx dX0_giveSure 13 rfl) rfl ?_
            refine g_X0_27 (x := nI (vN v)) C (dx dX0_giveSure 14 rfl) wh1.eN ?_
            refine rn_ge (a := vN v) (b := vN v) (tgt := 68) C (by omega) (by omega) (dx dX0_giveSure 15 rfl) (by decide) (fun c3 => ?_) (fun c3 => ?_)
            · first
              | (omega; done)
            · first
              | (omega; done)
          ·
            intro o ho iho
            refine r_iload C (dx dX0_giveSure 12 rfl) rfl ?_
            refine r_aload_n C (dx dX0_giveSure 13 rfl) rfl ?_
            refine g_X0_27 (x := nI (vN v)) C (dx dX0_giveSure 14 rfl) wh1.eN ?_
            refine rn_ge (a := o) (b := vN v) (tgt := 68) C (by omega) (by omega) (dx dX0_giveSure 15 rfl) (by decide) (fun c7 => ?_) (fun c7 => ?_)
            · first
              | (omega; done)
            · first
              | (omega; done)
              | (
                  have c7 : o < vN v := c7
                  refine r_aload_n C (dx dX0_giveSure 16 rfl) rfl ?_
                  refine g_X0_85 C (dx dX0_giveSure 17 rfl) ?_
                  refine r_iload C (dx dX0_giveSure 18 rfl) rfl ?_
                  refine r_iald (j := o) (x := vF v 5 o) C rfl rfl (by decide) rfl (by omega) (dx dX0_giveSure 19 rfl) (wh1.e5 (by omega)) ?_
                  refine r_iload C (dx dX0_giveSure 20 rfl) rfl ?_
                  refine r_icmp_ge (tgt := 62) C (dx dX0_giveSure 21 rfl) (by decide) (fun c10 => ?_) (fun c10 => ?_)
                  ·
                    have c10 : (suR v (gvS v (vF v 0) r (vP v)).2 o).2 ≤ vF v 5 o := c10
                    refine rn_iinc (a := o) (k := 1) (ls' := [(0, vr 0 k), (1, vr 5 kv), (2, vi (nI (vP v))), (3, vi ((suR v (gvS v (vF v 0) r (vP v)).2 o).1)), (4, vi ((suR v (gvS v (vF v 0) r (vP v)).2 o).2)), (5, vi (nI (o + 1)))]) C (dx dX0_giveSure 34 rfl) rfl rfl (by decide) [1, 2, 3, 4, 5, 0] rfl ?_
                    refine r_goto (tgt := 19) C (dx dX0_giveSure 35 rfl) (by decide) ?_
                    rw [show ((suR v (gvS v (vF v 0) r (vP v)).2 o).1) = ((suR v (gvS v (vF v 0) r (vP v)).2 (o + 1)).1) by (simp only [suR]; rw [if_neg (fun z => z.1 c10)])]
                    rw [show ((suR v (gvS v (vF v 0) r (vP v)).2 o).2) = ((suR v (gvS v (vF v 0) r (vP v)).2 (o + 1)).2) by (simp only [suR]; rw [if_neg (fun z => z.1 c10)])]
                    exact iho
                  ·
                    have c10 : ¬ (suR v (gvS v (vF v 0) r (vP v)).2 o).2 ≤ vF v 5 o := c10
                    refine r_aload_n C (dx dX0_giveSure 22 rfl) rfl ?_
                    refine g_X0_9 C (dx dX0_giveSure 23 rfl) ?_
                    refine r_iload C (dx dX0_giveSure 24 rfl) rfl ?_
                    refine r_iald (j := o) (x := ((gvS v (vF v 0) r (vP v)).2) o) C rfl rfl (by decide) rfl (by omega) (dx dX0_giveSure 25 rfl) (mh1 _ (by omega)) ?_
                    refine r_if_le (tgt := 62) C (dx dX0_giveSure 26 rfl) (by decide) (fun c11 => ?_) (fun c11 => ?_)
                    ·
                      have c11 : ((gvS v (vF v 0) r (vP v)).2) o ≤ 0 := c11
                      refine rn_iinc (a := o) (k := 1) (ls' := [(0, vr 0 k), (1, vr 5 kv), (2, vi (nI (vP v))), (3, vi ((suR v (gvS v (vF v 0) r (vP v)).2 o).1)), (4, vi ((suR v (gvS v (vF v 0) r (vP v)).2 o).2)), (5, vi (nI (o + 1)))]) C (dx dX0_giveSure 34 rfl) rfl rfl (by decide) [1, 2, 3, 4, 5, 0] rfl ?_
                      refine r_goto (tgt := 19) C (dx dX0_giveSure 35 rfl) (by decide) ?_
                      rw [show ((suR v (gvS v (vF v 0) r (vP v)).2 o).1) = ((suR v (gvS v (vF v 0) r (vP v)).2 (o + 1)).1) by (simp only [suR]; rw [if_neg (fun z => z.2 c11)])]
                      rw [show ((suR v (gvS v (vF v 0) r (vP v)).2 o).2) = ((suR v (gvS v (vF v 0) r (vP v)).2 (o + 1)).2) by (simp only [suR]; rw [if_neg (fun z => z.2 c11)])]
                      exact iho
                    ·
                      have c11 : ¬ ((gvS v (vF v 0) r (vP v)).2) o ≤ 0 := c11
                      refine r_aload_n C (dx dX0_giveSure 27 rfl) rfl ?_
                      refine g_X0_85 C (dx dX0_giveSure 28 rfl) ?_
                      refine r_iload C (dx dX0_giveSure 29 rfl) rfl ?_
                      refine r_iald (j := o) (x := vF v 5 o) C rfl rfl (by decide) rfl (by omega) (dx dX0_giveSure 30 rfl) (wh1.e5 (by omega)) ?_
                      refine r_istore (ls' := [(0, vr 0 k), (1, vr 5 kv), (2, vi (nI (vP v))), (3, vi ((suR v (gvS v (vF v 0) r (vP v)).2 o).1)), (4, vi (vF v 5 o)), (5, vi (nI o))]) C (dx dX0_giveSure 31 rfl) (by decide) [1, 2, 3, 4, 0, 5] rfl ?_
                      refine r_iload C (dx dX0_giveSure 32 rfl) rfl ?_
                      refine r_istore_n (ls' := [(0, vr 0 k), (1, vr 5 kv), (2, vi (nI (vP v))), (3, vi (nI o)), (4, vi (vF v 5 o)), (5, vi (nI o))]) C (dx dX0_giveSure 33 rfl) (by decide) [1, 2, 3, 0, 4, 5] rfl ?_
                      refine rn_iinc (a := o) (k := 1) (ls' := [(0, vr 0 k), (1, vr 5 kv), (2, vi (nI (vP v))), (3, vi (nI o)), (4, vi (vF v 5 o)), (5, vi (nI (o + 1)))]) C (dx dX0_giveSure 34 rfl) rfl rfl (by decide) [1, 2, 3, 4, 5, 0] rfl ?_
                      refine r_goto (tgt := 19) C (dx dX0_giveSure 35 rfl) (by decide) ?_
                      rw [show (nI o) = ((suR v (gvS v (vF v 0) r (vP v)).2 (o + 1)).1) by (simp only [suR]; rw [if_pos ⟨c10, c11⟩])]
                      rw [show (vF v 5 o) = ((suR v (gvS v (vF v 0) r (vP v)).2 (o + 1)).2) by (simp only [suR]; rw [if_pos ⟨c10, c11⟩])]
                      exact iho))
  ·
    intro p hp ih h12 wh12 mh12 fh12 kh12
    refine r_iload_n C (dx dX0_giveSure 2 rfl) rfl ?_
    refine r_aload_n C (dx dX0_giveSure 3 rfl) rfl ?_
    refine g_X0_15 (x := nI (vP v)) C (dx dX0_giveSure 4 rfl) wh12.eP ?_
    refine rn_ge (a := p) (b := vP v) (tgt := 85) C (by omega) (by omega) (dx dX0_giveSure 5 rfl) (by decide) (fun c13 => ?_) (fun c13 => ?_)
    · first
      | (omega; done)
      | (
          have c13 : vP v ≤ p := c13
          exact F.2.2.1 _ _ _ rfl (dx dX0_giveSure 45 rfl) kh12 ⟨rfl, wh12, mh12, fh12⟩)
    · first
      | (omega; done)
      | (
          have c13 : p < vP v := c13
          refine r_iconst (v := -1) C (dx dX0_giveSure 6 rfl) rfl ?_
          refine r_istore_n (ls' := [(0, vr 0 k), (1, vr 5 kv), (2, vi (nI p)), (3, vi (-1))]) C (dx dX0_giveSure 7 rfl) (by decide) [1, 2, 3, 0] rfl ?_
          refine r_bipush (v := nI 11) C (dx dX0_giveSure 8 rfl) rfl ?_
          refine r_istore (ls' := [(0, vr 0 k), (1, vr 5 kv), (2, vi (nI p)), (3, vi (-1)), (4, vi (nI 11))]) C (dx dX0_giveSure 9 rfl) (by decide) [1, 2, 3, 4, 0] rfl ?_
          refine r_iconst (v := nI 0) C (dx dX0_giveSure 10 rfl) rfl ?_
          refine r_istore (ls' := [(0, vr 0 k), (1, vr 5 kv), (2, vi (nI p)), (3, vi (-1)), (4, vi (nI 11)), (5, vi (nI 0))]) C (dx dX0_giveSure 11 rfl) (by decide) [1, 2, 3, 4, 5, 0] rfl ?_
          refine loopU (Φ := fun o => Rr G 19 [(0, vr 0 k), (1, vr 5 kv), (2, vi (nI p)), (3, vi ((suR v (gvS v (vF v 0) r p).2 o).1)), (4, vi ((suR v (gvS v (vF v 0) r p).2 o).2)), (5, vi (nI o))] [] h12) (N := vN v) ?_ ?_ 0 (Nat.zero_le _)
          ·
            refine r_iload C (dx dX0_giveSure 12 rfl) rfl ?_
            refine r_aload_n C (dx dX0_giveSure 13 rfl) rfl ?_
            refine g_X0_27 (x := nI (vN v)) C (dx dX0_giveSure 14 rfl) wh12.eN ?_
            refine rn_ge (a := vN v) (b := vN v) (tgt := 68) C (by omega) (by omega) (dx dX0_giveSure 15 rfl) (by decide) (fun c14 => ?_) (fun c14 => ?_)
            · first
              | (omega; done)
              | (
                  have c14 : vN v ≤ vN v := c14
                  refine r_aload_n C (dx dX0_giveSure 36 rfl) rfl ?_
                  refine g_X0_21 C (dx dX0_giveSure 37 rfl) ?_
                  refine r_iload_n C (dx dX0_giveSure 38 rfl) rfl ?_
                  refine r_aload_n C (dx dX0_giveSure 39 rfl) rfl ?_
                  refine r_iload_n C (dx dX0_giveSure 40 rfl) rfl ?_
                  refine r_cv (as := [vi ((suR v (gvS v (vF v 0) r p).2 (vN v)).1)]) (st := [vi (nI p), vr 20 (kv + 1)]) C X I_X0_taken l_X0_74 (c_X0_taken mh12 ((suR v (gvS v (vF v 0) r p).2 (vN v)).1)) (by decide) (Nat.le_of_ble_eq_true rfl) List.prefix_rfl (pfx_eq kh12) rfl rfl (Nat.le_of_ble_eq_true rfl) rfl (dx dX0_giveSure 41 rfl) ?_
                  intro rh15 h15 hph15 kkh15
                  obtain ⟨rfl, mh15, gh15⟩ := hph15
                  have wh15 : VilAt h15 kv (vcol v 0 (gvS v (vF v 0) r p).1) := wh12.fr gh15 (by omega)
                  have fh15 : Fs (RA k kv) h h15 := fh12.tr (Fs.of gh15 (fun b h1 h2 => Or.inl (by omega)))
                  have kh15 : xK h15 = xK h := kkh15.trans kh12
                  refine r_iast (j := p) C rfl rfl (by decide) rfl (by omega) (dx dX0_giveSure 42 rfl) ?_
                  have wh16 : VilAt (sI h15 (kv + 1) p ((suR v (gvS v (vF v 0) r p).2 (vN v)).1)) kv (vcol v 0 (sf (gvS v (vF v 0) r p).1 p ((suR v (gvS v (vF v 0) r p).2 (vN v)).1))) := by rw [← vset_col]; exact wh15.s0
                  have mh16 : RoomAt (sI h15 (kv + 1) p ((suR v (gvS v (vF v 0) r p).2 (vN v)).1)) k (tkn ((gvS v (vF v 0) r p).2) ((suR v (gvS v (vF v 0) r p).2 (vN v)).1)) := mh15.fr (Fr.sI (lo := kv) (hi := kv + 9) (by omega) (by omega)) (by omega)
                  have fh16 : Fs (RA k kv) h (sI h15 (kv + 1) p ((suR v (gvS v (vF v 0) r p).2 (vN v)).1)) := fh15.tr (Fs.of (Fr.sI (lo := kv) (hi := kv + 9) (by omega) (by omega)) (fun b h1 h2 => Or.inr ⟨h1, h2⟩))
                  have kh16 : xK (sI h15 (kv + 1) p ((suR v (gvS v (vF v 0) r p).2 (vN v)).1)) = xK h := kh15
                  generalize sI h15 (kv + 1) p ((suR v (gvS v (vF v 0) r p).2 (vN v)).1) = h16 at wh16 mh16 fh16 kh16 ⊢
                  refine rn_iinc (a := p) (k := 1) (ls' := [(0, vr 0 k), (1, vr 5 kv), (2, vi (nI (p + 1))), (3, vi ((suR v (gvS v (vF v 0) r p).2 (vN v)).1)), (4, vi ((suR v (gvS v (vF v 0) r p).2 (vN v)).2)), (5, vi (nI (vN v)))]) C (dx dX0_giveSure 43 rfl) rfl rfl (by decide) [1, 2, 0, 3, 4, 5] rfl ?_
                  refine r_goto (tgt := 2) C (dx dX0_giveSure 44 rfl) (by decide) ?_
                  refine (?_ : Rr G 2 [(0, vr 0 k), (1, vr 5 kv), (2, vi (nI (p + 1))), (3, vi ((suR v (gvS v (vF v 0) r p).2 (vN v)).1)), (4, vi ((suR v (gvS v (vF v 0) r p).2 (vN v)).2)), (5, vi (nI (vN v)))] [] h16)
                  refine r_weak C [0, 1, 2] rfl ?_
                  exact ih _ (by first | exact wh16 | (rw [show (vcol v 0 (gvS v (vF v 0) r (p + 1)).1) = (vcol v 0 (sf (gvS v (vF v 0) r p).1 p ((suR v (gvS v (vF v 0) r p).2 (vN v)).1))) by rfl]; exact wh16)) (by first | exact mh16 | (rw [show ((gvS v (vF v 0) r (p + 1)).2) = (tkn ((gvS v (vF v 0) r p).2) ((suR v (gvS v (vF v 0) r p).2 (vN v)).1)) by rfl]; exact mh16)) fh16 kh16)
            · first
              | (omega; done)
          ·
            intro o ho iho
            refine r_iload C (dx dX0_giveSure 12 rfl) rfl ?_
            refine r_aload_n C (dx dX0_giveSure 13 rfl) rfl ?_
            refine g_X0_27 (x := nI (vN v)) C (dx dX0_giveSure 14 rfl) wh12.eN ?_
            refine rn_ge (a := o) (b := vN v) (tgt := 68) C (by omega) (by omega) (dx dX0_giveSure 15 rfl) (by decide) (fun c18 => ?_) (fun c18 => ?_)
            · first
              | (omega; done)
            · first
              | (omega; done)
              | (
                  have c18 : o < vN v := c18
                  refine r_aload_n C (dx dX0_giveSure 16 rfl) rfl ?_
                  refine g_X0_85 C (dx dX0_giveSure 17 rfl) ?_
                  refine r_iload C (dx dX0_giveSure 18 rfl) rfl ?_
                  refine r_iald (j := o) (x := vF v 5 o) C rfl rfl (by decide) rfl (by omega) (dx dX0_giveSure 19 rfl) (wh12.e5 (by omega)) ?_
                  refine r_iload C (dx dX0_giveSure 20 rfl) rfl ?_
                  refine r_icmp_ge (tgt := 62) C (dx dX0_giveSure 21 rfl) (by decide) (fun c21 => ?_) (fun c21 => ?_)
                  ·
                    have c21 : (suR v (gvS v (vF v 0) r p).2 o).2 ≤ vF v 5 o := c21
                    refine rn_iinc (a := o) (k := 1) (ls' := [(0, vr 0 k), (1, vr 5 kv), (2, vi (nI p)), (3, vi ((suR v (gvS v (vF v 0) r p).2 o).1)), (4, vi ((suR v (gvS v (vF v 0) r p).2 o).2)), (5, vi (nI (o + 1)))]) C (dx dX0_giveSure 34 rfl) rfl rfl (by decide) [1, 2, 3, 4, 5, 0] rfl ?_
                    refine r_goto (tgt := 19) C (dx dX0_giveSure 35 rfl) (by decide) ?_
                    rw [show ((suR v (gvS v (vF v 0) r p).2 o).1) = ((suR v (gvS v (vF v 0) r p).2 (o + 1)).1) by (simp only [suR]; rw [if_neg (fun z => z.1 c21)])]
                    rw [show ((suR v (gvS v (vF v 0) r p).2 o).2) = ((suR v (gvS v (vF v 0) r p).2 (o + 1)).2) by (simp only [suR]; rw [if_neg (fun z => z.1 c21)])]
                    exact iho
                  ·
                    have c21 : ¬ (suR v (gvS v (vF v 0) r p).2 o).2 ≤ vF v 5 o := c21
                    refine r_aload_n C (dx dX0_giveSure 22 rfl) rfl ?_
                    refine g_X0_9 C (dx dX0_giveSure 23 rfl) ?_
                    refine r_iload C (dx dX0_giveSure 24 rfl) rfl ?_
                    refine r_iald (j := o) (x := ((gvS v (vF v 0) r p).2) o) C rfl rfl (by decide) rfl (by omega) (dx dX0_giveSure 25 rfl) (mh12 _ (by omega)) ?_
                    refine r_if_le (tgt := 62) C (dx dX0_giveSure 26 rfl) (by decide) (fun c22 => ?_) (fun c22 => ?_)
                    ·
                      have c22 : ((gvS v (vF v 0) r p).2) o ≤ 0 := c22
                      refine rn_iinc (a := o) (k := 1) (ls' := [(0, vr 0 k), (1, vr 5 kv), (2, vi (nI p)), (3, vi ((suR v (gvS v (vF v 0) r p).2 o).1)), (4, vi ((suR v (gvS v (vF v 0) r p).2 o).2)), (5, vi (nI (o + 1)))]) C (dx dX0_giveSure 34 rfl) rfl rfl (by decide) [1, 2, 3, 4, 5, 0] rfl ?_
                      refine r_goto (tgt := 19) C (dx dX0_giveSure 35 rfl) (by decide) ?_
                      rw [show ((suR v (gvS v (vF v 0) r p).2 o).1) = ((suR v (gvS v (vF v 0) r p).2 (o + 1)).1) by (simp only [suR]; rw [if_neg (fun z => z.2 c22)])]
                      rw [show ((suR v (gvS v (vF v 0) r p).2 o).2) = ((suR v (gvS v (vF v 0) r p).2 (o + 1)).2) by (simp only [suR]; rw [if_neg (fun z => z.2 c22)])]
                      exact iho
                    ·
                      have c22 : ¬ ((gvS v (vF v 0) r p).2) o ≤ 0 := c22
                      refine r_aload_n C (dx dX0_giveSure 27 rfl) rfl ?_
                      refine g_X0_85 C (dx dX0_giveSure 28 rfl) ?_
                      refine r_iload C (dx dX0_giveSure 29 rfl) rfl ?_
                      refine r_iald (j := o) (x := vF v 5 o) C rfl rfl (by decide) rfl (by omega) (dx dX0_giveSure 30 rfl) (wh12.e5 (by omega)) ?_
                      refine r_istore (ls' := [(0, vr 0 k), (1, vr 5 kv), (2, vi (nI p)), (3, vi ((suR v (gvS v (vF v 0) r p).2 o).1)), (4, vi (vF v 5 o)), (5, vi (nI o))]) C (dx dX0_giveSure 31 rfl) (by decide) [1, 2, 3, 4, 0, 5] rfl ?_
                      refine r_iload C (dx dX0_giveSure 32 rfl) rfl ?_
                      refine r_istore_n (ls' := [(0, vr 0 k), (1, vr 5 kv), (2, vi (nI p)), (3, vi (nI o)), (4, vi (vF v 5 o)), (5, vi (nI o))]) C (dx dX0_giveSure 33 rfl) (by decide) [1, 2, 3, 0, 4, 5] rfl ?_
                      refine rn_iinc (a := o) (k := 1) (ls' := [(0, vr 0 k), (1, vr 5 kv), (2, vi (nI p)), (3, vi (nI o)), (4, vi (vF v 5 o)), (5, vi (nI (o + 1)))]) C (dx dX0_giveSure 34 rfl) rfl rfl (by decide) [1, 2, 3, 4, 5, 0] rfl ?_
                      refine r_goto (tgt := 19) C (dx dX0_giveSure 35 rfl) (by decide) ?_
                      rw [show (nI o) = ((suR v (gvS v (vF v 0) r p).2 (o + 1)).1) by (simp only [suR]; rw [if_pos ⟨c21, c22⟩])]
                      rw [show (vF v 5 o) = ((suR v (gvS v (vF v 0) r p).2 (o + 1)).2) by (simp only [suR]; rw [if_pos ⟨c21, c22⟩])]
                      exact iho))
theorem vcol_vcol {v : Vg} {c : Nat} {f g : Nat → Int32} : vcol (vcol v c f) c g = vcol v c g := by
  unfold vcol
  refine Prod.ext rfl (Prod.ext rfl (Prod.ext rfl (Prod.ext ?_ rfl)))
  funext c' j
  simp only
  by_cases h1 : c' = c <;> simp [h1, vF]
theorem wtS_col {v : Vg} {f : Nat → Int32} {s : Int32} : ∀ n, wtS (vcol v 0 f) s n = wtS v s n
  | 0 => rfl
  | n + 1 => by simp only [wtS, wtS_col n]; rfl
theorem wt_in {v : Vg} {s : Int32} : ∀ n, n < 2 ^ 31 → ¬ (wtS v s n).1 = -1 → inR (wtS v s n).1 n = true
  | 0, _, h => absurd rfl h
  | n + 1, hn, h => by
    simp only [wtS] at h ⊢
    split
    · rw [inR_nI (by omega)]; exact decide_eq_true (by omega)
    · next q =>
      rw [if_neg q] at h
      have := wt_in n (by omega) h
      obtain ⟨e, l⟩ := inR_at (by omega) this
      rw [e, inR_nI (by omega)]; exact decide_eq_true (by omega)
def onS (f : Nat → Int32) (s : Int32) : Nat → Int32
  | 0 => nI 0
  | p + 1 => if ¬ (s &&& (nI 1 <<< (nI p &&& 31))) = 0 ∧ ¬ f p = -1 then onS f s p ||| (nI 1 <<< (f p &&& 31)) else onS f s p
def pck (n : Nat) (r : Nat → Int32) (ow : Int32) (am : Nat) : Int32 := if fwR r ow am = -1 then fwR r (full n) am else fwR r ow am
def ndS (n : Nat) (f r : Nat → Int32) (ow s : Int32) (am : Nat) : Nat → (Nat → Int32) × (Nat → Int32) × Int32
  | 0 => (f, r, ow)
  | p + 1 => if ¬ (s &&& (nI 1 <<< (nI p &&& 31))) = 0 ∧ (ndS n f r ow s am p).1 p = -1 ∧ ¬ pck n (ndS n f r ow s am p).2.1 (ndS n f r ow s am p).2.2 am = -1 then
      (sf (ndS n f r ow s am p).1 p (pck n (ndS n f r ow s am p).2.1 (ndS n f r ow s am p).2.2 am), tkn (ndS n f r ow s am p).2.1 (pck n (ndS n f r ow s am p).2.1 (ndS n f r ow s am p).2.2 am),
        (ndS n f r ow s am p).2.2 ||| (nI 1 <<< (pck n (ndS n f r ow s am p).2.1 (ndS n f r ow s am p).2.2 am &&& 31)))
    else ndS n f r ow s am p
def whS (v : Vg) (f r : Nat → Int32) (am : Nat) : Nat → (Nat → Int32) × (Nat → Int32) × Int32
  | 0 => (f, r, nI 0)
  | j + 1 => if (wtS v (whS v f r am j).2.2 (vM v)).1 = -1 then whS v f r am j else
      ((ndS (vN v) (whS v f r am j).1 (whS v f r am j).2.1 (onS (whS v f r am j).1 (vF v 2 (wtS v (whS v f r am j).2.2 (vM v)).1.toNatClampNeg) (vP v)) (vF v 2 (wtS v (whS v f r am j).2.2 (vM v)).1.toNatClampNeg) am (vP v)).1,
       (ndS (vN v) (whS v f r am j).1 (whS v f r am j).2.1 (onS (whS v f r am j).1 (vF v 2 (wtS v (whS v f r am j).2.2 (vM v)).1.toNatClampNeg) (vP v)) (vF v 2 (wtS v (whS v f r am j).2.2 (vM v)).1.toNatClampNeg) am (vP v)).2.1,
       (whS v f r am j).2.2 ||| (nI 1 <<< ((wtS v (whS v f r am j).2.2 (vM v)).1 &&& 31)))
def fiS (n : Nat) (f r : Nat → Int32) (am : Nat) : Nat → (Nat → Int32) × (Nat → Int32)
  | 0 => (f, r)
  | p + 1 => if (fiS n f r am p).1 p = -1 then (sf (fiS n f r am p).1 p (fwR (fiS n f r am p).2 (full n) am), tkn (fiS n f r am p).2 (fwR (fiS n f r am p).2 (full n) am)) else fiS n f r am p
set_option maxHeartbeats 4000000 in
theorem c_X0_giveNeeds {l : Launch} {h : Hp} {k kv : Nat} {v : Vg} {r : Nat → Int32} (hv : VilAt h kv v) (hr : RoomAt h k r) (hd : k + 2 ≤ kv ∨ kv + 9 ≤ k) (s : Int32) {am : Nat} (ha : am ≤ 8) : Ms l yX0_giveNeeds cX0_giveNeeds 7 none 3 [vr 0 k, vr 5 kv, vi s, vi (nI am)] h (xK h) (fun r0 h' => r0 = none ∧ VilAt h' kv (vcol v 0 (ndS (vN v) (vF v 0) r (onS (vF v 0) s (vP v)) s am (vP v)).1) ∧ RoomAt h' k ((ndS (vN v) (vF v 0) r (onS (vF v 0) s (vP v)) s am (vP v)).2.1) ∧ Fs (RA k kv) h h') := by
  refine Ms.of (by decide) (Nat.le_of_ble_eq_true rfl) (fun G C X F => ?_)
  have C : Cx G cX0_giveNeeds 7 RX0 := C
  show Rr G 0 [(0, vr 0 k), (1, vr 5 kv), (2, vi s), (3, vi (nI am))] [] h
  have bP := hv.bP
  have bM := hv.bM
  have bN := hv.bN
  refine r_iconst (v := nI 0) C (dx dX0_giveNeeds 0 rfl) rfl ?_
  refine r_istore (ls' := [(0, vr 0 k), (1, vr 5 kv), (2, vi s), (3, vi (nI am)), (4, vi (nI 0))]) C (dx dX0_giveNeeds 1 rfl) (by decide) [1, 2, 3, 4, 0] rfl ?_
  refine r_iconst (v := nI 0) C (dx dX0_giveNeeds 2 rfl) rfl ?_
  refine r_istore (ls' := [(0, vr 0 k), (1, vr 5 kv), (2, vi s), (3, vi (nI am)), (4, vi (nI 0)), (5, vi (nI 0))]) C (dx dX0_giveNeeds 3 rfl) (by decide) [1, 2, 3, 4, 5, 0] rfl ?_
  refine loopU (Φ := fun p => Rr G 6 [(0, vr 0 k), (1, vr 5 kv), (2, vi s), (3, vi (nI am)), (4, vi (onS (vF v 0) s p)), (5, vi (nI p))] [] h) (N := vP v) ?_ ?_ 0 (Nat.zero_le _)
  ·
    refine r_iload C (dx dX0_giveNeeds 4 rfl) rfl ?_
    refine r_aload_n C (dx dX0_giveNeeds 5 rfl) rfl ?_
    refine g_X0_15 (x := nI (vP v)) C (dx dX0_giveNeeds 6 rfl) hv.eP ?_
    refine rn_ge (a := vP v) (b := vP v) (tgt := 55) C (by omega) (by omega) (dx dX0_giveNeeds 7 rfl) (by decide) (fun c1 => ?_) (fun c1 => ?_)
    · first
      | (omega; done)
      | (
          have c1 : vP v ≤ vP v := c1
          refine r_iconst (v := nI 0) C (dx dX0_giveNeeds 31 rfl) rfl ?_
          refine r_istore (ls' := [(0, vr 0 k), (1, vr 5 kv), (2, vi s), (3, vi (nI am)), (4, vi (onS (vF v 0) s (vP v))), (5, vi (nI 0))]) C (dx dX0_giveNeeds 32 rfl) (by decide) [1, 2, 3, 4, 5, 0] rfl ?_
          refine loopU (Φ := fun p => ∀ h9, VilAt h9 kv (vcol v 0 (ndS (vN v) (vF v 0) r (onS (vF v 0) s (vP v)) s am p).1) → RoomAt h9 k ((ndS (vN v) (vF v 0) r (onS (vF v 0) s (vP v)) s am p).2.1) → Fs (RA k kv) h h9 → xK h9 = xK h → Rr G 58 [(0, vr 0 k), (1, vr 5 kv), (2, vi s), (3, vi (nI am)), (4, vi ((ndS (vN v) (vF v 0) r (onS (vF v 0) s (vP v)) s am p).2.2)), (5, vi (nI p))] [] h9) (N := vP v) ?_ ?_ 0 (Nat.zero_le _) _ (by rw [show vcol v 0 (ndS (vN v) (vF v 0) r (onS (vF v 0) s (vP v)) s am 0).1 = v from vcol_id]; exact hv) hr Fs.rf rfl
          ·
            intro h2 wh2 mh2 fh2 kh2
            refine r_iload C (dx dX0_giveNeeds 33 rfl) rfl ?_
            refine r_aload_n C (dx dX0_giveNeeds 34 rfl) rfl ?_
            refine g_X0_15 (x := nI (vP v)) C (dx dX0_giveNeeds 35 rfl) wh2.eP ?_
            refine rn_ge (a := vP v) (b := vP v) (tgt := 147) C (by omega) (by omega) (dx dX0_giveNeeds 36 rfl) (by decide) (fun c3 => ?_) (fun c3 => ?_)
            · first
              | (omega; done)
              | (
                  have c3 : vP v ≤ vP v := c3
                  exact F.2.2.1 _ _ _ rfl (dx dX0_giveNeeds 81 rfl) kh2 ⟨rfl, wh2, mh2, fh2⟩)
            · first
              | (omega; done)
          ·
            intro p hp ih h5 wh5 mh5 fh5 kh5
            refine r_iload C (dx dX0_giveNeeds 33 rfl) rfl ?_
            refine r_aload_n C (dx dX0_giveNeeds 34 rfl) rfl ?_
            refine g_X0_15 (x := nI (vP v)) C (dx dX0_giveNeeds 35 rfl) wh5.eP ?_
            refine rn_ge (a := p) (b := vP v) (tgt := 147) C (by omega) (by omega) (dx dX0_giveNeeds 36 rfl) (by decide) (fun c6 => ?_) (fun c6 => ?_)
            · first
              | (omega; done)
              | (
                  have c6 : vP v ≤ p := c6
                  exact F.2.2.1 _ _ _ rfl (dx dX0_giveNeeds 81 rfl) kh5 ⟨rfl, wh5, mh5, fh5⟩)
            · first
              | (omega; done)
              | (
                  have c6 : p < vP v := c6
                  refine r_iload_n C (dx dX0_giveNeeds 37 rfl) rfl ?_
                  refine r_iconst (v := nI 1) C (dx dX0_giveNeeds 38 rfl) rfl ?_
                  refine r_iload C (dx dX0_giveNeeds 39 rfl) rfl ?_
                  refine r_ishl C (dx dX0_giveNeeds 40 rfl) ?_
                  refine r_iand C (dx dX0_giveNeeds 41 rfl) ?_
                  refine r_if_eq (tgt := 141) C (dx dX0_giveNeeds 42 rfl) (by decide) (fun c7 => ?_) (fun c7 => ?_)
                  ·
                    have c7 : s &&& ((nI 1) <<< ((nI p) &&& 31)) = 0 := c7
                    refine rn_iinc (a := p) (k := 1) (ls' := [(0, vr 0 k), (1, vr 5 kv), (2, vi s), (3, vi (nI am)), (4, vi ((ndS (vN v) (vF v 0) r (onS (vF v 0) s (vP v)) s am p).2.2)), (5, vi (nI (p + 1)))]) C (dx dX0_giveNeeds 79 rfl) rfl rfl (by decide) [1, 2, 3, 4, 5, 0] rfl ?_
                    refine r_goto (tgt := 58) C (dx dX0_giveNeeds 80 rfl) (by decide) ?_
                    refine (?_ : Rr G 58 [(0, vr 0 k), (1, vr 5 kv), (2, vi s), (3, vi (nI am)), (4, vi ((ndS (vN v) (vF v 0) r (onS (vF v 0) s (vP v)) s am p).2.2)), (5, vi (nI (p + 1)))] [] h5)
                    rw [show ((ndS (vN v) (vF v 0) r (onS (vF v 0) s (vP v)) s am p).2.2) = ((ndS (vN v) (vF v 0) r (onS (vF v 0) s (vP v)) s am (p + 1)).2.2) by (simp only [ndS]; rw [if_neg (fun z => z.1 c7)])]
                    exact ih _ (by rw [show (vcol v 0 (ndS (vN v) (vF v 0) r (onS (vF v 0) s (vP v)) s am (p + 1)).1) = (vcol v 0 (ndS (vN v) (vF v 0) r (onS (vF v 0) s (vP v)) s am p).1) by (simp only [ndS]; rw [if_neg (fun z => z.1 c7)])]; exact wh5) (by rw [show ((ndS (vN v) (vF v 0) r (onS (vF v 0) s (vP v)) s am (p + 1)).2.1) = ((ndS (vN v) (vF v 0) r (onS (vF v 0) s (vP v)) s am p).2.1) by (simp only [ndS]; rw [if_neg (fun z => z.1 c7)])]; exact mh5) fh5 kh5
                  ·
                    have c7 : ¬ s &&& ((nI 1) <<< ((nI p) &&& 31)) = 0 := c7
                    refine r_aload_n C (dx dX0_giveNeeds 43 rfl) rfl ?_
                    refine g_X0_21 C (dx dX0_giveNeeds 44 rfl) ?_
                    refine r_iload C (dx dX0_giveNeeds 45 rfl) rfl ?_
                    refine r_iald (j := p) (x := (ndS (vN v) (vF v 0) r (onS (vF v 0) s (vP v)) s am p).1 p) C rfl rfl (by decide) rfl (by omega) (dx dX0_giveNeeds 46 rfl) (wh5.e0 (by omega)) ?_
                    refine r_iconst (v := -1) C (dx dX0_giveNeeds 47 rfl) rfl ?_
                    refine r_icmp_ne (tgt := 141) C (dx dX0_giveNeeds 48 rfl) (by decide) (fun c8 => ?_) (fun c8 => ?_)
                    ·
                      have c8 : ¬ (ndS (vN v) (vF v 0) r (onS (vF v 0) s (vP v)) s am p).1 p = -1 := c8
                      refine rn_iinc (a := p) (k := 1) (ls' := [(0, vr 0 k), (1, vr 5 kv), (2, vi s), (3, vi (nI am)), (4, vi ((ndS (vN v) (vF v 0) r (onS (vF v 0) s (vP v)) s am p).2.2)), (5, vi (nI (p + 1)))]) C (dx dX0_giveNeeds 79 rfl) rfl rfl (by decide) [1, 2, 3, 4, 5, 0] rfl ?_
                      refine r_goto (tgt := 58) C (dx dX0_giveNeeds 80 rfl) (by decide) ?_
                      refine (?_ : Rr G 58 [(0, vr 0 k), (1, vr 5 kv), (2, vi s), (3, vi (nI am)), (4, vi ((ndS (vN v) (vF v 0) r (onS (vF v 0) s (vP v)) s am p).2.2)), (5, vi (nI (p + 1)))] [] h5)
                      rw [show ((ndS (vN v) (vF v 0) r (onS (vF v 0) s (vP v)) s am p).2.2) = ((ndS (vN v) (vF v 0) r (onS (vF v 0) s (vP v)) s am (p + 1)).2.2) by (simp only [ndS]; rw [if_neg (fun z => c8 z.2.1)])]
                      exact ih _ (by rw [show (vcol v 0 (ndS (vN v) (vF v 0) r (onS (vF v 0) s (vP v)) s am (p + 1)).1) = (vcol v 0 (ndS (vN v) (vF v 0) r (onS (vF v 0) s (vP v)) s am p).1) by (simp only [ndS]; rw [if_neg (fun z => c8 z.2.1)])]; exact wh5) (by rw [show ((ndS (vN v) (vF v 0) r (onS (vF v 0) s (vP v)) s am (p + 1)).2.1) = ((ndS (vN v) (vF v 0) r (onS (vF v 0) s (vP v)) s am p).2.1) by (simp only [ndS]; rw [if_neg (fun z => c8 z.2.1)])]; exact mh5) fh5 kh5
                    ·
                      have c8 : (ndS (vN v) (vF v 0) r (onS (vF v 0) s (vP v)) s am p).1 p = -1 := c8
                      refine r_aload_n C (dx dX0_giveNeeds 49 rfl) rfl ?_
                      refine r_iload C (dx dX0_giveNeeds 50 rfl) rfl ?_
                      refine r_iload_n C (dx dX0_giveNeeds 51 rfl) rfl ?_
                      refine r_cvP (as := [vi ((ndS (vN v) (vF v 0) r (onS (vF v 0) s (vP v)) s am p).2.2), vi (nI am)]) (st := []) (v := vi (fwR ((ndS (vN v) (vF v 0) r (onS (vF v 0) s (vP v)) s am p).2.1) ((ndS (vN v) (vF v 0) r (onS (vF v 0) s (vP v)) s am p).2.2) am)) C X I_X0_firstWithRoom l_X0_71 (c_X0_firstWithRoom mh5 ((ndS (vN v) (vF v 0) r (onS (vF v 0) s (vP v)) s am p).2.2) ha) (by decide) (Nat.le_of_ble_eq_true rfl) (pfx_eq kh5) rfl rfl (Nat.le_of_ble_eq_true rfl) rfl (dx dX0_giveNeeds 52 rfl) ?_
                      refine r_istore (ls' := [(0, vr 0 k), (1, vr 5 kv), (2, vi s), (3, vi (nI am)), (4, vi ((ndS (vN v) (vF v 0) r (onS (vF v 0) s (vP v)) s am p).2.2)), (5, vi (nI p)), (6, vi (fwR ((ndS (vN v) (vF v 0) r (onS (vF v 0) s (vP v)) s am p).2.1) ((ndS (vN v) (vF v 0) r (onS (vF v 0) s (vP v)) s am p).2.2) am))]) C (dx dX0_giveNeeds 53 rfl) (by decide) [1, 2, 3, 4, 5, 6, 0] rfl ?_
                      refine r_iload C (dx dX0_giveNeeds 54 rfl) rfl ?_
                      refine r_iconst (v := -1) C (dx dX0_giveNeeds 55 rfl) rfl ?_
                      refine r_icmp_ne (tgt := 113) C (dx dX0_giveNeeds 56 rfl) (by decide) (fun c9 => ?_) (fun c9 => ?_)
                      ·
                        have c9 : ¬ fwR ((ndS (vN v) (vF v 0) r (onS (vF v 0) s (vP v)) s am p).2.1) ((ndS (vN v) (vF v 0) r (onS (vF v 0) s (vP v)) s am p).2.2) am = -1 := c9
                        rw [show fwR ((ndS (vN v) (vF v 0) r (onS (vF v 0) s (vP v)) s am p).2.1) ((ndS (vN v) (vF v 0) r (onS (vF v 0) s (vP v)) s am p).2.2) am = pck (vN v) ((ndS (vN v) (vF v 0) r (onS (vF v 0) s (vP v)) s am p).2.1) ((ndS (vN v) (vF v 0) r (onS (vF v 0) s (vP v)) s am p).2.2) am by unfold pck; rw [if_neg c9]]
                        refine r_iload C (dx dX0_giveNeeds 63 rfl) rfl ?_
                        refine r_iconst (v := -1) C (dx dX0_giveNeeds 64 rfl) rfl ?_
                        refine r_icmp_eq (tgt := 141) C (dx dX0_giveNeeds 65 rfl) (by decide) (fun c10 => ?_) (fun c10 => ?_)
                        ·
                          have c10 : pck (vN v) ((ndS (vN v) (vF v 0) r (onS (vF v 0) s (vP v)) s am p).2.1) ((ndS (vN v) (vF v 0) r (onS (vF v 0) s (vP v)) s am p).2.2) am = -1 := c10
                          refine rn_iinc (a := p) (k := 1) (ls' := [(0, vr 0 k), (1, vr 5 kv), (2, vi s), (3, vi (nI am)), (4, vi ((ndS (vN v) (vF v 0) r (onS (vF v 0) s (vP v)) s am p).2.2)), (5, vi (nI (p + 1))), (6, vi (pck (vN v) ((ndS (vN v) (vF v 0) r (onS (vF v 0) s (vP v)) s am p).2.1) ((ndS (vN v) (vF v 0) r (onS (vF v 0) s (vP v)) s am p).2.2) am))]) C (dx dX0_giveNeeds 79 rfl) rfl rfl (by decide) [1, 2, 3, 4, 5, 0, 6] rfl ?_
                          refine r_goto (tgt := 58) C (dx dX0_giveNeeds 80 rfl) (by decide) ?_
                          refine (?_ : Rr G 58 [(0, vr 0 k), (1, vr 5 kv), (2, vi s), (3, vi (nI am)), (4, vi ((ndS (vN v) (vF v 0) r (onS (vF v 0) s (vP v)) s am p).2.2)), (5, vi (nI (p + 1))), (6, vi (pck (vN v) ((ndS (vN v) (vF v 0) r (onS (vF v 0) s (vP v)) s am p).2.1) ((ndS (vN v) (vF v 0) r (onS (vF v 0) s (vP v)) s am p).2.2) am))] [] h5)
                          refine r_weak C [0, 1, 2, 3, 4, 5] rfl ?_
                          rw [show ((ndS (vN v) (vF v 0) r (onS (vF v 0) s (vP v)) s am p).2.2) = ((ndS (vN v) (vF v 0) r (onS (vF v 0) s (vP v)) s am (p + 1)).2.2) by (simp only [ndS]; rw [if_neg (fun z => z.2.2 c10)])]
                          exact ih _ (by rw [show (vcol v 0 (ndS (vN v) (vF v 0) r (onS (vF v 0) s (vP v)) s am (p + 1)).1) = (vcol v 0 (ndS (vN v) (vF v 0) r (onS (vF v 0) s (vP v)) s am p).1) by (simp only [ndS]; rw [if_neg (fun z => z.2.2 c10)])]; exact wh5) (by rw [show ((ndS (vN v) (vF v 0) r (onS (vF v 0) s (vP v)) s am (p + 1)).2.1) = ((ndS (vN v) (vF v 0) r (onS (vF v 0) s (vP v)) s am p).2.1) by (simp only [ndS]; rw [if_neg (fun z => z.2.2 c10)])]; exact mh5) fh5 kh5
                        ·
                          have c10 : ¬ pck (vN v) ((ndS (vN v) (vF v 0) r (onS (vF v 0) s (vP v)) s am p).2.1) ((ndS (vN v) (vF v 0) r (onS (vF v 0) s (vP v)) s am p).2.2) am = -1 := c10
                          refine r_aload_n C (dx dX0_giveNeeds 66 rfl) rfl ?_
                          refine g_X0_21 C (dx dX0_giveNeeds 67 rfl) ?_
                          refine r_iload C (dx dX0_giveNeeds 68 rfl) rfl ?_
                          refine r_aload_n C (dx dX0_giveNeeds 69 rfl) rfl ?_
                          refine r_iload C (dx dX0_giveNeeds 70 rfl) rfl ?_
                          refine r_cv (as := [vi (pck (vN v) ((ndS (vN v) (vF v 0) r (onS (vF v 0) s (vP v)) s am p).2.1) ((ndS (vN v) (vF v 0) r (onS (vF v 0) s (vP v)) s am p).2.2) am)]) (st := [vi (nI p), vr 20 (kv + 1)]) C X I_X0_taken l_X0_74 (c_X0_taken mh5 (pck (vN v) ((ndS (vN v) (vF v 0) r (onS (vF v 0) s (vP v)) s am p).2.1) ((ndS (vN v) (vF v 0) r (onS (vF v 0) s (vP v)) s am p).2.2) am)) (by decide) (Nat.le_of_ble_eq_true rfl) List.prefix_rfl (pfx_eq kh5) rfl rfl (Nat.le_of_ble_eq_true rfl) rfl (dx dX0_giveNeeds 71 rfl) ?_
                          intro rh11 h11 hph11 kkh11
                          obtain ⟨rfl, mh11, gh11⟩ := hph11
                          have wh11 : VilAt h11 kv (vcol v 0 (ndS (vN v) (vF v 0) r (onS (vF v 0) s (vP v)) s am p).1) := wh5.fr gh11 (by omega)
                          have fh11 : Fs (RA k kv) h h11 := fh5.tr (Fs.of gh11 (fun b h1 h2 => Or.inl (by omega)))
                          have kh11 : xK h11 = xK h := kkh11.trans kh5
                          refine r_iast (j := p) C rfl rfl (by decide) rfl (by omega) (dx dX0_giveNeeds 72 rfl) ?_
                          have wh12 : VilAt (sI h11 (kv + 1) p (pck (vN v) ((ndS (vN v) (vF v 0) r (onS (vF v 0) s (vP v)) s am p).2.1) ((ndS (vN v) (vF v 0) r (onS (vF v 0) s (vP v)) s am p).2.2) am)) kv (vcol v 0 (sf (ndS (vN v) (vF v 0) r (onS (vF v 0) s (vP v)) s am p).1 p (pck (vN v) ((ndS (vN v) (vF v 0) r (onS (vF v 0) s (vP v)) s am p).2.1) ((ndS (vN v) (vF v 0) r (onS (vF v 0) s (vP v)) s am p).2.2) am))) := by rw [← vset_col]; exact wh11.s0
                          have mh12 : RoomAt (sI h11 (kv + 1) p (pck (vN v) ((ndS (vN v) (vF v 0) r (onS (vF v 0) s (vP v)) s am p).2.1) ((ndS (vN v) (vF v 0) r (onS (vF v 0) s (vP v)) s am p).2.2) am)) k (tkn ((ndS (vN v) (vF v 0) r (onS (vF v 0) s (vP v)) s am p).2.1) (pck (vN v) ((ndS (vN v) (vF v 0) r (onS (vF v 0) s (vP v)) s am p).2.1) ((ndS (vN v) (vF v 0) r (onS (vF v 0) s (vP v)) s am p).2.2) am)) := mh11.fr (Fr.sI (lo := kv) (hi := kv + 9) (by omega) (by omega)) (by omega)
                          have fh12 : Fs (RA k kv) h (sI h11 (kv + 1) p (pck (vN v) ((ndS (vN v) (vF v 0) r (onS (vF v 0) s (vP v)) s am p).2.1) ((ndS (vN v) (vF v 0) r (onS (vF v 0) s (vP v)) s am p).2.2) am)) := fh11.tr (Fs.of (Fr.sI (lo := kv) (hi := kv + 9) (by omega) (by omega)) (fun b h1 h2 => Or.inr ⟨h1, h2⟩))
                          have kh12 : xK (sI h11 (kv + 1) p (pck (vN v) ((ndS (vN v) (vF v 0) r (onS (vF v 0) s (vP v)) s am p).2.1) ((ndS (vN v) (vF v 0) r (onS (vF v 0) s (vP v)) s am p).2.2) am)) = xK h := kh11
                          generalize sI h11 (kv + 1) p (pck (vN v) ((ndS (vN v) (vF v 0) r (onS (vF v 0) s (vP v)) s am p).2.1) ((ndS (vN v) (vF v 0) r (onS (vF v 0) s (vP v)) s am p).2.2) am) = h12 at wh12 mh12 fh12 kh12 ⊢
                          refine r_iload C (dx dX0_giveNeeds 73 rfl) rfl ?_
                          refine r_iconst (v := nI 1) C (dx dX0_giveNeeds 74 rfl) rfl ?_
                          refine r_iload C (dx dX0_giveNeeds 75 rfl) rfl ?_
                          refine r_ishl C (dx dX0_giveNeeds 76 rfl) ?_
                          refine r_ior C (dx dX0_giveNeeds 77 rfl) ?_
                          refine r_istore (ls' := [(0, vr 0 k), (1, vr 5 kv), (2, vi s), (3, vi (nI am)), (4, vi (((ndS (vN v) (vF v 0) r (onS (vF v 0) s (vP v)) s am p).2.2) ||| ((nI 1) <<< ((pck (vN v) ((ndS (vN v) (vF v 0) r (onS (vF v 0) s (vP v)) s am p).2.1) ((ndS (vN v) (vF v 0) r (onS (vF v 0) s (vP v)) s am p).2.2) am) &&& 31)))), (5, vi (nI p)), (6, vi (pck (vN v) ((ndS (vN v) (vF v 0) r (onS (vF v 0) s (vP v)) s am p).2.1) ((ndS (vN v) (vF v 0) r (onS (vF v 0) s (vP v)) s am p).2.2) am))]) C (dx dX0_giveNeeds 78 rfl) (by decide) [1, 2, 3, 4, 0, 5, 6] rfl ?_
                          refine rn_iinc (a := p) (k := 1) (ls' := [(0, vr 0 k), (1, vr 5 kv), (2, vi s), (3, vi (nI am)), (4, vi (((ndS (vN v) (vF v 0) r (onS (vF v 0) s (vP v)) s am p).2.2) ||| ((nI 1) <<< ((pck (vN v) ((ndS (vN v) (vF v 0) r (onS (vF v 0) s (vP v)) s am p).2.1) ((ndS (vN v) (vF v 0) r (onS (vF v 0) s (vP v)) s am p).2.2) am) &&& 31)))), (5, vi (nI (p + 1))), (6, vi (pck (vN v) ((ndS (vN v) (vF v 0) r (onS (vF v 0) s (vP v)) s am p).2.1) ((ndS (vN v) (vF v 0) r (onS (vF v 0) s (vP v)) s am p).2.2) am))]) C (dx dX0_giveNeeds 79 rfl) rfl rfl (by decide) [1, 2, 3, 4, 5, 0, 6] rfl ?_
                          refine r_goto (tgt := 58) C (dx dX0_giveNeeds 80 rfl) (by decide) ?_
                          refine (?_ : Rr G 58 [(0, vr 0 k), (1, vr 5 kv), (2, vi s), (3, vi (nI am)), (4, vi (((ndS (vN v) (vF v 0) r (onS (vF v 0) s (vP v)) s am p).2.2) ||| ((nI 1) <<< ((pck (vN v) ((ndS (vN v) (vF v 0) r (onS (vF v 0) s (vP v)) s am p).2.1) ((ndS (vN v) (vF v 0) r (onS (vF v 0) s (vP v)) s am p).2.2) am) &&& 31)))), (5, vi (nI (p + 1))), (6, vi (pck (vN v) ((ndS (vN v) (vF v 0) r (onS (vF v 0) s (vP v)) s am p).2.1) ((ndS (vN v) (vF v 0) r (onS (vF v 0) s (vP v)) s am p).2.2) am))] [] h12)
                          refine r_weak C [0, 1, 2, 3, 4, 5] rfl ?_
                          rw [show (((ndS (vN v) (vF v 0) r (onS (vF v 0) s (vP v)) s am p).2.2) ||| ((nI 1) <<< ((pck (vN v) ((ndS (vN v) (vF v 0) r (onS (vF v 0) s (vP v)) s am p).2.1) ((ndS (vN v) (vF v 0) r (onS (vF v 0) s (vP v)) s am p).2.2) am) &&& 31))) = ((ndS (vN v) (vF v 0) r (onS (vF v 0) s (vP v)) s am (p + 1)).2.2) by (simp only [ndS]; rw [if_pos ⟨c7, c8, c10⟩])]
                          exact ih _ (by rw [show (vcol v 0 (ndS (vN v) (vF v 0) r (onS (vF v 0) s (vP v)) s am (p + 1)).1) = (vcol v 0 (sf (ndS (vN v) (vF v 0) r (onS (vF v 0) s (vP v)) s am p).1 p (pck (vN v) ((ndS (vN v) (vF v 0) r (onS (vF v 0) s (vP v)) s am p).2.1) ((ndS (vN v) (vF v 0) r (onS (vF v 0) s (vP v)) s am p).2.2) am))) by (simp only [ndS]; rw [if_pos ⟨c7, c8, c10⟩])]; exact wh12) (by rw [show ((ndS (vN v) (vF v 0) r (onS (vF v 0) s (vP v)) s am (p + 1)).2.1) = (tkn ((ndS (vN v) (vF v 0) r (onS (vF v 0) s (vP v)) s am p).2.1) (pck (vN v) ((ndS (vN v) (vF v 0) r (onS (vF v 0) s (vP v)) s am p).2.1) ((ndS (vN v) (vF v 0) r (onS (vF v 0) s (vP v)) s am p).2.2) am)) by (simp only [ndS]; rw [if_pos ⟨c7, c8, c10⟩])]; exact mh12) fh12 kh12
                      ·
                        have c9 : fwR ((ndS (vN v) (vF v 0) r (onS (vF v 0) s (vP v)) s am p).2.1) ((ndS (vN v) (vF v 0) r (onS (vF v 0) s (vP v)) s am p).2.2) am = -1 := c9
                        refine r_aload_n C (dx dX0_giveNeeds 57 rfl) rfl ?_
                        refine r_aload_n C (dx dX0_giveNeeds 58 rfl) rfl ?_
                        refine r_cvP (as := []) (st := [vr 0 k]) (v := vi (full (vN v))) C X I_X5_allPeople l_X0_67 (c_X5_allPeople (v := vcol v 0 (ndS (vN v) (vF v 0) r (onS (vF v 0) s (vP v)) s am p).1) wh5) (by decide) (Nat.le_of_ble_eq_true rfl) (pfx_eq kh5) rfl rfl (Nat.le_of_ble_eq_true rfl) rfl (dx dX0_giveNeeds 59 rfl) ?_
                        refine r_iload_n C (dx dX0_giveNeeds 60 rfl) rfl ?_
                        refine r_cvP (as := [vi (full (vN v)), vi (nI am)]) (st := []) (v := vi (fwR ((ndS (vN v) (vF v 0) r (onS (vF v 0) s (vP v)) s am p).2.1) (full (vN v)) am)) C X I_X0_firstWithRoom l_X0_71 (c_X0_firstWithRoom mh5 (full (vN v)) ha) (by decide) (Nat.le_of_ble_eq_true rfl) (pfx_eq kh5) rfl rfl (Nat.le_of_ble_eq_true rfl) rfl (dx dX0_giveNeeds 61 rfl) ?_
                        refine r_istore (ls' := [(0, vr 0 k), (1, vr 5 kv), (2, vi s), (3, vi (nI am)), (4, vi ((ndS (vN v) (vF v 0) r (onS (vF v 0) s (vP v)) s am p).2.2)), (5, vi (nI p)), (6, vi (fwR ((ndS (vN v) (vF v 0) r (onS (vF v 0) s (vP v)) s am p).2.1) (full (vN v)) am))]) C (dx dX0_giveNeeds 62 rfl) (by decide) [1, 2, 3, 4, 5, 6, 0] rfl ?_
                        rw [show fwR ((ndS (vN v) (vF v 0) r (onS (vF v 0) s (vP v)) s am p).2.1) (full (vN v)) am = pck (vN v) ((ndS (vN v) (vF v 0) r (onS (vF v 0) s (vP v)) s am p).2.1) ((ndS (vN v) (vF v 0) r (onS (vF v 0) s (vP v)) s am p).2.2) am by unfold pck; rw [if_pos c9]]
                        refine r_iload C (dx dX0_giveNeeds 63 rfl) rfl ?_
                        refine r_iconst (v := -1) C (dx dX0_giveNeeds 64 rfl) rfl ?_
                        refine r_icmp_eq (tgt := 141) C (dx dX0_giveNeeds 65 rfl) (by decide) (fun c13 => ?_) (fun c13 => ?_)
                        ·
                          have c13 : pck (vN v) ((ndS (vN v) (vF v 0) r (onS (vF v 0) s (vP v)) s am p).2.1) ((ndS (vN v) (vF v 0) r (onS (vF v 0) s (vP v)) s am p).2.2) am = -1 := c13
                          refine rn_iinc (a := p) (k := 1) (ls' := [(0, vr 0 k), (1, vr 5 kv), (2, vi s), (3, vi (nI am)), (4, vi ((ndS (vN v) (vF v 0) r (onS (vF v 0) s (vP v)) s am p).2.2)), (5, vi (nI (p + 1))), (6, vi (pck (vN v) ((ndS (vN v) (vF v 0) r (onS (vF v 0) s (vP v)) s am p).2.1) ((ndS (vN v) (vF v 0) r (onS (vF v 0) s (vP v)) s am p).2.2) am))]) C (dx dX0_giveNeeds 79 rfl) rfl rfl (by decide) [1, 2, 3, 4, 5, 0, 6] rfl ?_
                          refine r_goto (tgt := 58) C (dx dX0_giveNeeds 80 rfl) (by decide) ?_
                          refine (?_ : Rr G 58 [(0, vr 0 k), (1, vr 5 kv), (2, vi s), (3, vi (nI am)), (4, vi ((ndS (vN v) (vF v 0) r (onS (vF v 0) s (vP v)) s am p).2.2)), (5, vi (nI (p + 1))), (6, vi (pck (vN v) ((ndS (vN v) (vF v 0) r (onS (vF v 0) s (vP v)) s am p).2.1) ((ndS (vN v) (vF v 0) r (onS (vF v 0) s (vP v)) s am p).2.2) am))] [] h5)
                          refine r_weak C [0, 1, 2, 3, 4, 5] rfl ?_
                          rw [show ((ndS (vN v) (vF v 0) r (onS (vF v 0) s (vP v)) s am p).2.2) = ((ndS (vN v) (vF v 0) r (onS (vF v 0) s (vP v)) s am (p + 1)).2.2) by (simp only [ndS]; rw [if_neg (fun z => z.2.2 c13)])]
                          exact ih _ (by rw [show (vcol v 0 (ndS (vN v) (vF v 0) r (onS (vF v 0) s (vP v)) s am (p + 1)).1) = (vcol v 0 (ndS (vN v) (vF v 0) r (onS (vF v 0) s (vP v)) s am p).1) by (simp only [ndS]; rw [if_neg (fun z => z.2.2 c13)])]; exact wh5) (by rw [show ((ndS (vN v) (vF v 0) r (onS (vF v 0) s (vP v)) s am (p + 1)).2.1) = ((ndS (vN v) (vF v 0) r (onS (vF v 0) s (vP v)) s am p).2.1) by (simp only [ndS]; rw [if_neg (fun z => z.2.2 c13)])]; exact mh5) fh5 kh5
                        ·
                          have c13 : ¬ pck (vN v) ((ndS (vN v) (vF v 0) r (onS (vF v 0) s (vP v)) s am p).2.1) ((ndS (vN v) (vF v 0) r (onS (vF v 0) s (vP v)) s am p).2.2) am = -1 := c13
                          refine r_aload_n C (dx dX0_giveNeeds 66 rfl) rfl ?_
                          refine g_X0_21 C (dx dX0_giveNeeds 67 rfl) ?_
                          refine r_iload C (dx dX0_giveNeeds 68 rfl) rfl ?_
                          refine r_aload_n C (dx dX0_giveNeeds 69 rfl) rfl ?_
                          refine r_iload C (dx dX0_giveNeeds 70 rfl) rfl ?_
                          refine r_cv (as := [vi (pck (vN v) ((ndS (vN v) (vF v 0) r (onS (vF v 0) s (vP v)) s am p).2.1) ((ndS (vN v) (vF v 0) r (onS (vF v 0) s (vP v)) s am p).2.2) am)]) (st := [vi (nI p), vr 20 (kv + 1)]) C X I_X0_taken l_X0_74 (c_X0_taken mh5 (pck (vN v) ((ndS (vN v) (vF v 0) r (onS (vF v 0) s (vP v)) s am p).2.1) ((ndS (vN v) (vF v 0) r (onS (vF v 0) s (vP v)) s am p).2.2) am)) (by decide) (Nat.le_of_ble_eq_true rfl) List.prefix_rfl (pfx_eq kh5) rfl rfl (Nat.le_of_ble_eq_true rfl) rfl (dx dX0_giveNeeds 71 rfl) ?_
                          intro rh14 h14 hph14 kkh14
                          obtain ⟨rfl, mh14, gh14⟩ := hph14
                          have wh14 : VilAt h14 kv (vcol v 0 (ndS (vN v) (vF v 0) r (onS (vF v 0) s (vP v)) s am p).1) := wh5.fr gh14 (by omega)
                          have fh14 : Fs (RA k kv) h h14 := fh5.tr (Fs.of gh14 (fun b h1 h2 => Or.inl (by omega)))
                          have kh14 : xK h14 = xK h := kkh14.trans kh5
                          refine r_iast (j := p) C rfl rfl (by decide) rfl (by omega) (dx dX0_giveNeeds 72 rfl) ?_
                          have wh15 : VilAt (sI h14 (kv + 1) p (pck (vN v) ((ndS (vN v) (vF v 0) r (onS (vF v 0) s (vP v)) s am p).2.1) ((ndS (vN v) (vF v 0) r (onS (vF v 0) s (vP v)) s am p).2.2) am)) kv (vcol v 0 (sf (ndS (vN v) (vF v 0) r (onS (vF v 0) s (vP v)) s am p).1 p (pck (vN v) ((ndS (vN v) (vF v 0) r (onS (vF v 0) s (vP v)) s am p).2.1) ((ndS (vN v) (vF v 0) r (onS (vF v 0) s (vP v)) s am p).2.2) am))) := by rw [← vset_col]; exact wh14.s0
                          have mh15 : RoomAt (sI h14 (kv + 1) p (pck (vN v) ((ndS (vN v) (vF v 0) r (onS (vF v 0) s (vP v)) s am p).2.1) ((ndS (vN v) (vF v 0) r (onS (vF v 0) s (vP v)) s am p).2.2) am)) k (tkn ((ndS (vN v) (vF v 0) r (onS (vF v 0) s (vP v)) s am p).2.1) (pck (vN v) ((ndS (vN v) (vF v 0) r (onS (vF v 0) s (vP v)) s am p).2.1) ((ndS (vN v) (vF v 0) r (onS (vF v 0) s (vP v)) s am p).2.2) am)) := mh14.fr (Fr.sI (lo := kv) (hi := kv + 9) (by omega) (by omega)) (by omega)
                          have fh15 : Fs (RA k kv) h (sI h14 (kv + 1) p (pck (vN v) ((ndS (vN v) (vF v 0) r (onS (vF v 0) s (vP v)) s am p).2.1) ((ndS (vN v) (vF v 0) r (onS (vF v 0) s (vP v)) s am p).2.2) am)) := fh14.tr (Fs.of (Fr.sI (lo := kv) (hi := kv + 9) (by omega) (by omega)) (fun b h1 h2 => Or.inr ⟨h1, h2⟩))
                          have kh15 : xK (sI h14 (kv + 1) p (pck (vN v) ((ndS (vN v) (vF v 0) r (onS (vF v 0) s (vP v)) s am p).2.1) ((ndS (vN v) (vF v 0) r (onS (vF v 0) s (vP v)) s am p).2.2) am)) = xK h := kh14
                          generalize sI h14 (kv + 1) p (pck (vN v) ((ndS (vN v) (vF v 0) r (onS (vF v 0) s (vP v)) s am p).2.1) ((ndS (vN v) (vF v 0) r (onS (vF v 0) s (vP v)) s am p).2.2) am) = h15 at wh15 mh15 fh15 kh15 ⊢
                          refine r_iload C (dx dX0_giveNeeds 73 rfl) rfl ?_
                          refine r_iconst (v := nI 1) C (dx dX0_giveNeeds 74 rfl) rfl ?_
                          refine r_iload C (dx dX0_giveNeeds 75 rfl) rfl ?_
                          refine r_ishl C (dx dX0_giveNeeds 76 rfl) ?_
                          refine r_ior C (dx dX0_giveNeeds 77 rfl) ?_
                          refine r_istore (ls' := [(0, vr 0 k), (1, vr 5 kv), (2, vi s), (3, vi (nI am)), (4, vi (((ndS (vN v) (vF v 0) r (onS (vF v 0) s (vP v)) s am p).2.2) ||| ((nI 1) <<< ((pck (vN v) ((ndS (vN v) (vF v 0) r (onS (vF v 0) s (vP v)) s am p).2.1) ((ndS (vN v) (vF v 0) r (onS (vF v 0) s (vP v)) s am p).2.2) am) &&& 31)))), (5, vi (nI p)), (6, vi (pck (vN v) ((ndS (vN v) (vF v 0) r (onS (vF v 0) s (vP v)) s am p).2.1) ((ndS (vN v) (vF v 0) r (onS (vF v 0) s (vP v)) s am p).2.2) am))]) C (dx dX0_giveNeeds 78 rfl) (by decide) [1, 2, 3, 4, 0, 5, 6] rfl ?_
                          refine rn_iinc (a := p) (k := 1) (ls' := [(0, vr 0 k), (1, vr 5 kv), (2, vi s), (3, vi (nI am)), (4, vi (((ndS (vN v) (vF v 0) r (onS (vF v 0) s (vP v)) s am p).2.2) ||| ((nI 1) <<< ((pck (vN v) ((ndS (vN v) (vF v 0) r (onS (vF v 0) s (vP v)) s am p).2.1) ((ndS (vN v) (vF v 0) r (onS (vF v 0) s (vP v)) s am p).2.2) am) &&& 31)))), (5, vi (nI (p + 1))), (6, vi (pck (vN v) ((ndS (vN v) (vF v 0) r (onS (vF v 0) s (vP v)) s am p).2.1) ((ndS (vN v) (vF v 0) r (onS (vF v 0) s (vP v)) s am p).2.2) am))]) C (dx dX0_giveNeeds 79 rfl) rfl rfl (by decide) [1, 2, 3, 4, 5, 0, 6] rfl ?_
                          refine r_goto (tgt := 58) C (dx dX0_giveNeeds 80 rfl) (by decide) ?_
                          refine (?_ : Rr G 58 [(0, vr 0 k), (1, vr 5 kv), (2, vi s), (3, vi (nI am)), (4, vi (((ndS (vN v) (vF v 0) r (onS (vF v 0) s (vP v)) s am p).2.2) ||| ((nI 1) <<< ((pck (vN v) ((ndS (vN v) (vF v 0) r (onS (vF v 0) s (vP v)) s am p).2.1) ((ndS (vN v) (vF v 0) r (onS (vF v 0) s (vP v)) s am p).2.2) am) &&& 31)))), (5, vi (nI (p + 1))), (6, vi (pck (vN v) ((ndS (vN v) (vF v 0) r (onS (vF v 0) s (vP v)) s am p).2.1) ((ndS (vN v) (vF v 0) r (onS (vF v 0) s (vP v)) s am p).2.2) am))] [] h15)
                          refine r_weak C [0, 1, 2, 3, 4, 5] rfl ?_
                          rw [show (((ndS (vN v) (vF v 0) r (onS (vF v 0) s (vP v)) s am p).2.2) ||| ((nI 1) <<< ((pck (vN v) ((ndS (vN v) (vF v 0) r (onS (vF v 0) s (vP v)) s am p).2.1) ((ndS (vN v) (vF v 0) r (onS (vF v 0) s (vP v)) s am p).2.2) am) &&& 31))) = ((ndS (vN v) (vF v 0) r (onS (vF v 0) s (vP v)) s am (p + 1)).2.2) by (simp only [ndS]; rw [if_pos ⟨c7, c8, c13⟩])]
                          exact ih _ (by rw [show (vcol v 0 (ndS (vN v) (vF v 0) r (onS (vF v 0) s (vP v)) s am (p + 1)).1) = (vcol v 0 (sf (ndS (vN v) (vF v 0) r (onS (vF v 0) s (vP v)) s am p).1 p (pck (vN v) ((ndS (vN v) (vF v 0) r (onS (vF v 0) s (vP v)) s am p).2.1) ((ndS (vN v) (vF v 0) r (onS (vF v 0) s (vP v)) s am p).2.2) am))) by (simp only [ndS]; rw [if_pos ⟨c7, c8, c13⟩])]; exact wh15) (by rw [show ((ndS (vN v) (vF v 0) r (onS (vF v 0) s (vP v)) s am (p + 1)).2.1) = (tkn ((ndS (vN v) (vF v 0) r (onS (vF v 0) s (vP v)) s am p).2.1) (pck (vN v) ((ndS (vN v) (vF v 0) r (onS (vF v 0) s (vP v)) s am p).2.1) ((ndS (vN v) (vF v 0) r (onS (vF v 0) s (vP v)) s am p).2.2) am)) by (simp only [ndS]; rw [if_pos ⟨c7, c8, c13⟩])]; exact mh15) fh15 kh15))
    · first
      | (omega; done)
  ·
    intro p hp ih
    refine r_iload C (dx dX0_giveNeeds 4 rfl) rfl ?_
    refine r_aload_n C (dx dX0_giveNeeds 5 rfl) rfl ?_
    refine g_X0_15 (x := nI (vP v)) C (dx dX0_giveNeeds 6 rfl) hv.eP ?_
    refine rn_ge (a := p) (b := vP v) (tgt := 55) C (by omega) (by omega) (dx dX0_giveNeeds 7 rfl) (by decide) (fun c17 => ?_) (fun c17 => ?_)
    · first
      | (omega; done)
      | (
          have c17 : vP v ≤ p := c17
          refine r_iconst (v := nI 0) C (dx dX0_giveNeeds 31 rfl) rfl ?_
          refine r_istore (ls' := [(0, vr 0 k), (1, vr 5 kv), (2, vi s), (3, vi (nI am)), (4, vi (onS (vF v 0) s p)), (5, vi (nI 0))]) C (dx dX0_giveNeeds 32 rfl) (by decide) [1, 2, 3, 4, 5, 0] rfl ?_
          refine loopU (Φ := fun p => ∀ h9, VilAt h9 kv (vcol v 0 (ndS (vN v) (vF v 0) r (onS (vF v 0) s (vP v)) s am p).1) → RoomAt h9 k ((ndS (vN v) (vF v 0) r (onS (vF v 0) s (vP v)) s am p).2.1) → Fs (RA k kv) h h9 → xK h9 = xK h → Rr G 58 [(0, vr 0 k), (1, vr 5 kv), (2, vi s), (3, vi (nI am)), (4, vi ((ndS (vN v) (vF v 0) r (onS (vF v 0) s (vP v)) s am p).2.2)), (5, vi (nI p))] [] h9) (N := vP v) ?_ ?_ 0 (Nat.zero_le _) _ (by rw [show vcol v 0 (ndS (vN v) (vF v 0) r (onS (vF v 0) s (vP v)) s am 0).1 = v from vcol_id]; exact hv) hr Fs.rf rfl
          ·
            intro h18 wh18 mh18 fh18 kh18
            refine r_iload C (dx dX0_giveNeeds 33 rfl) rfl ?_
            refine r_aload_n C (dx dX0_giveNeeds 34 rfl) rfl ?_
            refine g_X0_15 (x := nI (vP v)) C (dx dX0_giveNeeds 35 rfl) wh18.eP ?_
            refine rn_ge (a := vP v) (b := vP v) (tgt := 147) C (by omega) (by omega) (dx dX0_giveNeeds 36 rfl) (by decide) (fun c19 => ?_) (fun c19 => ?_)
            · first
              | (omega; done)
              | (
                  have c19 : vP v ≤ vP v := c19
                  exact F.2.2.1 _ _ _ rfl (dx dX0_giveNeeds 81 rfl) kh18 ⟨rfl, wh18, mh18, fh18⟩)
            · first
              | (omega; done)
          ·
            intro p hp ih h21 wh21 mh21 fh21 kh21
            refine r_iload C (dx dX0_giveNeeds 33 rfl) rfl ?_
            refine r_aload_n C (dx dX0_giveNeeds 34 rfl) rfl ?_
            refine g_X0_15 (x := nI (vP v)) C (dx dX0_giveNeeds 35 rfl) wh21.eP ?_
            refine rn_ge (a := p) (b := vP v) (tgt := 147) C (by omega) (by omega) (dx dX0_giveNeeds 36 rfl) (by decide) (fun c22 => ?_) (fun c22 => ?_)
            · first
              | (omega; done)
              | (
                  have c22 : vP v ≤ p := c22
                  exact F.2.2.1 _ _ _ rfl (dx dX0_giveNeeds 81 rfl) kh21 ⟨rfl, wh21, mh21, fh21⟩)
            · first
              | (omega; done)
              | (
                  have c22 : p < vP v := c22
                  refine r_iload_n C (dx dX0_giveNeeds 37 rfl) rfl ?_
                  refine r_iconst (v := nI 1) C (dx dX0_giveNeeds 38 rfl) rfl ?_
                  refine r_iload C (dx dX0_giveNeeds 39 rfl) rfl ?_
                  refine r_ishl C (dx dX0_giveNeeds 40 rfl) ?_
                  refine r_iand C (dx dX0_giveNeeds 41 rfl) ?_
                  refine r_if_eq (tgt := 141) C (dx dX0_giveNeeds 42 rfl) (by decide) (fun c23 => ?_) (fun c23 => ?_)
                  ·
                    have c23 : s &&& ((nI 1) <<< ((nI p) &&& 31)) = 0 := c23
                    refine rn_iinc (a := p) (k := 1) (ls' := [(0, vr 0 k), (1, vr 5 kv), (2, vi s), (3, vi (nI am)), (4, vi ((ndS (vN v) (vF v 0) r (onS (vF v 0) s (vP v)) s am p).2.2)), (5, vi (nI (p + 1)))]) C (dx dX0_giveNeeds 79 rfl) rfl rfl (by decide) [1, 2, 3, 4, 5, 0] rfl ?_
                    refine r_goto (tgt := 58) C (dx dX0_giveNeeds 80 rfl) (by decide) ?_
                    refine (?_ : Rr G 58 [(0, vr 0 k), (1, vr 5 kv), (2, vi s), (3, vi (nI am)), (4, vi ((ndS (vN v) (vF v 0) r (onS (vF v 0) s (vP v)) s am p).2.2)), (5, vi (nI (p + 1)))] [] h21)
                    rw [show ((ndS (vN v) (vF v 0) r (onS (vF v 0) s (vP v)) s am p).2.2) = ((ndS (vN v) (vF v 0) r (onS (vF v 0) s (vP v)) s am (p + 1)).2.2) by (simp only [ndS]; rw [if_neg (fun z => z.1 c23)])]
                    exact ih _ (by rw [show (vcol v 0 (ndS (vN v) (vF v 0) r (onS (vF v 0) s (vP v)) s am (p + 1)).1) = (vcol v 0 (ndS (vN v) (vF v 0) r (onS (vF v 0) s (vP v)) s am p).1) by (simp only [ndS]; rw [if_neg (fun z => z.1 c23)])]; exact wh21) (by rw [show ((ndS (vN v) (vF v 0) r (onS (vF v 0) s (vP v)) s am (p + 1)).2.1) = ((ndS (vN v) (vF v 0) r (onS (vF v 0) s (vP v)) s am p).2.1) by (simp only [ndS]; rw [if_neg (fun z => z.1 c23)])]; exact mh21) fh21 kh21
                  ·
                    have c23 : ¬ s &&& ((nI 1) <<< ((nI p) &&& 31)) = 0 := c23
                    refine r_aload_n C (dx dX0_giveNeeds 43 rfl) rfl ?_
                    refine g_X0_21 C (dx dX0_giveNeeds 44 rfl) ?_
                    refine r_iload C (dx dX0_giveNeeds 45 rfl) rfl ?_
                    refine r_iald (j := p) (x := (ndS (vN v) (vF v 0) r (onS (vF v 0) s (vP v)) s am p).1 p) C rfl rfl (by decide) rfl (by omega) (dx dX0_giveNeeds 46 rfl) (wh21.e0 (by omega)) ?_
                    refine r_iconst (v := -1) C (dx dX0_giveNeeds 47 rfl) rfl ?_
                    refine r_icmp_ne (tgt := 141) C (dx dX0_giveNeeds 48 rfl) (by decide) (fun c24 => ?_) (fun c24 => ?_)
                    ·
                      have c24 : ¬ (ndS (vN v) (vF v 0) r (onS (vF v 0) s (vP v)) s am p).1 p = -1 := c24
                      refine rn_iinc (a := p) (k := 1) (ls' := [(0, vr 0 k), (1, vr 5 kv), (2, vi s), (3, vi (nI am)), (4, vi ((ndS (vN v) (vF v 0) r (onS (vF v 0) s (vP v)) s am p).2.2)), (5, vi (nI (p + 1)))]) C (dx dX0_giveNeeds 79 rfl) rfl rfl (by decide) [1, 2, 3, 4, 5, 0] rfl ?_
                      refine r_goto (tgt := 58) C (dx dX0_giveNeeds 80 rfl) (by decide) ?_
                      refine (?_ : Rr G 58 [(0, vr 0 k), (1, vr 5 kv), (2, vi s), (3, vi (nI am)), (4, vi ((ndS (vN v) (vF v 0) r (onS (vF v 0) s (vP v)) s am p).2.2)), (5, vi (nI (p + 1)))] [] h21)
                      rw [show ((ndS (vN v) (vF v 0) r (onS (vF v 0) s (vP v)) s am p).2.2) = ((ndS (vN v) (vF v 0) r (onS (vF v 0) s (vP v)) s am (p + 1)).2.2) by (simp only [ndS]; rw [if_neg (fun z => c24 z.2.1)])]
                      exact ih _ (by rw [show (vcol v 0 (ndS (vN v) (vF v 0) r (onS (vF v 0) s (vP v)) s am (p + 1)).1) = (vcol v 0 (ndS (vN v) (vF v 0) r (onS (vF v 0) s (vP v)) s am p).1) by (simp only [ndS]; rw [if_neg (fun z => c24 z.2.1)])]; exact wh21) (by rw [show ((ndS (vN v) (vF v 0) r (onS (vF v 0) s (vP v)) s am (p + 1)).2.1) = ((ndS (vN v) (vF v 0) r (onS (vF v 0) s (vP v)) s am p).2.1) by (simp only [ndS]; rw [if_neg (fun z => c24 z.2.1)])]; exact mh21) fh21 kh21
                    ·
                      have c24 : (ndS (vN v) (vF v 0) r (onS (vF v 0) s (vP v)) s am p).1 p = -1 := c24
                      refine r_aload_n C (dx dX0_giveNeeds 49 rfl) rfl ?_
                      refine r_iload C (dx dX0_giveNeeds 50 rfl) rfl ?_
                      refine r_iload_n C (dx dX0_giveNeeds 51 rfl) rfl ?_
                      refine r_cvP (as := [vi ((ndS (vN v) (vF v 0) r (onS (vF v 0) s (vP v)) s am p).2.2), vi (nI am)]) (st := []) (v := vi (fwR ((ndS (vN v) (vF v 0) r (onS (vF v 0) s (vP v)) s am p).2.1) ((ndS (vN v) (vF v 0) r (onS (vF v 0) s (vP v)) s am p).2.2) am)) C X I_X0_firstWithRoom l_X0_71 (c_X0_firstWithRoom mh21 ((ndS (vN v) (vF v 0) r (onS (vF v 0) s (vP v)) s am p).2.2) ha) (by decide) (Nat.le_of_ble_eq_true rfl) (pfx_eq kh21) rfl rfl (Nat.le_of_ble_eq_true rfl) rfl (dx dX0_giveNeeds 52 rfl) ?_
                      refine r_istore (ls' := [(0, vr 0 k), (1, vr 5 kv), (2, vi s), (3, vi (nI am)), (4, vi ((ndS (vN v) (vF v 0) r (onS (vF v 0) s (vP v)) s am p).2.2)), (5, vi (nI p)), (6, vi (fwR ((ndS (vN v) (vF v 0) r (onS (vF v 0) s (vP v)) s am p).2.1) ((ndS (vN v) (vF v 0) r (onS (vF v 0) s (vP v)) s am p).2.2) am))]) C (dx dX0_giveNeeds 53 rfl) (by decide) [1, 2, 3, 4, 5, 6, 0] rfl ?_
                      refine r_iload C (dx dX0_giveNeeds 54 rfl) rfl ?_
                      refine r_iconst (v := -1) C (dx dX0_giveNeeds 55 rfl) rfl ?_
                      refine r_icmp_ne (tgt := 113) C (dx dX0_giveNeeds 56 rfl) (by decide) (fun c25 => ?_) (fun c25 => ?_)
                      ·
                        have c25 : ¬ fwR ((ndS (vN v) (vF v 0) r (onS (vF v 0) s (vP v)) s am p).2.1) ((ndS (vN v) (vF v 0) r (onS (vF v 0) s (vP v)) s am p).2.2) am = -1 := c25
                        rw [show fwR ((ndS (vN v) (vF v 0) r (onS (vF v 0) s (vP v)) s am p).2.1) ((ndS (vN v) (vF v 0) r (onS (vF v 0) s (vP v)) s am p).2.2) am = pck (vN v) ((ndS (vN v) (vF v 0) r (onS (vF v 0) s (vP v)) s am p).2.1) ((ndS (vN v) (vF v 0) r (onS (vF v 0) s (vP v)) s am p).2.2) am by unfold pck; rw [if_neg c25]]
                        refine r_iload C (dx dX0_giveNeeds 63 rfl) rfl ?_
                        refine r_iconst (v := -1) C (dx dX0_giveNeeds 64 rfl) rfl ?_
                        refine r_icmp_eq (tgt := 141) C (dx dX0_giveNeeds 65 rfl) (by decide) (fun c26 => ?_) (fun c26 => ?_)
                        ·
                          have c26 : pck (vN v) ((ndS (vN v) (vF v 0) r (onS (vF v 0) s (vP v)) s am p).2.1) ((ndS (vN v) (vF v 0) r (onS (vF v 0) s (vP v)) s am p).2.2) am = -1 := c26
                          refine rn_iinc (a := p) (k := 1) (ls' := [(0, vr 0 k), (1, vr 5 kv), (2, vi s), (3, vi (nI am)), (4, vi ((ndS (vN v) (vF v 0) r (onS (vF v 0) s (vP v)) s am p).2.2)), (5, vi (nI (p + 1))), (6, vi (pck (vN v) ((ndS (vN v) (vF v 0) r (onS (vF v 0) s (vP v)) s am p).2.1) ((ndS (vN v) (vF v 0) r (onS (vF v 0) s (vP v)) s am p).2.2) am))]) C (dx dX0_giveNeeds 79 rfl) rfl rfl (by decide) [1, 2, 3, 4, 5, 0, 6] rfl ?_
                          refine r_goto (tgt := 58) C (dx dX0_giveNeeds 80 rfl) (by decide) ?_
                          refine (?_ : Rr G 58 [(0, vr 0 k), (1, vr 5 kv), (2, vi s), (3, vi (nI am)), (4, vi ((ndS (vN v) (vF v 0) r (onS (vF v 0) s (vP v)) s am p).2.2)), (5, vi (nI (p + 1))), (6, vi (pck (vN v) ((ndS (vN v) (vF v 0) r (onS (vF v 0) s (vP v)) s am p).2.1) ((ndS (vN v) (vF v 0) r (onS (vF v 0) s (vP v)) s am p).2.2) am))] [] h21)
                          refine r_weak C [0, 1, 2, 3, 4, 5] rfl ?_
                          rw [show ((ndS (vN v) (vF v 0) r (onS (vF v 0) s (vP v)) s am p).2.2) = ((ndS (vN v) (vF v 0) r (onS (vF v 0) s (vP v)) s am (p + 1)).2.2) by (simp only [ndS]; rw [if_neg (fun z => z.2.2 c26)])]
                          exact ih _ (by rw [show (vcol v 0 (ndS (vN v) (vF v 0) r (onS (vF v 0) s (vP v)) s am (p + 1)).1) = (vcol v 0 (ndS (vN v) (vF v 0) r (onS (vF v 0) s (vP v)) s am p).1) by (simp only [ndS]; rw [if_neg (fun z => z.2.2 c26)])]; exact wh21) (by rw [show ((ndS (vN v) (vF v 0) r (onS (vF v 0) s (vP v)) s am (p + 1)).2.1) = ((ndS (vN v) (vF v 0) r (onS (vF v 0) s (vP v)) s am p).2.1) by (simp only [ndS]; rw [if_neg (fun z => z.2.2 c26)])]; exact mh21) fh21 kh21
                        ·
                          have c26 : ¬ pck (vN v) ((ndS (vN v) (vF v 0) r (onS (vF v 0) s (vP v)) s am p).2.1) ((ndS (vN v) (vF v 0) r (onS (vF v 0) s (vP v)) s am p).2.2) am = -1 := c26
                          refine r_aload_n C (dx dX0_giveNeeds 66 rfl) rfl ?_
                          refine g_X0_21 C (dx dX0_giveNeeds 67 rfl) ?_
                          refine r_iload C (dx dX0_giveNeeds 68 rfl) rfl ?_
                          refine r_aload_n C (dx dX0_giveNeeds 69 rfl) rfl ?_
                          refine r_iload C (dx dX0_giveNeeds 70 rfl) rfl ?_
                          refine r_cv (as := [vi (pck (vN v) ((ndS (vN v) (vF v 0) r (onS (vF v 0) s (vP v)) s am p).2.1) ((ndS (vN v) (vF v 0) r (onS (vF v 0) s (vP v)) s am p).2.2) am)]) (st := [vi (nI p), vr 20 (kv + 1)]) C X I_X0_taken l_X0_74 (c_X0_taken mh21 (pck (vN v) ((ndS (vN v) (vF v 0) r (onS (vF v 0) s (vP v)) s am p).2.1) ((ndS (vN v) (vF v 0) r (onS (vF v 0) s (vP v)) s am p).2.2) am)) (by decide) (Nat.le_of_ble_eq_true rfl) List.prefix_rfl (pfx_eq kh21) rfl rfl (Nat.le_of_ble_eq_true rfl) rfl (dx dX0_giveNeeds 71 rfl) ?_
                          intro rh27 h27 hph27 kkh27
                          obtain ⟨rfl, mh27, gh27⟩ := hph27
                          have wh27 : VilAt h27 kv (vcol v 0 (ndS (vN v) (vF v 0) r (onS (vF v 0) s (vP v)) s am p).1) := wh21.fr gh27 (by omega)
                          have fh27 : Fs (RA k kv) h h27 := fh21.tr (Fs.of gh27 (fun b h1 h2 => Or.inl (by omega)))
                          have kh27 : xK h27 = xK h := kkh27.trans kh21
                          refine r_iast (j := p) C rfl rfl (by decide) rfl (by omega) (dx dX0_giveNeeds 72 rfl) ?_
                          have wh28 : VilAt (sI h27 (kv + 1) p (pck (vN v) ((ndS (vN v) (vF v 0) r (onS (vF v 0) s (vP v)) s am p).2.1) ((ndS (vN v) (vF v 0) r (onS (vF v 0) s (vP v)) s am p).2.2) am)) kv (vcol v 0 (sf (ndS (vN v) (vF v 0) r (onS (vF v 0) s (vP v)) s am p).1 p (pck (vN v) ((ndS (vN v) (vF v 0) r (onS (vF v 0) s (vP v)) s am p).2.1) ((ndS (vN v) (vF v 0) r (onS (vF v 0) s (vP v)) s am p).2.2) am))) := by rw [← vset_col]; exact wh27.s0
                          have mh28 : RoomAt (sI h27 (kv + 1) p (pck (vN v) ((ndS (vN v) (vF v 0) r (onS (vF v 0) s (vP v)) s am p).2.1) ((ndS (vN v) (vF v 0) r (onS (vF v 0) s (vP v)) s am p).2.2) am)) k (tkn ((ndS (vN v) (vF v 0) r (onS (vF v 0) s (vP v)) s am p).2.1) (pck (vN v) ((ndS (vN v) (vF v 0) r (onS (vF v 0) s (vP v)) s am p).2.1) ((ndS (vN v) (vF v 0) r (onS (vF v 0) s (vP v)) s am p).2.2) am)) := mh27.fr (Fr.sI (lo := kv) (hi := kv + 9) (by omega) (by omega)) (by omega)
                          have fh28 : Fs (RA k kv) h (sI h27 (kv + 1) p (pck (vN v) ((ndS (vN v) (vF v 0) r (onS (vF v 0) s (vP v)) s am p).2.1) ((ndS (vN v) (vF v 0) r (onS (vF v 0) s (vP v)) s am p).2.2) am)) := fh27.tr (Fs.of (Fr.sI (lo := kv) (hi := kv + 9) (by omega) (by omega)) (fun b h1 h2 => Or.inr ⟨h1, h2⟩))
                          have kh28 : xK (sI h27 (kv + 1) p (pck (vN v) ((ndS (vN v) (vF v 0) r (onS (vF v 0) s (vP v)) s am p).2.1) ((ndS (vN v) (vF v 0) r (onS (vF v 0) s (vP v)) s am p).2.2) am)) = xK h := kh27
                          generalize sI h27 (kv + 1) p (pck (vN v) ((ndS (vN v) (vF v 0) r (onS (vF v 0) s (vP v)) s am p).2.1) ((ndS (vN v) (vF v 0) r (onS (vF v 0) s (vP v)) s am p).2.2) am) = h28 at wh28 mh28 fh28 kh28 ⊢
                          refine r_iload C (dx dX0_giveNeeds 73 rfl) rfl ?_
                          refine r_iconst (v := nI 1) C (dx dX0_giveNeeds 74 rfl) rfl ?_
                          refine r_iload C (dx dX0_giveNeeds 75 rfl) rfl ?_
                          refine r_ishl C (dx dX0_giveNeeds 76 rfl) ?_
                          refine r_ior C (dx dX0_giveNeeds 77 rfl) ?_
                          refine r_istore (ls' := [(0, vr 0 k), (1, vr 5 kv), (2, vi s), (3, vi (nI am)), (4, vi (((ndS (vN v) (vF v 0) r (onS (vF v 0) s (vP v)) s am p).2.2) ||| ((nI 1) <<< ((pck (vN v) ((ndS (vN v) (vF v 0) r (onS (vF v 0) s (vP v)) s am p).2.1) ((ndS (vN v) (vF v 0) r (onS (vF v 0) s (vP v)) s am p).2.2) am) &&& 31)))), (5, vi (nI p)), (6, vi (pck (vN v) ((ndS (vN v) (vF v 0) r (onS (vF v 0) s (vP v)) s am p).2.1) ((ndS (vN v) (vF v 0) r (onS (vF v 0) s (vP v)) s am p).2.2) am))]) C (dx dX0_giveNeeds 78 rfl) (by decide) [1, 2, 3, 4, 0, 5, 6] rfl ?_
                          refine rn_iinc (a := p) (k := 1) (ls' := [(0, vr 0 k), (1, vr 5 kv), (2, vi s), (3, vi (nI am)), (4, vi (((ndS (vN v) (vF v 0) r (onS (vF v 0) s (vP v)) s am p).2.2) ||| ((nI 1) <<< ((pck (vN v) ((ndS (vN v) (vF v 0) r (onS (vF v 0) s (vP v)) s am p).2.1) ((ndS (vN v) (vF v 0) r (onS (vF v 0) s (vP v)) s am p).2.2) am) &&& 31)))), (5, vi (nI (p + 1))), (6, vi (pck (vN v) ((ndS (vN v) (vF v 0) r (onS (vF v 0) s (vP v)) s am p).2.1) ((ndS (vN v) (vF v 0) r (onS (vF v 0) s (vP v)) s am p).2.2) am))]) C (dx dX0_giveNeeds 79 rfl) rfl rfl (by decide) [1, 2, 3, 4, 5, 0, 6] rfl ?_
                          refine r_goto (tgt := 58) C (dx dX0_giveNeeds 80 rfl) (by decide) ?_
                          refine (?_ : Rr G 58 [(0, vr 0 k), (1, vr 5 kv), (2, vi s), (3, vi (nI am)), (4, vi (((ndS (vN v) (vF v 0) r (onS (vF v 0) s (vP v)) s am p).2.2) ||| ((nI 1) <<< ((pck (vN v) ((ndS (vN v) (vF v 0) r (onS (vF v 0) s (vP v)) s am p).2.1) ((ndS (vN v) (vF v 0) r (onS (vF v 0) s (vP v)) s am p).2.2) am) &&& 31)))), (5, vi (nI (p + 1))), (6, vi (pck (vN v) ((ndS (vN v) (vF v 0) r (onS (vF v 0) s (vP v)) s am p).2.1) ((ndS (vN v) (vF v 0) r (onS (vF v 0) s (vP v)) s am p).2.2) am))] [] h28)
                          refine r_weak C [0, 1, 2, 3, 4, 5] rfl ?_
                          rw [show (((ndS (vN v) (vF v 0) r (onS (vF v 0) s (vP v)) s am p).2.2) ||| ((nI 1) <<< ((pck (vN v) ((ndS (vN v) (vF v 0) r (onS (vF v 0) s (vP v)) s am p).2.1) ((ndS (vN v) (vF v 0) r (onS (vF v 0) s (vP v)) s am p).2.2) am) &&& 31))) = ((ndS (vN v) (vF v 0) r (onS (vF v 0) s (vP v)) s am (p + 1)).2.2) by (simp only [ndS]; rw [if_pos ⟨c23, c24, c26⟩])]
                          exact ih _ (by rw [show (vcol v 0 (ndS (vN v) (vF v 0) r (onS (vF v 0) s (vP v)) s am (p + 1)).1) = (vcol v 0 (sf (ndS (vN v) (vF v 0) r (onS (vF v 0) s (vP v)) s am p).1 p (pck (vN v) ((ndS (vN v) (vF v 0) r (onS (vF v 0) s (vP v)) s am p).2.1) ((ndS (vN v) (vF v 0) r (onS (vF v 0) s (vP v)) s am p).2.2) am))) by (simp only [ndS]; rw [if_pos ⟨c23, c24, c26⟩])]; exact wh28) (by rw [show ((ndS (vN v) (vF v 0) r (onS (vF v 0) s (vP v)) s am (p + 1)).2.1) = (tkn ((ndS (vN v) (vF v 0) r (onS (vF v 0) s (vP v)) s am p).2.1) (pck (vN v) ((ndS (vN v) (vF v 0) r (onS (vF v 0) s (vP v)) s am p).2.1) ((ndS (vN v) (vF v 0) r (onS (vF v 0) s (vP v)) s am p).2.2) am)) by (simp only [ndS]; rw [if_pos ⟨c23, c24, c26⟩])]; exact mh28) fh28 kh28
                      ·
                        have c25 : fwR ((ndS (vN v) (vF v 0) r (onS (vF v 0) s (vP v)) s am p).2.1) ((ndS (vN v) (vF v 0) r (onS (vF v 0) s (vP v)) s am p).2.2) am = -1 := c25
                        refine r_aload_n C (dx dX0_giveNeeds 57 rfl) rfl ?_
                        refine r_aload_n C (dx dX0_giveNeeds 58 rfl) rfl ?_
                        refine r_cvP (as := []) (st := [vr 0 k]) (v := vi (full (vN v))) C X I_X5_allPeople l_X0_67 (c_X5_allPeople (v := vcol v 0 (ndS (vN v) (vF v 0) r (onS (vF v 0) s (vP v)) s am p).1) wh21) (by decide) (Nat.le_of_ble_eq_true rfl) (pfx_eq kh21) rfl rfl (Nat.le_of_ble_eq_true rfl) rfl (dx dX0_giveNeeds 59 rfl) ?_
                        refine r_iload_n C (dx dX0_giveNeeds 60 rfl) rfl ?_
                        refine r_cvP (as := [vi (full (vN v)), vi (nI am)]) (st := []) (v := vi (fwR ((ndS (vN v) (vF v 0) r (onS (vF v 0) s (vP v)) s am p).2.1) (full (vN v)) am)) C X I_X0_firstWithRoom l_X0_71 (c_X0_firstWithRoom mh21 (full (vN v)) ha) (by decide) (Nat.le_of_ble_eq_true rfl) (pfx_eq kh21) rfl rfl (Nat.le_of_ble_eq_true rfl) rfl (dx dX0_giveNeeds 61 rfl) ?_
                        refine r_istore (ls' := [(0, vr 0 k), (1, vr 5 kv), (2, vi s), (3, vi (nI am)), (4, vi ((ndS (vN v) (vF v 0) r (onS (vF v 0) s (vP v)) s am p).2.2)), (5, vi (nI p)), (6, vi (fwR ((ndS (vN v) (vF v 0) r (onS (vF v 0) s (vP v)) s am p).2.1) (full (vN v)) am))]) C (dx dX0_giveNeeds 62 rfl) (by decide) [1, 2, 3, 4, 5, 6, 0] rfl ?_
                        rw [show fwR ((ndS (vN v) (vF v 0) r (onS (vF v 0) s (vP v)) s am p).2.1) (full (vN v)) am = pck (vN v) ((ndS (vN v) (vF v 0) r (onS (vF v 0) s (vP v)) s am p).2.1) ((ndS (vN v) (vF v 0) r (onS (vF v 0) s (vP v)) s am p).2.2) am by unfold pck; rw [if_pos c25]]
                        refine r_iload C (dx dX0_giveNeeds 63 rfl) rfl ?_
                        refine r_iconst (v := -1) C (dx dX0_giveNeeds 64 rfl) rfl ?_
                        refine r_icmp_eq (tgt := 141) C (dx dX0_giveNeeds 65 rfl) (by decide) (fun c29 => ?_) (fun c29 => ?_)
                        ·
                          have c29 : pck (vN v) ((ndS (vN v) (vF v 0) r (onS (vF v 0) s (vP v)) s am p).2.1) ((ndS (vN v) (vF v 0) r (onS (vF v 0) s (vP v)) s am p).2.2) am = -1 := c29
                          refine rn_iinc (a := p) (k := 1) (ls' := [(0, vr 0 k), (1, vr 5 kv), (2, vi s), (3, vi (nI am)), (4, vi ((ndS (vN v) (vF v 0) r (onS (vF v 0) s (vP v)) s am p).2.2)), (5, vi (nI (p + 1))), (6, vi (pck (vN v) ((ndS (vN v) (vF v 0) r (onS (vF v 0) s (vP v)) s am p).2.1) ((ndS (vN v) (vF v 0) r (onS (vF v 0) s (vP v)) s am p).2.2) am))]) C (dx dX0_giveNeeds 79 rfl) rfl rfl (by decide) [1, 2, 3, 4, 5, 0, 6] rfl ?_
                          refine r_goto (tgt := 58) C (dx dX0_giveNeeds 80 rfl) (by decide) ?_
                          refine (?_ : Rr G 58 [(0, vr 0 k), (1, vr 5 kv), (2, vi s), (3, vi (nI am)), (4, vi ((ndS (vN v) (vF v 0) r (onS (vF v 0) s (vP v)) s am p).2.2)), (5, vi (nI (p + 1))), (6, vi (pck (vN v) ((ndS (vN v) (vF v 0) r (onS (vF v 0) s (vP v)) s am p).2.1) ((ndS (vN v) (vF v 0) r (onS (vF v 0) s (vP v)) s am p).2.2) am))] [] h21)
                          refine r_weak C [0, 1, 2, 3, 4, 5] rfl ?_
                          rw [show ((ndS (vN v) (vF v 0) r (onS (vF v 0) s (vP v)) s am p).2.2) = ((ndS (vN v) (vF v 0) r (onS (vF v 0) s (vP v)) s am (p + 1)).2.2) by (simp only [ndS]; rw [if_neg (fun z => z.2.2 c29)])]
                          exact ih _ (by rw [show (vcol v 0 (ndS (vN v) (vF v 0) r (onS (vF v 0) s (vP v)) s am (p + 1)).1) = (vcol v 0 (ndS (vN v) (vF v 0) r (onS (vF v 0) s (vP v)) s am p).1) by (simp only [ndS]; rw [if_neg (fun z => z.2.2 c29)])]; exact wh21) (by rw [show ((ndS (vN v) (vF v 0) r (onS (vF v 0) s (vP v)) s am (p + 1)).2.1) = ((ndS (vN v) (vF v 0) r (onS (vF v 0) s (vP v)) s am p).2.1) by (simp only [ndS]; rw [if_neg (fun z => z.2.2 c29)])]; exact mh21) fh21 kh21
                        ·
                          have c29 : ¬ pck (vN v) ((ndS (vN v) (vF v 0) r (onS (vF v 0) s (vP v)) s am p).2.1) ((ndS (vN v) (vF v 0) r (onS (vF v 0) s (vP v)) s am p).2.2) am = -1 := c29
                          refine r_aload_n C (dx dX0_giveNeeds 66 rfl) rfl ?_
                          refine g_X0_21 C (dx dX0_giveNeeds 67 rfl) ?_
                          refine r_iload C (dx dX0_giveNeeds 68 rfl) rfl ?_
                          refine r_aload_n C (dx dX0_giveNeeds 69 rfl) rfl ?_
                          refine r_iload C (dx dX0_giveNeeds 70 rfl) rfl ?_
                          refine r_cv (as := [vi (pck (vN v) ((ndS (vN v) (vF v 0) r (onS (vF v 0) s (vP v)) s am p).2.1) ((ndS (vN v) (vF v 0) r (onS (vF v 0) s (vP v)) s am p).2.2) am)]) (st := [vi (nI p), vr 20 (kv + 1)]) C X I_X0_taken l_X0_74 (c_X0_taken mh21 (pck (vN v) ((ndS (vN v) (vF v 0) r (onS (vF v 0) s (vP v)) s am p).2.1) ((ndS (vN v) (vF v 0) r (onS (vF v 0) s (vP v)) s am p).2.2) am)) (by decide) (Nat.le_of_ble_eq_true rfl) List.prefix_rfl (pfx_eq kh21) rfl rfl (Nat.le_of_ble_eq_true rfl) rfl (dx dX0_giveNeeds 71 rfl) ?_
                          intro rh30 h30 hph30 kkh30
                          obtain ⟨rfl, mh30, gh30⟩ := hph30
                          have wh30 : VilAt h30 kv (vcol v 0 (ndS (vN v) (vF v 0) r (onS (vF v 0) s (vP v)) s am p).1) := wh21.fr gh30 (by omega)
                          have fh30 : Fs (RA k kv) h h30 := fh21.tr (Fs.of gh30 (fun b h1 h2 => Or.inl (by omega)))
                          have kh30 : xK h30 = xK h := kkh30.trans kh21
                          refine r_iast (j := p) C rfl rfl (by decide) rfl (by omega) (dx dX0_giveNeeds 72 rfl) ?_
                          have wh31 : VilAt (sI h30 (kv + 1) p (pck (vN v) ((ndS (vN v) (vF v 0) r (onS (vF v 0) s (vP v)) s am p).2.1) ((ndS (vN v) (vF v 0) r (onS (vF v 0) s (vP v)) s am p).2.2) am)) kv (vcol v 0 (sf (ndS (vN v) (vF v 0) r (onS (vF v 0) s (vP v)) s am p).1 p (pck (vN v) ((ndS (vN v) (vF v 0) r (onS (vF v 0) s (vP v)) s am p).2.1) ((ndS (vN v) (vF v 0) r (onS (vF v 0) s (vP v)) s am p).2.2) am))) := by rw [← vset_col]; exact wh30.s0
                          have mh31 : RoomAt (sI h30 (kv + 1) p (pck (vN v) ((ndS (vN v) (vF v 0) r (onS (vF v 0) s (vP v)) s am p).2.1) ((ndS (vN v) (vF v 0) r (onS (vF v 0) s (vP v)) s am p).2.2) am)) k (tkn ((ndS (vN v) (vF v 0) r (onS (vF v 0) s (vP v)) s am p).2.1) (pck (vN v) ((ndS (vN v) (vF v 0) r (onS (vF v 0) s (vP v)) s am p).2.1) ((ndS (vN v) (vF v 0) r (onS (vF v 0) s (vP v)) s am p).2.2) am)) := mh30.fr (Fr.sI (lo := kv) (hi := kv + 9) (by omega) (by omega)) (by omega)
                          have fh31 : Fs (RA k kv) h (sI h30 (kv + 1) p (pck (vN v) ((ndS (vN v) (vF v 0) r (onS (vF v 0) s (vP v)) s am p).2.1) ((ndS (vN v) (vF v 0) r (onS (vF v 0) s (vP v)) s am p).2.2) am)) := fh30.tr (Fs.of (Fr.sI (lo := kv) (hi := kv + 9) (by omega) (by omega)) (fun b h1 h2 => Or.inr ⟨h1, h2⟩))
                          have kh31 : xK (sI h30 (kv + 1) p (pck (vN v) ((ndS (vN v) (vF v 0) r (onS (vF v 0) s (vP v)) s am p).2.1) ((ndS (vN v) (vF v 0) r (onS (vF v 0) s (vP v)) s am p).2.2) am)) = xK h := kh30
                          generalize sI h30 (kv + 1) p (pck (vN v) ((ndS (vN v) (vF v 0) r (onS (vF v 0) s (vP v)) s am p).2.1) ((ndS (vN v) (vF v 0) r (onS (vF v 0) s (vP v)) s am p).2.2) am) = h31 at wh31 mh31 fh31 kh31 ⊢
                          refine r_iload C (dx dX0_giveNeeds 73 rfl) rfl ?_
                          refine r_iconst (v := nI 1) C (dx dX0_giveNeeds 74 rfl) rfl ?_
                          refine r_iload C (dx dX0_giveNeeds 75 rfl) rfl ?_
                          refine r_ishl C (dx dX0_giveNeeds 76 rfl) ?_
                          refine r_ior C (dx dX0_giveNeeds 77 rfl) ?_
                          refine r_istore (ls' := [(0, vr 0 k), (1, vr 5 kv), (2, vi s), (3, vi (nI am)), (4, vi (((ndS (vN v) (vF v 0) r (onS (vF v 0) s (vP v)) s am p).2.2) ||| ((nI 1) <<< ((pck (vN v) ((ndS (vN v) (vF v 0) r (onS (vF v 0) s (vP v)) s am p).2.1) ((ndS (vN v) (vF v 0) r (onS (vF v 0) s (vP v)) s am p).2.2) am) &&& 31)))), (5, vi (nI p)), (6, vi (pck (vN v) ((ndS (vN v) (vF v 0) r (onS (vF v 0) s (vP v)) s am p).2.1) ((ndS (vN v) (vF v 0) r (onS (vF v 0) s (vP v)) s am p).2.2) am))]) C (dx dX0_giveNeeds 78 rfl) (by decide) [1, 2, 3, 4, 0, 5, 6] rfl ?_
                          refine rn_iinc (a := p) (k := 1) (ls' := [(0, vr 0 k), (1, vr 5 kv), (2, vi s), (3, vi (nI am)), (4, vi (((ndS (vN v) (vF v 0) r (onS (vF v 0) s (vP v)) s am p).2.2) ||| ((nI 1) <<< ((pck (vN v) ((ndS (vN v) (vF v 0) r (onS (vF v 0) s (vP v)) s am p).2.1) ((ndS (vN v) (vF v 0) r (onS (vF v 0) s (vP v)) s am p).2.2) am) &&& 31)))), (5, vi (nI (p + 1))), (6, vi (pck (vN v) ((ndS (vN v) (vF v 0) r (onS (vF v 0) s (vP v)) s am p).2.1) ((ndS (vN v) (vF v 0) r (onS (vF v 0) s (vP v)) s am p).2.2) am))]) C (dx dX0_giveNeeds 79 rfl) rfl rfl (by decide) [1, 2, 3, 4, 5, 0, 6] rfl ?_
                          refine r_goto (tgt := 58) C (dx dX0_giveNeeds 80 rfl) (by decide) ?_
                          refine (?_ : Rr G 58 [(0, vr 0 k), (1, vr 5 kv), (2, vi s), (3, vi (nI am)), (4, vi (((ndS (vN v) (vF v 0) r (onS (vF v 0) s (vP v)) s am p).2.2) ||| ((nI 1) <<< ((pck (vN v) ((ndS (vN v) (vF v 0) r (onS (vF v 0) s (vP v)) s am p).2.1) ((ndS (vN v) (vF v 0) r (onS (vF v 0) s (vP v)) s am p).2.2) am) &&& 31)))), (5, vi (nI (p + 1))), (6, vi (pck (vN v) ((ndS (vN v) (vF v 0) r (onS (vF v 0) s (vP v)) s am p).2.1) ((ndS (vN v) (vF v 0) r (onS (vF v 0) s (vP v)) s am p).2.2) am))] [] h31)
                          refine r_weak C [0, 1, 2, 3, 4, 5] rfl ?_
                          rw [show (((ndS (vN v) (vF v 0) r (onS (vF v 0) s (vP v)) s am p).2.2) ||| ((nI 1) <<< ((pck (vN v) ((ndS (vN v) (vF v 0) r (onS (vF v 0) s (vP v)) s am p).2.1) ((ndS (vN v) (vF v 0) r (onS (vF v 0) s (vP v)) s am p).2.2) am) &&& 31))) = ((ndS (vN v) (vF v 0) r (onS (vF v 0) s (vP v)) s am (p + 1)).2.2) by (simp only [ndS]; rw [if_pos ⟨c23, c24, c29⟩])]
                          exact ih _ (by rw [show (vcol v 0 (ndS (vN v) (vF v 0) r (onS (vF v 0) s (vP v)) s am (p + 1)).1) = (vcol v 0 (sf (ndS (vN v) (vF v 0) r (onS (vF v 0) s (vP v)) s am p).1 p (pck (vN v) ((ndS (vN v) (vF v 0) r (onS (vF v 0) s (vP v)) s am p).2.1) ((ndS (vN v) (vF v 0) r (onS (vF v 0) s (vP v)) s am p).2.2) am))) by (simp only [ndS]; rw [if_pos ⟨c23, c24, c29⟩])]; exact wh31) (by rw [show ((ndS (vN v) (vF v 0) r (onS (vF v 0) s (vP v)) s am (p + 1)).2.1) = (tkn ((ndS (vN v) (vF v 0) r (onS (vF v 0) s (vP v)) s am p).2.1) (pck (vN v) ((ndS (vN v) (vF v 0) r (onS (vF v 0) s (vP v)) s am p).2.1) ((ndS (vN v) (vF v 0) r (onS (vF v 0) s (vP v)) s am p).2.2) am)) by (simp only [ndS]; rw [if_pos ⟨c23, c24, c29⟩])]; exact mh31) fh31 kh31))
    · first
      | (omega; done)
      | (
          have c17 : p < vP v := c17
          refine r_iload_n C (dx dX0_giveNeeds 8 rfl) rfl ?_
          refine r_iconst (v := nI 1) C (dx dX0_giveNeeds 9 rfl) rfl ?_
          refine r_iload C (dx dX0_giveNeeds 10 rfl) rfl ?_
          refine r_ishl C (dx dX0_giveNeeds 11 rfl) ?_
          refine r_iand C (dx dX0_giveNeeds 12 rfl) ?_
          refine r_if_eq (tgt := 49) C (dx dX0_giveNeeds 13 rfl) (by decide) (fun c32 => ?_) (fun c32 => ?_)
          ·
            have c32 : s &&& ((nI 1) <<< ((nI p) &&& 31)) = 0 := c32
            refine rn_iinc (a := p) (k := 1) (ls' := [(0, vr 0 k), (1, vr 5 kv), (2, vi s), (3, vi (nI am)), (4, vi (onS (vF v 0) s p)), (5, vi (nI (p + 1)))]) C (dx dX0_giveNeeds 29 rfl) rfl rfl (by decide) [1, 2, 3, 4, 5, 0] rfl ?_
            refine r_goto (tgt := 6) C (dx dX0_giveNeeds 30 rfl) (by decide) ?_
            have e9 : (onS (vF v 0) s p) = (onS (vF v 0) s (p + 1)) := by (simp only [onS]; rw [if_neg (fun z => z.1 c32)])
            rw [e9]
            exact ih
          ·
            have c32 : ¬ s &&& ((nI 1) <<< ((nI p) &&& 31)) = 0 := c32
            refine r_aload_n C (dx dX0_giveNeeds 14 rfl) rfl ?_
            refine g_X0_21 C (dx dX0_giveNeeds 15 rfl) ?_
            refine r_iload C (dx dX0_giveNeeds 16 rfl) rfl ?_
            refine r_iald (j := p) (x := vF v 0 p) C rfl rfl (by decide) rfl (by omega) (dx dX0_giveNeeds 17 rfl) (hv.e0 (by omega)) ?_
            refine r_iconst (v := -1) C (dx dX0_giveNeeds 18 rfl) rfl ?_
            refine r_icmp_eq (tgt := 49) C (dx dX0_giveNeeds 19 rfl) (by decide) (fun c33 => ?_) (fun c33 => ?_)
            ·
              have c33 : vF v 0 p = -1 := c33
              refine rn_iinc (a := p) (k := 1) (ls' := [(0, vr 0 k), (1, vr 5 kv), (2, vi s), (3, vi (nI am)), (4, vi (onS (vF v 0) s p)), (5, vi (nI (p + 1)))]) C (dx dX0_giveNeeds 29 rfl) rfl rfl (by decide) [1, 2, 3, 4, 5, 0] rfl ?_
              refine r_goto (tgt := 6) C (dx dX0_giveNeeds 30 rfl) (by decide) ?_
              have e9 : (onS (vF v 0) s p) = (onS (vF v 0) s (p + 1)) := by (simp only [onS]; rw [if_neg (fun z => z.2 c33)])
              rw [e9]
              exact ih
            ·
              have c33 : ¬ vF v 0 p = -1 := c33
              refine r_iload C (dx dX0_giveNeeds 20 rfl) rfl ?_
              refine r_iconst (v := nI 1) C (dx dX0_giveNeeds 21 rfl) rfl ?_
              refine r_aload_n C (dx dX0_giveNeeds 22 rfl) rfl ?_
              refine g_X0_21 C (dx dX0_giveNeeds 23 rfl) ?_
              refine r_iload C (dx dX0_giveNeeds 24 rfl) rfl ?_
              refine r_iald (j := p) (x := vF v 0 p) C rfl rfl (by decide) rfl (by omega) (dx dX0_giveNeeds 25 rfl) (hv.e0 (by omega)) ?_
              refine r_ishl C (dx dX0_giveNeeds 26 rfl) ?_
              refine r_ior C (dx dX0_giveNeeds 27 rfl) ?_
              refine r_istore (ls' := [(0, vr 0 k), (1, vr 5 kv), (2, vi s), (3, vi (nI am)), (4, vi ((onS (vF v 0) s p) ||| ((nI 1) <<< ((vF v 0 p) &&& 31)))), (5, vi (nI p))]) C (dx dX0_giveNeeds 28 rfl) (by decide) [1, 2, 3, 4, 0, 5] rfl ?_
              refine rn_iinc (a := p) (k := 1) (ls' := [(0, vr 0 k), (1, vr 5 kv), (2, vi s), (3, vi (nI am)), (4, vi ((onS (vF v 0) s p) ||| ((nI 1) <<< ((vF v 0 p) &&& 31)))), (5, vi (nI (p + 1)))]) C (dx dX0_giveNeeds 29 rfl) rfl rfl (by decide) [1, 2, 3, 4, 5, 0] rfl ?_
              refine r_goto (tgt := 6) C (dx dX0_giveNeeds 30 rfl) (by decide) ?_
              have e9 : ((onS (vF v 0) s p) ||| ((nI 1) <<< ((vF v 0 p) &&& 31))) = (onS (vF v 0) s (p + 1)) := by (simp only [onS]; rw [if_pos ⟨c32, c33⟩])
              rw [e9]
              exact ih)
def hWh (v : Vg) (r : Nat → Int32) (am : Nat) : (Nat → Int32) × (Nat → Int32) := fiS (vN v) (whS v (vF v 0) r am (vM v)).1 (whS v (vF v 0) r am (vM v)).2.1 am (vP v)
def hRd (v : Vg) (r : Nat → Int32) (x : Int32) : (Nat → Int32) × (Nat → Int32) × Int32 := gvR (vN v) (fun _ _ => -1) (vF v 0) r (rst (vN v) x) (vP v)
def hAg (v : Vg) (r : Nat → Int32) (x : Int32) : (Nat → Int32) × (Nat → Int32) × Int32 := gvR (vN v) (fun _ i => vF v 0 i) (vF v 1) r x (vP v)
def hSu (v : Vg) (r : Nat → Int32) : (Nat → Int32) × (Nat → Int32) := gvS v (vF v 0) r (vP v)
def clr (v : Vg) (p : Nat) : Vg := (vP v, vM v, vN v, fun c i => if c < 2 ∧ i < p then -1 else vF v c i, vS v)
theorem clr_0 {v : Vg} : clr v 0 = v := by
  unfold clr
  refine Prod.ext rfl (Prod.ext rfl (Prod.ext rfl (Prod.ext ?_ rfl)))
  funext c i; simp [vF]
theorem clr_if_s {v : Vg} {p : Nat} : clr v (p + 1) = vset (vset (clr v p) 0 p (-1)) 1 p (-1) := by
  unfold clr vset
  refine Prod.ext rfl (Prod.ext rfl (Prod.ext rfl (Prod.ext ?_ rfl)))
  funext c i
  simp only [vF]
  by_cases h1 : c = 1
  · subst h1
    by_cases h2 : i = p
    · subst h2; simp
    · have : (i < p + 1) ↔ i < p := by omega
      simp [h2, this]
  · by_cases h0 : c = 0
    · subst h0
      by_cases h2 : i = p
      · subst h2; simp
      · have : (i < p + 1) ↔ i < p := by omega
        simp [h2, this]
    · have : ¬ c < 2 := by omega
      simp [h0, h1, this]
def r1 (v : Vg) (r : Nat → Int32) (p : Nat) : Nat → Int32 := fun i => if i < p then vF v 4 i else r i
theorem r1_0 {v : Vg} {r : Nat → Int32} : r1 v r 0 = r := by funext i; simp [r1]
theorem r1_if_s {v : Vg} {r : Nat → Int32} {p : Nat} : r1 v r (p + 1) = sf (r1 v r p) p (vF v 4 p) := by
  funext i; unfold r1 sf
  by_cases h2 : i = p
  · subst h2; simp
  · have : (i < p + 1) ↔ i < p := by omega
    simp [h2, this]
theorem room_sf {h : Hp} {k i : Nat} {r : Nat → Int32} {x : Int32} (a : RoomAt h k r) : RoomAt (sI h (k + 1) i x) k (sf r i x) := fun j hj => by rw [sI_at, a j hj]; rfl
def fewN (n b : Nat) : Nat := if b = 0 then n else if n < b then n else b
theorem few_if {n b : Nat} (hn : n < 2 ^ 31) (hb : b < 2 ^ 31) (h : ¬ nI b = 0) : (if nI n < nI b then nI n else nI b) = nI (fewN n b) := by
  have : ¬ b = 0 := fun z => h (by rw [z]; rfl)
  unfold fewN
  rw [if_neg this]
  by_cases q : n < b
  · rw [if_pos q, if_pos ((nI_ltI hn hb).mpr q)]
  · rw [if_neg q, if_neg (fun z => q ((nI_ltI hn hb).mp z))]
theorem few_le {n b : Nat} : fewN n b ≤ n := by unfold fewN; split; omega; split <;> omega
/-- a village as a holding tells it -/
def tellU (u : Vg) (r : Nat → Int32) (b : Nat) : Nat → Vg
  | 1 => vcol u 0 (hWh u r (vN u)).1
  | 2 => vcol u 0 (hRd u r (nI b)).1
  | 3 => vcol (vcol u 0 (hRd u r (nI b)).1) 1 (hAg (vcol u 0 (hRd u r (nI b)).1) (hRd u r (nI b)).2.1 (hRd u r (nI b)).2.2).1
  | 4 => vcol u 0 (hSu u r).1
  | _ => vcol u 0 (hWh u r (fewN (vN u) b)).1
def tellV (v : Vg) (r : Nat → Int32) (b κ : Nat) : Vg := tellU (clr v (vP v)) (r1 v r (vN v)) b κ
theorem c_wtC {l : Launch} {h : Hp} {k kv : Nat} {v : Vg} {f r : Nat → Int32} (hv : VilAt h kv (vcol v 0 f)) (hr : RoomAt h k r) (hd : k + 2 ≤ kv ∨ kv + 9 ≤ k) (s : Int32) : Mp l yX0_worthiest cX0_worthiest 6 (some .int) 1 [vr 0 k, vr 5 kv, vi s] h (vi (wtS v s (vM v)).1) := by
  have q := c_X0_worthiest (l := l) hv hr hd s
  rw [wtS_col] at q; exact q
set_option maxHeartbeats 4000000 in
theorem c_X0_giveWhole {l : Launch} {h : Hp} {k kv : Nat} {v : Vg} {r : Nat → Int32} (hv : VilAt h kv v) (hr : RoomAt h k r) (hd : k + 2 ≤ kv ∨ kv + 9 ≤ k) {am : Nat} (ha : am ≤ 8) : Ms l yX0_giveWhole cX0_giveWhole 6 none 4 [vr 0 k, vr 5 kv, vi (nI am)] h (xK h) (fun r0 h' => r0 = none ∧ VilAt h' kv (vcol v 0 (fiS (vN v) (whS v (vF v 0) r am (vM v)).1 (whS v (vF v 0) r am (vM v)).2.1 am (vP v)).1) ∧ RoomAt h' k ((fiS (vN v) (whS v (vF v 0) r am (vM v)).1 (whS v (vF v 0) r am (vM v)).2.1 am (vP v)).2) ∧ Fs (RA k kv) h h') := by
  refine Ms.of (by decide) (Nat.le_of_ble_eq_true rfl) (fun G C X F => ?_)
  have C : Cx G cX0_giveWhole 6 RX0 := C
  show Rr G 0 [(0, vr 0 k), (1, vr 5 kv), (2, vi (nI am))] [] h
  have bP := hv.bP
  have bM := hv.bM
  have bN := hv.bN
  refine r_iconst (v := nI 0) C (dx dX0_giveWhole 0 rfl) rfl ?_
  refine r_istore_n (ls' := [(0, vr 0 k), (1, vr 5 kv), (2, vi (nI am)), (3, vi (nI 0))]) C (dx dX0_giveWhole 1 rfl) (by decide) [1, 2, 3, 0] rfl ?_
  refine r_iconst (v := nI 0) C (dx dX0_giveWhole 2 rfl) rfl ?_
  refine r_istore (ls' := [(0, vr 0 k), (1, vr 5 kv), (2, vi (nI am)), (3, vi (nI 0)), (4, vi (nI 0))]) C (dx dX0_giveWhole 3 rfl) (by decide) [1, 2, 3, 4, 0] rfl ?_
  refine loopU (Φ := fun p => ∀ h9, VilAt h9 kv (vcol v 0 (whS v (vF v 0) r am p).1) → RoomAt h9 k ((whS v (vF v 0) r am p).2.1) → Fs (RA k kv) h h9 → xK h9 = xK h → Rr G 5 [(0, vr 0 k), (1, vr 5 kv), (2, vi (nI am)), (3, vi ((whS v (vF v 0) r am p).2.2)), (4, vi (nI p))] [] h9) (N := vM v) ?_ ?_ 0 (Nat.zero_le _) _ (by rw [show vcol v 0 (whS v (vF v 0) r am 0).1 = v from vcol_id]; exact hv) hr Fs.rf rfl
  ·
    intro h1 wh1 mh1 fh1 kh1
    refine r_iload C (dx dX0_giveWhole 4 rfl) rfl ?_
    refine r_aload_n C (dx dX0_giveWhole 5 rfl) rfl ?_
    refine g_X0_54 (x := nI (vM v)) C (dx dX0_giveWhole 6 rfl) wh1.eM ?_
    refine rn_ge (a := vM v) (b := vM v) (tgt := 54) C (by omega) (by omega) (dx dX0_giveWhole 7 rfl) (by decide) (fun c2 => ?_) (fun c2 => ?_)
    · first
      | (omega; done)
      | (
          have c2 : vM v ≤ vM v := c2
          refine r_iconst (v := nI 0) C (dx dX0_giveWhole 32 rfl) rfl ?_
          refine r_istore (ls' := [(0, vr 0 k), (1, vr 5 kv), (2, vi (nI am)), (3, vi ((whS v (vF v 0) r am (vM v)).2.2)), (4, vi (nI 0))]) C (dx dX0_giveWhole 33 rfl) (by decide) [1, 2, 3, 4, 0] rfl ?_
          refine loopU (Φ := fun p => ∀ h9, VilAt h9 kv (vcol v 0 (fiS (vN v) (whS v (vF v 0) r am (vM v)).1 (whS v (vF v 0) r am (vM v)).2.1 am p).1) → RoomAt h9 k ((fiS (vN v) (whS v (vF v 0) r am (vM v)).1 (whS v (vF v 0) r am (vM v)).2.1 am p).2) → Fs (RA k kv) h h9 → xK h9 = xK h → Rr G 57 [(0, vr 0 k), (1, vr 5 kv), (2, vi (nI am)), (3, vi ((whS v (vF v 0) r am (vM v)).2.2)), (4, vi (nI p))] [] h9) (N := vP v) ?_ ?_ 0 (Nat.zero_le _) _ (wh1) mh1 fh1 kh1
          ·
            intro h3 wh3 mh3 fh3 kh3
            refine r_iload C (dx dX0_giveWhole 34 rfl) rfl ?_
            refine r_aload_n C (dx dX0_giveWhole 35 rfl) rfl ?_
            refine g_X0_15 (x := nI (vP v)) C (dx dX0_giveWhole 36 rfl) wh3.eP ?_
            refine rn_ge (a := vP v) (b := vP v) (tgt := 103) C (by omega) (by omega) (dx dX0_giveWhole 37 rfl) (by decide) (fun c4 => ?_) (fun c4 => ?_)
            · first
              | (omega; done)
              | (
                  have c4 : vP v ≤ vP v := c4
                  exact F.2.2.1 _ _ _ rfl (dx dX0_giveWhole 57 rfl) kh3 ⟨rfl, wh3, mh3, fh3⟩)
            · first
              | (omega; done)
          ·
            intro p hp ih h6 wh6 mh6 fh6 kh6
            refine r_iload C (dx dX0_giveWhole 34 rfl) rfl ?_
            refine r_aload_n C (dx dX0_giveWhole 35 rfl) rfl ?_
            refine g_X0_15 (x := nI (vP v)) C (dx dX0_giveWhole 36 rfl) wh6.eP ?_
            refine rn_ge (a := p) (b := vP v) (tgt := 103) C (by omega) (by omega) (dx dX0_giveWhole 37 rfl) (by decide) (fun c7 => ?_) (fun c7 => ?_)
            · first
              | (omega; done)
              | (
                  have c7 : vP v ≤ p := c7
                  exact F.2.2.1 _ _ _ rfl (dx dX0_giveWhole 57 rfl) kh6 ⟨rfl, wh6, mh6, fh6⟩)
            · first
              | (omega; done)
              | (
                  have c7 : p < vP v := c7
                  refine r_aload_n C (dx dX0_giveWhole 38 rfl) rfl ?_
                  refine g_X0_21 C (dx dX0_giveWhole 39 rfl) ?_
                  refine r_iload C (dx dX0_giveWhole 40 rfl) rfl ?_
                  refine r_iald (j := p) (x := (fiS (vN v) (whS v (vF v 0) r am (vM v)).1 (whS v (vF v 0) r am (vM v)).2.1 am p).1 p) C rfl rfl (by decide) rfl (by omega) (dx dX0_giveWhole 41 rfl) (wh6.e0 (by omega)) ?_
                  refine r_iconst (v := -1) C (dx dX0_giveWhole 42 rfl) rfl ?_
                  refine r_icmp_ne (tgt := 97) C (dx dX0_giveWhole 43 rfl) (by decide) (fun c8 => ?_) (fun c8 => ?_)
                  ·
                    have c8 : ¬ (fiS (vN v) (whS v (vF v 0) r am (vM v)).1 (whS v (vF v 0) r am (vM v)).2.1 am p).1 p = -1 := c8
                    refine rn_iinc (a := p) (k := 1) (ls' := [(0, vr 0 k), (1, vr 5 kv), (2, vi (nI am)), (3, vi ((whS v (vF v 0) r am (vM v)).2.2)), (4, vi (nI (p + 1)))]) C (dx dX0_giveWhole 55 rfl) rfl rfl (by decide) [1, 2, 3, 4, 0] rfl ?_
                    refine r_goto (tgt := 57) C (dx dX0_giveWhole 56 rfl) (by decide) ?_
                    refine (?_ : Rr G 57 [(0, vr 0 k), (1, vr 5 kv), (2, vi (nI am)), (3, vi ((whS v (vF v 0) r am (vM v)).2.2)), (4, vi (nI (p + 1)))] [] h6)
                    exact ih _ (by rw [show (vcol v 0 (fiS (vN v) (whS v (vF v 0) r am (vM v)).1 (whS v (vF v 0) r am (vM v)).2.1 am (p + 1)).1) = (vcol v 0 (fiS (vN v) (whS v (vF v 0) r am (vM v)).1 (whS v (vF v 0) r am (vM v)).2.1 am p).1) by (simp only [fiS]; rw [if_neg c8])]; exact wh6) (by rw [show ((fiS (vN v) (whS v (vF v 0) r am (vM v)).1 (whS v (vF v 0) r am (vM v)).2.1 am (p + 1)).2) = ((fiS (vN v) (whS v (vF v 0) r am (vM v)).1 (whS v (vF v 0) r am (vM v)).2.1 am p).2) by (simp only [fiS]; rw [if_neg c8])]; exact mh6) fh6 kh6
                  ·
                    have c8 : (fiS (vN v) (whS v (vF v 0) r am (vM v)).1 (whS v (vF v 0) r am (vM v)).2.1 am p).1 p = -1 := c8
                    refine r_aload_n C (dx dX0_giveWhole 44 rfl) rfl ?_
                    refine g_X0_21 C (dx dX0_giveWhole 45 rfl) ?_
                    refine r_iload C (dx dX0_giveWhole 46 rfl) rfl ?_
                    refine r_aload_n C (dx dX0_giveWhole 47 rfl) rfl ?_
                    refine r_aload_n C (dx dX0_giveWhole 48 rfl) rfl ?_
                    refine r_aload_n C (dx dX0_giveWhole 49 rfl) rfl ?_
                    refine r_cvP (as := []) (st := [vr 0 k, vr 0 k, vi (nI p), vr 20 (kv + 1)]) (v := vi (full (vN v))) C X I_X5_allPeople l_X0_67 (c_X5_allPeople (v := vcol v 0 (fiS (vN v) (whS v (vF v 0) r am (vM v)).1 (whS v (vF v 0) r am (vM v)).2.1 am p).1) wh6) (by decide) (Nat.le_of_ble_eq_true rfl) (pfx_eq kh6) rfl rfl (Nat.le_of_ble_eq_true rfl) rfl (dx dX0_giveWhole 50 rfl) ?_
                    refine r_iload_n C (dx dX0_giveWhole 51 rfl) rfl ?_
                    refine r_cvP (as := [vi (full (vN v)), vi (nI am)]) (st := [vr 0 k, vi (nI p), vr 20 (kv + 1)]) (v := vi (fwR ((fiS (vN v) (whS v (vF v 0) r am (vM v)).1 (whS v (vF v 0) r am (vM v)).2.1 am p).2) (full (vN v)) am)) C X I_X0_firstWithRoom l_X0_71 (c_X0_firstWithRoom mh6 (full (vN v)) ha) (by decide) (Nat.le_of_ble_eq_true rfl) (pfx_eq kh6) rfl rfl (Nat.le_of_ble_eq_true rfl) rfl (dx dX0_giveWhole 52 rfl) ?_
                    refine r_cv (as := [vi (fwR ((fiS (vN v) (whS v (vF v 0) r am (vM v)).1 (whS v (vF v 0) r am (vM v)).2.1 am p).2) (full (vN v)) am)]) (st := [vi (nI p), vr 20 (kv + 1)]) C X I_X0_taken l_X0_74 (c_X0_taken mh6 (fwR ((fiS (vN v) (whS v (vF v 0) r am (vM v)).1 (whS v (vF v 0) r am (vM v)).2.1 am p).2) (full (vN v)) am)) (by decide) (Nat.le_of_ble_eq_true rfl) List.prefix_rfl (pfx_eq kh6) rfl rfl (Nat.le_of_ble_eq_true rfl) rfl (dx dX0_giveWhole 53 rfl) ?_
                    intro rh9 h9 hph9 kkh9
                    obtain ⟨rfl, mh9, gh9⟩ := hph9
                    have wh9 : VilAt h9 kv (vcol v 0 (fiS (vN v) (whS v (vF v 0) r am (vM v)).1 (whS v (vF v 0) r am (vM v)).2.1 am p).1) := wh6.fr gh9 (by omega)
                    have fh9 : Fs (RA k kv) h h9 := fh6.tr (Fs.of gh9 (fun b h1 h2 => Or.inl (by omega)))
                    have kh9 : xK h9 = xK h := kkh9.trans kh6
                    refine r_iast (j := p) C rfl rfl (by decide) rfl (by omega) (dx dX0_giveWhole 54 rfl) ?_
                    have wh10 : VilAt (sI h9 (kv + 1) p (fwR ((fiS (vN v) (whS v (vF v 0) r am (vM v)).1 (whS v (vF v 0) r am (vM v)).2.1 am p).2) (full (vN v)) am)) kv (vcol v 0 (sf (fiS (vN v) (whS v (vF v 0) r am (vM v)).1 (whS v (vF v 0) r am (vM v)).2.1 am p).1 p (fwR ((fiS (vN v) (whS v (vF v 0) r am (vM v)).1 (whS v (vF v 0) r am (vM v)).2.1 am p).2) (full (vN v)) am))) := by rw [← vset_col]; exact wh9.s0
                    have mh10 : RoomAt (sI h9 (kv + 1) p (fwR ((fiS (vN v) (whS v (vF v 0) r am (vM v)).1 (whS v (vF v 0) r am (vM v)).2.1 am p).2) (full (vN v)) am)) k (tkn ((fiS (vN v) (whS v (vF v 0) r am (vM v)).1 (whS v (vF v 0) r am (vM v)).2.1 am p).2) (fwR ((fiS (vN v) (whS v (vF v 0) r am (vM v)).1 (whS v (vF v 0) r am (vM v)).2.1 am p).2) (full (vN v)) am)) := mh9.fr (Fr.sI (lo := kv) (hi := kv + 9) (by omega) (by omega)) (by omega)
                    have fh10 : Fs (RA k kv) h (sI h9 (kv + 1) p (fwR ((fiS (vN v) (whS v (vF v 0) r am (vM v)).1 (whS v (vF v 0) r am (vM v)).2.1 am p).2) (full (vN v)) am)) := fh9.tr (Fs.of (Fr.sI (lo := kv) (hi := kv + 9) (by omega) (by omega)) (fun b h1 h2 => Or.inr ⟨h1, h2⟩))
                    have kh10 : xK (sI h9 (kv + 1) p (fwR ((fiS (vN v) (whS v (vF v 0) r am (vM v)).1 (whS v (vF v 0) r am (vM v)).2.1 am p).2) (full (vN v)) am)) = xK h := kh9
                    generalize sI h9 (kv + 1) p (fwR ((fiS (vN v) (whS v (vF v 0) r am (vM v)).1 (whS v (vF v 0) r am (vM v)).2.1 am p).2) (full (vN v)) am) = h10 at wh10 mh10 fh10 kh10 ⊢
                    refine rn_iinc (a := p) (k := 1) (ls' := [(0, vr 0 k), (1, vr 5 kv), (2, vi (nI am)), (3, vi ((whS v (vF v 0) r am (vM v)).2.2)), (4, vi (nI (p + 1)))]) C (dx dX0_giveWhole 55 rfl) rfl rfl (by decide) [1, 2, 3, 4, 0] rfl ?_
                    refine r_goto (tgt := 57) C (dx dX0_giveWhole 56 rfl) (by decide) ?_
                    refine (?_ : Rr G 57 [(0, vr 0 k), (1, vr 5 kv), (2, vi (nI am)), (3, vi ((whS v (vF v 0) r am (vM v)).2.2)), (4, vi (nI (p + 1)))] [] h10)
                    exact ih _ (by rw [show (vcol v 0 (fiS (vN v) (whS v (vF v 0) r am (vM v)).1 (whS v (vF v 0) r am (vM v)).2.1 am (p + 1)).1) = (vcol v 0 (sf (fiS (vN v) (whS v (vF v 0) r am (vM v)).1 (whS v (vF v 0) r am (vM v)).2.1 am p).1 p (fwR ((fiS (vN v) (whS v (vF v 0) r am (vM v)).1 (whS v (vF v 0) r am (vM v)).2.1 am p).2) (full (vN v)) am))) by (simp only [fiS]; rw [if_pos c8])]; exact wh10) (by rw [show ((fiS (vN v) (whS v (vF v 0) r am (vM v)).1 (whS v (vF v 0) r am (vM v)).2.1 am (p + 1)).2) = (tkn ((fiS (vN v) (whS v (vF v 0) r am (vM v)).1 (whS v (vF v 0) r am (vM v)).2.1 am p).2) (fwR ((fiS (vN v) (whS v (vF v 0) r am (vM v)).1 (whS v (vF v 0) r am (vM v)).2.1 am p).2) (full (vN v)) am)) by (simp only [fiS]; rw [if_pos c8])]; exact mh10) fh10 kh10))
    · first
      | (omega; done)
  ·
    intro p hp ih h12 wh12 mh12 fh12 kh12
    refine r_iload C (dx dX0_giveWhole 4 rfl) rfl ?_
    refine r_aload_n C (dx dX0_giveWhole 5 rfl) rfl ?_
    refine g_X0_54 (x := nI (vM v)) C (dx dX0_giveWhole 6 rfl) wh12.eM ?_
    refine rn_ge (a := p) (b := vM v) (tgt := 54) C (by omega) (by omega) (dx dX0_giveWhole 7 rfl) (by decide) (fun c13 => ?_) (fun c13 => ?_)
    · first
      | (omega; done)
      | (
          have c13 : vM v ≤ p := c13
          refine r_iconst (v := nI 0) C (dx dX0_giveWhole 32 rfl) rfl ?_
          refine r_istore (ls' := [(0, vr 0 k), (1, vr 5 kv), (2, vi (nI am)), (3, vi ((whS v (vF v 0) r am p).2.2)), (4, vi (nI 0))]) C (dx dX0_giveWhole 33 rfl) (by decide) [1, 2, 3, 4, 0] rfl ?_
          refine loopU (Φ := fun p => ∀ h9, VilAt h9 kv (vcol v 0 (fiS (vN v) (whS v (vF v 0) r am (vM v)).1 (whS v (vF v 0) r am (vM v)).2.1 am p).1) → RoomAt h9 k ((fiS (vN v) (whS v (vF v 0) r am (vM v)).1 (whS v (vF v 0) r am (vM v)).2.1 am p).2) → Fs (RA k kv) h h9 → xK h9 = xK h → Rr G 57 [(0, vr 0 k), (1, vr 5 kv), (2, vi (nI am)), (3, vi ((whS v (vF v 0) r am p).2.2)), (4, vi (nI p))] [] h9) (N := vP v) ?_ ?_ 0 (Nat.zero_le _) _ (wh12) mh12 fh12 kh12
          ·
            intro h14 wh14 mh14 fh14 kh14
            refine r_iload C (dx dX0_giveWhole 34 rfl) rfl ?_
            refine r_aload_n C (dx dX0_giveWhole 35 rfl) rfl ?_
            refine g_X0_15 (x := nI (vP v)) C (dx dX0_giveWhole 36 rfl) wh14.eP ?_
            refine rn_ge (a := vP v) (b := vP v) (tgt := 103) C (by omega) (by omega) (dx dX0_giveWhole 37 rfl) (by decide) (fun c15 => ?_) (fun c15 => ?_)
            · first
              | (omega; done)
              | (
                  have c15 : vP v ≤ vP v := c15
                  exact F.2.2.1 _ _ _ rfl (dx dX0_giveWhole 57 rfl) kh14 ⟨rfl, wh14, mh14, fh14⟩)
            · first
              | (omega; done)
          ·
            intro p hp ih h17 wh17 mh17 fh17 kh17
            refine r_iload C (dx dX0_giveWhole 34 rfl) rfl ?_
            refine r_aload_n C (dx dX0_giveWhole 35 rfl) rfl ?_
            refine g_X0_15 (x := nI (vP v)) C (dx dX0_giveWhole 36 rfl) wh17.eP ?_
            refine rn_ge (a := p) (b := vP v) (tgt := 103) C (by omega) (by omega) (dx dX0_giveWhole 37 rfl) (by decide) (fun c18 => ?_) (fun c18 => ?_)
            · first
              | (omega; done)
              | (
                  have c18 : vP v ≤ p := c18
                  exact F.2.2.1 _ _ _ rfl (dx dX0_giveWhole 57 rfl) kh17 ⟨rfl, wh17, mh17, fh17⟩)
            · first
              | (omega; done)
              | (
                  have c18 : p < vP v := c18
                  refine r_aload_n C (dx dX0_giveWhole 38 rfl) rfl ?_
                  refine g_X0_21 C (dx dX0_giveWhole 39 rfl) ?_
                  refine r_iload C (dx dX0_giveWhole 40 rfl) rfl ?_
                  refine r_iald (j := p) (x := (fiS (vN v) (whS v (vF v 0) r am (vM v)).1 (whS v (vF v 0) r am (vM v)).2.1 am p).1 p) C rfl rfl (by decide) rfl (by omega) (dx dX0_giveWhole 41 rfl) (wh17.e0 (by omega)) ?_
                  refine r_iconst (v := -1) C (dx dX0_giveWhole 42 rfl) rfl ?_
                  refine r_icmp_ne (tgt := 97) C (dx dX0_giveWhole 43 rfl) (by decide) (fun c19 => ?_) (fun c19 => ?_)
                  ·
                    have c19 : ¬ (fiS (vN v) (whS v (vF v 0) r am (vM v)).1 (whS v (vF v 0) r am (vM v)).2.1 am p).1 p = -1 := c19
                    refine rn_iinc (a := p) (k := 1) (ls' := [(0, vr 0 k), (1, vr 5 kv), (2, vi (nI am)), (3, vi ((whS v (vF v 0) r am p).2.2)), (4, vi (nI (p + 1)))]) C (dx dX0_giveWhole 55 rfl) rfl rfl (by decide) [1, 2, 3, 4, 0] rfl ?_
                    refine r_goto (tgt := 57) C (dx dX0_giveWhole 56 rfl) (by decide) ?_
                    refine (?_ : Rr G 57 [(0, vr 0 k), (1, vr 5 kv), (2, vi (nI am)), (3, vi ((whS v (vF v 0) r am p).2.2)), (4, vi (nI (p + 1)))] [] h17)
                    exact ih _ (by rw [show (vcol v 0 (fiS (vN v) (whS v (vF v 0) r am (vM v)).1 (whS v (vF v 0) r am (vM v)).2.1 am (p + 1)).1) = (vcol v 0 (fiS (vN v) (whS v (vF v 0) r am (vM v)).1 (whS v (vF v 0) r am (vM v)).2.1 am p).1) by (simp only [fiS]; rw [if_neg c19])]; exact wh17) (by rw [show ((fiS (vN v) (whS v (vF v 0) r am (vM v)).1 (whS v (vF v 0) r am (vM v)).2.1 am (p + 1)).2) = ((fiS (vN v) (whS v (vF v 0) r am (vM v)).1 (whS v (vF v 0) r am (vM v)).2.1 am p).2) by (simp only [fiS]; rw [if_neg c19])]; exact mh17) fh17 kh17
                  ·
                    have c19 : (fiS (vN v) (whS v (vF v 0) r am (vM v)).1 (whS v (vF v 0) r am (vM v)).2.1 am p).1 p = -1 := c19
                    refine r_aload_n C (dx dX0_giveWhole 44 rfl) rfl ?_
                    refine g_X0_21 C (dx dX0_giveWhole 45 rfl) ?_
                    refine r_iload C (dx dX0_giveWhole 46 rfl) rfl ?_
                    refine r_aload_n C (dx dX0_giveWhole 47 rfl) rfl ?_
                    refine r_aload_n C (dx dX0_giveWhole 48 rfl) rfl ?_
                    refine r_aload_n C (dx dX0_giveWhole 49 rfl) rfl ?_
                    refine r_cvP (as := []) (st := [vr 0 k, vr 0 k, vi (nI p), vr 20 (kv + 1)]) (v := vi (full (vN v))) C X I_X5_allPeople l_X0_67 (c_X5_allPeople (v := vcol v 0 (fiS (vN v) (whS v (vF v 0) r am (vM v)).1 (whS v (vF v 0) r am (vM v)).2.1 am p).1) wh17) (by decide) (Nat.le_of_ble_eq_true rfl) (pfx_eq kh17) rfl rfl (Nat.le_of_ble_eq_true rfl) rfl (dx dX0_giveWhole 50 rfl) ?_
                    refine r_iload_n C (dx dX0_giveWhole 51 rfl) rfl ?_
                    refine r_cvP (as := [vi (full (vN v)), vi (nI am)]) (st := [vr 0 k, vi (nI p), vr 20 (kv + 1)]) (v := vi (fwR ((fiS (vN v) (whS v (vF v 0) r am (vM v)).1 (whS v (vF v 0) r am (vM v)).2.1 am p).2) (full (vN v)) am)) C X I_X0_firstWithRoom l_X0_71 (c_X0_firstWithRoom mh17 (full (vN v)) ha) (by decide) (Nat.le_of_ble_eq_true rfl) (pfx_eq kh17) rfl rfl (Nat.le_of_ble_eq_true rfl) rfl (dx dX0_giveWhole 52 rfl) ?_
                    refine r_cv (as := [vi (fwR ((fiS (vN v) (whS v (vF v 0) r am (vM v)).1 (whS v (vF v 0) r am (vM v)).2.1 am p).2) (full (vN v)) am)]) (st := [vi (nI p), vr 20 (kv + 1)]) C X I_X0_taken l_X0_74 (c_X0_taken mh17 (fwR ((fiS (vN v) (whS v (vF v 0) r am (vM v)).1 (whS v (vF v 0) r am (vM v)).2.1 am p).2) (full (vN v)) am)) (by decide) (Nat.le_of_ble_eq_true rfl) List.prefix_rfl (pfx_eq kh17) rfl rfl (Nat.le_of_ble_eq_true rfl) rfl (dx dX0_giveWhole 53 rfl) ?_
                    intro rh20 h20 hph20 kkh20
                    obtain ⟨rfl, mh20, gh20⟩ := hph20
                    have wh20 : VilAt h20 kv (vcol v 0 (fiS (vN v) (whS v (vF v 0) r am (vM v)).1 (whS v (vF v 0) r am (vM v)).2.1 am p).1) := wh17.fr gh20 (by omega)
                    have fh20 : Fs (RA k kv) h h20 := fh17.tr (Fs.of gh20 (fun b h1 h2 => Or.inl (by omega)))
                    have kh20 : xK h20 = xK h := kkh20.trans kh17
                    refine r_iast (j := p) C rfl rfl (by decide) rfl (by omega) (dx dX0_giveWhole 54 rfl) ?_
                    have wh21 : VilAt (sI h20 (kv + 1) p (fwR ((fiS (vN v) (whS v (vF v 0) r am (vM v)).1 (whS v (vF v 0) r am (vM v)).2.1 am p).2) (full (vN v)) am)) kv (vcol v 0 (sf (fiS (vN v) (whS v (vF v 0) r am (vM v)).1 (whS v (vF v 0) r am (vM v)).2.1 am p).1 p (fwR ((fiS (vN v) (whS v (vF v 0) r am (vM v)).1 (whS v (vF v 0) r am (vM v)).2.1 am p).2) (full (vN v)) am))) := by rw [← vset_col]; exact wh20.s0
                    have mh21 : RoomAt (sI h20 (kv + 1) p (fwR ((fiS (vN v) (whS v (vF v 0) r am (vM v)).1 (whS v (vF v 0) r am (vM v)).2.1 am p).2) (full (vN v)) am)) k (tkn ((fiS (vN v) (whS v (vF v 0) r am (vM v)).1 (whS v (vF v 0) r am (vM v)).2.1 am p).2) (fwR ((fiS (vN v) (whS v (vF v 0) r am (vM v)).1 (whS v (vF v 0) r am (vM v)).2.1 am p).2) (full (vN v)) am)) := mh20.fr (Fr.sI (lo := kv) (hi := kv + 9) (by omega) (by omega)) (by omega)
                    have fh21 : Fs (RA k kv) h (sI h20 (kv + 1) p (fwR ((fiS (vN v) (whS v (vF v 0) r am (vM v)).1 (whS v (vF v 0) r am (vM v)).2.1 am p).2) (full (vN v)) am)) := fh20.tr (Fs.of (Fr.sI (lo := kv) (hi := kv + 9) (by omega) (by omega)) (fun b h1 h2 => Or.inr ⟨h1, h2⟩))
                    have kh21 : xK (sI h20 (kv + 1) p (fwR ((fiS (vN v) (whS v (vF v 0) r am (vM v)).1 (whS v (vF v 0) r am (vM v)).2.1 am p).2) (full (vN v)) am)) = xK h := kh20
                    generalize sI h20 (kv + 1) p (fwR ((fiS (vN v) (whS v (vF v 0) r am (vM v)).1 (whS v (vF v 0) r am (vM v)).2.1 am p).2) (full (vN v)) am) = h21 at wh21 mh21 fh21 kh21 ⊢
                    refine rn_iinc (a := p) (k := 1) (ls' := [(0, vr 0 k), (1, vr 5 kv), (2, vi (nI am)), (3, vi ((whS v (vF v 0) r am p).2.2)), (4, vi (nI (p + 1)))]) C (dx dX0_giveWhole 55 rfl) rfl rfl (by decide) [1, 2, 3, 4, 0] rfl ?_
                    refine r_goto (tgt := 57) C (dx dX0_giveWhole 56 rfl) (by decide) ?_
                    refine (?_ : Rr G 57 [(0, vr 0 k), (1, vr 5 kv), (2, vi (nI am)), (3, vi ((whS v (vF v 0) r am p).2.2)), (4, vi (nI (p + 1)))] [] h21)
                    exact ih _ (by rw [show (vcol v 0 (fiS (vN v) (whS v (vF v 0) r am (vM v)).1 (whS v (vF v 0) r am (vM v)).2.1 am (p + 1)).1) = (vcol v 0 (sf (fiS (vN v) (whS v (vF v 0) r am (vM v)).1 (whS v (vF v 0) r am (vM v)).2.1 am p).1 p (fwR ((fiS (vN v) (whS v (vF v 0) r am (vM v)).1 (whS v (vF v 0) r am (vM v)).2.1 am p).2) (full (vN v)) am))) by (simp only [fiS]; rw [if_pos c19])]; exact wh21) (by rw [show ((fiS (vN v) (whS v (vF v 0) r am (vM v)).1 (whS v (vF v 0) r am (vM v)).2.1 am (p + 1)).2) = (tkn ((fiS (vN v) (whS v (vF v 0) r am (vM v)).1 (whS v (vF v 0) r am (vM v)).2.1 am p).2) (fwR ((fiS (vN v) (whS v (vF v 0) r am (vM v)).1 (whS v (vF v 0) r am (vM v)).2.1 am p).2) (full (vN v)) am)) by (simp only [fiS]; rw [if_pos c19])]; exact mh21) fh21 kh21))
    · first
      | (omega; done)
      | (
          have c13 : p < vM v := c13
          refine r_aload_n C (dx dX0_giveWhole 8 rfl) rfl ?_
          refine r_aload_n C (dx dX0_giveWhole 9 rfl) rfl ?_
          refine r_iload_n C (dx dX0_giveWhole 10 rfl) rfl ?_
          refine r_cvP (as := [vr 5 kv, vi ((whS v (vF v 0) r am p).2.2)]) (st := []) (v := vi ((wtS v ((whS v (vF v 0) r am p).2.2) (vM v)).1)) C X I_X0_worthiest l_X0_57 (c_wtC wh12 mh12 hd ((whS v (vF v 0) r am p).2.2)) (by decide) (Nat.le_of_ble_eq_true rfl) (pfx_eq kh12) rfl rfl (Nat.le_of_ble_eq_true rfl) rfl (dx dX0_giveWhole 11 rfl) ?_
          refine r_istore (ls' := [(0, vr 0 k), (1, vr 5 kv), (2, vi (nI am)), (3, vi ((whS v (vF v 0) r am p).2.2)), (4, vi (nI p)), (5, vi ((wtS v ((whS v (vF v 0) r am p).2.2) (vM v)).1))]) C (dx dX0_giveWhole 12 rfl) (by decide) [1, 2, 3, 4, 5, 0] rfl ?_
          refine r_iload C (dx dX0_giveWhole 13 rfl) rfl ?_
          refine r_iconst (v := -1) C (dx dX0_giveWhole 14 rfl) rfl ?_
          refine r_icmp_eq (tgt := 48) C (dx dX0_giveWhole 15 rfl) (by decide) (fun c22 => ?_) (fun c22 => ?_)
          ·
            have c22 : (wtS v ((whS v (vF v 0) r am p).2.2) (vM v)).1 = -1 := c22
            refine rn_iinc (a := p) (k := 1) (ls' := [(0, vr 0 k), (1, vr 5 kv), (2, vi (nI am)), (3, vi ((whS v (vF v 0) r am p).2.2)), (4, vi (nI (p + 1))), (5, vi ((wtS v ((whS v (vF v 0) r am p).2.2) (vM v)).1))]) C (dx dX0_giveWhole 30 rfl) rfl rfl (by decide) [1, 2, 3, 4, 0, 5] rfl ?_
            refine r_goto (tgt := 5) C (dx dX0_giveWhole 31 rfl) (by decide) ?_
            refine (?_ : Rr G 5 [(0, vr 0 k), (1, vr 5 kv), (2, vi (nI am)), (3, vi ((whS v (vF v 0) r am p).2.2)), (4, vi (nI (p + 1))), (5, vi ((wtS v ((whS v (vF v 0) r am p).2.2) (vM v)).1))] [] h12)
            refine r_weak C [0, 1, 2, 3, 4] rfl ?_
            rw [show ((whS v (vF v 0) r am p).2.2) = ((whS v (vF v 0) r am (p + 1)).2.2) by (simp only [whS]; rw [if_pos c22])]
            exact ih _ (by rw [show (vcol v 0 (whS v (vF v 0) r am (p + 1)).1) = (vcol v 0 (whS v (vF v 0) r am p).1) by (simp only [whS]; rw [if_pos c22])]; exact wh12) (by rw [show ((whS v (vF v 0) r am (p + 1)).2.1) = ((whS v (vF v 0) r am p).2.1) by (simp only [whS]; rw [if_pos c22])]; exact mh12) fh12 kh12
          ·
            have c22 : ¬ (wtS v ((whS v (vF v 0) r am p).2.2) (vM v)).1 = -1 := c22
            refine r_iload_n C (dx dX0_giveWhole 16 rfl) rfl ?_
            refine r_iconst (v := nI 1) C (dx dX0_giveWhole 17 rfl) rfl ?_
            refine r_iload C (dx dX0_giveWhole 18 rfl) rfl ?_
            refine r_ishl C (dx dX0_giveWhole 19 rfl) ?_
            refine r_ior C (dx dX0_giveWhole 20 rfl) ?_
            refine r_istore_n (ls' := [(0, vr 0 k), (1, vr 5 kv), (2, vi (nI am)), (3, vi (((whS v (vF v 0) r am p).2.2) ||| ((nI 1) <<< (((wtS v ((whS v (vF v 0) r am p).2.2) (vM v)).1) &&& 31)))), (4, vi (nI p)), (5, vi ((wtS v ((whS v (vF v 0) r am p).2.2) (vM v)).1))]) C (dx dX0_giveWhole 21 rfl) (by decide) [1, 2, 3, 0, 4, 5] rfl ?_
            refine r_aload_n C (dx dX0_giveWhole 22 rfl) rfl ?_
            refine r_aload_n C (dx dX0_giveWhole 23 rfl) rfl ?_
            refine r_aload_n C (dx dX0_giveWhole 24 rfl) rfl ?_
            refine g_X0_60 C (dx dX0_giveWhole 25 rfl) ?_
            refine r_iload C (dx dX0_giveWhole 26 rfl) rfl ?_
            refine r_iald (j := (wtS v ((whS v (vF v 0) r am p).2.2) (vM v)).1.toNatClampNeg) (x := vF v 2 ((wtS v ((whS v (vF v 0) r am p).2.2) (vM v)).1.toNatClampNeg)) C rfl rfl (by decide) (inR_at (by omega) (wt_in _ (by omega) c22)).1 (Nat.lt_of_lt_of_le (inR_at (by omega) (wt_in _ (by omega) c22)).2 (by omega)) (dx dX0_giveWhole 27 rfl) (wh12.e2 (Nat.lt_of_lt_of_le (inR_at (by omega) (wt_in _ (by omega) c22)).2 (by omega))) ?_
            refine r_iload_n C (dx dX0_giveWhole 28 rfl) rfl ?_
            refine r_cv (as := [vr 5 kv, vi (vF v 2 ((wtS v ((whS v (vF v 0) r am p).2.2) (vM v)).1.toNatClampNeg)), vi (nI am)]) (st := []) C X I_X0_giveNeeds l_X0_63 (c_X0_giveNeeds (v := vcol v 0 (whS v (vF v 0) r am p).1) wh12 mh12 hd (vF v 2 ((wtS v ((whS v (vF v 0) r am p).2.2) (vM v)).1.toNatClampNeg)) ha) (by decide) (Nat.le_of_ble_eq_true rfl) List.prefix_rfl (pfx_eq kh12) rfl rfl (Nat.le_of_ble_eq_true rfl) rfl (dx dX0_giveWhole 29 rfl) ?_
            intro rh23 h23 hph23 kkh23
            obtain ⟨rfl, wh23, mh23, gh23⟩ := hph23
            replace wh23 : VilAt h23 kv (vcol v 0 (ndS (vN v) (whS v (vF v 0) r am p).1 ((whS v (vF v 0) r am p).2.1) (onS (whS v (vF v 0) r am p).1 (vF v 2 ((wtS v ((whS v (vF v 0) r am p).2.2) (vM v)).1.toNatClampNeg)) (vP v)) (vF v 2 ((wtS v ((whS v (vF v 0) r am p).2.2) (vM v)).1.toNatClampNeg)) am (vP v)).1) := by rw [vcol_vcol] at wh23; exact wh23
            replace mh23 : RoomAt h23 k ((ndS (vN v) (whS v (vF v 0) r am p).1 ((whS v (vF v 0) r am p).2.1) (onS (whS v (vF v 0) r am p).1 (vF v 2 ((wtS v ((whS v (vF v 0) r am p).2.2) (vM v)).1.toNatClampNeg)) (vP v)) (vF v 2 ((wtS v ((whS v (vF v 0) r am p).2.2) (vM v)).1.toNatClampNeg)) am (vP v)).2.1) := mh23
            have fh23 : Fs (RA k kv) h h23 := fh12.tr gh23
            have kh23 : xK h23 = xK h := kkh23.trans kh12
            refine rn_iinc (a := p) (k := 1) (ls' := [(0, vr 0 k), (1, vr 5 kv), (2, vi (nI am)), (3, vi (((whS v (vF v 0) r am p).2.2) ||| ((nI 1) <<< (((wtS v ((whS v (vF v 0) r am p).2.2) (vM v)).1) &&& 31)))), (4, vi (nI (p + 1))), (5, vi ((wtS v ((whS v (vF v 0) r am p).2.2) (vM v)).1))]) C (dx dX0_giveWhole 30 rfl) rfl rfl (by decide) [1, 2, 3, 4, 0, 5] rfl ?_
            refine r_goto (tgt := 5) C (dx dX0_giveWhole 31 rfl) (by decide) ?_
            refine (?_ : Rr G 5 [(0, vr 0 k), (1, vr 5 kv), (2, vi (nI am)), (3, vi (((whS v (vF v 0) r am p).2.2) ||| ((nI 1) <<< (((wtS v ((whS v (vF v 0) r am p).2.2) (vM v)).1) &&& 31)))), (4, vi (nI (p + 1))), (5, vi ((wtS v ((whS v (vF v 0) r am p).2.2) (vM v)).1))] [] h23)
            refine r_weak C [0, 1, 2, 3, 4] rfl ?_
            rw [show (((whS v (vF v 0) r am p).2.2) ||| ((nI 1) <<< (((wtS v ((whS v (vF v 0) r am p).2.2) (vM v)).1) &&& 31))) = ((whS v (vF v 0) r am (p + 1)).2.2) by (simp only [whS]; rw [if_neg c22])]
            exact ih _ (by rw [show (vcol v 0 (whS v (vF v 0) r am (p + 1)).1) = (vcol v 0 (ndS (vN v) (whS v (vF v 0) r am p).1 ((whS v (vF v 0) r am p).2.1) (onS (whS v (vF v 0) r am p).1 (vF v 2 ((wtS v ((whS v (vF v 0) r am p).2.2) (vM v)).1.toNatClampNeg)) (vP v)) (vF v 2 ((wtS v ((whS v (vF v 0) r am p).2.2) (vM v)).1.toNatClampNeg)) am (vP v)).1) by (simp only [whS]; rw [if_neg c22])]; exact wh23) (by rw [show ((whS v (vF v 0) r am (p + 1)).2.1) = ((ndS (vN v) (whS v (vF v 0) r am p).1 ((whS v (vF v 0) r am p).2.1) (onS (whS v (vF v 0) r am p).1 (vF v 2 ((wtS v ((whS v (vF v 0) r am p).2.2) (vM v)).1.toNatClampNeg)) (vP v)) (vF v 2 ((wtS v ((whS v (vF v 0) r am p).2.2) (vM v)).1.toNatClampNeg)) am (vP v)).2.1) by (simp only [whS]; rw [if_neg c22])]; exact mh23) fh23 kh23)
set_option maxHeartbeats 4000000 in
theorem c_X0_tellAnew {l : Launch} {h : Hp} {k kv : Nat} {v : Vg} {r : Nat → Int32} (hv : VilAt h kv v) (hr : RoomAt h k r) (hd : k + 2 ≤ kv ∨ kv + 9 ≤ k) {κ b : Nat} (hκ : 1 ≤ κ ∧ κ ≤ 5) (hb : b < 2 ^ 31) : Ms l yX0_tellAnew cX0_tellAnew 5 none 5 [vr 0 k, vr 5 kv, vi (nI (κ)), vi (nI b)] h (xK h) (fun r0 h' => r0 = none ∧ VilAt h' kv (tellV v r b κ) ∧ Fs (RA k kv) h h') := by
  refine Ms.of (by decide) (Nat.le_of_ble_eq_true rfl) (fun G C X F => ?_)
  have C : Cx G cX0_tellAnew 5 RX0 := C
  show Rr G 0 [(0, vr 0 k), (1, vr 5 kv), (2, vi (nI (κ))), (3, vi (nI b))] [] h
  have bP := hv.bP
  have bM := hv.bM
  have bN := hv.bN
  refine r_iconst (v := nI 0) C (dx dX0_tellAnew 0 rfl) rfl ?_
  refine r_istore (ls' := [(0, vr 0 k), (1, vr 5 kv), (2, vi (nI (κ))), (3, vi (nI b)), (4, vi (nI 0))]) C (dx dX0_tellAnew 1 rfl) (by decide) [1, 2, 3, 4, 0] rfl ?_
  refine loopU (Φ := fun p => ∀ h9, VilAt h9 kv (clr v p) → RoomAt h9 k (r) → Fs (RA k kv) h h9 → xK h9 = xK h → Rr G 3 [(0, vr 0 k), (1, vr 5 kv), (2, vi (nI (κ))), (3, vi (nI b)), (4, vi (nI p))] [] h9) (N := vP v) ?_ ?_ 0 (Nat.zero_le _) _ (by rw [clr_0]; exact hv) hr Fs.rf rfl
  ·
    intro h1 wh1 mh1 fh1 kh1
    refine r_iload C (dx dX0_tellAnew 2 rfl) rfl ?_
    refine r_aload_n C (dx dX0_tellAnew 3 rfl) rfl ?_
    refine g_X0_15 (x := nI (vP v)) C (dx dX0_tellAnew 4 rfl) wh1.eP ?_
    refine rn_ge (a := vP v) (b := vP v) (tgt := 34) C (by omega) (by omega) (dx dX0_tellAnew 5 rfl) (by decide) (fun c2 => ?_) (fun c2 => ?_)
    · first
      | (omega; done)
      | (
          have c2 : vP v ≤ vP v := c2
          refine r_iconst (v := nI 0) C (dx dX0_tellAnew 18 rfl) rfl ?_
          refine r_istore (ls' := [(0, vr 0 k), (1, vr 5 kv), (2, vi (nI (κ))), (3, vi (nI b)), (4, vi (nI 0))]) C (dx dX0_tellAnew 19 rfl) (by decide) [1, 2, 3, 4, 0] rfl ?_
          refine loopU (Φ := fun p => ∀ h9, VilAt h9 kv (clr v (vP v)) → RoomAt h9 k (r1 v r p) → Fs (RA k kv) h h9 → xK h9 = xK h → Rr G 37 [(0, vr 0 k), (1, vr 5 kv), (2, vi (nI (κ))), (3, vi (nI b)), (4, vi (nI p))] [] h9) (N := vN v) ?_ ?_ 0 (Nat.zero_le _) _ (wh1) (by rw [r1_0]; exact mh1) fh1 kh1
          ·
            intro h3 wh3 mh3 fh3 kh3
            refine r_iload C (dx dX0_tellAnew 20 rfl) rfl ?_
            refine r_aload_n C (dx dX0_tellAnew 21 rfl) rfl ?_
            refine g_X0_27 (x := nI (vN v)) C (dx dX0_tellAnew 22 rfl) wh3.eN ?_
            refine rn_ge (a := vN v) (b := vN v) (tgt := 66) C (by omega) (by omega) (dx dX0_tellAnew 23 rfl) (by decide) (fun c4 => ?_) (fun c4 => ?_)
            · first
              | (omega; done)
              | (
                  have c4 : vN v ≤ vN v := c4
                  refine r_iload_n C (dx dX0_tellAnew 34 rfl) rfl ?_
                  rcases (show κ = 1 ∨ κ = 2 ∨ κ = 3 ∨ κ = 4 ∨ κ = 5 by omega) with e9 | e9 | e9 | e9 | e9 <;> subst e9
                  ·
                    refine r_tabIn (off := 33) (tgt := 100) C (dx dX0_tellAnew 35 rfl) (by decide) (by decide) (by decide) (by decide) ?_
                    refine r_aload_n C (dx dX0_tellAnew 36 rfl) rfl ?_
                    refine r_aload_n C (dx dX0_tellAnew 37 rfl) rfl ?_
                    refine r_aload_n C (dx dX0_tellAnew 38 rfl) rfl ?_
                    refine g_X0_27 (x := nI (vN v)) C (dx dX0_tellAnew 39 rfl) wh3.eN ?_
                    refine r_cv (as := [vr 5 kv, vi (nI (vN v))]) (st := []) C X I_X0_giveWhole l_X0_33 (c_X0_giveWhole (v := clr v (vP v)) wh3 mh3 hd (am := vN v) (bN)) (by decide) (Nat.le_of_ble_eq_true rfl) List.prefix_rfl (pfx_eq kh3) rfl rfl (Nat.le_of_ble_eq_true rfl) rfl (dx dX0_tellAnew 40 rfl) ?_
                    intro rh5 h5 hph5 kkh5
                    obtain ⟨rfl, wh5, mh5, gh5⟩ := hph5
                    replace wh5 : VilAt h5 kv (vcol (clr v (vP v)) 0 (hWh (clr v (vP v)) (r1 v r (vN v)) (vN v)).1) := wh5
                    replace mh5 : RoomAt h5 k ((hWh (clr v (vP v)) (r1 v r (vN v)) (vN v)).2) := mh5
                    have fh5 : Fs (RA k kv) h h5 := fh3.tr gh5
                    have kh5 : xK h5 = xK h := kkh5.trans kh3
                    refine r_goto (tgt := 171) C (dx dX0_tellAnew 41 rfl) (by decide) ?_
                    exact F.2.2.1 _ _ _ rfl (dx dX0_tellAnew 73 rfl) kh5 ⟨rfl, wh5, fh5⟩
                  ·
                    refine r_tabIn (off := 45) (tgt := 112) C (dx dX0_tellAnew 35 rfl) (by decide) (by decide) (by decide) (by decide) ?_
                    refine r_aload_n C (dx dX0_tellAnew 42 rfl) rfl ?_
                    refine r_aload_n C (dx dX0_tellAnew 43 rfl) rfl ?_
                    refine r_iload_n C (dx dX0_tellAnew 44 rfl) rfl ?_
                    refine r_cv (as := [vr 5 kv, vi (nI b)]) (st := []) C X I_X0_giveRound l_X0_37 (c_X0_giveRound (v := clr v (vP v)) wh3 mh3 hd (nI b)) (by decide) (Nat.le_of_ble_eq_true rfl) List.prefix_rfl (pfx_eq kh3) rfl rfl (Nat.le_of_ble_eq_true rfl) rfl (dx dX0_tellAnew 45 rfl) ?_
                    intro rh6 h6 hph6 kkh6
                    obtain ⟨rfl, wh6, mh6, gh6⟩ := hph6
                    replace wh6 : VilAt h6 kv (vcol (clr v (vP v)) 0 (hRd (clr v (vP v)) (r1 v r (vN v)) (nI b)).1) := wh6
                    replace mh6 : RoomAt h6 k ((hRd (clr v (vP v)) (r1 v r (vN v)) (nI b)).2.1) := mh6
                    have fh6 : Fs (RA k kv) h h6 := fh3.tr gh6
                    have kh6 : xK h6 = xK h := kkh6.trans kh3
                    refine r_popI C (dx dX0_tellAnew 46 rfl) ?_
                    refine r_goto (tgt := 171) C (dx dX0_tellAnew 47 rfl) (by decide) ?_
                    exact F.2.2.1 _ _ _ rfl (dx dX0_tellAnew 73 rfl) kh6 ⟨rfl, wh6, fh6⟩
                  ·
                    refine r_tabIn (off := 55) (tgt := 122) C (dx dX0_tellAnew 35 rfl) (by decide) (by decide) (by decide) (by decide) ?_
                    refine r_aload_n C (dx dX0_tellAnew 48 rfl) rfl ?_
                    refine r_aload_n C (dx dX0_tellAnew 49 rfl) rfl ?_
                    refine r_aload_n C (dx dX0_tellAnew 50 rfl) rfl ?_
                    refine r_aload_n C (dx dX0_tellAnew 51 rfl) rfl ?_
                    refine r_iload_n C (dx dX0_tellAnew 52 rfl) rfl ?_
                    refine r_cv (as := [vr 5 kv, vi (nI b)]) (st := [vr 5 kv, vr 0 k]) C X I_X0_giveRound l_X0_37 (c_X0_giveRound (v := clr v (vP v)) wh3 mh3 hd (nI b)) (by decide) (Nat.le_of_ble_eq_true rfl) List.prefix_rfl (pfx_eq kh3) rfl rfl (Nat.le_of_ble_eq_true rfl) rfl (dx dX0_tellAnew 53 rfl) ?_
                    intro rh7 h7 hph7 kkh7
                    obtain ⟨rfl, wh7, mh7, gh7⟩ := hph7
                    replace wh7 : VilAt h7 kv (vcol (clr v (vP v)) 0 (hRd (clr v (vP v)) (r1 v r (vN v)) (nI b)).1) := wh7
                    replace mh7 : RoomAt h7 k ((hRd (clr v (vP v)) (r1 v r (vN v)) (nI b)).2.1) := mh7
                    have fh7 : Fs (RA k kv) h h7 := fh3.tr gh7
                    have kh7 : xK h7 = xK h := kkh7.trans kh3
                    refine r_cv (as := [vr 5 kv, vi ((hRd (clr v (vP v)) (r1 v r (vN v)) (nI b)).2.2)]) (st := []) C X I_X0_giveRoundAgain l_X0_41 (c_X0_giveRoundAgain (v := vcol (clr v (vP v)) 0 (hRd (clr v (vP v)) (r1 v r (vN v)) (nI b)).1) wh7 mh7 hd ((hRd (clr v (vP v)) (r1 v r (vN v)) (nI b)).2.2)) (by decide) (Nat.le_of_ble_eq_true rfl) List.prefix_rfl (pfx_eq kh7) rfl rfl (Nat.le_of_ble_eq_true rfl) rfl (dx dX0_tellAnew 54 rfl) ?_
                    intro rh8 h8 hph8 kkh8
                    obtain ⟨rfl, wh8, mh8, gh8⟩ := hph8
                    replace wh8 : VilAt h8 kv (vcol (vcol (clr v (vP v)) 0 (hRd (clr v (vP v)) (r1 v r (vN v)) (nI b)).1) 1 (hAg (vcol (clr v (vP v)) 0 (hRd (clr v (vP v)) (r1 v r (vN v)) (nI b)).1) ((hRd (clr v (vP v)) (r1 v r (vN v)) (nI b)).2.1) ((hRd (clr v (vP v)) (r1 v r (vN v)) (nI b)).2.2)).1) := wh8
                    replace mh8 : RoomAt h8 k ((hAg (vcol (clr v (vP v)) 0 (hRd (clr v (vP v)) (r1 v r (vN v)) (nI b)).1) ((hRd (clr v (vP v)) (r1 v r (vN v)) (nI b)).2.1) ((hRd (clr v (vP v)) (r1 v r (vN v)) (nI b)).2.2)).2.1) := mh8
                    have fh8 : Fs (RA k kv) h h8 := fh7.tr gh8
                    have kh8 : xK h8 = xK h := kkh8.trans kh7
                    refine r_goto (tgt := 171) C (dx dX0_tellAnew 55 rfl) (by decide) ?_
                    exact F.2.2.1 _ _ _ rfl (dx dX0_tellAnew 73 rfl) kh8 ⟨rfl, wh8, fh8⟩
                  ·
                    refine r_tabIn (off := 69) (tgt := 136) C (dx dX0_tellAnew 35 rfl) (by decide) (by decide) (by decide) (by decide) ?_
                    refine r_aload_n C (dx dX0_tellAnew 56 rfl) rfl ?_
                    refine r_aload_n C (dx dX0_tellAnew 57 rfl) rfl ?_
                    refine r_cv (as := [vr 5 kv]) (st := []) C X I_X0_giveSure l_X0_44 (c_X0_giveSure (v := clr v (vP v)) wh3 mh3 hd) (by decide) (Nat.le_of_ble_eq_true rfl) List.prefix_rfl (pfx_eq kh3) rfl rfl (Nat.le_of_ble_eq_true rfl) rfl (dx dX0_tellAnew 58 rfl) ?_
                    intro rh9 h9 hph9 kkh9
                    obtain ⟨rfl, wh9, mh9, gh9⟩ := hph9
                    replace wh9 : VilAt h9 kv (vcol (clr v (vP v)) 0 (hSu (clr v (vP v)) (r1 v r (vN v))).1) := wh9
                    replace mh9 : RoomAt h9 k ((hSu (clr v (vP v)) (r1 v r (vN v))).2) := mh9
                    have fh9 : Fs (RA k kv) h h9 := fh3.tr gh9
                    have kh9 : xK h9 = xK h := kkh9.trans kh3
                    refine r_goto (tgt := 171) C (dx dX0_tellAnew 59 rfl) (by decide) ?_
                    exact F.2.2.1 _ _ _ rfl (dx dX0_tellAnew 73 rfl) kh9 ⟨rfl, wh9, fh9⟩
                  ·
                    refine r_tabIn (off := 77) (tgt := 144) C (dx dX0_tellAnew 35 rfl) (by decide) (by decide) (by decide) (by decide) ?_
                    refine r_aload_n C (dx dX0_tellAnew 60 rfl) rfl ?_
                    refine r_aload_n C (dx dX0_tellAnew 61 rfl) rfl ?_
                    refine r_iload_n C (dx dX0_tellAnew 62 rfl) rfl ?_
                    refine r_if_ne (tgt := 157) C (dx dX0_tellAnew 63 rfl) (by decide) (fun c10 => ?_) (fun c10 => ?_)
                    ·
                      have c10 : ¬ nI b = 0 := c10
                      refine r_iload_n C (dx dX0_tellAnew 67 rfl) rfl ?_
                      refine r_aload_n C (dx dX0_tellAnew 68 rfl) rfl ?_
                      refine g_X0_27 (x := nI (vN v)) C (dx dX0_tellAnew 69 rfl) wh3.eN ?_
                      refine r_min (st := [vr 5 kv, vr 0 k]) C X (by decide) (pfx_eq kh3) (Nat.le_of_ble_eq_true rfl) l_X0_48 q_min.1 q_min.2.1 q_min.2.2 (dx dX0_tellAnew 70 rfl) ?_
                      rw [few_if (by omega) hb c10]
                      refine r_cv (as := [vr 5 kv, vi (nI (fewN (vN v) b))]) (st := []) C X I_X0_giveWhole l_X0_33 (c_X0_giveWhole (v := clr v (vP v)) wh3 mh3 hd (am := fewN (vN v) b) (Nat.le_trans few_le bN)) (by decide) (Nat.le_of_ble_eq_true rfl) List.prefix_rfl (pfx_eq kh3) rfl rfl (Nat.le_of_ble_eq_true rfl) rfl (dx dX0_tellAnew 71 rfl) ?_
                      intro rh11 h11 hph11 kkh11
                      obtain ⟨rfl, wh11, mh11, gh11⟩ := hph11
                      replace wh11 : VilAt h11 kv (vcol (clr v (vP v)) 0 (hWh (clr v (vP v)) (r1 v r (vN v)) (fewN (vN v) b)).1) := wh11
                      replace mh11 : RoomAt h11 k ((hWh (clr v (vP v)) (r1 v r (vN v)) (fewN (vN v) b)).2) := mh11
                      have fh11 : Fs (RA k kv) h h11 := fh3.tr gh11
                      have kh11 : xK h11 = xK h := kkh11.trans kh3
                      refine r_goto (tgt := 171) C (dx dX0_tellAnew 72 rfl) (by decide) ?_
                      exact F.2.2.1 _ _ _ rfl (dx dX0_tellAnew 73 rfl) kh11 ⟨rfl, wh11, fh11⟩
                    ·
                      have c10 : nI b = 0 := c10
                      refine r_aload_n C (dx dX0_tellAnew 64 rfl) rfl ?_
                      refine g_X0_27 (x := nI (vN v)) C (dx dX0_tellAnew 65 rfl) wh3.eN ?_
                      refine r_goto (tgt := 165) C (dx dX0_tellAnew 66 rfl) (by decide) ?_
                      rw [show nI (vN v) = nI (fewN (vN v) b) by rw [fewN, if_pos (show b = 0 from (nI_eq (by omega) (by omega)).mp c10)]]
                      refine r_cv (as := [vr 5 kv, vi (nI (fewN (vN v) b))]) (st := []) C X I_X0_giveWhole l_X0_33 (c_X0_giveWhole (v := clr v (vP v)) wh3 mh3 hd (am := fewN (vN v) b) (Nat.le_trans few_le bN)) (by decide) (Nat.le_of_ble_eq_true rfl) List.prefix_rfl (pfx_eq kh3) rfl rfl (Nat.le_of_ble_eq_true rfl) rfl (dx dX0_tellAnew 71 rfl) ?_
                      intro rh12 h12 hph12 kkh12
                      obtain ⟨rfl, wh12, mh12, gh12⟩ := hph12
                      replace wh12 : VilAt h12 kv (vcol (clr v (vP v)) 0 (hWh (clr v (vP v)) (r1 v r (vN v)) (fewN (vN v) b)).1) := wh12
                      replace mh12 : RoomAt h12 k ((hWh (clr v (vP v)) (r1 v r (vN v)) (fewN (vN v) b)).2) := mh12
                      have fh12 : Fs (RA k kv) h h12 := fh3.tr gh12
                      have kh12 : xK h12 = xK h := kkh12.trans kh3
                      refine r_goto (tgt := 171) C (dx dX0_tellAnew 72 rfl) (by decide) ?_
                      exact F.2.2.1 _ _ _ rfl (dx dX0_tellAnew 73 rfl) kh12 ⟨rfl, wh12, fh12⟩)
            · first
              | (omega; done)
          ·
            intro p hp ih h14 wh14 mh14 fh14 kh14
            refine r_iload C (dx dX0_tellAnew 20 rfl) rfl ?_
            refine r_aload_n C (dx dX0_tellAnew 21 rfl) rfl ?_
            refine g_X0_27 (x := nI (vN v)) C (dx dX0_tellAnew 22 rfl) wh14.eN ?_
            refine rn_ge (a := p) (b := vN v) (tgt := 66) C (by omega) (by omega) (dx dX0_tellAnew 23 rfl) (by decide) (fun c15 => ?_) (fun c15 => ?_)
            · first
              | (omega; done)
              | (
                  have c15 : vN v ≤ p := c15
                  refine r_iload_n C (dx dX0_tellAnew 34 rfl) rfl ?_
                  rcases (show κ = 1 ∨ κ = 2 ∨ κ = 3 ∨ κ = 4 ∨ κ = 5 by omega) with e9 | e9 | e9 | e9 | e9 <;> subst e9
                  ·
                    refine r_tabIn (off := 33) (tgt := 100) C (dx dX0_tellAnew 35 rfl) (by decide) (by decide) (by decide) (by decide) ?_
                    refine r_aload_n C (dx dX0_tellAnew 36 rfl) rfl ?_
                    refine r_aload_n C (dx dX0_tellAnew 37 rfl) rfl ?_
                    refine r_aload_n C (dx dX0_tellAnew 38 rfl) rfl ?_
                    refine g_X0_27 (x := nI (vN v)) C (dx dX0_tellAnew 39 rfl) wh14.eN ?_
                    refine r_cv (as := [vr 5 kv, vi (nI (vN v))]) (st := []) C X I_X0_giveWhole l_X0_33 (c_X0_giveWhole (v := clr v (vP v)) wh14 mh14 hd (am := vN v) (bN)) (by decide) (Nat.le_of_ble_eq_true rfl) List.prefix_rfl (pfx_eq kh14) rfl rfl (Nat.le_of_ble_eq_true rfl) rfl (dx dX0_tellAnew 40 rfl) ?_
                    intro rh16 h16 hph16 kkh16
                    obtain ⟨rfl, wh16, mh16, gh16⟩ := hph16
                    replace wh16 : VilAt h16 kv (vcol (clr v (vP v)) 0 (hWh (clr v (vP v)) (r1 v r p) (vN v)).1) := wh16
                    replace mh16 : RoomAt h16 k ((hWh (clr v (vP v)) (r1 v r p) (vN v)).2) := mh16
                    have fh16 : Fs (RA k kv) h h16 := fh14.tr gh16
                    have kh16 : xK h16 = xK h := kkh16.trans kh14
                    refine r_goto (tgt := 171) C (dx dX0_tellAnew 41 rfl) (by decide) ?_
                    exact F.2.2.1 _ _ _ rfl (dx dX0_tellAnew 73 rfl) kh16 ⟨rfl, wh16, fh16⟩
                  ·
                    refine r_tabIn (off := 45) (tgt := 112) C (dx dX0_tellAnew 35 rfl) (by decide) (by decide) (by decide) (by decide) ?_
                    refine r_aload_n C (dx dX0_tellAnew 42 rfl) rfl ?_
                    refine r_aload_n C (dx dX0_tellAnew 43 rfl) rfl ?_
                    refine r_iload_n C (dx dX0_tellAnew 44 rfl) rfl ?_
                    refine r_cv (as := [vr 5 kv, vi (nI b)]) (st := []) C X I_X0_giveRound l_X0_37 (c_X0_giveRound (v := clr v (vP v)) wh14 mh14 hd (nI b)) (by decide) (Nat.le_of_ble_eq_true rfl) List.prefix_rfl (pfx_eq kh14) rfl rfl (Nat.le_of_ble_eq_true rfl) rfl (dx dX0_tellAnew 45 rfl) ?_
                    intro rh17 h17 hph17 kkh17
                    obtain ⟨rfl, wh17, mh17, gh17⟩ := hph17
                    replace wh17 : VilAt h17 kv (vcol (clr v (vP v)) 0 (hRd (clr v (vP v)) (r1 v r p) (nI b)).1) := wh17
                    replace mh17 : RoomAt h17 k ((hRd (clr v (vP v)) (r1 v r p) (nI b)).2.1) := mh17
                    have fh17 : Fs (RA k kv) h h17 := fh14.tr gh17
                    have kh17 : xK h17 = xK h := kkh17.trans kh14
                    refine r_popI C (dx dX0_tellAnew 46 rfl) ?_
                    refine r_goto (tgt := 171) C (dx dX0_tellAnew 47 rfl) (by decide) ?_
                    exact F.2.2.1 _ _ _ rfl (dx dX0_tellAnew 73 rfl) kh17 ⟨rfl, wh17, fh17⟩
                  ·
                    refine r_tabIn (off := 55) (tgt := 122) C (dx dX0_tellAnew 35 rfl) (by decide) (by decide) (by decide) (by decide) ?_
                    refine r_aload_n C (dx dX0_tellAnew 48 rfl) rfl ?_
                    refine r_aload_n C (dx dX0_tellAnew 49 rfl) rfl ?_
                    refine r_aload_n C (dx dX0_tellAnew 50 rfl) rfl ?_
                    refine r_aload_n C (dx dX0_tellAnew 51 rfl) rfl ?_
                    refine r_iload_n C (dx dX0_tellAnew 52 rfl) rfl ?_
                    refine r_cv (as := [vr 5 kv, vi (nI b)]) (st := [vr 5 kv, vr 0 k]) C X I_X0_giveRound l_X0_37 (c_X0_giveRound (v := clr v (vP v)) wh14 mh14 hd (nI b)) (by decide) (Nat.le_of_ble_eq_true rfl) List.prefix_rfl (pfx_eq kh14) rfl rfl (Nat.le_of_ble_eq_true rfl) rfl (dx dX0_tellAnew 53 rfl) ?_
                    intro rh18 h18 hph18 kkh18
                    obtain ⟨rfl, wh18, mh18, gh18⟩ := hph18
                    replace wh18 : VilAt h18 kv (vcol (clr v (vP v)) 0 (hRd (clr v (vP v)) (r1 v r p) (nI b)).1) := wh18
                    replace mh18 : RoomAt h18 k ((hRd (clr v (vP v)) (r1 v r p) (nI b)).2.1) := mh18
                    have fh18 : Fs (RA k kv) h h18 := fh14.tr gh18
                    have kh18 : xK h18 = xK h := kkh18.trans kh14
                    refine r_cv (as := [vr 5 kv, vi ((hRd (clr v (vP v)) (r1 v r p) (nI b)).2.2)]) (st := []) C X I_X0_giveRoundAgain l_X0_41 (c_X0_giveRoundAgain (v := vcol (clr v (vP v)) 0 (hRd (clr v (vP v)) (r1 v r p) (nI b)).1) wh18 mh18 hd ((hRd (clr v (vP v)) (r1 v r p) (nI b)).2.2)) (by decide) (Nat.le_of_ble_eq_true rfl) List.prefix_rfl (pfx_eq kh18) rfl rfl (Nat.le_of_ble_eq_true rfl) rfl (dx dX0_tellAnew 54 rfl) ?_
                    intro rh19 h19 hph19 kkh19
                    obtain ⟨rfl, wh19, mh19, gh19⟩ := hph19
                    replace wh19 : VilAt h19 kv (vcol (vcol (clr v (vP v)) 0 (hRd (clr v (vP v)) (r1 v r p) (nI b)).1) 1 (hAg (vcol (clr v (vP v)) 0 (hRd (clr v (vP v)) (r1 v r p) (nI b)).1) ((hRd (clr v (vP v)) (r1 v r p) (nI b)).2.1) ((hRd (clr v (vP v)) (r1 v r p) (nI b)).2.2)).1) := wh19
                    replace mh19 : RoomAt h19 k ((hAg (vcol (clr v (vP v)) 0 (hRd (clr v (vP v)) (r1 v r p) (nI b)).1) ((hRd (clr v (vP v)) (r1 v r p) (nI b)).2.1) ((hRd (clr v (vP v)) (r1 v r p) (nI b)).2.2)).2.1) := mh19
                    have fh19 : Fs (RA k kv) h h19 := fh18.tr gh19
                    have kh19 : xK h19 = xK h := kkh19.trans kh18
                    refine r_goto (tgt := 171) C (dx dX0_tellAnew 55 rfl) (by decide) ?_
                    exact F.2.2.1 _ _ _ rfl (dx dX0_tellAnew 73 rfl) kh19 ⟨rfl, wh19, fh19⟩
                  ·
                    refine r_tabIn (off := 69) (tgt := 136) C (dx dX0_tellAnew 35 rfl) (by decide) (by decide) (by decide) (by decide) ?_
                    refine r_aload_n C (dx dX0_tellAnew 56 rfl) rfl ?_
                    refine r_aload_n C (dx dX0_tellAnew 57 rfl) rfl ?_
                    refine r_cv (as := [vr 5 kv]) (st := []) C X I_X0_giveSure l_X0_44 (c_X0_giveSure (v := clr v (vP v)) wh14 mh14 hd) (by decide) (Nat.le_of_ble_eq_true rfl) List.prefix_rfl (pfx_eq kh14) rfl rfl (Nat.le_of_ble_eq_true rfl) rfl (dx dX0_tellAnew 58 rfl) ?_
                    intro rh20 h20 hph20 kkh20
                    obtain ⟨rfl, wh20, mh20, gh20⟩ := hph20
                    replace wh20 : VilAt h20 kv (vcol (clr v (vP v)) 0 (hSu (clr v (vP v)) (r1 v r p)).1) := wh20
                    replace mh20 : RoomAt h20 k ((hSu (clr v (vP v)) (r1 v r p)).2) := mh20
                    have fh20 : Fs (RA k kv) h h20 := fh14.tr gh20
                    have kh20 : xK h20 = xK h := kkh20.trans kh14
                    refine r_goto (tgt := 171) C (dx dX0_tellAnew 59 rfl) (by decide) ?_
                    exact F.2.2.1 _ _ _ rfl (dx dX0_tellAnew 73 rfl) kh20 ⟨rfl, wh20, fh20⟩
                  ·
                    refine r_tabIn (off := 77) (tgt := 144) C (dx dX0_tellAnew 35 rfl) (by decide) (by decide) (by decide) (by decide) ?_
                    refine r_aload_n C (dx dX0_tellAnew 60 rfl) rfl ?_
                    refine r_aload_n C (dx dX0_tellAnew 61 rfl) rfl ?_
                    refine r_iload_n C (dx dX0_tellAnew 62 rfl) rfl ?_
                    refine r_if_ne (tgt := 157) C (dx dX0_tellAnew 63 rfl) (by decide) (fun c21 => ?_) (fun c21 => ?_)
                    ·
                      have c21 : ¬ nI b = 0 := c21
                      refine r_iload_n C (dx dX0_tellAnew 67 rfl) rfl ?_
                      refine r_aload_n C (dx dX0_tellAnew 68 rfl) rfl ?_
                      refine g_X0_27 (x := nI (vN v)) C (dx dX0_tellAnew 69 rfl) wh14.eN ?_
                      refine r_min (st := [vr 5 kv, vr 0 k]) C X (by decide) (pfx_eq kh14) (Nat.le_of_ble_eq_true rfl) l_X0_48 q_min.1 q_min.2.1 q_min.2.2 (dx dX0_tellAnew 70 rfl) ?_
                      rw [few_if (by omega) hb c21]
                      refine r_cv (as := [vr 5 kv, vi (nI (fewN (vN v) b))]) (st := []) C X I_X0_giveWhole l_X0_33 (c_X0_giveWhole (v := clr v (vP v)) wh14 mh14 hd (am := fewN (vN v) b) (Nat.le_trans few_le bN)) (by decide) (Nat.le_of_ble_eq_true rfl) List.prefix_rfl (pfx_eq kh14) rfl rfl (Nat.le_of_ble_eq_true rfl) rfl (dx dX0_tellAnew 71 rfl) ?_
                      intro rh22 h22 hph22 kkh22
                      obtain ⟨rfl, wh22, mh22, gh22⟩ := hph22
                      replace wh22 : VilAt h22 kv (vcol (clr v (vP v)) 0 (hWh (clr v (vP v)) (r1 v r p) (fewN (vN v) b)).1) := wh22
                      replace mh22 : RoomAt h22 k ((hWh (clr v (vP v)) (r1 v r p) (fewN (vN v) b)).2) := mh22
                      have fh22 : Fs (RA k kv) h h22 := fh14.tr gh22
                      have kh22 : xK h22 = xK h := kkh22.trans kh14
                      refine r_goto (tgt := 171) C (dx dX0_tellAnew 72 rfl) (by decide) ?_
                      exact F.2.2.1 _ _ _ rfl (dx dX0_tellAnew 73 rfl) kh22 ⟨rfl, wh22, fh22⟩
                    ·
                      have c21 : nI b = 0 := c21
                      refine r_aload_n C (dx dX0_tellAnew 64 rfl) rfl ?_
                      refine g_X0_27 (x := nI (vN v)) C (dx dX0_tellAnew 65 rfl) wh14.eN ?_
                      refine r_goto (tgt := 165) C (dx dX0_tellAnew 66 rfl) (by decide) ?_
                      rw [show nI (vN v) = nI (fewN (vN v) b) by rw [fewN, if_pos (show b = 0 from (nI_eq (by omega) (by omega)).mp c21)]]
                      refine r_cv (as := [vr 5 kv, vi (nI (fewN (vN v) b))]) (st := []) C X I_X0_giveWhole l_X0_33 (c_X0_giveWhole (v := clr v (vP v)) wh14 mh14 hd (am := fewN (vN v) b) (Nat.le_trans few_le bN)) (by decide) (Nat.le_of_ble_eq_true rfl) List.prefix_rfl (pfx_eq kh14) rfl rfl (Nat.le_of_ble_eq_true rfl) rfl (dx dX0_tellAnew 71 rfl) ?_
                      intro rh23 h23 hph23 kkh23
                      obtain ⟨rfl, wh23, mh23, gh23⟩ := hph23
                      replace wh23 : VilAt h23 kv (vcol (clr v (vP v)) 0 (hWh (clr v (vP v)) (r1 v r p) (fewN (vN v) b)).1) := wh23
                      replace mh23 : RoomAt h23 k ((hWh (clr v (vP v)) (r1 v r p) (fewN (vN v) b)).2) := mh23
                      have fh23 : Fs (RA k kv) h h23 := fh14.tr gh23
                      have kh23 : xK h23 = xK h := kkh23.trans kh14
                      refine r_goto (tgt := 171) C (dx dX0_tellAnew 72 rfl) (by decide) ?_
                      exact F.2.2.1 _ _ _ rfl (dx dX0_tellAnew 73 rfl) kh23 ⟨rfl, wh23, fh23⟩)
            · first
              | (omega; done)
              | (
                  have c15 : p < vN v := c15
                  refine r_aload_n C (dx dX0_tellAnew 24 rfl) rfl ?_
                  refine g_X0_9 C (dx dX0_tellAnew 25 rfl) ?_
                  refine r_iload C (dx dX0_tellAnew 26 rfl) rfl ?_
                  refine r_aload_n C (dx dX0_tellAnew 27 rfl) rfl ?_
                  refine g_X0_30 C (dx dX0_tellAnew 28 rfl) ?_
                  refine r_iload C (dx dX0_tellAnew 29 rfl) rfl ?_
                  refine r_iald (j := p) (x := vF v 4 p) C rfl rfl (by decide) rfl (by omega) (dx dX0_tellAnew 30 rfl) (wh14.e4 (by omega)) ?_
                  refine r_iast (j := p) C rfl rfl (by decide) rfl (by omega) (dx dX0_tellAnew 31 rfl) ?_
                  have mh24 : RoomAt (sI h14 (k + 1) p (vF v 4 p)) k (sf (r1 v r p) p (vF v 4 p)) := room_sf mh14
                  have wh24 : VilAt (sI h14 (k + 1) p (vF v 4 p)) kv (clr v (vP v)) := wh14.fr (Fr.sI (lo := k + 1) (hi := k + 2) (by omega) (by omega)) (by omega)
                  have fh24 : Fs (RA k kv) h (sI h14 (k + 1) p (vF v 4 p)) := fh14.tr (Fs.of (Fr.sI (lo := k + 1) (hi := k + 2) (by omega) (by omega)) (fun b h1 h2 => Or.inl (by omega)))
                  have kh24 : xK (sI h14 (k + 1) p (vF v 4 p)) = xK h := kh14
                  generalize sI h14 (k + 1) p (vF v 4 p) = h24 at wh24 mh24 fh24 kh24 ⊢
                  refine rn_iinc (a := p) (k := 1) (ls' := [(0, vr 0 k), (1, vr 5 kv), (2, vi (nI (κ))), (3, vi (nI b)), (4, vi (nI (p + 1)))]) C (dx dX0_tellAnew 32 rfl) rfl rfl (by decide) [1, 2, 3, 4, 0] rfl ?_
                  refine r_goto (tgt := 37) C (dx dX0_tellAnew 33 rfl) (by decide) ?_
                  refine (?_ : Rr G 37 [(0, vr 0 k), (1, vr 5 kv), (2, vi (nI (κ))), (3, vi (nI b)), (4, vi (nI (p + 1)))] [] h24)
                  exact ih _ wh24 (by rw [show (r1 v r (p + 1)) = (sf (r1 v r p) p (vF v 4 p)) by exact r1_if_s]; exact mh24) fh24 kh24))
    · first
      | (omega; done)
  ·
    intro p hp ih h27 wh27 mh27 fh27 kh27
    refine r_iload C (dx dX0_tellAnew 2 rfl) rfl ?_
    refine r_aload_n C (dx dX0_tellAnew 3 rfl) rfl ?_
    refine g_X0_15 (x := nI (vP v)) C (dx dX0_tellAnew 4 rfl) wh27.eP ?_
    refine rn_ge (a := p) (b := vP v) (tgt := 34) C (by omega) (by omega) (dx dX0_tellAnew 5 rfl) (by decide) (fun c28 => ?_) (fun c28 => ?_)
    · first
      | (omega; done)
      | (
          have c28 : vP v ≤ p := c28
          refine r_iconst (v := nI 0) C (dx dX0_tellAnew 18 rfl) rfl ?_
          refine r_istore (ls' := [(0, vr 0 k), (1, vr 5 kv), (2, vi (nI (κ))), (3, vi (nI b)), (4, vi (nI 0))]) C (dx dX0_tellAnew 19 rfl) (by decide) [1, 2, 3, 4, 0] rfl ?_
          refine loopU (Φ := fun p => ∀ h9, VilAt h9 kv (clr v (vP v)) → RoomAt h9 k (r1 v r p) → Fs (RA k kv) h h9 → xK h9 = xK h → Rr G 37 [(0, vr 0 k), (1, vr 5 kv), (2, vi (nI (κ))), (3, vi (nI b)), (4, vi (nI p))] [] h9) (N := vN v) ?_ ?_ 0 (Nat.zero_le _) _ (wh27) (by rw [r1_0]; exact mh27) fh27 kh27
          ·
            intro h29 wh29 mh29 fh29 kh29
            refine r_iload C (dx dX0_tellAnew 20 rfl) rfl ?_
            refine r_aload_n C (dx dX0_tellAnew 21 rfl) rfl ?_
            refine g_X0_27 (x := nI (vN v)) C (dx dX0_tellAnew 22 rfl) wh29.eN ?_
            refine rn_ge (a := vN v) (b := vN v) (tgt := 66) C (by omega) (by omega) (dx dX0_tellAnew 23 rfl) (by decide) (fun c30 => ?_) (fun c30 => ?_)
            · first
              | (omega; done)
              | (
                  have c30 : vN v ≤ vN v := c30
                  refine r_iload_n C (dx dX0_tellAnew 34 rfl) rfl ?_
                  rcases (show κ = 1 ∨ κ = 2 ∨ κ = 3 ∨ κ = 4 ∨ κ = 5 by omega) with e9 | e9 | e9 | e9 | e9 <;> subst e9
                  ·
                    refine r_tabIn (off := 33) (tgt := 100) C (dx dX0_tellAnew 35 rfl) (by decide) (by decide) (by decide) (by decide) ?_
                    refine r_aload_n C (dx dX0_tellAnew 36 rfl) rfl ?_
                    refine r_aload_n C (dx dX0_tellAnew 37 rfl) rfl ?_
                    refine r_aload_n C (dx dX0_tellAnew 38 rfl) rfl ?_
                    refine g_X0_27 (x := nI (vN v)) C (dx dX0_tellAnew 39 rfl) wh29.eN ?_
                    refine r_cv (as := [vr 5 kv, vi (nI (vN v))]) (st := []) C X I_X0_giveWhole l_X0_33 (c_X0_giveWhole (v := clr v (vP v)) wh29 mh29 hd (am := vN v) (bN)) (by decide) (Nat.le_of_ble_eq_true rfl) List.prefix_rfl (pfx_eq kh29) rfl rfl (Nat.le_of_ble_eq_true rfl) rfl (dx dX0_tellAnew 40 rfl) ?_
                    intro rh31 h31 hph31 kkh31
                    obtain ⟨rfl, wh31, mh31, gh31⟩ := hph31
                    replace wh31 : VilAt h31 kv (vcol (clr v (vP v)) 0 (hWh (clr v (vP v)) (r1 v r (vN v)) (vN v)).1) := wh31
                    replace mh31 : RoomAt h31 k ((hWh (clr v (vP v)) (r1 v r (vN v)) (vN v)).2) := mh31
                    have fh31 : Fs (RA k kv) h h31 := fh29.tr gh31
                    have kh31 : xK h31 = xK h := kkh31.trans kh29
                    refine r_goto (tgt := 171) C (dx dX0_tellAnew 41 rfl) (by decide) ?_
                    exact F.2.2.1 _ _ _ rfl (dx dX0_tellAnew 73 rfl) kh31 ⟨rfl, wh31, fh31⟩
                  ·
                    refine r_tabIn (off := 45) (tgt := 112) C (dx dX0_tellAnew 35 rfl) (by decide) (by decide) (by decide) (by decide) ?_
                    refine r_aload_n C (dx dX0_tellAnew 42 rfl) rfl ?_
                    refine r_aload_n C (dx dX0_tellAnew 43 rfl) rfl ?_
                    refine r_iload_n C (dx dX0_tellAnew 44 rfl) rfl ?_
                    refine r_cv (as := [vr 5 kv, vi (nI b)]) (st := []) C X I_X0_giveRound l_X0_37 (c_X0_giveRound (v := clr v (vP v)) wh29 mh29 hd (nI b)) (by decide) (Nat.le_of_ble_eq_true rfl) List.prefix_rfl (pfx_eq kh29) rfl rfl (Nat.le_of_ble_eq_true rfl) rfl (dx dX0_tellAnew 45 rfl) ?_
                    intro rh32 h32 hph32 kkh32
                    obtain ⟨rfl, wh32, mh32, gh32⟩ := hph32
                    replace wh32 : VilAt h32 kv (vcol (clr v (vP v)) 0 (hRd (clr v (vP v)) (r1 v r (vN v)) (nI b)).1) := wh32
                    replace mh32 : RoomAt h32 k ((hRd (clr v (vP v)) (r1 v r (vN v)) (nI b)).2.1) := mh32
                    have fh32 : Fs (RA k kv) h h32 := fh29.tr gh32
                    have kh32 : xK h32 = xK h := kkh32.trans kh29
                    refine r_popI C (dx dX0_tellAnew 46 rfl) ?_
                    refine r_goto (tgt := 171) C (dx dX0_tellAnew 47 rfl) (by decide) ?_
                    exact F.2.2.1 _ _ _ rfl (dx dX0_tellAnew 73 rfl) kh32 ⟨rfl, wh32, fh32⟩
                  ·
                    refine r_tabIn (off := 55) (tgt := 122) C (dx dX0_tellAnew 35 rfl) (by decide) (by decide) (by decide) (by decide) ?_
                    refine r_aload_n C (dx dX0_tellAnew 48 rfl) rfl ?_
                    refine r_aload_n C (dx dX0_tellAnew 49 rfl) rfl ?_
                    refine r_aload_n C (dx dX0_tellAnew 50 rfl) rfl ?_
                    refine r_aload_n C (dx dX0_tellAnew 51 rfl) rfl ?_
                    refine r_iload_n C (dx dX0_tellAnew 52 rfl) rfl ?_
                    refine r_cv (as := [vr 5 kv, vi (nI b)]) (st := [vr 5 kv, vr 0 k]) C X I_X0_giveRound l_X0_37 (c_X0_giveRound (v := clr v (vP v)) wh29 mh29 hd (nI b)) (by decide) (Nat.le_of_ble_eq_true rfl) List.prefix_rfl (pfx_eq kh29) rfl rfl (Nat.le_of_ble_eq_true rfl) rfl (dx dX0_tellAnew 53 rfl) ?_
                    intro rh33 h33 hph33 kkh33
                    obtain ⟨rfl, wh33, mh33, gh33⟩ := hph33
                    replace wh33 : VilAt h33 kv (vcol (clr v (vP v)) 0 (hRd (clr v (vP v)) (r1 v r (vN v)) (nI b)).1) := wh33
                    replace mh33 : RoomAt h33 k ((hRd (clr v (vP v)) (r1 v r (vN v)) (nI b)).2.1) := mh33
                    have fh33 : Fs (RA k kv) h h33 := fh29.tr gh33
                    have kh33 : xK h33 = xK h := kkh33.trans kh29
                    refine r_cv (as := [vr 5 kv, vi ((hRd (clr v (vP v)) (r1 v r (vN v)) (nI b)).2.2)]) (st := []) C X I_X0_giveRoundAgain l_X0_41 (c_X0_giveRoundAgain (v := vcol (clr v (vP v)) 0 (hRd (clr v (vP v)) (r1 v r (vN v)) (nI b)).1) wh33 mh33 hd ((hRd (clr v (vP v)) (r1 v r (vN v)) (nI b)).2.2)) (by decide) (Nat.le_of_ble_eq_true rfl) List.prefix_rfl (pfx_eq kh33) rfl rfl (Nat.le_of_ble_eq_true rfl) rfl (dx dX0_tellAnew 54 rfl) ?_
                    intro rh34 h34 hph34 kkh34
                    obtain ⟨rfl, wh34, mh34, gh34⟩ := hph34
                    replace wh34 : VilAt h34 kv (vcol (vcol (clr v (vP v)) 0 (hRd (clr v (vP v)) (r1 v r (vN v)) (nI b)).1) 1 (hAg (vcol (clr v (vP v)) 0 (hRd (clr v (vP v)) (r1 v r (vN v)) (nI b)).1) ((hRd (clr v (vP v)) (r1 v r (vN v)) (nI b)).2.1) ((hRd (clr v (vP v)) (r1 v r (vN v)) (nI b)).2.2)).1) := wh34
                    replace mh34 : RoomAt h34 k ((hAg (vcol (clr v (vP v)) 0 (hRd (clr v (vP v)) (r1 v r (vN v)) (nI b)).1) ((hRd (clr v (vP v)) (r1 v r (vN v)) (nI b)).2.1) ((hRd (clr v (vP v)) (r1 v r (vN v)) (nI b)).2.2)).2.1) := mh34
                    have fh34 : Fs (RA k kv) h h34 := fh33.tr gh34
                    have kh34 : xK h34 = xK h := kkh34.trans kh33
                    refine r_goto (tgt := 171) C (dx dX0_tellAnew 55 rfl) (by decide) ?_
                    exact F.2.2.1 _ _ _ rfl (dx dX0_tellAnew 73 rfl) kh34 ⟨rfl, wh34, fh34⟩
                  ·
                    refine r_tabIn (off := 69) (tgt := 136) C (dx dX0_tellAnew 35 rfl) (by decide) (by decide) (by decide) (by decide) ?_
                    refine r_aload_n C (dx dX0_tellAnew 56 rfl) rfl ?_
                    refine r_aload_n C (dx dX0_tellAnew 57 rfl) rfl ?_
                    refine r_cv (as := [vr 5 kv]) (st := []) C X I_X0_giveSure l_X0_44 (c_X0_giveSure (v := clr v (vP v)) wh29 mh29 hd) (by decide) (Nat.le_of_ble_eq_true rfl) List.prefix_rfl (pfx_eq kh29) rfl rfl (Nat.le_of_ble_eq_true rfl) rfl (dx dX0_tellAnew 58 rfl) ?_
                    intro rh35 h35 hph35 kkh35
                    obtain ⟨rfl, wh35, mh35, gh35⟩ := hph35
                    replace wh35 : VilAt h35 kv (vcol (clr v (vP v)) 0 (hSu (clr v (vP v)) (r1 v r (vN v))).1) := wh35
                    replace mh35 : RoomAt h35 k ((hSu (clr v (vP v)) (r1 v r (vN v))).2) := mh35
                    have fh35 : Fs (RA k kv) h h35 := fh29.tr gh35
                    have kh35 : xK h35 = xK h := kkh35.trans kh29
                    refine r_goto (tgt := 171) C (dx dX0_tellAnew 59 rfl) (by decide) ?_
                    exact F.2.2.1 _ _ _ rfl (dx dX0_tellAnew 73 rfl) kh35 ⟨rfl, wh35, fh35⟩
                  ·
                    refine r_tabIn (off := 77) (tgt := 144) C (dx dX0_tellAnew 35 rfl) (by decide) (by decide) (by decide) (by decide) ?_
                    refine r_aload_n C (dx dX0_tellAnew 60 rfl) rfl ?_
                    refine r_aload_n C (dx dX0_tellAnew 61 rfl) rfl ?_
                    refine r_iload_n C (dx dX0_tellAnew 62 rfl) rfl ?_
                    refine r_if_ne (tgt := 157) C (dx dX0_tellAnew 63 rfl) (by decide) (fun c36 => ?_) (fun c36 => ?_)
                    ·
                      have c36 : ¬ nI b = 0 := c36
                      refine r_iload_n C (dx dX0_tellAnew 67 rfl) rfl ?_
                      refine r_aload_n C (dx dX0_tellAnew 68 rfl) rfl ?_
                      refine g_X0_27 (x := nI (vN v)) C (dx dX0_tellAnew 69 rfl) wh29.eN ?_
                      refine r_min (st := [vr 5 kv, vr 0 k]) C X (by decide) (pfx_eq kh29) (Nat.le_of_ble_eq_true rfl) l_X0_48 q_min.1 q_min.2.1 q_min.2.2 (dx dX0_tellAnew 70 rfl) ?_
                      rw [few_if (by omega) hb c36]
                      refine r_cv (as := [vr 5 kv, vi (nI (fewN (vN v) b))]) (st := []) C X I_X0_giveWhole l_X0_33 (c_X0_giveWhole (v := clr v (vP v)) wh29 mh29 hd (am := fewN (vN v) b) (Nat.le_trans few_le bN)) (by decide) (Nat.le_of_ble_eq_true rfl) List.prefix_rfl (pfx_eq kh29) rfl rfl (Nat.le_of_ble_eq_true rfl) rfl (dx dX0_tellAnew 71 rfl) ?_
                      intro rh37 h37 hph37 kkh37
                      obtain ⟨rfl, wh37, mh37, gh37⟩ := hph37
                      replace wh37 : VilAt h37 kv (vcol (clr v (vP v)) 0 (hWh (clr v (vP v)) (r1 v r (vN v)) (fewN (vN v) b)).1) := wh37
                      replace mh37 : RoomAt h37 k ((hWh (clr v (vP v)) (r1 v r (vN v)) (fewN (vN v) b)).2) := mh37
                      have fh37 : Fs (RA k kv) h h37 := fh29.tr gh37
                      have kh37 : xK h37 = xK h := kkh37.trans kh29
                      refine r_goto (tgt := 171) C (dx dX0_tellAnew 72 rfl) (by decide) ?_
                      exact F.2.2.1 _ _ _ rfl (dx dX0_tellAnew 73 rfl) kh37 ⟨rfl, wh37, fh37⟩
                    ·
                      have c36 : nI b = 0 := c36
                      refine r_aload_n C (dx dX0_tellAnew 64 rfl) rfl ?_
                      refine g_X0_27 (x := nI (vN v)) C (dx dX0_tellAnew 65 rfl) wh29.eN ?_
                      refine r_goto (tgt := 165) C (dx dX0_tellAnew 66 rfl) (by decide) ?_
                      rw [show nI (vN v) = nI (fewN (vN v) b) by rw [fewN, if_pos (show b = 0 from (nI_eq (by omega) (by omega)).mp c36)]]
                      refine r_cv (as := [vr 5 kv, vi (nI (fewN (vN v) b))]) (st := []) C X I_X0_giveWhole l_X0_33 (c_X0_giveWhole (v := clr v (vP v)) wh29 mh29 hd (am := fewN (vN v) b) (Nat.le_trans few_le bN)) (by decide) (Nat.le_of_ble_eq_true rfl) List.prefix_rfl (pfx_eq kh29) rfl rfl (Nat.le_of_ble_eq_true rfl) rfl (dx dX0_tellAnew 71 rfl) ?_
                      intro rh38 h38 hph38 kkh38
                      obtain ⟨rfl, wh38, mh38, gh38⟩ := hph38
                      replace wh38 : VilAt h38 kv (vcol (clr v (vP v)) 0 (hWh (clr v (vP v)) (r1 v r (vN v)) (fewN (vN v) b)).1) := wh38
                      replace mh38 : RoomAt h38 k ((hWh (clr v (vP v)) (r1 v r (vN v)) (fewN (vN v) b)).2) := mh38
                      have fh38 : Fs (RA k kv) h h38 := fh29.tr gh38
                      have kh38 : xK h38 = xK h := kkh38.trans kh29
                      refine r_goto (tgt := 171) C (dx dX0_tellAnew 72 rfl) (by decide) ?_
                      exact F.2.2.1 _ _ _ rfl (dx dX0_tellAnew 73 rfl) kh38 ⟨rfl, wh38, fh38⟩)
            · first
              | (omega; done)
          ·
            intro p hp ih h40 wh40 mh40 fh40 kh40
            refine r_iload C (dx dX0_tellAnew 20 rfl) rfl ?_
            refine r_aload_n C (dx dX0_tellAnew 21 rfl) rfl ?_
            refine g_X0_27 (x := nI (vN v)) C (dx dX0_tellAnew 22 rfl) wh40.eN ?_
            refine rn_ge (a := p) (b := vN v) (tgt := 66) C (by omega) (by omega) (dx dX0_tellAnew 23 rfl) (by decide) (fun c41 => ?_) (fun c41 => ?_)
            · first
              | (omega; done)
              | (
                  have c41 : vN v ≤ p := c41
                  refine r_iload_n C (dx dX0_tellAnew 34 rfl) rfl ?_
                  rcases (show κ = 1 ∨ κ = 2 ∨ κ = 3 ∨ κ = 4 ∨ κ = 5 by omega) with e9 | e9 | e9 | e9 | e9 <;> subst e9
                  ·
                    refine r_tabIn (off := 33) (tgt := 100) C (dx dX0_tellAnew 35 rfl) (by decide) (by decide) (by decide) (by decide) ?_
                    refine r_aload_n C (dx dX0_tellAnew 36 rfl) rfl ?_
                    refine r_aload_n C (dx dX0_tellAnew 37 rfl) rfl ?_
                    refine r_aload_n C (dx dX0_tellAnew 38 rfl) rfl ?_
                    refine g_X0_27 (x := nI (vN v)) C (dx dX0_tellAnew 39 rfl) wh40.eN ?_
                    refine r_cv (as := [vr 5 kv, vi (nI (vN v))]) (st := []) C X I_X0_giveWhole l_X0_33 (c_X0_giveWhole (v := clr v (vP v)) wh40 mh40 hd (am := vN v) (bN)) (by decide) (Nat.le_of_ble_eq_true rfl) List.prefix_rfl (pfx_eq kh40) rfl rfl (Nat.le_of_ble_eq_true rfl) rfl (dx dX0_tellAnew 40 rfl) ?_
                    intro rh42 h42 hph42 kkh42
                    obtain ⟨rfl, wh42, mh42, gh42⟩ := hph42
                    replace wh42 : VilAt h42 kv (vcol (clr v (vP v)) 0 (hWh (clr v (vP v)) (r1 v r p) (vN v)).1) := wh42
                    replace mh42 : RoomAt h42 k ((hWh (clr v (vP v)) (r1 v r p) (vN v)).2) := mh42
                    have fh42 : Fs (RA k kv) h h42 := fh40.tr gh42
                    have kh42 : xK h42 = xK h := kkh42.trans kh40
                    refine r_goto (tgt := 171) C (dx dX0_tellAnew 41 rfl) (by decide) ?_
                    exact F.2.2.1 _ _ _ rfl (dx dX0_tellAnew 73 rfl) kh42 ⟨rfl, wh42, fh42⟩
                  ·
                    refine r_tabIn (off := 45) (tgt := 112) C (dx dX0_tellAnew 35 rfl) (by decide) (by decide) (by decide) (by decide) ?_
                    refine r_aload_n C (dx dX0_tellAnew 42 rfl) rfl ?_
                    refine r_aload_n C (dx dX0_tellAnew 43 rfl) rfl ?_
                    refine r_iload_n C (dx dX0_tellAnew 44 rfl) rfl ?_
                    refine r_cv (as := [vr 5 kv, vi (nI b)]) (st := []) C X I_X0_giveRound l_X0_37 (c_X0_giveRound (v := clr v (vP v)) wh40 mh40 hd (nI b)) (by decide) (Nat.le_of_ble_eq_true rfl) List.prefix_rfl (pfx_eq kh40) rfl rfl (Nat.le_of_ble_eq_true rfl) rfl (dx dX0_tellAnew 45 rfl) ?_
                    intro rh43 h43 hph43 kkh43
                    obtain ⟨rfl, wh43, mh43, gh43⟩ := hph43
                    replace wh43 : VilAt h43 kv (vcol (clr v (vP v)) 0 (hRd (clr v (vP v)) (r1 v r p) (nI b)).1) := wh43
                    replace mh43 : RoomAt h43 k ((hRd (clr v (vP v)) (r1 v r p) (nI b)).2.1) := mh43
                    have fh43 : Fs (RA k kv) h h43 := fh40.tr gh43
                    have kh43 : xK h43 = xK h := kkh43.trans kh40
                    refine r_popI C (dx dX0_tellAnew 46 rfl) ?_
                    refine r_goto (tgt := 171) C (dx dX0_tellAnew 47 rfl) (by decide) ?_
                    exact F.2.2.1 _ _ _ rfl (dx dX0_tellAnew 73 rfl) kh43 ⟨rfl, wh43, fh43⟩
                  ·
                    refine r_tabIn (off := 55) (tgt := 122) C (dx dX0_tellAnew 35 rfl) (by decide) (by decide) (by decide) (by decide) ?_
                    refine r_aload_n C (dx dX0_tellAnew 48 rfl) rfl ?_
                    refine r_aload_n C (dx dX0_tellAnew 49 rfl) rfl ?_
                    refine r_aload_n C (dx dX0_tellAnew 50 rfl) rfl ?_
                    refine r_aload_n C (dx dX0_tellAnew 51 rfl) rfl ?_
                    refine r_iload_n C (dx dX0_tellAnew 52 rfl) rfl ?_
                    refine r_cv (as := [vr 5 kv, vi (nI b)]) (st := [vr 5 kv, vr 0 k]) C X I_X0_giveRound l_X0_37 (c_X0_giveRound (v := clr v (vP v)) wh40 mh40 hd (nI b)) (by decide) (Nat.le_of_ble_eq_true rfl) List.prefix_rfl (pfx_eq kh40) rfl rfl (Nat.le_of_ble_eq_true rfl) rfl (dx dX0_tellAnew 53 rfl) ?_
                    intro rh44 h44 hph44 kkh44
                    obtain ⟨rfl, wh44, mh44, gh44⟩ := hph44
                    replace wh44 : VilAt h44 kv (vcol (clr v (vP v)) 0 (hRd (clr v (vP v)) (r1 v r p) (nI b)).1) := wh44
                    replace mh44 : RoomAt h44 k ((hRd (clr v (vP v)) (r1 v r p) (nI b)).2.1) := mh44
                    have fh44 : Fs (RA k kv) h h44 := fh40.tr gh44
                    have kh44 : xK h44 = xK h := kkh44.trans kh40
                    refine r_cv (as := [vr 5 kv, vi ((hRd (clr v (vP v)) (r1 v r p) (nI b)).2.2)]) (st := []) C X I_X0_giveRoundAgain l_X0_41 (c_X0_giveRoundAgain (v := vcol (clr v (vP v)) 0 (hRd (clr v (vP v)) (r1 v r p) (nI b)).1) wh44 mh44 hd ((hRd (clr v (vP v)) (r1 v r p) (nI b)).2.2)) (by decide) (Nat.le_of_ble_eq_true rfl) List.prefix_rfl (pfx_eq kh44) rfl rfl (Nat.le_of_ble_eq_true rfl) rfl (dx dX0_tellAnew 54 rfl) ?_
                    intro rh45 h45 hph45 kkh45
                    obtain ⟨rfl, wh45, mh45, gh45⟩ := hph45
                    replace wh45 : VilAt h45 kv (vcol (vcol (clr v (vP v)) 0 (hRd (clr v (vP v)) (r1 v r p) (nI b)).1) 1 (hAg (vcol (clr v (vP v)) 0 (hRd (clr v (vP v)) (r1 v r p) (nI b)).1) ((hRd (clr v (vP v)) (r1 v r p) (nI b)).2.1) ((hRd (clr v (vP v)) (r1 v r p) (nI b)).2.2)).1) := wh45
                    replace mh45 : RoomAt h45 k ((hAg (vcol (clr v (vP v)) 0 (hRd (clr v (vP v)) (r1 v r p) (nI b)).1) ((hRd (clr v (vP v)) (r1 v r p) (nI b)).2.1) ((hRd (clr v (vP v)) (r1 v r p) (nI b)).2.2)).2.1) := mh45
                    have fh45 : Fs (RA k kv) h h45 := fh44.tr gh45
                    have kh45 : xK h45 = xK h := kkh45.trans kh44
                    refine r_goto (tgt := 171) C (dx dX0_tellAnew 55 rfl) (by decide) ?_
                    exact F.2.2.1 _ _ _ rfl (dx dX0_tellAnew 73 rfl) kh45 ⟨rfl, wh45, fh45⟩
                  ·
                    refine r_tabIn (off := 69) (tgt := 136) C (dx dX0_tellAnew 35 rfl) (by decide) (by decide) (by decide) (by decide) ?_
                    refine r_aload_n C (dx dX0_tellAnew 56 rfl) rfl ?_
                    refine r_aload_n C (dx dX0_tellAnew 57 rfl) rfl ?_
                    refine r_cv (as := [vr 5 kv]) (st := []) C X I_X0_giveSure l_X0_44 (c_X0_giveSure (v := clr v (vP v)) wh40 mh40 hd) (by decide) (Nat.le_of_ble_eq_true rfl) List.prefix_rfl (pfx_eq kh40) rfl rfl (Nat.le_of_ble_eq_true rfl) rfl (dx dX0_tellAnew 58 rfl) ?_
                    intro rh46 h46 hph46 kkh46
                    obtain ⟨rfl, wh46, mh46, gh46⟩ := hph46
                    replace wh46 : VilAt h46 kv (vcol (clr v (vP v)) 0 (hSu (clr v (vP v)) (r1 v r p)).1) := wh46
                    replace mh46 : RoomAt h46 k ((hSu (clr v (vP v)) (r1 v r p)).2) := mh46
                    have fh46 : Fs (RA k kv) h h46 := fh40.tr gh46
                    have kh46 : xK h46 = xK h := kkh46.trans kh40
                    refine r_goto (tgt := 171) C (dx dX0_tellAnew 59 rfl) (by decide) ?_
                    exact F.2.2.1 _ _ _ rfl (dx dX0_tellAnew 73 rfl) kh46 ⟨rfl, wh46, fh46⟩
                  ·
                    refine r_tabIn (off := 77) (tgt := 144) C (dx dX0_tellAnew 35 rfl) (by decide) (by decide) (by decide) (by decide) ?_
                    refine r_aload_n C (dx dX0_tellAnew 60 rfl) rfl ?_
                    refine r_aload_n C (dx dX0_tellAnew 61 rfl) rfl ?_
                    refine r_iload_n C (dx dX0_tellAnew 62 rfl) rfl ?_
                    refine r_if_ne (tgt := 157) C (dx dX0_tellAnew 63 rfl) (by decide) (fun c47 => ?_) (fun c47 => ?_)
                    ·
                      have c47 : ¬ nI b = 0 := c47
                      refine r_iload_n C (dx dX0_tellAnew 67 rfl) rfl ?_
                      refine r_aload_n C (dx dX0_tellAnew 68 rfl) rfl ?_
                      refine g_X0_27 (x := nI (vN v)) C (dx dX0_tellAnew 69 rfl) wh40.eN ?_
                      refine r_min (st := [vr 5 kv, vr 0 k]) C X (by decide) (pfx_eq kh40) (Nat.le_of_ble_eq_true rfl) l_X0_48 q_min.1 q_min.2.1 q_min.2.2 (dx dX0_tellAnew 70 rfl) ?_
                      rw [few_if (by omega) hb c47]
                      refine r_cv (as := [vr 5 kv, vi (nI (fewN (vN v) b))]) (st := []) C X I_X0_giveWhole l_X0_33 (c_X0_giveWhole (v := clr v (vP v)) wh40 mh40 hd (am := fewN (vN v) b) (Nat.le_trans few_le bN)) (by decide) (Nat.le_of_ble_eq_true rfl) List.prefix_rfl (pfx_eq kh40) rfl rfl (Nat.le_of_ble_eq_true rfl) rfl (dx dX0_tellAnew 71 rfl) ?_
                      intro rh48 h48 hph48 kkh48
                      obtain ⟨rfl, wh48, mh48, gh48⟩ := hph48
                      replace wh48 : VilAt h48 kv (vcol (clr v (vP v)) 0 (hWh (clr v (vP v)) (r1 v r p) (fewN (vN v) b)).1) := wh48
                      replace mh48 : RoomAt h48 k ((hWh (clr v (vP v)) (r1 v r p) (fewN (vN v) b)).2) := mh48
                      have fh48 : Fs (RA k kv) h h48 := fh40.tr gh48
                      have kh48 : xK h48 = xK h := kkh48.trans kh40
                      refine r_goto (tgt := 171) C (dx dX0_tellAnew 72 rfl) (by decide) ?_
                      exact F.2.2.1 _ _ _ rfl (dx dX0_tellAnew 73 rfl) kh48 ⟨rfl, wh48, fh48⟩
                    ·
                      have c47 : nI b = 0 := c47
                      refine r_aload_n C (dx dX0_tellAnew 64 rfl) rfl ?_
                      refine g_X0_27 (x := nI (vN v)) C (dx dX0_tellAnew 65 rfl) wh40.eN ?_
                      refine r_goto (tgt := 165) C (dx dX0_tellAnew 66 rfl) (by decide) ?_
                      rw [show nI (vN v) = nI (fewN (vN v) b) by rw [fewN, if_pos (show b = 0 from (nI_eq (by omega) (by omega)).mp c47)]]
                      refine r_cv (as := [vr 5 kv, vi (nI (fewN (vN v) b))]) (st := []) C X I_X0_giveWhole l_X0_33 (c_X0_giveWhole (v := clr v (vP v)) wh40 mh40 hd (am := fewN (vN v) b) (Nat.le_trans few_le bN)) (by decide) (Nat.le_of_ble_eq_true rfl) List.prefix_rfl (pfx_eq kh40) rfl rfl (Nat.le_of_ble_eq_true rfl) rfl (dx dX0_tellAnew 71 rfl) ?_
                      intro rh49 h49 hph49 kkh49
                      obtain ⟨rfl, wh49, mh49, gh49⟩ := hph49
                      replace wh49 : VilAt h49 kv (vcol (clr v (vP v)) 0 (hWh (clr v (vP v)) (r1 v r p) (fewN (vN v) b)).1) := wh49
                      replace mh49 : RoomAt h49 k ((hWh (clr v (vP v)) (r1 v r p) (fewN (vN v) b)).2) := mh49
                      have fh49 : Fs (RA k kv) h h49 := fh40.tr gh49
                      have kh49 : xK h49 = xK h := kkh49.trans kh40
                      refine r_goto (tgt := 171) C (dx dX0_tellAnew 72 rfl) (by decide) ?_
                      exact F.2.2.1 _ _ _ rfl (dx dX0_tellAnew 73 rfl) kh49 ⟨rfl, wh49, fh49⟩)
            · first
              | (omega; done)
              | (
                  have c41 : p < vN v := c41
                  refine r_aload_n C (dx dX0_tellAnew 24 rfl) rfl ?_
                  refine g_X0_9 C (dx dX0_tellAnew 25 rfl) ?_
                  refine r_iload C (dx dX0_tellAnew 26 rfl) rfl ?_
                  refine r_aload_n C (dx dX0_tellAnew 27 rfl) rfl ?_
                  refine g_X0_30 C (dx dX0_tellAnew 28 rfl) ?_
                  refine r_iload C (dx dX0_tellAnew 29 rfl) rfl ?_
                  refine r_iald (j := p) (x := vF v 4 p) C rfl rfl (by decide) rfl (by omega) (dx dX0_tellAnew 30 rfl) (wh40.e4 (by omega)) ?_
                  refine r_iast (j := p) C rfl rfl (by decide) rfl (by omega) (dx dX0_tellAnew 31 rfl) ?_
                  have mh50 : RoomAt (sI h40 (k + 1) p (vF v 4 p)) k (sf (r1 v r p) p (vF v 4 p)) := room_sf mh40
                  have wh50 : VilAt (sI h40 (k + 1) p (vF v 4 p)) kv (clr v (vP v)) := wh40.fr (Fr.sI (lo := k + 1) (hi := k + 2) (by omega) (by omega)) (by omega)
                  have fh50 : Fs (RA k kv) h (sI h40 (k + 1) p (vF v 4 p)) := fh40.tr (Fs.of (Fr.sI (lo := k + 1) (hi := k + 2) (by omega) (by omega)) (fun b h1 h2 => Or.inl (by omega)))
                  have kh50 : xK (sI h40 (k + 1) p (vF v 4 p)) = xK h := kh40
                  generalize sI h40 (k + 1) p (vF v 4 p) = h50 at wh50 mh50 fh50 kh50 ⊢
                  refine rn_iinc (a := p) (k := 1) (ls' := [(0, vr 0 k), (1, vr 5 kv), (2, vi (nI (κ))), (3, vi (nI b)), (4, vi (nI (p + 1)))]) C (dx dX0_tellAnew 32 rfl) rfl rfl (by decide) [1, 2, 3, 4, 0] rfl ?_
                  refine r_goto (tgt := 37) C (dx dX0_tellAnew 33 rfl) (by decide) ?_
                  refine (?_ : Rr G 37 [(0, vr 0 k), (1, vr 5 kv), (2, vi (nI (κ))), (3, vi (nI b)), (4, vi (nI (p + 1)))] [] h50)
                  exact ih _ wh50 (by rw [show (r1 v r (p + 1)) = (sf (r1 v r p) p (vF v 4 p)) by exact r1_if_s]; exact mh50) fh50 kh50))
    · first
      | (omega; done)
      | (
          have c28 : p < vP v := c28
          refine r_aload_n C (dx dX0_tellAnew 6 rfl) rfl ?_
          refine g_X0_21 C (dx dX0_tellAnew 7 rfl) ?_
          refine r_iload C (dx dX0_tellAnew 8 rfl) rfl ?_
          refine r_iconst (v := -1) C (dx dX0_tellAnew 9 rfl) rfl ?_
          refine r_iast (j := p) C rfl rfl (by decide) rfl (by omega) (dx dX0_tellAnew 10 rfl) ?_
          have wh51 : VilAt (sI h27 (kv + 1) p (-1)) kv (vset (clr v p) 0 p (-1)) := wh27.s0
          have mh51 : RoomAt (sI h27 (kv + 1) p (-1)) k (r) := mh27.fr (Fr.sI (lo := kv) (hi := kv + 9) (by omega) (by omega)) (by omega)
          have fh51 : Fs (RA k kv) h (sI h27 (kv + 1) p (-1)) := fh27.tr (Fs.of (Fr.sI (lo := kv) (hi := kv + 9) (by omega) (by omega)) (fun b h1 h2 => Or.inr ⟨h1, h2⟩))
          have kh51 : xK (sI h27 (kv + 1) p (-1)) = xK h := kh27
          generalize sI h27 (kv + 1) p (-1) = h51 at wh51 mh51 fh51 kh51 ⊢
          refine r_aload_n C (dx dX0_tellAnew 11 rfl) rfl ?_
          refine g_X0_24 C (dx dX0_tellAnew 12 rfl) ?_
          refine r_iload C (dx dX0_tellAnew 13 rfl) rfl ?_
          refine r_iconst (v := -1) C (dx dX0_tellAnew 14 rfl) rfl ?_
          refine r_iast (j := p) C rfl rfl (by decide) rfl (by omega) (dx dX0_tellAnew 15 rfl) ?_
          have wh52 : VilAt (sI h51 (kv + 2) p (-1)) kv (vset (vset (clr v p) 0 p (-1)) 1 p (-1)) := wh51.s1
          have mh52 : RoomAt (sI h51 (kv + 2) p (-1)) k (r) := mh51.fr (Fr.sI (lo := kv) (hi := kv + 9) (by omega) (by omega)) (by omega)
          have fh52 : Fs (RA k kv) h (sI h51 (kv + 2) p (-1)) := fh51.tr (Fs.of (Fr.sI (lo := kv) (hi := kv + 9) (by omega) (by omega)) (fun b h1 h2 => Or.inr ⟨h1, h2⟩))
          have kh52 : xK (sI h51 (kv + 2) p (-1)) = xK h := kh51
          generalize sI h51 (kv + 2) p (-1) = h52 at wh52 mh52 fh52 kh52 ⊢
          refine rn_iinc (a := p) (k := 1) (ls' := [(0, vr 0 k), (1, vr 5 kv), (2, vi (nI (κ))), (3, vi (nI b)), (4, vi (nI (p + 1)))]) C (dx dX0_tellAnew 16 rfl) rfl rfl (by decide) [1, 2, 3, 4, 0] rfl ?_
          refine r_goto (tgt := 3) C (dx dX0_tellAnew 17 rfl) (by decide) ?_
          refine (?_ : Rr G 3 [(0, vr 0 k), (1, vr 5 kv), (2, vi (nI (κ))), (3, vi (nI b)), (4, vi (nI (p + 1)))] [] h52)
          exact ih _ (by rw [show (clr v (p + 1)) = (vset (vset (clr v p) 0 p (-1)) 1 p (-1)) by exact clr_if_s]; exact wh52) mh52 fh52 kh52)
end
section
/-! PART 14: the search: it runs, and keeps to its cells -/
/-- owners are sets of five -/
def SInv (h : Hp) (k : Nat) : Prop := ∀ q, q < 7 → ∀ m, m < 6 → ∃ w, w < 32 ∧ xI h (k + 5 + q) m = nI w
theorem SInv.fr {h h1 : Hp} {k lo hi : Nat} (a : SInv h k) (f : Fr lo hi h h1) (hk : k + 12 ≤ lo ∨ hi ≤ k + 5) : SInv h1 k := fun q hq m hm => by
  rw [f.I (by omega)]; exact a q hq m hm
theorem SInv.st {h : Hp} {k q j : Nat} {x : Int32} (a : SInv h k) (e : ∃ w, w < 32 ∧ x = nI w) : SInv (sI h (k + 5 + q) j x) k := fun q' hq m hm => by
  by_cases h1 : q' = q
  · subst h1; rw [sI_at]; split
    · exact e
    · exact a q' hq m hm
  · rw [sI_ne (by omega)]; exact a q' hq m hm
theorem s_or {x : Int32} {w : Nat} (a : ∃ w, w < 32 ∧ x = nI w) (hw : w < 32) : ∃ z, z < 32 ∧ x ||| nI w = nI z := by
  obtain ⟨u, hu, rfl⟩ := a
  exact ⟨u ||| w, Nat.or_lt_two_pow (n := 5) hu hw, nI_or⟩
theorem s_at {x : Int32} (a : ∃ w, w < 32 ∧ x = nI w) : x = nI x.toNatClampNeg ∧ x.toNatClampNeg < 32 := by
  obtain ⟨u, hu, rfl⟩ := a
  rw [nI_clamp (by omega)]; exact ⟨rfl, hu⟩
theorem nI_nm1 {o : Nat} (h : o < 2 ^ 31) : ¬ nI o = -1 := fun q => by
  have := congrArg Int32.toInt q
  rw [nI_toInt h] at this
  have e : (-1 : Int32).toInt = -1 := by decide
  omega
theorem nI_lm1 {o : Nat} (h : o < 2 ^ 31) : ¬ nI o ≤ -1 := fun q => by
  rw [Int32.le_iff_toInt_le, nI_toInt h] at q
  have e : (-1 : Int32).toInt = -1 := by decide
  omega
set_option maxHeartbeats 4000000 in
theorem c_X1_take {l : Launch} {h : Hp} {k kv : Nat} {v : Vg} (hv : VilAt h kv v) (hs : SInv h k) (hd : kv + 9 ≤ k ∨ k + 13 ≤ kv) {p w : Nat} (hP : p < 6) (hw : w < 32) : Ms l yX1_take cX1_take 6 none 1 [vr 1 k, vr 5 kv, vi (nI p), vi (nI w)] h (xK h) (fun r0 h' => r0 = none ∧ SInv h' k ∧ Fr k (k + 13) h h') := by
  refine Ms.of (by decide) (Nat.le_of_ble_eq_true rfl) (fun G C X F => ?_)
  have C : Cx G cX1_take 6 RX1 := C
  show Rr G 0 [(0, vr 1 k), (1, vr 5 kv), (2, vi (nI p)), (3, vi (nI w))] [] h
  have bP := hv.bP
  have bM := hv.bM
  have bN := hv.bN
  refine r_iconst (v := nI 0) C (dx dX1_take 0 rfl) rfl ?_
  refine r_istore (ls' := [(0, vr 1 k), (1, vr 5 kv), (2, vi (nI p)), (3, vi (nI w)), (4, vi (nI 0))]) C (dx dX1_take 1 rfl) (by decide) [1, 2, 3, 4, 0] rfl ?_
  refine loopU (Φ := fun j => ∀ h9, SInv h9 k → Fr k (k + 13) h h9 → xK h9 = xK h → Rr G 3 [(0, vr 1 k), (1, vr 5 kv), (2, vi (nI p)), (3, vi (nI w)), (4, vi (nI j))] [] h9) (N := vM v) ?_ ?_ 0 (Nat.zero_le _) _ hs Fr.rf rfl
  ·
    intro h1 sh1 fh1 kh1
    have wh1 : VilAt h1 kv v := hv.fr fh1 (by omega)
    refine r_iload C (dx dX1_take 2 rfl) rfl ?_
    refine r_aload_n C (dx dX1_take 3 rfl) rfl ?_
    refine g_X1_52 (x := nI (vM v)) C (dx dX1_take 4 rfl) wh1.eM ?_
    refine rn_ge (a := vM v) (b := vM v) (tgt := 78) C (by omega) (by omega) (dx dX1_take 5 rfl) (by decide) (fun c2 => ?_) (fun c2 => ?_)
    · first
      | (omega; done)
      | (
          have c2 : vM v ≤ vM v := c2
          exact F.2.2.1 _ _ _ rfl (dx dX1_take 46 rfl) kh1 ⟨rfl, sh1, fh1⟩)
    · first
      | (omega; done)
  ·
    intro j hj ih h6 sh6 fh6 kh6
    have wh6 : VilAt h6 kv v := hv.fr fh6 (by omega)
    refine r_iload C (dx dX1_take 2 rfl) rfl ?_
    refine r_aload_n C (dx dX1_take 3 rfl) rfl ?_
    refine g_X1_52 (x := nI (vM v)) C (dx dX1_take 4 rfl) wh6.eM ?_
    refine rn_ge (a := j) (b := vM v) (tgt := 78) C (by omega) (by omega) (dx dX1_take 5 rfl) (by decide) (fun c7 => ?_) (fun c7 => ?_)
    · first
      | (omega; done)
      | (
          have c7 : vM v ≤ j := c7
          exact F.2.2.1 _ _ _ rfl (dx dX1_take 46 rfl) kh6 ⟨rfl, sh6, fh6⟩)
    · first
      | (omega; done)
      | (
          have c7 : j < vM v := c7
          refine r_aload_n C (dx dX1_take 6 rfl) rfl ?_
          refine g_X1_76 C (dx dX1_take 7 rfl) ?_
          refine r_iload C (dx dX1_take 8 rfl) rfl ?_
          refine r_iald (j := j) (x := vF v 2 j) C rfl rfl (by decide) rfl (by omega) (dx dX1_take 9 rfl) (wh6.e2 (by omega)) ?_
          refine r_iconst (v := nI 1) C (dx dX1_take 10 rfl) rfl ?_
          refine r_iload_n C (dx dX1_take 11 rfl) rfl ?_
          refine r_ishl C (dx dX1_take 12 rfl) ?_
          refine r_iand C (dx dX1_take 13 rfl) ?_
          refine r_if_eq (tgt := 30) C (dx dX1_take 14 rfl) (by decide) (fun c8 => ?_) (fun c8 => ?_)
          ·
            have c8 : (vF v 2 j) &&& ((nI 1) <<< ((nI p) &&& 31)) = 0 := c8
            refine r_iconst (v := nI 0) C (dx dX1_take 17 rfl) rfl ?_
            refine r_istore (ls' := [(0, vr 1 k), (1, vr 5 kv), (2, vi (nI p)), (3, vi (nI w)), (4, vi (nI j)), (5, vi (nI 0))]) C (dx dX1_take 18 rfl) (by decide) [1, 2, 3, 4, 5, 0] rfl ?_
            refine r_aload_n C (dx dX1_take 19 rfl) rfl ?_
            refine g_X1_23 C (dx dX1_take 20 rfl) ?_
            refine r_iload_n C (dx dX1_take 21 rfl) rfl ?_
            refine r_iconst (v := nI 1) C (dx dX1_take 22 rfl) rfl ?_
            refine rn_iadd (a := p) (b := 1) C (dx dX1_take 23 rfl) ?_
            refine r_aald4 (j := p + 1) C rfl rfl (by decide) rfl (by omega) (dx dX1_take 24 rfl) ?_
            refine r_iload C (dx dX1_take 25 rfl) rfl ?_
            refine r_iload C (dx dX1_take 26 rfl) rfl ?_
            refine r_if_eq (tgt := 62) C (dx dX1_take 27 rfl) (by decide) (fun _ => ?_) (fun c9 => (show False from by revert c9; decide).elim)
            refine r_aload_n C (dx dX1_take 37 rfl) rfl ?_
            refine g_X1_23 C (dx dX1_take 38 rfl) ?_
            refine r_iload_n C (dx dX1_take 39 rfl) rfl ?_
            refine r_aald4 (j := p) C rfl rfl (by decide) rfl (by omega) (dx dX1_take 40 rfl) ?_
            refine r_iload C (dx dX1_take 41 rfl) rfl ?_
            refine r_iald (j := j) (x := xI h6 (k + 5 + p) j) C rfl rfl (by decide) rfl (by omega) (dx dX1_take 42 rfl) rfl ?_
            refine r_iast (j := j) C rfl rfl (by decide) rfl (by omega) (dx dX1_take 43 rfl) ?_
            have sh10 : SInv (sI h6 (k + 5 + (p + 1)) j (xI h6 (k + 5 + p) j)) k := sh6.st (by first | exact sh6 _ (by omega) _ (by omega) | exact s_or (sh6 _ (by omega) _ (by omega)) hw)
            have fh10 : Fr k (k + 13) h (sI h6 (k + 5 + (p + 1)) j (xI h6 (k + 5 + p) j)) := fh6.tr (Fr.sI (by omega) (by omega))
            have kh10 : xK (sI h6 (k + 5 + (p + 1)) j (xI h6 (k + 5 + p) j)) = xK h := kh6
            have wh10 : VilAt (sI h6 (k + 5 + (p + 1)) j (xI h6 (k + 5 + p) j)) kv v := hv.fr fh10 (by omega)
            generalize sI h6 (k + 5 + (p + 1)) j (xI h6 (k + 5 + p) j) = h10 at sh10 fh10 kh10 wh10 ⊢
            refine rn_iinc (a := j) (k := 1) (ls' := [(0, vr 1 k), (1, vr 5 kv), (2, vi (nI p)), (3, vi (nI w)), (4, vi (nI (j + 1))), (5, vi (nI 0))]) C (dx dX1_take 44 rfl) rfl rfl (by decide) [1, 2, 3, 4, 0, 5] rfl ?_
            refine r_goto (tgt := 3) C (dx dX1_take 45 rfl) (by decide) ?_
            refine r_weak C [0, 1, 2, 3, 4] rfl ?_
            exact ih _ sh10 fh10 kh10
          ·
            have c8 : ¬ (vF v 2 j) &&& ((nI 1) <<< ((nI p) &&& 31)) = 0 := c8
            refine r_iconst (v := nI 1) C (dx dX1_take 15 rfl) rfl ?_
            refine r_goto (tgt := 31) C (dx dX1_take 16 rfl) (by decide) ?_
            refine r_istore (ls' := [(0, vr 1 k), (1, vr 5 kv), (2, vi (nI p)), (3, vi (nI w)), (4, vi (nI j)), (5, vi (nI 1))]) C (dx dX1_take 18 rfl) (by decide) [1, 2, 3, 4, 5, 0] rfl ?_
            refine r_aload_n C (dx dX1_take 19 rfl) rfl ?_
            refine g_X1_23 C (dx dX1_take 20 rfl) ?_
            refine r_iload_n C (dx dX1_take 21 rfl) rfl ?_
            refine r_iconst (v := nI 1) C (dx dX1_take 22 rfl) rfl ?_
            refine rn_iadd (a := p) (b := 1) C (dx dX1_take 23 rfl) ?_
            refine r_aald4 (j := p + 1) C rfl rfl (by decide) rfl (by omega) (dx dX1_take 24 rfl) ?_
            refine r_iload C (dx dX1_take 25 rfl) rfl ?_
            refine r_iload C (dx dX1_take 26 rfl) rfl ?_
            refine r_if_eq (tgt := 62) C (dx dX1_take 27 rfl) (by decide) (fun c11 => (show False from by revert c11; decide).elim) (fun _ => ?_)
            refine r_aload_n C (dx dX1_take 28 rfl) rfl ?_
            refine g_X1_23 C (dx dX1_take 29 rfl) ?_
            refine r_iload_n C (dx dX1_take 30 rfl) rfl ?_
            refine r_aald4 (j := p) C rfl rfl (by decide) rfl (by omega) (dx dX1_take 31 rfl) ?_
            refine r_iload C (dx dX1_take 32 rfl) rfl ?_
            refine r_iald (j := j) (x := xI h6 (k + 5 + p) j) C rfl rfl (by decide) rfl (by omega) (dx dX1_take 33 rfl) rfl ?_
            refine r_iload_n C (dx dX1_take 34 rfl) rfl ?_
            refine r_ior C (dx dX1_take 35 rfl) ?_
            refine r_goto (tgt := 71) C (dx dX1_take 36 rfl) (by decide) ?_
            refine r_iast (j := j) C rfl rfl (by decide) rfl (by omega) (dx dX1_take 43 rfl) ?_
            have sh12 : SInv (sI h6 (k + 5 + (p + 1)) j ((xI h6 (k + 5 + p) j) ||| (nI w))) k := sh6.st (by first | exact sh6 _ (by omega) _ (by omega) | exact s_or (sh6 _ (by omega) _ (by omega)) hw)
            have fh12 : Fr k (k + 13) h (sI h6 (k + 5 + (p + 1)) j ((xI h6 (k + 5 + p) j) ||| (nI w))) := fh6.tr (Fr.sI (by omega) (by omega))
            have kh12 : xK (sI h6 (k + 5 + (p + 1)) j ((xI h6 (k + 5 + p) j) ||| (nI w))) = xK h := kh6
            have wh12 : VilAt (sI h6 (k + 5 + (p + 1)) j ((xI h6 (k + 5 + p) j) ||| (nI w))) kv v := hv.fr fh12 (by omega)
            generalize sI h6 (k + 5 + (p + 1)) j ((xI h6 (k + 5 + p) j) ||| (nI w)) = h12 at sh12 fh12 kh12 wh12 ⊢
            refine rn_iinc (a := j) (k := 1) (ls' := [(0, vr 1 k), (1, vr 5 kv), (2, vi (nI p)), (3, vi (nI w)), (4, vi (nI (j + 1))), (5, vi (nI 1))]) C (dx dX1_take 44 rfl) rfl rfl (by decide) [1, 2, 3, 4, 0, 5] rfl ?_
            refine r_goto (tgt := 3) C (dx dX1_take 45 rfl) (by decide) ?_
            refine r_weak C [0, 1, 2, 3, 4] rfl ?_
            exact ih _ sh12 fh12 kh12)
set_option maxHeartbeats 4000000 in
theorem c_X1_weigh {l : Launch} {h : Hp} {k kv : Nat} {v : Vg} (hv : VilAt h kv v) (hs : SInv h k) (hd : kv + 9 ≤ k ∨ k + 13 ≤ kv) {g : Nat} (hg : g ≤ 6) : Ms l yX1_weigh cX1_weigh 6 none 1 [vr 1 k, vr 5 kv, vi (nI g)] h (xK h) (fun r0 h' => r0 = none ∧ SInv h' k ∧ Fr k (k + 13) h h') := by
  refine Ms.of (by decide) (Nat.le_of_ble_eq_true rfl) (fun G C X F => ?_)
  have C : Cx G cX1_weigh 6 RX1 := C
  show Rr G 0 [(0, vr 1 k), (1, vr 5 kv), (2, vi (nI g))] [] h
  have bP := hv.bP
  have bM := hv.bM
  have bN := hv.bN
  refine r_lconst (v := 0) C (dx dX1_weigh 0 rfl) rfl ?_
  refine r_lstore_n (ls' := [(0, vr 1 k), (1, vr 5 kv), (2, vi (nI g)), (3, vl 0)]) C (dx dX1_weigh 1 rfl) (by decide) [1, 2, 3, 0] rfl ?_
  refine r_iconst (v := nI 0) C (dx dX1_weigh 2 rfl) rfl ?_
  refine r_istore (ls' := [(0, vr 1 k), (1, vr 5 kv), (2, vi (nI g)), (3, vl 0), (5, vi (nI 0))]) C (dx dX1_weigh 3 rfl) (by decide) [1, 2, 3, 4, 0] rfl ?_
  refine loopU (Φ := fun p => Rr G 5 [(0, vr 1 k), (1, vr 5 kv), (2, vi (nI g)), (3, vl (sumL (fun m => (vF v 3 m).toInt64 * xL h (k + 12) (xI h (k + 5 + g) m).toNatClampNeg) p)), (5, vi (nI p))] [] h) (N := vM v) ?_ ?_ 0 (Nat.zero_le _)
  ·
    refine r_iload C (dx dX1_weigh 4 rfl) rfl ?_
    refine r_aload_n C (dx dX1_weigh 5 rfl) rfl ?_
    refine g_X1_52 (x := nI (vM v)) C (dx dX1_weigh 6 rfl) hv.eM ?_
    refine rn_ge (a := vM v) (b := vM v) (tgt := 46) C (by omega) (by omega) (dx dX1_weigh 7 rfl) (by decide) (fun c1 => ?_) (fun c1 => ?_)
    · first
      | (omega; done)
      | (
          have c1 : vM v ≤ vM v := c1
          refine r_lload_n C (dx dX1_weigh 28 rfl) rfl ?_
          refine r_aload_n C (dx dX1_weigh 29 rfl) rfl ?_
          refine g_X1_32 C (dx dX1_weigh 30 rfl) rfl ?_
          refine r_lcmp C (dx dX1_weigh 31 rfl) ?_
          refine r_if_le (tgt := 74) C (dx dX1_weigh 32 rfl) (by decide) (fun c2 => ?_) (fun c2 => ?_)
          ·
            have c2 : sumL (fun m => (vF v 3 m).toInt64 * xL h (k + 12) (xI h (k + 5 + g) m).toNatClampNeg) (vM v) ≤ xL h k 5 := (lg_cmp_le _ _).mp c2
            exact F.2.2.1 _ _ _ rfl (dx dX1_weigh 44 rfl) rfl ⟨rfl, hs, Fr.rf⟩
          ·
            have c2 : ¬ (sumL (fun m => (vF v 3 m).toInt64 * xL h (k + 12) (xI h (k + 5 + g) m).toNatClampNeg) (vM v) ≤ xL h k 5) := fun q => c2 ((lg_cmp_le _ _).mpr q)
            refine r_aload_n C (dx dX1_weigh 33 rfl) rfl ?_
            refine r_lload_n C (dx dX1_weigh 34 rfl) rfl ?_
            refine p_X1_32 C (dx dX1_weigh 35 rfl) ?_
            have sh3 : SInv (sL h k 5 (sumL (fun m => (vF v 3 m).toInt64 * xL h (k + 12) (xI h (k + 5 + g) m).toNatClampNeg) (vM v))) k := hs.fr (Fr.sL (lo := k) (hi := k + 1) (by omega) (by omega)) (by omega)
            have fh3 : Fr k (k + 13) h (sL h k 5 (sumL (fun m => (vF v 3 m).toInt64 * xL h (k + 12) (xI h (k + 5 + g) m).toNatClampNeg) (vM v))) := (Fr.sL (by omega) (by omega))
            have kh3 : xK (sL h k 5 (sumL (fun m => (vF v 3 m).toInt64 * xL h (k + 12) (xI h (k + 5 + g) m).toNatClampNeg) (vM v))) = xK h := rfl
            have wh3 : VilAt (sL h k 5 (sumL (fun m => (vF v 3 m).toInt64 * xL h (k + 12) (xI h (k + 5 + g) m).toNatClampNeg) (vM v))) kv v := hv.fr fh3 (by omega)
            generalize sL h k 5 (sumL (fun m => (vF v 3 m).toInt64 * xL h (k + 12) (xI h (k + 5 + g) m).toNatClampNeg) (vM v)) = h3 at sh3 fh3 kh3 wh3 ⊢
            refine r_aload_n C (dx dX1_weigh 36 rfl) rfl ?_
            refine g_X1_9 C (dx dX1_weigh 37 rfl) ?_
            refine r_iconst (v := nI 0) C (dx dX1_weigh 38 rfl) rfl ?_
            refine r_aload_n C (dx dX1_weigh 39 rfl) rfl ?_
            refine g_X1_15 C (dx dX1_weigh 40 rfl) ?_
            refine r_iconst (v := nI 0) C (dx dX1_weigh 41 rfl) rfl ?_
            refine r_iload_n C (dx dX1_weigh 42 rfl) rfl ?_
            refine r_copyI (sp := 0) (dp := 0) (n := g) C X (by decide) (Nat.le_of_ble_eq_true rfl) l_X1_82 q_cp rfl rfl rfl rfl rfl rfl rfl (by decide) (by decide) (by omega) (by omega) (by omega) (dx dX1_weigh 43 rfl) ?_
            have sh4 : SInv (cpI h3 (k + 1) (k + 2) 0 0 g) k := sh3.fr (Fr.cpI (lo := k + 2) (hi := k + 3) (by omega) (by omega)) (by omega)
            have fh4 : Fr k (k + 13) h (cpI h3 (k + 1) (k + 2) 0 0 g) := fh3.tr (Fr.cpI (by omega) (by omega))
            have kh4 : xK (cpI h3 (k + 1) (k + 2) 0 0 g) = xK h := kh3
            have wh4 : VilAt (cpI h3 (k + 1) (k + 2) 0 0 g) kv v := hv.fr fh4 (by omega)
            generalize cpI h3 (k + 1) (k + 2) 0 0 g = h4 at sh4 fh4 kh4 wh4 ⊢
            exact F.2.2.1 _ _ _ rfl (dx dX1_weigh 44 rfl) kh4 ⟨rfl, sh4, fh4⟩)
    · first
      | (omega; done)
  ·
    intro p hp ih
    refine r_iload C (dx dX1_weigh 4 rfl) rfl ?_
    refine r_aload_n C (dx dX1_weigh 5 rfl) rfl ?_
    refine g_X1_52 (x := nI (vM v)) C (dx dX1_weigh 6 rfl) hv.eM ?_
    refine rn_ge (a := p) (b := vM v) (tgt := 46) C (by omega) (by omega) (dx dX1_weigh 7 rfl) (by decide) (fun c5 => ?_) (fun c5 => ?_)
    · first
      | (omega; done)
      | (
          have c5 : vM v ≤ p := c5
          refine r_lload_n C (dx dX1_weigh 28 rfl) rfl ?_
          refine r_aload_n C (dx dX1_weigh 29 rfl) rfl ?_
          refine g_X1_32 C (dx dX1_weigh 30 rfl) rfl ?_
          refine r_lcmp C (dx dX1_weigh 31 rfl) ?_
          refine r_if_le (tgt := 74) C (dx dX1_weigh 32 rfl) (by decide) (fun c6 => ?_) (fun c6 => ?_)
          ·
            have c6 : sumL (fun m => (vF v 3 m).toInt64 * xL h (k + 12) (xI h (k + 5 + g) m).toNatClampNeg) p ≤ xL h k 5 := (lg_cmp_le _ _).mp c6
            exact F.2.2.1 _ _ _ rfl (dx dX1_weigh 44 rfl) rfl ⟨rfl, hs, Fr.rf⟩
          ·
            have c6 : ¬ (sumL (fun m => (vF v 3 m).toInt64 * xL h (k + 12) (xI h (k + 5 + g) m).toNatClampNeg) p ≤ xL h k 5) := fun q => c6 ((lg_cmp_le _ _).mpr q)
            refine r_aload_n C (dx dX1_weigh 33 rfl) rfl ?_
            refine r_lload_n C (dx dX1_weigh 34 rfl) rfl ?_
            refine p_X1_32 C (dx dX1_weigh 35 rfl) ?_
            have sh7 : SInv (sL h k 5 (sumL (fun m => (vF v 3 m).toInt64 * xL h (k + 12) (xI h (k + 5 + g) m).toNatClampNeg) p)) k := hs.fr (Fr.sL (lo := k) (hi := k + 1) (by omega) (by omega)) (by omega)
            have fh7 : Fr k (k + 13) h (sL h k 5 (sumL (fun m => (vF v 3 m).toInt64 * xL h (k + 12) (xI h (k + 5 + g) m).toNatClampNeg) p)) := (Fr.sL (by omega) (by omega))
            have kh7 : xK (sL h k 5 (sumL (fun m => (vF v 3 m).toInt64 * xL h (k + 12) (xI h (k + 5 + g) m).toNatClampNeg) p)) = xK h := rfl
            have wh7 : VilAt (sL h k 5 (sumL (fun m => (vF v 3 m).toInt64 * xL h (k + 12) (xI h (k + 5 + g) m).toNatClampNeg) p)) kv v := hv.fr fh7 (by omega)
            generalize sL h k 5 (sumL (fun m => (vF v 3 m).toInt64 * xL h (k + 12) (xI h (k + 5 + g) m).toNatClampNeg) p) = h7 at sh7 fh7 kh7 wh7 ⊢
            refine r_aload_n C (dx dX1_weigh 36 rfl) rfl ?_
            refine g_X1_9 C (dx dX1_weigh 37 rfl) ?_
            refine r_iconst (v := nI 0) C (dx dX1_weigh 38 rfl) rfl ?_
            refine r_aload_n C (dx dX1_weigh 39 rfl) rfl ?_
            refine g_X1_15 C (dx dX1_weigh 40 rfl) ?_
            refine r_iconst (v := nI 0) C (dx dX1_weigh 41 rfl) rfl ?_
            refine r_iload_n C (dx dX1_weigh 42 rfl) rfl ?_
            refine r_copyI (sp := 0) (dp := 0) (n := g) C X (by decide) (Nat.le_of_ble_eq_true rfl) l_X1_82 q_cp rfl rfl rfl rfl rfl rfl rfl (by decide) (by decide) (by omega) (by omega) (by omega) (dx dX1_weigh 43 rfl) ?_
            have sh8 : SInv (cpI h7 (k + 1) (k + 2) 0 0 g) k := sh7.fr (Fr.cpI (lo := k + 2) (hi := k + 3) (by omega) (by omega)) (by omega)
            have fh8 : Fr k (k + 13) h (cpI h7 (k + 1) (k + 2) 0 0 g) := fh7.tr (Fr.cpI (by omega) (by omega))
            have kh8 : xK (cpI h7 (k + 1) (k + 2) 0 0 g) = xK h := kh7
            have wh8 : VilAt (cpI h7 (k + 1) (k + 2) 0 0 g) kv v := hv.fr fh8 (by omega)
            generalize cpI h7 (k + 1) (k + 2) 0 0 g = h8 at sh8 fh8 kh8 wh8 ⊢
            exact F.2.2.1 _ _ _ rfl (dx dX1_weigh 44 rfl) kh8 ⟨rfl, sh8, fh8⟩)
    · first
      | (omega; done)
      | (
          have c5 : p < vM v := c5
          refine r_lload_n C (dx dX1_weigh 8 rfl) rfl ?_
          refine r_aload_n C (dx dX1_weigh 9 rfl) rfl ?_
          refine g_X1_79 C (dx dX1_weigh 10 rfl) ?_
          refine r_iload C (dx dX1_weigh 11 rfl) rfl ?_
          refine r_iald (j := p) (x := vF v 3 p) C rfl rfl (by decide) rfl (by omega) (dx dX1_weigh 12 rfl) (hv.e3 (by omega)) ?_
          refine r_i2l C (dx dX1_weigh 13 rfl) ?_
          refine r_aload_n C (dx dX1_weigh 14 rfl) rfl ?_
          refine g_X1_26 C (dx dX1_weigh 15 rfl) ?_
          refine r_aload_n C (dx dX1_weigh 16 rfl) rfl ?_
          refine g_X1_23 C (dx dX1_weigh 17 rfl) ?_
          refine r_iload_n C (dx dX1_weigh 18 rfl) rfl ?_
          refine r_aald4 (j := g) C rfl rfl (by decide) rfl (by omega) (dx dX1_weigh 19 rfl) ?_
          refine r_iload C (dx dX1_weigh 20 rfl) rfl ?_
          refine r_iald (j := p) (x := xI h (k + 5 + g) p) C rfl rfl (by decide) rfl (by omega) (dx dX1_weigh 21 rfl) rfl ?_
          refine r_lald (j := (xI h (k + 5 + g) p).toNatClampNeg) (x := xL h (k + 12) ((xI h (k + 5 + g) p).toNatClampNeg)) C rfl rfl (by decide) (s_at (hs _ (by omega) _ (by omega))).1 (s_at (hs _ (by omega) _ (by omega))).2 (dx dX1_weigh 22 rfl) rfl ?_
          refine r_lmul C (dx dX1_weigh 23 rfl) ?_
          refine r_ladd C (dx dX1_weigh 24 rfl) ?_
          refine r_lstore_n (ls' := [(0, vr 1 k), (1, vr 5 kv), (2, vi (nI g)), (3, vl ((sumL (fun m => (vF v 3 m).toInt64 * xL h (k + 12) (xI h (k + 5 + g) m).toNatClampNeg) p) + (((vF v 3 p).toInt64) * (xL h (k + 12) ((xI h (k + 5 + g) p).toNatClampNeg))))), (5, vi (nI p))]) C (dx dX1_weigh 25 rfl) (by decide) [1, 2, 3, 0, 4] rfl ?_
          refine rn_iinc (a := p) (k := 1) (ls' := [(0, vr 1 k), (1, vr 5 kv), (2, vi (nI g)), (3, vl ((sumL (fun m => (vF v 3 m).toInt64 * xL h (k + 12) (xI h (k + 5 + g) m).toNatClampNeg) p) + (((vF v 3 p).toInt64) * (xL h (k + 12) ((xI h (k + 5 + g) p).toNatClampNeg))))), (5, vi (nI (p + 1)))]) C (dx dX1_weigh 26 rfl) rfl rfl (by decide) [1, 2, 3, 4, 0] rfl ?_
          refine r_goto (tgt := 5) C (dx dX1_weigh 27 rfl) (by decide) ?_
          have e9 : ((sumL (fun m => (vF v 3 m).toInt64 * xL h (k + 12) (xI h (k + 5 + g) m).toNatClampNeg) p) + (((vF v 3 p).toInt64) * (xL h (k + 12) ((xI h (k + 5 + g) p).toNatClampNeg)))) = (sumL (fun m => (vF v 3 m).toInt64 * xL h (k + 12) (xI h (k + 5 + g) m).toNatClampNeg) (p + 1)) := by rfl
          rw [e9]
          exact ih)
def prdL (v : Vg) (s : Nat) : Nat → Int64
  | 0 => 1
  | o + 1 => prdL v s o * (if nI s &&& (nI 1 <<< (nI o &&& 31)) = 0 then 10 else (if vF v 6 o = 0 then nI 10 - vF v 5 o else nI 0).toInt64)
set_option maxHeartbeats 4000000 in
theorem c_X1_oddsThatAllCome {l : Launch} {h : Hp} {k kv : Nat} {v : Vg} (hv : VilAt h kv v) (hs : SInv h k) (hd : kv + 9 ≤ k ∨ k + 13 ≤ kv) (s : Nat) : Mp l yX1_oddsThatAllCome cX1_oddsThatAllCome 7 (some .long) 1 [vr 1 k, vr 5 kv, vi (nI s)] h (vl (prdL v s (vN v))) := by
  refine Ms.of (by decide) (Nat.le_of_ble_eq_true rfl) (fun G C X F => ?_)
  have C : Cx G cX1_oddsThatAllCome 7 RX1 := C
  show Rr G 0 [(0, vr 1 k), (1, vr 5 kv), (2, vi (nI s))] [] h
  have bP := hv.bP
  have bM := hv.bM
  have bN := hv.bN
  refine r_lconst (v := 1) C (dx dX1_oddsThatAllCome 0 rfl) rfl ?_
  refine r_lstore_n (ls' := [(0, vr 1 k), (1, vr 5 kv), (2, vi (nI s)), (3, vl 1)]) C (dx dX1_oddsThatAllCome 1 rfl) (by decide) [1, 2, 3, 0] rfl ?_
  refine r_iconst (v := nI 0) C (dx dX1_oddsThatAllCome 2 rfl) rfl ?_
  refine r_istore (ls' := [(0, vr 1 k), (1, vr 5 kv), (2, vi (nI s)), (3, vl 1), (5, vi (nI 0))]) C (dx dX1_oddsThatAllCome 3 rfl) (by decide) [1, 2, 3, 4, 0] rfl ?_
  refine loopU (Φ := fun p => Rr G 5 [(0, vr 1 k), (1, vr 5 kv), (2, vi (nI s)), (3, vl (prdL v s p)), (5, vi (nI p))] [] h) (N := vN v) ?_ ?_ 0 (Nat.zero_le _)
  ·
    refine r_iload C (dx dX1_oddsThatAllCome 4 rfl) rfl ?_
    refine r_aload_n C (dx dX1_oddsThatAllCome 5 rfl) rfl ?_
    refine g_X1_36 (x := nI (vN v)) C (dx dX1_oddsThatAllCome 6 rfl) hv.eN ?_
    refine rn_ge (a := vN v) (b := vN v) (tgt := 67) C (by omega) (by omega) (dx dX1_oddsThatAllCome 7 rfl) (by decide) (fun c1 => ?_) (fun c1 => ?_)
    · first
      | (omega; done)
      | (
          have c1 : vN v ≤ vN v := c1
          refine r_lload_n C (dx dX1_oddsThatAllCome 37 rfl) rfl ?_
          exact F.2.1 _ _ _ _ rfl (dx dX1_oddsThatAllCome 38 rfl) rfl ⟨congrArg (fun x => some (vl x)) rfl, rfl⟩)
    · first
      | (omega; done)
  ·
    intro p hp ih
    refine r_iload C (dx dX1_oddsThatAllCome 4 rfl) rfl ?_
    refine r_aload_n C (dx dX1_oddsThatAllCome 5 rfl) rfl ?_
    refine g_X1_36 (x := nI (vN v)) C (dx dX1_oddsThatAllCome 6 rfl) hv.eN ?_
    refine rn_ge (a := p) (b := vN v) (tgt := 67) C (by omega) (by omega) (dx dX1_oddsThatAllCome 7 rfl) (by decide) (fun c4 => ?_) (fun c4 => ?_)
    · first
      | (omega; done)
      | (
          have c4 : vN v ≤ p := c4
          refine r_lload_n C (dx dX1_oddsThatAllCome 37 rfl) rfl ?_
          exact F.2.1 _ _ _ _ rfl (dx dX1_oddsThatAllCome 38 rfl) rfl ⟨congrArg (fun x => some (vl x)) (show prdL v s p = prdL v s (vN v) by rfl), rfl⟩)
    · first
      | (omega; done)
      | (
          have c4 : p < vN v := c4
          refine r_aload_n C (dx dX1_oddsThatAllCome 8 rfl) rfl ?_
          refine g_X1_59 C (dx dX1_oddsThatAllCome 9 rfl) ?_
          refine r_iload C (dx dX1_oddsThatAllCome 10 rfl) rfl ?_
          refine r_zald (j := p) (x := vF v 6 p) C rfl rfl (by decide) rfl (by omega) (dx dX1_oddsThatAllCome 11 rfl) (hv.e6 (by omega)) ?_
          refine r_if_eq (tgt := 28) C (dx dX1_oddsThatAllCome 12 rfl) (by decide) (fun c5 => ?_) (fun c5 => ?_)
          ·
            have c5 : vF v 6 p = 0 := c5
            refine r_bipush (v := nI 10) C (dx dX1_oddsThatAllCome 15 rfl) rfl ?_
            refine r_aload_n C (dx dX1_oddsThatAllCome 16 rfl) rfl ?_
            refine g_X1_63 C (dx dX1_oddsThatAllCome 17 rfl) ?_
            refine r_iload C (dx dX1_oddsThatAllCome 18 rfl) rfl ?_
            refine r_iald (j := p) (x := vF v 5 p) C rfl rfl (by decide) rfl (by omega) (dx dX1_oddsThatAllCome 19 rfl) (hv.e5 (by omega)) ?_
            refine r_isub C (dx dX1_oddsThatAllCome 20 rfl) ?_
            refine r_istore (ls' := [(0, vr 1 k), (1, vr 5 kv), (2, vi (nI s)), (3, vl (prdL v s p)), (5, vi (nI p)), (6, vi ((nI 10) - (vF v 5 p)))]) C (dx dX1_oddsThatAllCome 21 rfl) (by decide) [1, 2, 3, 4, 5, 0] rfl ?_
            refine r_lload_n C (dx dX1_oddsThatAllCome 22 rfl) rfl ?_
            refine r_iload_n C (dx dX1_oddsThatAllCome 23 rfl) rfl ?_
            refine r_iconst (v := nI 1) C (dx dX1_oddsThatAllCome 24 rfl) rfl ?_
            refine r_iload C (dx dX1_oddsThatAllCome 25 rfl) rfl ?_
            refine r_ishl C (dx dX1_oddsThatAllCome 26 rfl) ?_
            refine r_iand C (dx dX1_oddsThatAllCome 27 rfl) ?_
            refine r_if_eq (tgt := 56) C (dx dX1_oddsThatAllCome 28 rfl) (by decide) (fun c6 => ?_) (fun c6 => ?_)
            ·
              have c6 : (nI s) &&& ((nI 1) <<< ((nI p) &&& 31)) = 0 := c6
              refine r_ldc2 C n_X1_66 (dx dX1_oddsThatAllCome 32 rfl) ?_
              refine r_lmul C (dx dX1_oddsThatAllCome 33 rfl) ?_
              refine r_lstore_n (ls' := [(0, vr 1 k), (1, vr 5 kv), (2, vi (nI s)), (3, vl ((prdL v s p) * 10)), (5, vi (nI p)), (6, vi ((nI 10) - (vF v 5 p)))]) C (dx dX1_oddsThatAllCome 34 rfl) (by decide) [1, 2, 3, 0, 4, 5] rfl ?_
              refine rn_iinc (a := p) (k := 1) (ls' := [(0, vr 1 k), (1, vr 5 kv), (2, vi (nI s)), (3, vl ((prdL v s p) * 10)), (5, vi (nI (p + 1))), (6, vi ((nI 10) - (vF v 5 p)))]) C (dx dX1_oddsThatAllCome 35 rfl) rfl rfl (by decide) [1, 2, 3, 4, 0, 5] rfl ?_
              refine r_goto (tgt := 5) C (dx dX1_oddsThatAllCome 36 rfl) (by decide) ?_
              have e9 : ((prdL v s p) * 10) = (prdL v s (p + 1)) := by simp [prdL, c5, c6]
              rw [e9]
              refine r_weak C [0, 1, 2, 3, 4] rfl ?_
              exact ih
            ·
              have c6 : ¬ (nI s) &&& ((nI 1) <<< ((nI p) &&& 31)) = 0 := c6
              refine r_iload C (dx dX1_oddsThatAllCome 29 rfl) rfl ?_
              refine r_i2l C (dx dX1_oddsThatAllCome 30 rfl) ?_
              refine r_goto (tgt := 59) C (dx dX1_oddsThatAllCome 31 rfl) (by decide) ?_
              refine r_lmul C (dx dX1_oddsThatAllCome 33 rfl) ?_
              refine r_lstore_n (ls' := [(0, vr 1 k), (1, vr 5 kv), (2, vi (nI s)), (3, vl ((prdL v s p) * (((nI 10) - (vF v 5 p)).toInt64))), (5, vi (nI p)), (6, vi ((nI 10) - (vF v 5 p)))]) C (dx dX1_oddsThatAllCome 34 rfl) (by decide) [1, 2, 3, 0, 4, 5] rfl ?_
              refine rn_iinc (a := p) (k := 1) (ls' := [(0, vr 1 k), (1, vr 5 kv), (2, vi (nI s)), (3, vl ((prdL v s p) * (((nI 10) - (vF v 5 p)).toInt64))), (5, vi (nI (p + 1))), (6, vi ((nI 10) - (vF v 5 p)))]) C (dx dX1_oddsThatAllCome 35 rfl) rfl rfl (by decide) [1, 2, 3, 4, 0, 5] rfl ?_
              refine r_goto (tgt := 5) C (dx dX1_oddsThatAllCome 36 rfl) (by decide) ?_
              have e9 : ((prdL v s p) * (((nI 10) - (vF v 5 p)).toInt64)) = (prdL v s (p + 1)) := by simp [prdL, c5, c6]
              rw [e9]
              refine r_weak C [0, 1, 2, 3, 4] rfl ?_
              exact ih
          ·
            have c5 : ¬ vF v 6 p = 0 := c5
            refine r_iconst (v := nI 0) C (dx dX1_oddsThatAllCome 13 rfl) rfl ?_
            refine r_goto (tgt := 38) C (dx dX1_oddsThatAllCome 14 rfl) (by decide) ?_
            refine r_istore (ls' := [(0, vr 1 k), (1, vr 5 kv), (2, vi (nI s)), (3, vl (prdL v s p)), (5, vi (nI p)), (6, vi (nI 0))]) C (dx dX1_oddsThatAllCome 21 rfl) (by decide) [1, 2, 3, 4, 5, 0] rfl ?_
            refine r_lload_n C (dx dX1_oddsThatAllCome 22 rfl) rfl ?_
            refine r_iload_n C (dx dX1_oddsThatAllCome 23 rfl) rfl ?_
            refine r_iconst (v := nI 1) C (dx dX1_oddsThatAllCome 24 rfl) rfl ?_
            refine r_iload C (dx dX1_oddsThatAllCome 25 rfl) rfl ?_
            refine r_ishl C (dx dX1_oddsThatAllCome 26 rfl) ?_
            refine r_iand C (dx dX1_oddsThatAllCome 27 rfl) ?_
            refine r_if_eq (tgt := 56) C (dx dX1_oddsThatAllCome 28 rfl) (by decide) (fun c7 => ?_) (fun c7 => ?_)
            ·
              have c7 : (nI s) &&& ((nI 1) <<< ((nI p) &&& 31)) = 0 := c7
              refine r_ldc2 C n_X1_66 (dx dX1_oddsThatAllCome 32 rfl) ?_
              refine r_lmul C (dx dX1_oddsThatAllCome 33 rfl) ?_
              refine r_lstore_n (ls' := [(0, vr 1 k), (1, vr 5 kv), (2, vi (nI s)), (3, vl ((prdL v s p) * 10)), (5, vi (nI p)), (6, vi (nI 0))]) C (dx dX1_oddsThatAllCome 34 rfl) (by decide) [1, 2, 3, 0, 4, 5] rfl ?_
              refine rn_iinc (a := p) (k := 1) (ls' := [(0, vr 1 k), (1, vr 5 kv), (2, vi (nI s)), (3, vl ((prdL v s p) * 10)), (5, vi (nI (p + 1))), (6, vi (nI 0))]) C (dx dX1_oddsThatAllCome 35 rfl) rfl rfl (by decide) [1, 2, 3, 4, 0, 5] rfl ?_
              refine r_goto (tgt := 5) C (dx dX1_oddsThatAllCome 36 rfl) (by decide) ?_
              have e9 : ((prdL v s p) * 10) = (prdL v s (p + 1)) := by simp [prdL, c5, c7]
              rw [e9]
              refine r_weak C [0, 1, 2, 3, 4] rfl ?_
              exact ih
            ·
              have c7 : ¬ (nI s) &&& ((nI 1) <<< ((nI p) &&& 31)) = 0 := c7
              refine r_iload C (dx dX1_oddsThatAllCome 29 rfl) rfl ?_
              refine r_i2l C (dx dX1_oddsThatAllCome 30 rfl) ?_
              refine r_goto (tgt := 59) C (dx dX1_oddsThatAllCome 31 rfl) (by decide) ?_
              refine r_lmul C (dx dX1_oddsThatAllCome 33 rfl) ?_
              refine r_lstore_n (ls' := [(0, vr 1 k), (1, vr 5 kv), (2, vi (nI s)), (3, vl ((prdL v s p) * ((nI 0).toInt64))), (5, vi (nI p)), (6, vi (nI 0))]) C (dx dX1_oddsThatAllCome 34 rfl) (by decide) [1, 2, 3, 0, 4, 5] rfl ?_
              refine rn_iinc (a := p) (k := 1) (ls' := [(0, vr 1 k), (1, vr 5 kv), (2, vi (nI s)), (3, vl ((prdL v s p) * ((nI 0).toInt64))), (5, vi (nI (p + 1))), (6, vi (nI 0))]) C (dx dX1_oddsThatAllCome 35 rfl) rfl rfl (by decide) [1, 2, 3, 4, 0, 5] rfl ?_
              refine r_goto (tgt := 5) C (dx dX1_oddsThatAllCome 36 rfl) (by decide) ?_
              have e9 : ((prdL v s p) * ((nI 0).toInt64)) = (prdL v s (p + 1)) := by simp [prdL, c5, c7]
              rw [e9]
              refine r_weak C [0, 1, 2, 3, 4] rfl ?_
              exact ih)
theorem p5 {j : Nat} (h : j < 4) : 2 ^ j < 32 := Nat.lt_of_lt_of_le (Nat.pow_lt_pow_right (by omega) h) (by decide)
def ChoS (l : Launch) (k kv : Nat) (v : Vg) (n : Nat) : Prop := ∀ (h : Hp) (p : Nat), p + n = vP v → VilAt h kv v → SInv h k → Ms l yX1_choose cX1_choose 4 none (n + 2) [vr 1 k, vr 5 kv, vi (nI p)] h (xK h) (fun r0 h' => r0 = none ∧ SInv h' k ∧ Fr k (k + 13) h h')
set_option maxHeartbeats 4000000 in
theorem c_choose_0 {l : Launch} {h : Hp} {k kv : Nat} {v : Vg} (hd : kv + 9 ≤ k ∨ k + 13 ≤ kv) (h6 : vP v ≤ 6) (h4 : vN v ≤ 4) {p : Nat} (hp0 : p = vP v) (hv : VilAt h kv v) (hs : SInv h k) : Ms l yX1_choose cX1_choose 4 none 2 [vr 1 k, vr 5 kv, vi (nI p)] h (xK h) (fun r0 h' => r0 = none ∧ SInv h' k ∧ Fr k (k + 13) h h') := by
  refine Ms.of (by decide) (Nat.le_of_ble_eq_true rfl) (fun G C X F => ?_)
  have C : Cx G cX1_choose 4 RX1 := C
  show Rr G 0 [(0, vr 1 k), (1, vr 5 kv), (2, vi (nI p))] [] h
  have bP := hv.bP
  have bM := hv.bM
  have bN := hv.bN
  refine r_iload_n C (dx dX1_choose 0 rfl) rfl ?_
  refine r_aload_n C (dx dX1_choose 1 rfl) rfl ?_
  refine g_X1_42 (x := nI (vP v)) C (dx dX1_choose 2 rfl) hv.eP ?_
  refine rn_ge (a := p) (b := vP v) (tgt := 14) C (by omega) (by omega) (dx dX1_choose 3 rfl) (by decide) (fun c1 => ?_) (fun c1 => ?_)
  · first
    | (omega; done)
    | (
        have c1 : vP v ≤ p := c1
        refine r_aload_n C (dx dX1_choose 7 rfl) rfl ?_
        refine r_aload_n C (dx dX1_choose 8 rfl) rfl ?_
        refine r_iload_n C (dx dX1_choose 9 rfl) rfl ?_
        refine r_cv (as := [vr 5 kv, vi (nI p)]) (st := []) C X I_X1_weigh l_X1_68 (c_X1_weigh hv hs hd (g := p) (by omega)) (by omega) (Nat.le_of_ble_eq_true rfl) List.prefix_rfl List.prefix_rfl rfl rfl (Nat.le_of_ble_eq_true rfl) rfl (dx dX1_choose 10 rfl) ?_
        intro rh2 h2 hph2 kkh2
        obtain ⟨rfl, sh2, gh2⟩ := hph2
        have fh2 : Fr k (k + 13) h h2 := gh2
        have kh2 : xK h2 = xK h := kkh2
        have wh2 : VilAt h2 kv v := hv.fr fh2 (by omega)
        exact F.2.2.1 _ _ _ rfl (dx dX1_choose 11 rfl) kh2 ⟨rfl, sh2, fh2⟩)
  · omega
set_option maxHeartbeats 4000000 in
theorem c_choose_s {l : Launch} {h : Hp} {k kv : Nat} {v : Vg} (hd : kv + 9 ≤ k ∨ k + 13 ≤ kv) (h6 : vP v ≤ 6) (h4 : vN v ≤ 4) {p n : Nat} (hp0 : p < vP v) (hpn : p + 1 + n = vP v) (ihc : ChoS l k kv v n) (hv : VilAt h kv v) (hs : SInv h k) : Ms l yX1_choose cX1_choose 4 none (n + 3) [vr 1 k, vr 5 kv, vi (nI p)] h (xK h) (fun r0 h' => r0 = none ∧ SInv h' k ∧ Fr k (k + 13) h h') := by
  refine Ms.of (by decide) (Nat.le_of_ble_eq_true rfl) (fun G C X F => ?_)
  have C : Cx G cX1_choose 4 RX1 := C
  show Rr G 0 [(0, vr 1 k), (1, vr 5 kv), (2, vi (nI p))] [] h
  have bP := hv.bP
  have bM := hv.bM
  have bN := hv.bN
  refine r_iload_n C (dx dX1_choose 0 rfl) rfl ?_
  refine r_aload_n C (dx dX1_choose 1 rfl) rfl ?_
  refine g_X1_42 (x := nI (vP v)) C (dx dX1_choose 2 rfl) hv.eP ?_
  refine rn_ge (a := p) (b := vP v) (tgt := 14) C (by omega) (by omega) (dx dX1_choose 3 rfl) (by decide) (fun c1 => ?_) (fun c1 => ?_)
  · first
    | (omega; done)
    | (
        have c1 : vP v ≤ p := c1
        refine r_aload_n C (dx dX1_choose 7 rfl) rfl ?_
        refine r_aload_n C (dx dX1_choose 8 rfl) rfl ?_
        refine r_iload_n C (dx dX1_choose 9 rfl) rfl ?_
        refine r_cv (as := [vr 5 kv, vi (nI p)]) (st := []) C X I_X1_weigh l_X1_68 (c_X1_weigh hv hs hd (g := p) (by omega)) (by omega) (Nat.le_of_ble_eq_true rfl) List.prefix_rfl List.prefix_rfl rfl rfl (Nat.le_of_ble_eq_true rfl) rfl (dx dX1_choose 10 rfl) ?_
        intro rh2 h2 hph2 kkh2
        obtain ⟨rfl, sh2, gh2⟩ := hph2
        have fh2 : Fr k (k + 13) h h2 := gh2
        have kh2 : xK h2 = xK h := kkh2
        have wh2 : VilAt h2 kv v := hv.fr fh2 (by omega)
        exact F.2.2.1 _ _ _ rfl (dx dX1_choose 11 rfl) kh2 ⟨rfl, sh2, fh2⟩)
  · first
    | (omega; done)
    | (
        have c1 : p < vP v := c1
        refine r_iload_n C (dx dX1_choose 4 rfl) rfl ?_
        refine r_bipush (v := nI 6) C (dx dX1_choose 5 rfl) rfl ?_
        refine rn_lt (a := p) (b := 6) (tgt := 21) C (by omega) (by omega) (dx dX1_choose 6 rfl) (by decide) (fun c3 => ?_) (fun c3 => ?_)
        · first
          | (omega; done)
          | (
              have c3 : p < 6 := c3
              refine r_iconst (v := -1) C (dx dX1_choose 12 rfl) rfl ?_
              refine r_istore_n (ls' := [(0, vr 1 k), (1, vr 5 kv), (2, vi (nI p)), (3, vi (-1))]) C (dx dX1_choose 13 rfl) (by decide) [1, 2, 3, 0] rfl ?_
              refine r_iload_n C (dx dX1_choose 14 rfl) rfl ?_
              refine r_aload_n C (dx dX1_choose 15 rfl) rfl ?_
              refine g_X1_36 (x := nI (vN v)) C (dx dX1_choose 16 rfl) hv.eN ?_
              refine r_icmp_ge (tgt := 121) C (dx dX1_choose 17 rfl) (by decide) (fun c4 => ?_) (fun c4 => ?_)
              · exact absurd c4 (nI_lm1 (by omega))
              ·
                have c4 : ¬ nI (vN v) ≤ -1 := c4
                refine r_iload_n C (dx dX1_choose 18 rfl) rfl ?_
                refine r_iconst (v := -1) C (dx dX1_choose 19 rfl) rfl ?_
                refine r_icmp_ne (tgt := 62) C (dx dX1_choose 20 rfl) (by decide) (fun c5 => ?_) (fun c5 => ?_)
                · exact (c5 rfl).elim
                ·
                  have c5 : (-1 : Int32) = -1 := c5
                  refine r_aload_n C (dx dX1_choose 21 rfl) rfl ?_
                  refine r_aload_n C (dx dX1_choose 22 rfl) rfl ?_
                  refine r_iload_n C (dx dX1_choose 23 rfl) rfl ?_
                  refine r_bipush (v := nI 16) C (dx dX1_choose 24 rfl) rfl ?_
                  refine r_cv (as := [vr 5 kv, vi (nI p), vi (nI 16)]) (st := []) C X I_X1_take l_X1_72 (c_X1_take hv hs hd (p := p) (w := 16) (by omega) (by omega)) (by omega) (Nat.le_of_ble_eq_true rfl) List.prefix_rfl List.prefix_rfl rfl rfl (Nat.le_of_ble_eq_true rfl) rfl (dx dX1_choose 25 rfl) ?_
                  intro rh6 h6 hph6 kkh6
                  obtain ⟨rfl, sh6, gh6⟩ := hph6
                  have fh6 : Fr k (k + 13) h h6 := gh6
                  have kh6 : xK h6 = xK h := kkh6
                  have wh6 : VilAt h6 kv v := hv.fr fh6 (by omega)
                  refine r_aload_n C (dx dX1_choose 26 rfl) rfl ?_
                  refine g_X1_9 C (dx dX1_choose 27 rfl) ?_
                  refine r_iload_n C (dx dX1_choose 28 rfl) rfl ?_
                  refine r_iconst (v := -1) C (dx dX1_choose 29 rfl) rfl ?_
                  refine r_iast (j := p) C rfl rfl (by decide) rfl (by omega) (dx dX1_choose 30 rfl) ?_
                  have sh7 : SInv (sI h6 (k + 1) p (-1)) k := sh6.fr (Fr.sI (lo := k + 1) (hi := k + 2) (by omega) (by omega)) (by omega)
                  have fh7 : Fr k (k + 13) h (sI h6 (k + 1) p (-1)) := fh6.tr (Fr.sI (by omega) (by omega))
                  have kh7 : xK (sI h6 (k + 1) p (-1)) = xK h := kh6
                  have wh7 : VilAt (sI h6 (k + 1) p (-1)) kv v := hv.fr fh7 (by omega)
                  generalize sI h6 (k + 1) p (-1) = h7 at sh7 fh7 kh7 wh7 ⊢
                  refine r_aload_n C (dx dX1_choose 31 rfl) rfl ?_
                  refine r_aload_n C (dx dX1_choose 32 rfl) rfl ?_
                  refine r_iload_n C (dx dX1_choose 33 rfl) rfl ?_
                  refine r_iconst (v := nI 1) C (dx dX1_choose 34 rfl) rfl ?_
                  refine rn_iadd (a := p) (b := 1) C (dx dX1_choose 35 rfl) ?_
                  refine r_cs (as := [vr 1 k, vr 5 kv, vi (nI (p + 1))]) (st := []) C X I_X1_choose l_X1_55 (ihc _ _ (by omega) wh7 sh7) (by omega) (Nat.le_of_ble_eq_true rfl) List.prefix_rfl (pfx_eq kh7) (Nat.le_of_ble_eq_true rfl) rfl (dx dX1_choose 36 rfl) ?_
                  intro rh8 h8 hph8 kkh8
                  obtain ⟨rfl, sh8, gh8⟩ := hph8
                  have fh8 : Fr k (k + 13) h h8 := fh7.tr gh8
                  have kh8 : xK h8 = xK h := kkh8.trans kh7
                  have wh8 : VilAt h8 kv v := hv.fr fh8 (by omega)
                  refine r_goto (tgt := 115) C (dx dX1_choose 37 rfl) (by decide) ?_
                  refine r_iinc (ls' := [(0, vr 1 k), (1, vr 5 kv), (2, vi (nI p)), (3, vi (-1 + (1)))]) C (dx dX1_choose 77 rfl) rfl rfl (by decide) [1, 2, 3, 0] rfl ?_
                  refine r_goto (tgt := 23) C (dx dX1_choose 78 rfl) (by decide) ?_
                  rw [show (-1 + (1) : Int32) = nI 0 from by decide]
                  refine loopU (Φ := fun j => ∀ h9, SInv h9 k → Fr k (k + 13) h h9 → xK h9 = xK h → Rr G 23 [(0, vr 1 k), (1, vr 5 kv), (2, vi (nI p)), (3, vi (nI j))] [] h9) (N := vN v) ?_ ?_ 0 (Nat.zero_le _) _ sh8 fh8 kh8
                  ·
                    intro h9 sh9 fh9 kh9
                    have wh9 : VilAt h9 kv v := hv.fr fh9 (by omega)
                    refine r_iload_n C (dx dX1_choose 14 rfl) rfl ?_
                    refine r_aload_n C (dx dX1_choose 15 rfl) rfl ?_
                    refine g_X1_36 (x := nI (vN v)) C (dx dX1_choose 16 rfl) wh9.eN ?_
                    refine rn_ge (a := vN v) (b := vN v) (tgt := 121) C (by omega) (by omega) (dx dX1_choose 17 rfl) (by decide) (fun c10 => ?_) (fun c10 => ?_)
                    · first
                      | (omega; done)
                      | (
                          have c10 : vN v ≤ vN v := c10
                          exact F.2.2.1 _ _ _ rfl (dx dX1_choose 79 rfl) kh9 ⟨rfl, sh9, fh9⟩)
                    · first
                      | (omega; done)
                  ·
                    intro j hj ih h13 sh13 fh13 kh13
                    have wh13 : VilAt h13 kv v := hv.fr fh13 (by omega)
                    refine r_iload_n C (dx dX1_choose 14 rfl) rfl ?_
                    refine r_aload_n C (dx dX1_choose 15 rfl) rfl ?_
                    refine g_X1_36 (x := nI (vN v)) C (dx dX1_choose 16 rfl) wh13.eN ?_
                    refine rn_ge (a := j) (b := vN v) (tgt := 121) C (by omega) (by omega) (dx dX1_choose 17 rfl) (by decide) (fun c14 => ?_) (fun c14 => ?_)
                    · first
                      | (omega; done)
                      | (
                          have c14 : vN v ≤ j := c14
                          exact F.2.2.1 _ _ _ rfl (dx dX1_choose 79 rfl) kh13 ⟨rfl, sh13, fh13⟩)
                    · first
                      | (omega; done)
                      | (
                          have c14 : j < vN v := c14
                          refine r_iload_n C (dx dX1_choose 18 rfl) rfl ?_
                          refine r_iconst (v := -1) C (dx dX1_choose 19 rfl) rfl ?_
                          refine r_icmp_ne (tgt := 62) C (dx dX1_choose 20 rfl) (by decide) (fun c15 => ?_) (fun c15 => ?_)
                          ·
                            have c15 : ¬ nI j = -1 := c15
                            refine r_aload_n C (dx dX1_choose 38 rfl) rfl ?_
                            refine g_X1_18 C (dx dX1_choose 39 rfl) ?_
                            refine r_iload_n C (dx dX1_choose 40 rfl) rfl ?_
                            refine r_iald (j := j) (x := xI h13 (k + 3) j) C rfl rfl (by decide) rfl (by omega) (dx dX1_choose 41 rfl) rfl ?_
                            refine r_if_le (tgt := 115) C (dx dX1_choose 42 rfl) (by decide) (fun c16 => ?_) (fun c16 => ?_)
                            ·
                              have c16 : xI h13 (k + 3) j ≤ 0 := c16
                              refine rn_iinc (a := j) (k := 1) (ls' := [(0, vr 1 k), (1, vr 5 kv), (2, vi (nI p)), (3, vi (nI (j + 1)))]) C (dx dX1_choose 77 rfl) rfl rfl (by decide) [1, 2, 3, 0] rfl ?_
                              refine r_goto (tgt := 23) C (dx dX1_choose 78 rfl) (by decide) ?_
                              exact ih _ sh13 fh13 kh13
                            ·
                              have c16 : ¬ xI h13 (k + 3) j ≤ 0 := c16
                              refine r_aload_n C (dx dX1_choose 43 rfl) rfl ?_
                              refine r_aload_n C (dx dX1_choose 44 rfl) rfl ?_
                              refine r_iload_n C (dx dX1_choose 45 rfl) rfl ?_
                              refine r_iconst (v := nI 1) C (dx dX1_choose 46 rfl) rfl ?_
                              refine r_iload_n C (dx dX1_choose 47 rfl) rfl ?_
                              refine rn_sh1 (o := j) C (by omega) (dx dX1_choose 48 rfl) ?_
                              refine r_cv (as := [vr 5 kv, vi (nI p), vi (nI (2 ^ j))]) (st := []) C X I_X1_take l_X1_72 (c_X1_take wh13 sh13 hd (p := p) (w := 2 ^ j) (by omega) (p5 (by omega))) (by omega) (Nat.le_of_ble_eq_true rfl) List.prefix_rfl (pfx_eq kh13) rfl rfl (Nat.le_of_ble_eq_true rfl) rfl (dx dX1_choose 49 rfl) ?_
                              intro rh17 h17 hph17 kkh17
                              obtain ⟨rfl, sh17, gh17⟩ := hph17
                              have fh17 : Fr k (k + 13) h h17 := fh13.tr gh17
                              have kh17 : xK h17 = xK h := kkh17.trans kh13
                              have wh17 : VilAt h17 kv v := hv.fr fh17 (by omega)
                              refine r_aload_n C (dx dX1_choose 50 rfl) rfl ?_
                              refine g_X1_9 C (dx dX1_choose 51 rfl) ?_
                              refine r_iload_n C (dx dX1_choose 52 rfl) rfl ?_
                              refine r_iload_n C (dx dX1_choose 53 rfl) rfl ?_
                              refine r_iast (j := p) C rfl rfl (by decide) rfl (by omega) (dx dX1_choose 54 rfl) ?_
                              have sh18 : SInv (sI h17 (k + 1) p (nI j)) k := sh17.fr (Fr.sI (lo := k + 1) (hi := k + 2) (by omega) (by omega)) (by omega)
                              have fh18 : Fr k (k + 13) h (sI h17 (k + 1) p (nI j)) := fh17.tr (Fr.sI (by omega) (by omega))
                              have kh18 : xK (sI h17 (k + 1) p (nI j)) = xK h := kh17
                              have wh18 : VilAt (sI h17 (k + 1) p (nI j)) kv v := hv.fr fh18 (by omega)
                              generalize sI h17 (k + 1) p (nI j) = h18 at sh18 fh18 kh18 wh18 ⊢
                              refine r_aload_n C (dx dX1_choose 55 rfl) rfl ?_
                              refine g_X1_18 C (dx dX1_choose 56 rfl) ?_
                              refine r_iload_n C (dx dX1_choose 57 rfl) rfl ?_
                              refine r_dup2 C (dx dX1_choose 58 rfl) ?_
                              refine r_iald (j := j) (x := xI h18 (k + 3) j) C rfl rfl (by decide) rfl (by omega) (dx dX1_choose 59 rfl) rfl ?_
                              refine r_iconst (v := nI 1) C (dx dX1_choose 60 rfl) rfl ?_
                              refine r_isub C (dx dX1_choose 61 rfl) ?_
                              refine r_iast (j := j) C rfl rfl (by decide) rfl (by omega) (dx dX1_choose 62 rfl) ?_
                              have sh19 : SInv (sI h18 (k + 3) j ((xI h18 (k + 3) j) - (nI 1))) k := sh18.fr (Fr.sI (lo := k + 3) (hi := k + 4) (by omega) (by omega)) (by omega)
                              have fh19 : Fr k (k + 13) h (sI h18 (k + 3) j ((xI h18 (k + 3) j) - (nI 1))) := fh18.tr (Fr.sI (by omega) (by omega))
                              have kh19 : xK (sI h18 (k + 3) j ((xI h18 (k + 3) j) - (nI 1))) = xK h := kh18
                              have wh19 : VilAt (sI h18 (k + 3) j ((xI h18 (k + 3) j) - (nI 1))) kv v := hv.fr fh19 (by omega)
                              generalize sI h18 (k + 3) j ((xI h18 (k + 3) j) - (nI 1)) = h19 at sh19 fh19 kh19 wh19 ⊢
                              refine r_aload_n C (dx dX1_choose 63 rfl) rfl ?_
                              refine r_aload_n C (dx dX1_choose 64 rfl) rfl ?_
                              refine r_iload_n C (dx dX1_choose 65 rfl) rfl ?_
                              refine r_iconst (v := nI 1) C (dx dX1_choose 66 rfl) rfl ?_
                              refine rn_iadd (a := p) (b := 1) C (dx dX1_choose 67 rfl) ?_
                              refine r_cs (as := [vr 1 k, vr 5 kv, vi (nI (p + 1))]) (st := []) C X I_X1_choose l_X1_55 (ihc _ _ (by omega) wh19 sh19) (by omega) (Nat.le_of_ble_eq_true rfl) List.prefix_rfl (pfx_eq kh19) (Nat.le_of_ble_eq_true rfl) rfl (dx dX1_choose 68 rfl) ?_
                              intro rh20 h20 hph20 kkh20
                              obtain ⟨rfl, sh20, gh20⟩ := hph20
                              have fh20 : Fr k (k + 13) h h20 := fh19.tr gh20
                              have kh20 : xK h20 = xK h := kkh20.trans kh19
                              have wh20 : VilAt h20 kv v := hv.fr fh20 (by omega)
                              refine r_aload_n C (dx dX1_choose 69 rfl) rfl ?_
                              refine g_X1_18 C (dx dX1_choose 70 rfl) ?_
                              refine r_iload_n C (dx dX1_choose 71 rfl) rfl ?_
                              refine r_dup2 C (dx dX1_choose 72 rfl) ?_
                              refine r_iald (j := j) (x := xI h20 (k + 3) j) C rfl rfl (by decide) rfl (by omega) (dx dX1_choose 73 rfl) rfl ?_
                              refine r_iconst (v := nI 1) C (dx dX1_choose 74 rfl) rfl ?_
                              refine r_iadd C (dx dX1_choose 75 rfl) ?_
                              refine r_iast (j := j) C rfl rfl (by decide) rfl (by omega) (dx dX1_choose 76 rfl) ?_
                              have sh21 : SInv (sI h20 (k + 3) j ((xI h20 (k + 3) j) + (nI 1))) k := sh20.fr (Fr.sI (lo := k + 3) (hi := k + 4) (by omega) (by omega)) (by omega)
                              have fh21 : Fr k (k + 13) h (sI h20 (k + 3) j ((xI h20 (k + 3) j) + (nI 1))) := fh20.tr (Fr.sI (by omega) (by omega))
                              have kh21 : xK (sI h20 (k + 3) j ((xI h20 (k + 3) j) + (nI 1))) = xK h := kh20
                              have wh21 : VilAt (sI h20 (k + 3) j ((xI h20 (k + 3) j) + (nI 1))) kv v := hv.fr fh21 (by omega)
                              generalize sI h20 (k + 3) j ((xI h20 (k + 3) j) + (nI 1)) = h21 at sh21 fh21 kh21 wh21 ⊢
                              refine rn_iinc (a := j) (k := 1) (ls' := [(0, vr 1 k), (1, vr 5 kv), (2, vi (nI p)), (3, vi (nI (j + 1)))]) C (dx dX1_choose 77 rfl) rfl rfl (by decide) [1, 2, 3, 0] rfl ?_
                              refine r_goto (tgt := 23) C (dx dX1_choose 78 rfl) (by decide) ?_
                              exact ih _ sh21 fh21 kh21
                          · exact absurd c15 (nI_nm1 (by omega))))
        · first
          | (omega; done)
          | (
              have c3 : 6 ≤ p := c3
              refine r_aload_n C (dx dX1_choose 7 rfl) rfl ?_
              refine r_aload_n C (dx dX1_choose 8 rfl) rfl ?_
              refine r_iload_n C (dx dX1_choose 9 rfl) rfl ?_
              refine r_cv (as := [vr 5 kv, vi (nI p)]) (st := []) C X I_X1_weigh l_X1_68 (c_X1_weigh hv hs hd (g := p) (by omega)) (by omega) (Nat.le_of_ble_eq_true rfl) List.prefix_rfl List.prefix_rfl rfl rfl (Nat.le_of_ble_eq_true rfl) rfl (dx dX1_choose 10 rfl) ?_
              intro rh22 h22 hph22 kkh22
              obtain ⟨rfl, sh22, gh22⟩ := hph22
              have fh22 : Fr k (k + 13) h h22 := gh22
              have kh22 : xK h22 = xK h := kkh22
              have wh22 : VilAt h22 kv v := hv.fr fh22 (by omega)
              exact F.2.2.1 _ _ _ rfl (dx dX1_choose 11 rfl) kh22 ⟨rfl, sh22, fh22⟩))
theorem c_choose {l : Launch} {k kv : Nat} {v : Vg} (hd : kv + 9 ≤ k ∨ k + 13 ≤ kv) (h6 : vP v ≤ 6) (h4 : vN v ≤ 4) : ∀ n, ChoS l k kv v n
  | 0 => fun _ _ hp hv hs => c_choose_0 hd h6 h4 (by omega) hv hs
  | n + 1 => fun _ _ hp hv hs => c_choose_s hd h6 h4 (by omega) (by omega) (c_choose hd h6 h4 n) hv hs
set_option maxHeartbeats 4000000 in
theorem c_X1_run {l : Launch} {h : Hp} {k kv : Nat} {v : Vg} (hv : VilAt h kv v) (hs : SInv h k) (hd : kv + 9 ≤ k ∨ k + 13 ≤ kv)  : Ms l yX1_run cX1_run 3 none 9 [vr 1 k, vr 5 kv] h (xK h) (fun r0 h' => r0 = none ∧ SInv h' k ∧ Fr k (k + 13) h h') := by
  refine Ms.of (by decide) (Nat.le_of_ble_eq_true rfl) (fun G C X F => ?_)
  have C : Cx G cX1_run 3 RX1 := C
  show Rr G 0 [(0, vr 1 k), (1, vr 5 kv)] [] h
  have bP := hv.bP
  have bM := hv.bM
  have bN := hv.bN
  refine r_aload_n C (dx dX1_run 0 rfl) rfl ?_
  refine r_ldc2 C n_X1_30 (dx dX1_run 1 rfl) ?_
  refine p_X1_32 C (dx dX1_run 2 rfl) ?_
  have sh1 : SInv (sL h k 5 (-1)) k := hs.fr (Fr.sL (lo := k) (hi := k + 1) (by omega) (by omega)) (by omega)
  have fh1 : Fr k (k + 13) h (sL h k 5 (-1)) := (Fr.sL (by omega) (by omega))
  have kh1 : xK (sL h k 5 (-1)) = xK h := rfl
  have wh1 : VilAt (sL h k 5 (-1)) kv v := hv.fr fh1 (by omega)
  generalize sL h k 5 (-1) = h1 at sh1 fh1 kh1 wh1 ⊢
  refine r_aload_n C (dx dX1_run 3 rfl) rfl ?_
  refine g_X1_36 (x := nI (vN v)) C (dx dX1_run 4 rfl) wh1.eN ?_
  refine r_iconst (v := nI 4) C (dx dX1_run 5 rfl) rfl ?_
  refine rn_gt (a := vN v) (b := 4) (tgt := 24) C (by omega) (by omega) (dx dX1_run 6 rfl) (by decide) (fun c2 => ?_) (fun c2 => ?_)
  · first
    | (omega; done)
    | (
        have c2 : 4 < vN v := c2
        exact F.2.2.1 _ _ _ rfl (dx dX1_run 11 rfl) kh1 ⟨rfl, sh1, fh1⟩)
  · first
    | (omega; done)
    | (
        have c2 : vN v ≤ 4 := c2
        refine r_aload_n C (dx dX1_run 7 rfl) rfl ?_
        refine g_X1_42 (x := nI (vP v)) C (dx dX1_run 8 rfl) wh1.eP ?_
        refine r_bipush (v := nI 6) C (dx dX1_run 9 rfl) rfl ?_
        refine rn_le (a := vP v) (b := 6) (tgt := 25) C (by omega) (by omega) (dx dX1_run 10 rfl) (by decide) (fun c3 => ?_) (fun c3 => ?_)
        · first
          | (omega; done)
          | (
              have c3 : vP v ≤ 6 := c3
              refine r_iconst (v := nI 0) C (dx dX1_run 12 rfl) rfl ?_
              refine r_istore_n (ls' := [(0, vr 1 k), (1, vr 5 kv), (2, vi (nI 0))]) C (dx dX1_run 13 rfl) (by decide) [1, 2, 0] rfl ?_
              refine loopU (Φ := fun j => ∀ h9, SInv h9 k → Fr k (k + 13) h h9 → xK h9 = xK h → Rr G 27 [(0, vr 1 k), (1, vr 5 kv), (2, vi (nI j))] [] h9) (N := 16) ?_ ?_ 0 (Nat.zero_le _) _ sh1 fh1 kh1
              ·
                intro h4 sh4 fh4 kh4
                have wh4 : VilAt h4 kv v := hv.fr fh4 (by omega)
                refine r_iload_n C (dx dX1_run 14 rfl) rfl ?_
                refine r_bipush (v := nI 16) C (dx dX1_run 15 rfl) rfl ?_
                refine rn_ge (a := 16) (b := 16) (tgt := 51) C (by omega) (by omega) (dx dX1_run 16 rfl) (by decide) (fun c5 => ?_) (fun c5 => ?_)
                · first
                  | (omega; done)
                  | (
                      have c5 : 16 ≤ 16 := c5
                      refine r_iconst (v := nI 0) C (dx dX1_run 27 rfl) rfl ?_
                      refine r_istore_n (ls' := [(0, vr 1 k), (1, vr 5 kv), (2, vi (nI 0))]) C (dx dX1_run 28 rfl) (by decide) [1, 2, 0] rfl ?_
                      refine loopU (Φ := fun j => ∀ h9, SInv h9 k → Fr k (k + 13) h h9 → xK h9 = xK h → Rr G 53 [(0, vr 1 k), (1, vr 5 kv), (2, vi (nI j))] [] h9) (N := vN v) ?_ ?_ 0 (Nat.zero_le _) _ sh4 fh4 kh4
                      ·
                        intro h6 sh6 fh6 kh6
                        have wh6 : VilAt h6 kv v := hv.fr fh6 (by omega)
                        refine r_iload_n C (dx dX1_run 29 rfl) rfl ?_
                        refine r_aload_n C (dx dX1_run 30 rfl) rfl ?_
                        refine g_X1_36 (x := nI (vN v)) C (dx dX1_run 31 rfl) wh6.eN ?_
                        refine rn_ge (a := vN v) (b := vN v) (tgt := 79) C (by omega) (by omega) (dx dX1_run 32 rfl) (by decide) (fun c7 => ?_) (fun c7 => ?_)
                        · first
                          | (omega; done)
                          | (
                              have c7 : vN v ≤ vN v := c7
                              refine r_iconst (v := nI 0) C (dx dX1_run 43 rfl) rfl ?_
                              refine r_istore_n (ls' := [(0, vr 1 k), (1, vr 5 kv), (2, vi (nI 0))]) C (dx dX1_run 44 rfl) (by decide) [1, 2, 0] rfl ?_
                              refine loopU (Φ := fun j => ∀ h9, SInv h9 k → Fr k (k + 13) h h9 → xK h9 = xK h → Rr G 81 [(0, vr 1 k), (1, vr 5 kv), (2, vi (nI j))] [] h9) (N := vM v) ?_ ?_ 0 (Nat.zero_le _) _ sh6 fh6 kh6
                              ·
                                intro h8 sh8 fh8 kh8
                                have wh8 : VilAt h8 kv v := hv.fr fh8 (by omega)
                                refine r_iload_n C (dx dX1_run 45 rfl) rfl ?_
                                refine r_aload_n C (dx dX1_run 46 rfl) rfl ?_
                                refine g_X1_52 (x := nI (vM v)) C (dx dX1_run 47 rfl) wh8.eM ?_
                                refine rn_ge (a := vM v) (b := vM v) (tgt := 104) C (by omega) (by omega) (dx dX1_run 48 rfl) (by decide) (fun c9 => ?_) (fun c9 => ?_)
                                · first
                                  | (omega; done)
                                  | (
                                      have c9 : vM v ≤ vM v := c9
                                      refine r_aload_n C (dx dX1_run 58 rfl) rfl ?_
                                      refine r_aload_n C (dx dX1_run 59 rfl) rfl ?_
                                      refine r_iconst (v := nI 0) C (dx dX1_run 60 rfl) rfl ?_
                                      refine r_cs (as := [vr 1 k, vr 5 kv, vi (nI 0)]) (st := []) C X I_X1_choose l_X1_55 (c_choose hd (by omega) (by omega) (vP v) _ 0 (by omega) wh8 sh8) (by omega) (Nat.le_of_ble_eq_true rfl) List.prefix_rfl (pfx_eq kh8) (Nat.le_of_ble_eq_true rfl) rfl (dx dX1_run 61 rfl) ?_
                                      intro rh10 h10 hph10 kkh10
                                      obtain ⟨rfl, sh10, gh10⟩ := hph10
                                      have fh10 : Fr k (k + 13) h h10 := fh8.tr gh10
                                      have kh10 : xK h10 = xK h := kkh10.trans kh8
                                      have wh10 : VilAt h10 kv v := hv.fr fh10 (by omega)
                                      exact F.2.2.1 _ _ _ rfl (dx dX1_run 62 rfl) kh10 ⟨rfl, sh10, fh10⟩)
                                · first
                                  | (omega; done)
                              ·
                                intro j hj ih h12 sh12 fh12 kh12
                                have wh12 : VilAt h12 kv v := hv.fr fh12 (by omega)
                                refine r_iload_n C (dx dX1_run 45 rfl) rfl ?_
                                refine r_aload_n C (dx dX1_run 46 rfl) rfl ?_
                                refine g_X1_52 (x := nI (vM v)) C (dx dX1_run 47 rfl) wh12.eM ?_
                                refine rn_ge (a := j) (b := vM v) (tgt := 104) C (by omega) (by omega) (dx dX1_run 48 rfl) (by decide) (fun c13 => ?_) (fun c13 => ?_)
                                · first
                                  | (omega; done)
                                  | (
                                      have c13 : vM v ≤ j := c13
                                      refine r_aload_n C (dx dX1_run 58 rfl) rfl ?_
                                      refine r_aload_n C (dx dX1_run 59 rfl) rfl ?_
                                      refine r_iconst (v := nI 0) C (dx dX1_run 60 rfl) rfl ?_
                                      refine r_cs (as := [vr 1 k, vr 5 kv, vi (nI 0)]) (st := []) C X I_X1_choose l_X1_55 (c_choose hd (by omega) (by omega) (vP v) _ 0 (by omega) wh12 sh12) (by omega) (Nat.le_of_ble_eq_true rfl) List.prefix_rfl (pfx_eq kh12) (Nat.le_of_ble_eq_true rfl) rfl (dx dX1_run 61 rfl) ?_
                                      intro rh14 h14 hph14 kkh14
                                      obtain ⟨rfl, sh14, gh14⟩ := hph14
                                      have fh14 : Fr k (k + 13) h h14 := fh12.tr gh14
                                      have kh14 : xK h14 = xK h := kkh14.trans kh12
                                      have wh14 : VilAt h14 kv v := hv.fr fh14 (by omega)
                                      exact F.2.2.1 _ _ _ rfl (dx dX1_run 62 rfl) kh14 ⟨rfl, sh14, fh14⟩)
                                · first
                                  | (omega; done)
                                  | (
                                      have c13 : j < vM v := c13
                                      refine r_aload_n C (dx dX1_run 49 rfl) rfl ?_
                                      refine g_X1_23 C (dx dX1_run 50 rfl) ?_
                                      refine r_iconst (v := nI 0) C (dx dX1_run 51 rfl) rfl ?_
                                      refine r_aald4 (j := 0) C rfl rfl (by decide) rfl (by omega) (dx dX1_run 52 rfl) ?_
                                      refine r_iload_n C (dx dX1_run 53 rfl) rfl ?_
                                      refine r_iconst (v := nI 0) C (dx dX1_run 54 rfl) rfl ?_
                                      refine r_iast (j := j) C rfl rfl (by decide) rfl (by omega) (dx dX1_run 55 rfl) ?_
                                      have sh15 : SInv (sI h12 (k + 5) j (nI 0)) k := sh12.st (q := 0) ⟨0, by omega, rfl⟩
                                      have fh15 : Fr k (k + 13) h (sI h12 (k + 5) j (nI 0)) := fh12.tr (Fr.sI (by omega) (by omega))
                                      have kh15 : xK (sI h12 (k + 5) j (nI 0)) = xK h := kh12
                                      have wh15 : VilAt (sI h12 (k + 5) j (nI 0)) kv v := hv.fr fh15 (by omega)
                                      generalize sI h12 (k + 5) j (nI 0) = h15 at sh15 fh15 kh15 wh15 ⊢
                                      refine rn_iinc (a := j) (k := 1) (ls' := [(0, vr 1 k), (1, vr 5 kv), (2, vi (nI (j + 1)))]) C (dx dX1_run 56 rfl) rfl rfl (by decide) [1, 2, 0] rfl ?_
                                      refine r_goto (tgt := 81) C (dx dX1_run 57 rfl) (by decide) ?_
                                      exact ih _ sh15 fh15 kh15))
                        · first
                          | (omega; done)
                      ·
                        intro j hj ih h17 sh17 fh17 kh17
                        have wh17 : VilAt h17 kv v := hv.fr fh17 (by omega)
                        refine r_iload_n C (dx dX1_run 29 rfl) rfl ?_
                        refine r_aload_n C (dx dX1_run 30 rfl) rfl ?_
                        refine g_X1_36 (x := nI (vN v)) C (dx dX1_run 31 rfl) wh17.eN ?_
                        refine rn_ge (a := j) (b := vN v) (tgt := 79) C (by omega) (by omega) (dx dX1_run 32 rfl) (by decide) (fun c18 => ?_) (fun c18 => ?_)
                        · first
                          | (omega; done)
                          | (
                              have c18 : vN v ≤ j := c18
                              refine r_iconst (v := nI 0) C (dx dX1_run 43 rfl) rfl ?_
                              refine r_istore_n (ls' := [(0, vr 1 k), (1, vr 5 kv), (2, vi (nI 0))]) C (dx dX1_run 44 rfl) (by decide) [1, 2, 0] rfl ?_
                              refine loopU (Φ := fun j => ∀ h9, SInv h9 k → Fr k (k + 13) h h9 → xK h9 = xK h → Rr G 81 [(0, vr 1 k), (1, vr 5 kv), (2, vi (nI j))] [] h9) (N := vM v) ?_ ?_ 0 (Nat.zero_le _) _ sh17 fh17 kh17
                              ·
                                intro h19 sh19 fh19 kh19
                                have wh19 : VilAt h19 kv v := hv.fr fh19 (by omega)
                                refine r_iload_n C (dx dX1_run 45 rfl) rfl ?_
                                refine r_aload_n C (dx dX1_run 46 rfl) rfl ?_
                                refine g_X1_52 (x := nI (vM v)) C (dx dX1_run 47 rfl) wh19.eM ?_
                                refine rn_ge (a := vM v) (b := vM v) (tgt := 104) C (by omega) (by omega) (dx dX1_run 48 rfl) (by decide) (fun c20 => ?_) (fun c20 => ?_)
                                · first
                                  | (omega; done)
                                  | (
                                      have c20 : vM v ≤ vM v := c20
                                      refine r_aload_n C (dx dX1_run 58 rfl) rfl ?_
                                      refine r_aload_n C (dx dX1_run 59 rfl) rfl ?_
                                      refine r_iconst (v := nI 0) C (dx dX1_run 60 rfl) rfl ?_
                                      refine r_cs (as := [vr 1 k, vr 5 kv, vi (nI 0)]) (st := []) C X I_X1_choose l_X1_55 (c_choose hd (by omega) (by omega) (vP v) _ 0 (by omega) wh19 sh19) (by omega) (Nat.le_of_ble_eq_true rfl) List.prefix_rfl (pfx_eq kh19) (Nat.le_of_ble_eq_true rfl) rfl (dx dX1_run 61 rfl) ?_
                                      intro rh21 h21 hph21 kkh21
                                      obtain ⟨rfl, sh21, gh21⟩ := hph21
                                      have fh21 : Fr k (k + 13) h h21 := fh19.tr gh21
                                      have kh21 : xK h21 = xK h := kkh21.trans kh19
                                      have wh21 : VilAt h21 kv v := hv.fr fh21 (by omega)
                                      exact F.2.2.1 _ _ _ rfl (dx dX1_run 62 rfl) kh21 ⟨rfl, sh21, fh21⟩)
                                · first
                                  | (omega; done)
                              ·
                                intro j hj ih h23 sh23 fh23 kh23
                                have wh23 : VilAt h23 kv v := hv.fr fh23 (by omega)
                                refine r_iload_n C (dx dX1_run 45 rfl) rfl ?_
                                refine r_aload_n C (dx dX1_run 46 rfl) rfl ?_
                                refine g_X1_52 (x := nI (vM v)) C (dx dX1_run 47 rfl) wh23.eM ?_
                                refine rn_ge (a := j) (b := vM v) (tgt := 104) C (by omega) (by omega) (dx dX1_run 48 rfl) (by decide) (fun c24 => ?_) (fun c24 => ?_)
                                · first
                                  | (omega; done)
                                  | (
                                      have c24 : vM v ≤ j := c24
                                      refine r_aload_n C (dx dX1_run 58 rfl) rfl ?_
                                      refine r_aload_n C (dx dX1_run 59 rfl) rfl ?_
                                      refine r_iconst (v := nI 0) C (dx dX1_run 60 rfl) rfl ?_
                                      refine r_cs (as := [vr 1 k, vr 5 kv, vi (nI 0)]) (st := []) C X I_X1_choose l_X1_55 (c_choose hd (by omega) (by omega) (vP v) _ 0 (by omega) wh23 sh23) (by omega) (Nat.le_of_ble_eq_true rfl) List.prefix_rfl (pfx_eq kh23) (Nat.le_of_ble_eq_true rfl) rfl (dx dX1_run 61 rfl) ?_
                                      intro rh25 h25 hph25 kkh25
                                      obtain ⟨rfl, sh25, gh25⟩ := hph25
                                      have fh25 : Fr k (k + 13) h h25 := fh23.tr gh25
                                      have kh25 : xK h25 = xK h := kkh25.trans kh23
                                      have wh25 : VilAt h25 kv v := hv.fr fh25 (by omega)
                                      exact F.2.2.1 _ _ _ rfl (dx dX1_run 62 rfl) kh25 ⟨rfl, sh25, fh25⟩)
                                · first
                                  | (omega; done)
                                  | (
                                      have c24 : j < vM v := c24
                                      refine r_aload_n C (dx dX1_run 49 rfl) rfl ?_
                                      refine g_X1_23 C (dx dX1_run 50 rfl) ?_
                                      refine r_iconst (v := nI 0) C (dx dX1_run 51 rfl) rfl ?_
                                      refine r_aald4 (j := 0) C rfl rfl (by decide) rfl (by omega) (dx dX1_run 52 rfl) ?_
                                      refine r_iload_n C (dx dX1_run 53 rfl) rfl ?_
                                      refine r_iconst (v := nI 0) C (dx dX1_run 54 rfl) rfl ?_
                                      refine r_iast (j := j) C rfl rfl (by decide) rfl (by omega) (dx dX1_run 55 rfl) ?_
                                      have sh26 : SInv (sI h23 (k + 5) j (nI 0)) k := sh23.st (q := 0) ⟨0, by omega, rfl⟩
                                      have fh26 : Fr k (k + 13) h (sI h23 (k + 5) j (nI 0)) := fh23.tr (Fr.sI (by omega) (by omega))
                                      have kh26 : xK (sI h23 (k + 5) j (nI 0)) = xK h := kh23
                                      have wh26 : VilAt (sI h23 (k + 5) j (nI 0)) kv v := hv.fr fh26 (by omega)
                                      generalize sI h23 (k + 5) j (nI 0) = h26 at sh26 fh26 kh26 wh26 ⊢
                                      refine rn_iinc (a := j) (k := 1) (ls' := [(0, vr 1 k), (1, vr 5 kv), (2, vi (nI (j + 1)))]) C (dx dX1_run 56 rfl) rfl rfl (by decide) [1, 2, 0] rfl ?_
                                      refine r_goto (tgt := 81) C (dx dX1_run 57 rfl) (by decide) ?_
                                      exact ih _ sh26 fh26 kh26))
                        · first
                          | (omega; done)
                          | (
                              have c18 : j < vN v := c18
                              refine r_aload_n C (dx dX1_run 33 rfl) rfl ?_
                              refine g_X1_18 C (dx dX1_run 34 rfl) ?_
                              refine r_iload_n C (dx dX1_run 35 rfl) rfl ?_
                              refine r_aload_n C (dx dX1_run 36 rfl) rfl ?_
                              refine g_X1_49 C (dx dX1_run 37 rfl) ?_
                              refine r_iload_n C (dx dX1_run 38 rfl) rfl ?_
                              refine r_iald (j := j) (x := vF v 4 j) C rfl rfl (by decide) rfl (by omega) (dx dX1_run 39 rfl) (wh17.e4 (by omega)) ?_
                              refine r_iast (j := j) C rfl rfl (by decide) rfl (by omega) (dx dX1_run 40 rfl) ?_
                              have sh27 : SInv (sI h17 (k + 3) j (vF v 4 j)) k := sh17.fr (Fr.sI (lo := k + 3) (hi := k + 4) (by omega) (by omega)) (by omega)
                              have fh27 : Fr k (k + 13) h (sI h17 (k + 3) j (vF v 4 j)) := fh17.tr (Fr.sI (by omega) (by omega))
                              have kh27 : xK (sI h17 (k + 3) j (vF v 4 j)) = xK h := kh17
                              have wh27 : VilAt (sI h17 (k + 3) j (vF v 4 j)) kv v := hv.fr fh27 (by omega)
                              generalize sI h17 (k + 3) j (vF v 4 j) = h27 at sh27 fh27 kh27 wh27 ⊢
                              refine rn_iinc (a := j) (k := 1) (ls' := [(0, vr 1 k), (1, vr 5 kv), (2, vi (nI (j + 1)))]) C (dx dX1_run 41 rfl) rfl rfl (by decide) [1, 2, 0] rfl ?_
                              refine r_goto (tgt := 53) C (dx dX1_run 42 rfl) (by decide) ?_
                              exact ih _ sh27 fh27 kh27))
                · first
                  | (omega; done)
              ·
                intro j hj ih h29 sh29 fh29 kh29
                have wh29 : VilAt h29 kv v := hv.fr fh29 (by omega)
                refine r_iload_n C (dx dX1_run 14 rfl) rfl ?_
                refine r_bipush (v := nI 16) C (dx dX1_run 15 rfl) rfl ?_
                refine rn_ge (a := j) (b := 16) (tgt := 51) C (by omega) (by omega) (dx dX1_run 16 rfl) (by decide) (fun c30 => ?_) (fun c30 => ?_)
                · first
                  | (omega; done)
                  | (
                      have c30 : 16 ≤ j := c30
                      refine r_iconst (v := nI 0) C (dx dX1_run 27 rfl) rfl ?_
                      refine r_istore_n (ls' := [(0, vr 1 k), (1, vr 5 kv), (2, vi (nI 0))]) C (dx dX1_run 28 rfl) (by decide) [1, 2, 0] rfl ?_
                      refine loopU (Φ := fun j => ∀ h9, SInv h9 k → Fr k (k + 13) h h9 → xK h9 = xK h → Rr G 53 [(0, vr 1 k), (1, vr 5 kv), (2, vi (nI j))] [] h9) (N := vN v) ?_ ?_ 0 (Nat.zero_le _) _ sh29 fh29 kh29
                      ·
                        intro h31 sh31 fh31 kh31
                        have wh31 : VilAt h31 kv v := hv.fr fh31 (by omega)
                        refine r_iload_n C (dx dX1_run 29 rfl) rfl ?_
                        refine r_aload_n C (dx dX1_run 30 rfl) rfl ?_
                        refine g_X1_36 (x := nI (vN v)) C (dx dX1_run 31 rfl) wh31.eN ?_
                        refine rn_ge (a := vN v) (b := vN v) (tgt := 79) C (by omega) (by omega) (dx dX1_run 32 rfl) (by decide) (fun c32 => ?_) (fun c32 => ?_)
                        · first
                          | (omega; done)
                          | (
                              have c32 : vN v ≤ vN v := c32
                              refine r_iconst (v := nI 0) C (dx dX1_run 43 rfl) rfl ?_
                              refine r_istore_n (ls' := [(0, vr 1 k), (1, vr 5 kv), (2, vi (nI 0))]) C (dx dX1_run 44 rfl) (by decide) [1, 2, 0] rfl ?_
                              refine loopU (Φ := fun j => ∀ h9, SInv h9 k → Fr k (k + 13) h h9 → xK h9 = xK h → Rr G 81 [(0, vr 1 k), (1, vr 5 kv), (2, vi (nI j))] [] h9) (N := vM v) ?_ ?_ 0 (Nat.zero_le _) _ sh31 fh31 kh31
                              ·
                                intro h33 sh33 fh33 kh33
                                have wh33 : VilAt h33 kv v := hv.fr fh33 (by omega)
                                refine r_iload_n C (dx dX1_run 45 rfl) rfl ?_
                                refine r_aload_n C (dx dX1_run 46 rfl) rfl ?_
                                refine g_X1_52 (x := nI (vM v)) C (dx dX1_run 47 rfl) wh33.eM ?_
                                refine rn_ge (a := vM v) (b := vM v) (tgt := 104) C (by omega) (by omega) (dx dX1_run 48 rfl) (by decide) (fun c34 => ?_) (fun c34 => ?_)
                                · first
                                  | (omega; done)
                                  | (
                                      have c34 : vM v ≤ vM v := c34
                                      refine r_aload_n C (dx dX1_run 58 rfl) rfl ?_
                                      refine r_aload_n C (dx dX1_run 59 rfl) rfl ?_
                                      refine r_iconst (v := nI 0) C (dx dX1_run 60 rfl) rfl ?_
                                      refine r_cs (as := [vr 1 k, vr 5 kv, vi (nI 0)]) (st := []) C X I_X1_choose l_X1_55 (c_choose hd (by omega) (by omega) (vP v) _ 0 (by omega) wh33 sh33) (by omega) (Nat.le_of_ble_eq_true rfl) List.prefix_rfl (pfx_eq kh33) (Nat.le_of_ble_eq_true rfl) rfl (dx dX1_run 61 rfl) ?_
                                      intro rh35 h35 hph35 kkh35
                                      obtain ⟨rfl, sh35, gh35⟩ := hph35
                                      have fh35 : Fr k (k + 13) h h35 := fh33.tr gh35
                                      have kh35 : xK h35 = xK h := kkh35.trans kh33
                                      have wh35 : VilAt h35 kv v := hv.fr fh35 (by omega)
                                      exact F.2.2.1 _ _ _ rfl (dx dX1_run 62 rfl) kh35 ⟨rfl, sh35, fh35⟩)
                                · first
                                  | (omega; done)
                              ·
                                intro j hj ih h37 sh37 fh37 kh37
                                have wh37 : VilAt h37 kv v := hv.fr fh37 (by omega)
                                refine r_iload_n C (dx dX1_run 45 rfl) rfl ?_
                                refine r_aload_n C (dx dX1_run 46 rfl) rfl ?_
                                refine g_X1_52 (x := nI (vM v)) C (dx dX1_run 47 rfl) wh37.eM ?_
                                refine rn_ge (a := j) (b := vM v) (tgt := 104) C (by omega) (by omega) (dx dX1_run 48 rfl) (by decide) (fun c38 => ?_) (fun c38 => ?_)
                                · first
                                  | (omega; done)
                                  | (
                                      have c38 : vM v ≤ j := c38
                                      refine r_aload_n C (dx dX1_run 58 rfl) rfl ?_
                                      refine r_aload_n C (dx dX1_run 59 rfl) rfl ?_
                                      refine r_iconst (v := nI 0) C (dx dX1_run 60 rfl) rfl ?_
                                      refine r_cs (as := [vr 1 k, vr 5 kv, vi (nI 0)]) (st := []) C X I_X1_choose l_X1_55 (c_choose hd (by omega) (by omega) (vP v) _ 0 (by omega) wh37 sh37) (by omega) (Nat.le_of_ble_eq_true rfl) List.prefix_rfl (pfx_eq kh37) (Nat.le_of_ble_eq_true rfl) rfl (dx dX1_run 61 rfl) ?_
                                      intro rh39 h39 hph39 kkh39
                                      obtain ⟨rfl, sh39, gh39⟩ := hph39
                                      have fh39 : Fr k (k + 13) h h39 := fh37.tr gh39
                                      have kh39 : xK h39 = xK h := kkh39.trans kh37
                                      have wh39 : VilAt h39 kv v := hv.fr fh39 (by omega)
                                      exact F.2.2.1 _ _ _ rfl (dx dX1_run 62 rfl) kh39 ⟨rfl, sh39, fh39⟩)
                                · first
                                  | (omega; done)
                                  | (
                                      have c38 : j < vM v := c38
                                      refine r_aload_n C (dx dX1_run 49 rfl) rfl ?_
                                      refine g_X1_23 C (dx dX1_run 50 rfl) ?_
                                      refine r_iconst (v := nI 0) C (dx dX1_run 51 rfl) rfl ?_
                                      refine r_aald4 (j := 0) C rfl rfl (by decide) rfl (by omega) (dx dX1_run 52 rfl) ?_
                                      refine r_iload_n C (dx dX1_run 53 rfl) rfl ?_
                                      refine r_iconst (v := nI 0) C (dx dX1_run 54 rfl) rfl ?_
                                      refine r_iast (j := j) C rfl rfl (by decide) rfl (by omega) (dx dX1_run 55 rfl) ?_
                                      have sh40 : SInv (sI h37 (k + 5) j (nI 0)) k := sh37.st (q := 0) ⟨0, by omega, rfl⟩
                                      have fh40 : Fr k (k + 13) h (sI h37 (k + 5) j (nI 0)) := fh37.tr (Fr.sI (by omega) (by omega))
                                      have kh40 : xK (sI h37 (k + 5) j (nI 0)) = xK h := kh37
                                      have wh40 : VilAt (sI h37 (k + 5) j (nI 0)) kv v := hv.fr fh40 (by omega)
                                      generalize sI h37 (k + 5) j (nI 0) = h40 at sh40 fh40 kh40 wh40 ⊢
                                      refine rn_iinc (a := j) (k := 1) (ls' := [(0, vr 1 k), (1, vr 5 kv), (2, vi (nI (j + 1)))]) C (dx dX1_run 56 rfl) rfl rfl (by decide) [1, 2, 0] rfl ?_
                                      refine r_goto (tgt := 81) C (dx dX1_run 57 rfl) (by decide) ?_
                                      exact ih _ sh40 fh40 kh40))
                        · first
                          | (omega; done)
                      ·
                        intro j hj ih h42 sh42 fh42 kh42
                        have wh42 : VilAt h42 kv v := hv.fr fh42 (by omega)
                        refine r_iload_n C (dx dX1_run 29 rfl) rfl ?_
                        refine r_aload_n C (dx dX1_run 30 rfl) rfl ?_
                        refine g_X1_36 (x := nI (vN v)) C (dx dX1_run 31 rfl) wh42.eN ?_
                        refine rn_ge (a := j) (b := vN v) (tgt := 79) C (by omega) (by omega) (dx dX1_run 32 rfl) (by decide) (fun c43 => ?_) (fun c43 => ?_)
                        · first
                          | (omega; done)
                          | (
                              have c43 : vN v ≤ j := c43
                              refine r_iconst (v := nI 0) C (dx dX1_run 43 rfl) rfl ?_
                              refine r_istore_n (ls' := [(0, vr 1 k), (1, vr 5 kv), (2, vi (nI 0))]) C (dx dX1_run 44 rfl) (by decide) [1, 2, 0] rfl ?_
                              refine loopU (Φ := fun j => ∀ h9, SInv h9 k → Fr k (k + 13) h h9 → xK h9 = xK h → Rr G 81 [(0, vr 1 k), (1, vr 5 kv), (2, vi (nI j))] [] h9) (N := vM v) ?_ ?_ 0 (Nat.zero_le _) _ sh42 fh42 kh42
                              ·
                                intro h44 sh44 fh44 kh44
                                have wh44 : VilAt h44 kv v := hv.fr fh44 (by omega)
                                refine r_iload_n C (dx dX1_run 45 rfl) rfl ?_
                                refine r_aload_n C (dx dX1_run 46 rfl) rfl ?_
                                refine g_X1_52 (x := nI (vM v)) C (dx dX1_run 47 rfl) wh44.eM ?_
                                refine rn_ge (a := vM v) (b := vM v) (tgt := 104) C (by omega) (by omega) (dx dX1_run 48 rfl) (by decide) (fun c45 => ?_) (fun c45 => ?_)
                                · first
                                  | (omega; done)
                                  | (
                                      have c45 : vM v ≤ vM v := c45
                                      refine r_aload_n C (dx dX1_run 58 rfl) rfl ?_
                                      refine r_aload_n C (dx dX1_run 59 rfl) rfl ?_
                                      refine r_iconst (v := nI 0) C (dx dX1_run 60 rfl) rfl ?_
                                      refine r_cs (as := [vr 1 k, vr 5 kv, vi (nI 0)]) (st := []) C X I_X1_choose l_X1_55 (c_choose hd (by omega) (by omega) (vP v) _ 0 (by omega) wh44 sh44) (by omega) (Nat.le_of_ble_eq_true rfl) List.prefix_rfl (pfx_eq kh44) (Nat.le_of_ble_eq_true rfl) rfl (dx dX1_run 61 rfl) ?_
                                      intro rh46 h46 hph46 kkh46
                                      obtain ⟨rfl, sh46, gh46⟩ := hph46
                                      have fh46 : Fr k (k + 13) h h46 := fh44.tr gh46
                                      have kh46 : xK h46 = xK h := kkh46.trans kh44
                                      have wh46 : VilAt h46 kv v := hv.fr fh46 (by omega)
                                      exact F.2.2.1 _ _ _ rfl (dx dX1_run 62 rfl) kh46 ⟨rfl, sh46, fh46⟩)
                                · first
                                  | (omega; done)
                              ·
                                intro j hj ih h48 sh48 fh48 kh48
                                have wh48 : VilAt h48 kv v := hv.fr fh48 (by omega)
                                refine r_iload_n C (dx dX1_run 45 rfl) rfl ?_
                                refine r_aload_n C (dx dX1_run 46 rfl) rfl ?_
                                refine g_X1_52 (x := nI (vM v)) C (dx dX1_run 47 rfl) wh48.eM ?_
                                refine rn_ge (a := j) (b := vM v) (tgt := 104) C (by omega) (by omega) (dx dX1_run 48 rfl) (by decide) (fun c49 => ?_) (fun c49 => ?_)
                                · first
                                  | (omega; done)
                                  | (
                                      have c49 : vM v ≤ j := c49
                                      refine r_aload_n C (dx dX1_run 58 rfl) rfl ?_
                                      refine r_aload_n C (dx dX1_run 59 rfl) rfl ?_
                                      refine r_iconst (v := nI 0) C (dx dX1_run 60 rfl) rfl ?_
                                      refine r_cs (as := [vr 1 k, vr 5 kv, vi (nI 0)]) (st := []) C X I_X1_choose l_X1_55 (c_choose hd (by omega) (by omega) (vP v) _ 0 (by omega) wh48 sh48) (by omega) (Nat.le_of_ble_eq_true rfl) List.prefix_rfl (pfx_eq kh48) (Nat.le_of_ble_eq_true rfl) rfl (dx dX1_run 61 rfl) ?_
                                      intro rh50 h50 hph50 kkh50
                                      obtain ⟨rfl, sh50, gh50⟩ := hph50
                                      have fh50 : Fr k (k + 13) h h50 := fh48.tr gh50
                                      have kh50 : xK h50 = xK h := kkh50.trans kh48
                                      have wh50 : VilAt h50 kv v := hv.fr fh50 (by omega)
                                      exact F.2.2.1 _ _ _ rfl (dx dX1_run 62 rfl) kh50 ⟨rfl, sh50, fh50⟩)
                                · first
                                  | (omega; done)
                                  | (
                                      have c49 : j < vM v := c49
                                      refine r_aload_n C (dx dX1_run 49 rfl) rfl ?_
                                      refine g_X1_23 C (dx dX1_run 50 rfl) ?_
                                      refine r_iconst (v := nI 0) C (dx dX1_run 51 rfl) rfl ?_
                                      refine r_aald4 (j := 0) C rfl rfl (by decide) rfl (by omega) (dx dX1_run 52 rfl) ?_
                                      refine r_iload_n C (dx dX1_run 53 rfl) rfl ?_
                                      refine r_iconst (v := nI 0) C (dx dX1_run 54 rfl) rfl ?_
                                      refine r_iast (j := j) C rfl rfl (by decide) rfl (by omega) (dx dX1_run 55 rfl) ?_
                                      have sh51 : SInv (sI h48 (k + 5) j (nI 0)) k := sh48.st (q := 0) ⟨0, by omega, rfl⟩
                                      have fh51 : Fr k (k + 13) h (sI h48 (k + 5) j (nI 0)) := fh48.tr (Fr.sI (by omega) (by omega))
                                      have kh51 : xK (sI h48 (k + 5) j (nI 0)) = xK h := kh48
                                      have wh51 : VilAt (sI h48 (k + 5) j (nI 0)) kv v := hv.fr fh51 (by omega)
                                      generalize sI h48 (k + 5) j (nI 0) = h51 at sh51 fh51 kh51 wh51 ⊢
                                      refine rn_iinc (a := j) (k := 1) (ls' := [(0, vr 1 k), (1, vr 5 kv), (2, vi (nI (j + 1)))]) C (dx dX1_run 56 rfl) rfl rfl (by decide) [1, 2, 0] rfl ?_
                                      refine r_goto (tgt := 81) C (dx dX1_run 57 rfl) (by decide) ?_
                                      exact ih _ sh51 fh51 kh51))
                        · first
                          | (omega; done)
                          | (
                              have c43 : j < vN v := c43
                              refine r_aload_n C (dx dX1_run 33 rfl) rfl ?_
                              refine g_X1_18 C (dx dX1_run 34 rfl) ?_
                              refine r_iload_n C (dx dX1_run 35 rfl) rfl ?_
                              refine r_aload_n C (dx dX1_run 36 rfl) rfl ?_
                              refine g_X1_49 C (dx dX1_run 37 rfl) ?_
                              refine r_iload_n C (dx dX1_run 38 rfl) rfl ?_
                              refine r_iald (j := j) (x := vF v 4 j) C rfl rfl (by decide) rfl (by omega) (dx dX1_run 39 rfl) (wh42.e4 (by omega)) ?_
                              refine r_iast (j := j) C rfl rfl (by decide) rfl (by omega) (dx dX1_run 40 rfl) ?_
                              have sh52 : SInv (sI h42 (k + 3) j (vF v 4 j)) k := sh42.fr (Fr.sI (lo := k + 3) (hi := k + 4) (by omega) (by omega)) (by omega)
                              have fh52 : Fr k (k + 13) h (sI h42 (k + 3) j (vF v 4 j)) := fh42.tr (Fr.sI (by omega) (by omega))
                              have kh52 : xK (sI h42 (k + 3) j (vF v 4 j)) = xK h := kh42
                              have wh52 : VilAt (sI h42 (k + 3) j (vF v 4 j)) kv v := hv.fr fh52 (by omega)
                              generalize sI h42 (k + 3) j (vF v 4 j) = h52 at sh52 fh52 kh52 wh52 ⊢
                              refine rn_iinc (a := j) (k := 1) (ls' := [(0, vr 1 k), (1, vr 5 kv), (2, vi (nI (j + 1)))]) C (dx dX1_run 41 rfl) rfl rfl (by decide) [1, 2, 0] rfl ?_
                              refine r_goto (tgt := 53) C (dx dX1_run 42 rfl) (by decide) ?_
                              exact ih _ sh52 fh52 kh52))
                · first
                  | (omega; done)
                  | (
                      have c30 : j < 16 := c30
                      refine r_aload_n C (dx dX1_run 17 rfl) rfl ?_
                      refine g_X1_26 C (dx dX1_run 18 rfl) ?_
                      refine r_iload_n C (dx dX1_run 19 rfl) rfl ?_
                      refine r_aload_n C (dx dX1_run 20 rfl) rfl ?_
                      refine r_aload_n C (dx dX1_run 21 rfl) rfl ?_
                      refine r_iload_n C (dx dX1_run 22 rfl) rfl ?_
                      refine r_cvP (as := [vr 5 kv, vi (nI j)]) (st := [vi (nI j), vr 28 (k + 12)]) (v := vl (prdL v j (vN v))) C X I_X1_oddsThatAllCome l_X1_45 (c_X1_oddsThatAllCome wh29 sh29 hd j) (by omega) (Nat.le_of_ble_eq_true rfl) (pfx_eq kh29) rfl rfl (Nat.le_of_ble_eq_true rfl) rfl (dx dX1_run 23 rfl) ?_
                      refine r_last (j := j) C rfl rfl (by decide) rfl (by omega) (dx dX1_run 24 rfl) ?_
                      have sh53 : SInv (sL h29 (k + 12) j (prdL v j (vN v))) k := sh29.fr (Fr.sL (lo := k + 12) (hi := k + 13) (by omega) (by omega)) (by omega)
                      have fh53 : Fr k (k + 13) h (sL h29 (k + 12) j (prdL v j (vN v))) := fh29.tr (Fr.sL (by omega) (by omega))
                      have kh53 : xK (sL h29 (k + 12) j (prdL v j (vN v))) = xK h := kh29
                      have wh53 : VilAt (sL h29 (k + 12) j (prdL v j (vN v))) kv v := hv.fr fh53 (by omega)
                      generalize sL h29 (k + 12) j (prdL v j (vN v)) = h53 at sh53 fh53 kh53 wh53 ⊢
                      refine rn_iinc (a := j) (k := 1) (ls' := [(0, vr 1 k), (1, vr 5 kv), (2, vi (nI (j + 1)))]) C (dx dX1_run 25 rfl) rfl rfl (by decide) [1, 2, 0] rfl ?_
                      refine r_goto (tgt := 27) C (dx dX1_run 26 rfl) (by decide) ?_
                      exact ih _ sh53 fh53 kh53))
        · first
          | (omega; done)
          | (
              have c3 : 6 < vP v := c3
              exact F.2.2.1 _ _ _ rfl (dx dX1_run 11 rfl) kh1 ⟨rfl, sh1, fh1⟩))
set_option maxHeartbeats 4000000 in
theorem c_X1_holderOf {l : Launch} {h : Hp} {k a : Nat} (ha : a < 6) : Mp l yX1_holderOf cX1_holderOf 2 (some .int) 1 [vr 1 k, vi (nI a)] h (vi (xI h (k + 2) a)) := by
  refine Ms.of (by decide) (Nat.le_of_ble_eq_true rfl) (fun G C X F => ?_)
  have C : Cx G cX1_holderOf 2 RX1 := C
  show Rr G 0 [(0, vr 1 k), (1, vi (nI a))] [] h
  refine r_iload_n C (dx dX1_holderOf 0 rfl) rfl ?_
  refine r_if_lt (tgt := 22) C (dx dX1_holderOf 1 rfl) (by decide) (fun c1 => ?_) (fun c1 => ?_)
  · exact absurd c1 (nI_pos (by omega))
  ·
    have c1 : ¬ nI a < 0 := c1
    refine r_iload_n C (dx dX1_holderOf 2 rfl) rfl ?_
    refine r_aload_n C (dx dX1_holderOf 3 rfl) rfl ?_
    refine g_X1_15 C (dx dX1_holderOf 4 rfl) ?_
    refine r_alen0 (v := nI 6) C rfl rfl rfl (dx dX1_holderOf 5 rfl) ?_
    refine rn_ge (a := a) (b := 6) (tgt := 22) C (by omega) (by omega) (dx dX1_holderOf 6 rfl) (by decide) (fun c2 => ?_) (fun c2 => ?_)
    · first
      | (omega; done)
      | (
          have c2 : 6 ≤ a := c2
          refine r_iconst (v := -1) C (dx dX1_holderOf 12 rfl) rfl ?_
          exact F.1 _ _ _ _ _ rfl rfl (dx dX1_holderOf 13 rfl) rfl ⟨congrArg (fun x => some (vi x)) (show -1 = xI h (k + 2) a by simp), rfl⟩)
    · first
      | (omega; done)
      | (
          have c2 : a < 6 := c2
          refine r_aload_n C (dx dX1_holderOf 7 rfl) rfl ?_
          refine g_X1_15 C (dx dX1_holderOf 8 rfl) ?_
          refine r_iload_n C (dx dX1_holderOf 9 rfl) rfl ?_
          refine r_iald (j := a) (x := xI h (k + 2) a) C rfl rfl (by decide) rfl (by omega) (dx dX1_holderOf 10 rfl) rfl ?_
          refine r_goto (tgt := 23) C (dx dX1_holderOf 11 rfl) (by decide) ?_
          exact F.1 _ _ _ _ _ rfl rfl (dx dX1_holderOf 13 rfl) rfl ⟨congrArg (fun x => some (vi x)) rfl, rfl⟩)
set_option maxHeartbeats 4000000 in
theorem c_X1_greatestDay {l : Launch} {h : Hp} {k : Nat} : Mp l yX1_greatestDay cX1_greatestDay 1 (some .long) 1 [vr 1 k] h (vl (xL h k 5)) := by
  refine Ms.of (by decide) (Nat.le_of_ble_eq_true rfl) (fun G C X F => ?_)
  have C : Cx G cX1_greatestDay 1 RX1 := C
  show Rr G 0 [(0, vr 1 k)] [] h
  refine r_aload_n C (dx dX1_greatestDay 0 rfl) rfl ?_
  refine g_X1_32 C (dx dX1_greatestDay 1 rfl) rfl ?_
  exact F.2.1 _ _ _ _ rfl (dx dX1_greatestDay 2 rfl) rfl ⟨congrArg (fun x => some (vl x)) rfl, rfl⟩
end
