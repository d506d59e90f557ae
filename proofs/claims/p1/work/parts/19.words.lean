/-! PART 19: words of the tape -/
theorem nI_z {t : Nat} (h : t < 2 ^ 31) : nI t = 0 ↔ t = 0 := by rw [← nI_0]; exact nI_eq h (by omega)
def allF (P : Nat → Bool) : Nat → Bool
  | 0 => true
  | n + 1 => allF P n && P n
theorem all_no {P : Nat → Bool} {p : Nat} (q : P p = false) : ∀ n, p < n → allF P n = false
  | 0, h => absurd h (by omega)
  | n + 1, h => by
    simp only [allF]
    by_cases e : p = n
    · subst e; rw [q, Bool.and_false]
    · rw [all_no q n (by omega), Bool.false_and]
/-- the token is a word -/
def wdB (i : Nat) (B : Nat → Int32) (z t s e : Nat) : Bool := decide (t = 0) && (decide (e - s = txL.getD i 0) && allF (fun j => decide (btA B z (s + j) = txc i j)) (txL.getD i 0))
set_option maxHeartbeats 4000000 in
theorem c_X3_isWord {l : Launch} {h : Hp} {k : Nat} {B : Nat → Int32} {z t s e : Nat} (hk : TkAt h k B z t s e) (ht5 : t < 5) (hse : s ≤ e) (hez : e ≤ z) {i : Nat} (hi : i < 10) : Mp l yX3_isWord cX3_isWord 3 (some .boolean) 5 [vr 3 k, vt (1000 + i)] h (vi (b2i (wdB i B z t s e))) := by
  refine Ms.of (by decide) (Nat.le_of_ble_eq_true rfl) (fun G C X F => ?_)
  have C : Cx G cX3_isWord 3 RX3 := C
  show Rr G 0 [(0, vr 3 k), (1, vt (1000 + i))] [] h
  have bz := hk.1.2.2
  have bl := tx_len hi
  refine r_aload_n C (dx dX3_isWord 0 rfl) rfl ?_
  refine g_X3_19 (x := nI t) C (dx dX3_isWord 1 rfl) hk.2.1 ?_
  refine r_if_ne (tgt := 23) C (dx dX3_isWord 2 rfl) (by decide) (fun c1 => ?_) (fun c1 => ?_)
  ·
    have c1 : ¬ nI t = 0 := c1
    refine r_iconst (v := nI 0) C (dx dX3_isWord 11 rfl) rfl ?_
    exact F.1 _ _ _ _ _ rfl rfl (dx dX3_isWord 12 rfl) rfl ⟨congrArg (fun x => some (vi x)) (show nI 0 = b2i _ by rw [show (wdB i B z t s e) = false by (unfold wdB; rw [decide_eq_false (fun q => c1 ((nI_z (by omega)).mpr q))]; rfl)]; rfl), rfl⟩
  ·
    have c1 : nI t = 0 := c1
    refine r_aload_n C (dx dX3_isWord 3 rfl) rfl ?_
    refine g_X3_25 (x := nI e) C (dx dX3_isWord 4 rfl) hk.2.2.2 ?_
    refine r_aload_n C (dx dX3_isWord 5 rfl) rfl ?_
    refine g_X3_22 (x := nI s) C (dx dX3_isWord 6 rfl) hk.2.2.1 ?_
    refine rn_isub (a := e) (b := s) C (by omega) (dx dX3_isWord 7 rfl) ?_
    refine r_aload_nT C (dx dX3_isWord 8 rfl) rfl ?_
    refine r_cvTP (as := []) (st := [vi (nI (e - s))]) (v := vi (nI (txL.getD i 0))) C X hi I_J0_length_8abf5 l_X3_121 (c_J0_length_8abf5 hi) (by decide) (Nat.le_of_ble_eq_true rfl) List.prefix_rfl rfl (Nat.le_of_ble_eq_true rfl) rfl (dx dX3_isWord 9 rfl) ?_
    refine rn_eq (a := e - s) (b := txL.getD i 0) (tgt := 25) C (by omega) (by omega) (dx dX3_isWord 10 rfl) (by decide) (fun c2 => ?_) (fun c2 => ?_)
    · first
      | (omega; done)
      | (
          have c2 : e - s = txL.getD i 0 := c2
          refine r_iconst (v := nI 0) C (dx dX3_isWord 13 rfl) rfl ?_
          refine r_istore_n (ls' := [(0, vr 3 k), (1, vt (1000 + i)), (2, vi (nI 0))]) C (dx dX3_isWord 14 rfl) (by decide) [1, 2, 0] rfl ?_
          have et : t = 0 := (nI_z (by omega)).mp c1
          have el : e - s = txL.getD i 0 := c2
          refine loopU (Φ := fun p => allF (fun j => decide (btA B z (s + j) = txc i j)) p = true → Rr G 27 [(0, vr 3 k), (1, vt (1000 + i)), (2, vi (nI p))] [] h) (N := txL.getD i 0) ?_ ?_ 0 (Nat.zero_le _) rfl
          ·
            intro hA
            refine r_iload_n C (dx dX3_isWord 15 rfl) rfl ?_
            refine r_aload_nT C (dx dX3_isWord 16 rfl) rfl ?_
            refine r_cvTP (as := []) (st := [vi (nI (txL.getD i 0))]) (v := vi (nI (txL.getD i 0))) C X hi I_J0_length_8abf5 l_X3_121 (c_J0_length_8abf5 hi) (by decide) (Nat.le_of_ble_eq_true rfl) List.prefix_rfl rfl (Nat.le_of_ble_eq_true rfl) rfl (dx dX3_isWord 17 rfl) ?_
            refine rn_ge (a := txL.getD i 0) (b := txL.getD i 0) (tgt := 61) C (by omega) (by omega) (dx dX3_isWord 18 rfl) (by decide) (fun c3 => ?_) (fun c3 => ?_)
            · first
              | (omega; done)
              | (
                  have c3 : txL.getD i 0 ≤ txL.getD i 0 := c3
                  refine r_iconst (v := nI 1) C (dx dX3_isWord 33 rfl) rfl ?_
                  exact F.1 _ _ _ _ _ rfl rfl (dx dX3_isWord 34 rfl) rfl ⟨congrArg (fun x => some (vi x)) (show nI 1 = b2i _ by rw [show (wdB i B z t s e) = true by (unfold wdB; rw [et, el, hA]; simp)]; rfl), rfl⟩)
            · first
              | (omega; done)
          ·
            intro p hp ih hA
            refine r_iload_n C (dx dX3_isWord 15 rfl) rfl ?_
            refine r_aload_nT C (dx dX3_isWord 16 rfl) rfl ?_
            refine r_cvTP (as := []) (st := [vi (nI p)]) (v := vi (nI (txL.getD i 0))) C X hi I_J0_length_8abf5 l_X3_121 (c_J0_length_8abf5 hi) (by decide) (Nat.le_of_ble_eq_true rfl) List.prefix_rfl rfl (Nat.le_of_ble_eq_true rfl) rfl (dx dX3_isWord 17 rfl) ?_
            refine rn_ge (a := p) (b := txL.getD i 0) (tgt := 61) C (by omega) (by omega) (dx dX3_isWord 18 rfl) (by decide) (fun c5 => ?_) (fun c5 => ?_)
            · first
              | (omega; done)
              | (
                  have c5 : txL.getD i 0 ≤ p := c5
                  refine r_iconst (v := nI 1) C (dx dX3_isWord 33 rfl) rfl ?_
                  exact F.1 _ _ _ _ _ rfl rfl (dx dX3_isWord 34 rfl) rfl ⟨congrArg (fun x => some (vi x)) (show nI 1 = b2i _ by rw [show (wdB i B z t s e) = true by (unfold wdB; rw [et, el, hA]; simp)]; rfl), rfl⟩)
            · first
              | (omega; done)
              | (
                  have c5 : p < txL.getD i 0 := c5
                  refine r_aload_n C (dx dX3_isWord 19 rfl) rfl ?_
                  refine r_aload_n C (dx dX3_isWord 20 rfl) rfl ?_
                  refine g_X3_22 (x := nI s) C (dx dX3_isWord 21 rfl) hk.2.2.1 ?_
                  refine r_iload_n C (dx dX3_isWord 22 rfl) rfl ?_
                  refine rn_iadd (a := s) (b := p) C (dx dX3_isWord 23 rfl) ?_
                  refine r_cvP (as := [vi (nI (s + p))]) (st := []) (v := vi (btA B z (s + p))) C X I_X3_byteAt l_X3_113 (c_X3_byteAt hk.1 (a := s + p) (by omega)) (by decide) (Nat.le_of_ble_eq_true rfl) List.prefix_rfl rfl rfl (Nat.le_of_ble_eq_true rfl) rfl (dx dX3_isWord 24 rfl) ?_
                  refine r_aload_nT C (dx dX3_isWord 25 rfl) rfl ?_
                  refine r_iload_n C (dx dX3_isWord 26 rfl) rfl ?_
                  refine r_cvTP (as := [vi (nI p)]) (st := [vi (btA B z (s + p))]) (v := vi (txc i p)) C X hi I_J0_charAt_5068e l_X3_126 (c_J0_charAt_5068e (j := p) hi (by omega)) (by decide) (Nat.le_of_ble_eq_true rfl) List.prefix_rfl rfl (Nat.le_of_ble_eq_true rfl) rfl (dx dX3_isWord 27 rfl) ?_
                  refine r_icmp_eq (tgt := 55) C (dx dX3_isWord 28 rfl) (by decide) (fun c6 => ?_) (fun c6 => ?_)
                  ·
                    have c6 : btA B z (s + p) = txc i p := c6
                    refine rn_iinc (a := p) (k := 1) (ls' := [(0, vr 3 k), (1, vt (1000 + i)), (2, vi (nI (p + 1)))]) C (dx dX3_isWord 31 rfl) rfl rfl (by decide) [1, 2, 0] rfl ?_
                    refine r_goto (tgt := 27) C (dx dX3_isWord 32 rfl) (by decide) ?_
                    exact ih (by simp only [allF]; rw [hA, Bool.true_and]; exact decide_eq_true c6)
                  ·
                    have c6 : ¬ btA B z (s + p) = txc i p := c6
                    refine r_iconst (v := nI 0) C (dx dX3_isWord 29 rfl) rfl ?_
                    exact F.1 _ _ _ _ _ rfl rfl (dx dX3_isWord 30 rfl) rfl ⟨congrArg (fun x => some (vi x)) (show nI 0 = b2i _ by rw [show (wdB i B z t s e) = false by (unfold wdB; rw [all_no (p := p) (decide_eq_false c6) _ hp]; simp)]; rfl), rfl⟩))
    · first
      | (omega; done)
      | (
          have c2 : ¬ e - s = txL.getD i 0 := c2
          refine r_iconst (v := nI 0) C (dx dX3_isWord 11 rfl) rfl ?_
          exact F.1 _ _ _ _ _ rfl rfl (dx dX3_isWord 12 rfl) rfl ⟨congrArg (fun x => some (vi x)) (show nI 0 = b2i _ by rw [show (wdB i B z t s e) = false by (unfold wdB; rw [decide_eq_false (p := e - s = txL.getD i 0) c2]; simp)]; rfl), rfl⟩)

