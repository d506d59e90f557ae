/-! PART 16: the tape -/
def TapAt (h : Hp) (k : Nat) (B : Nat → Int32) (z : Nat) : Prop := (∀ i, i < 250 → xI h (k + 1) i = B i) ∧ xI h k 1 = nI z ∧ z ≤ 250
theorem tp_z {h : Hp} {k z z' : Nat} {B : Nat → Int32} (a : TapAt h k B z) (hz : z' ≤ 250) : TapAt (sI h k 1 (nI z')) k B z' :=
  ⟨fun i hi => by rw [sI_ne (by omega)]; exact a.1 i hi, by rw [sI_at]; rfl, hz⟩
def btA (B : Nat → Int32) (z a : Nat) : Int32 := if a < z then B a else -1
def isG : Nat → Int32 → Bool
  | 0, b => decide (b = nI 32)
  | 1, b => !decide (b < nI 97) && !decide (nI 122 < b)
  | _, b => !decide (b < nI 48) && !decide (nI 57 < b)
def enF (γ : Nat) (B : Nat → Int32) : Nat → Nat → Nat
  | 0, p => p
  | n + 1, p => if isG γ (B p) = true then enF γ B n (p + 1) else p
/-- the first place from one on where nothing of a group stands -/
def enO (γ : Nat) (B : Nat → Int32) (z p : Nat) : Nat := enF γ B (z - p) p
theorem enO_y {γ : Nat} {B : Nat → Int32} {z p : Nat} (h : p < z) (q : isG γ (B p) = true) : enO γ B z p = enO γ B z (p + 1) := by
  unfold enO; rw [show z - p = (z - (p + 1)) + 1 by omega]; simp only [enF]; rw [if_pos q]
theorem enO_n {γ : Nat} {B : Nat → Int32} {z p : Nat} (h : p < z) (q : isG γ (B p) = false) : enO γ B z p = p := by
  unfold enO; rw [show z - p = (z - (p + 1)) + 1 by omega]; simp only [enF]; rw [if_neg (by simp [q])]
theorem enO_e {γ : Nat} {B : Nat → Int32} {z p : Nat} (h : z ≤ p) : enO γ B z p = p := by
  unfold enO; rw [show z - p = 0 by omega]; rfl
set_option maxHeartbeats 4000000 in
theorem c_X3_length {l : Launch} {h : Hp} {k : Nat} {B : Nat → Int32} {z : Nat} (ht : TapAt h k B z)  : Mp l yX3_length cX3_length 1 (some .int) 1 [vr 3 k] h (vi (nI z)) := by
  refine Ms.of (by decide) (Nat.le_of_ble_eq_true rfl) (fun G C X F => ?_)
  have C : Cx G cX3_length 1 RX3 := C
  show Rr G 0 [(0, vr 3 k)] [] h
  have bz := ht.2.2
  refine r_aload_n C (dx dX3_length 0 rfl) rfl ?_
  refine g_X3_15 (x := nI z) C (dx dX3_length 1 rfl) ht.2.1 ?_
  exact F.1 _ _ _ _ _ rfl rfl (dx dX3_length 2 rfl) rfl ⟨congrArg (fun x => some (vi x)) rfl, rfl⟩
set_option maxHeartbeats 4000000 in
theorem c_isOf_0 {l : Launch} {h : Hp} (x : Int32) : Mp l yX3_isOf cX3_isOf 2 (some .boolean) 1 [vi (nI 0), vi x] h (vi (b2i (isG 0 x))) := by
  refine Ms.of (by decide) (Nat.le_of_ble_eq_true rfl) (fun G C X F => ?_)
  have C : Cx G cX3_isOf 2 RX3 := C
  show Rr G 0 [(0, vi (nI 0)), (1, vi x)] [] h
  refine r_iload_n C (dx dX3_isOf 0 rfl) rfl ?_
  refine r_lookup (off := 27) (tgt := 28) C (dx dX3_isOf 1 rfl) (by decide) (by decide) (by decide) ?_
  refine r_iload_n C (dx dX3_isOf 2 rfl) rfl ?_
  refine r_bipush (v := nI 32) C (dx dX3_isOf 3 rfl) rfl ?_
  refine r_icmp_ne (tgt := 38) C (dx dX3_isOf 4 rfl) (by decide) (fun c1 => ?_) (fun c1 => ?_)
  ·
    have c1 : ¬ x = nI 32 := c1
    refine r_iconst (v := nI 0) C (dx dX3_isOf 7 rfl) rfl ?_
    exact F.1 _ _ _ _ _ rfl rfl (dx dX3_isOf 8 rfl) rfl ⟨congrArg (fun x => some (vi x)) (show nI 0 = b2i _ by rw [show (isG 0 x) = false by simp [isG, c1]]; rfl), rfl⟩
  ·
    have c1 : x = nI 32 := c1
    refine r_iconst (v := nI 1) C (dx dX3_isOf 5 rfl) rfl ?_
    refine r_goto (tgt := 39) C (dx dX3_isOf 6 rfl) (by decide) ?_
    exact F.1 _ _ _ _ _ rfl rfl (dx dX3_isOf 8 rfl) rfl ⟨congrArg (fun x => some (vi x)) (show nI 1 = b2i _ by rw [show (isG 0 x) = true by simp [isG, c1]]; rfl), rfl⟩
set_option maxHeartbeats 4000000 in
theorem c_isOf_1 {l : Launch} {h : Hp} (x : Int32) : Mp l yX3_isOf cX3_isOf 2 (some .boolean) 1 [vi (nI 1), vi x] h (vi (b2i (isG 1 x))) := by
  refine Ms.of (by decide) (Nat.le_of_ble_eq_true rfl) (fun G C X F => ?_)
  have C : Cx G cX3_isOf 2 RX3 := C
  show Rr G 0 [(0, vi (nI 1)), (1, vi x)] [] h
  refine r_iload_n C (dx dX3_isOf 0 rfl) rfl ?_
  refine r_lookup (off := 39) (tgt := 40) C (dx dX3_isOf 1 rfl) (by decide) (by decide) (by decide) ?_
  refine r_iload_n C (dx dX3_isOf 9 rfl) rfl ?_
  refine r_bipush (v := nI 97) C (dx dX3_isOf 10 rfl) rfl ?_
  refine r_icmp_lt (tgt := 56) C (dx dX3_isOf 11 rfl) (by decide) (fun c1 => ?_) (fun c1 => ?_)
  ·
    have c1 : x < nI 97 := c1
    refine r_iconst (v := nI 0) C (dx dX3_isOf 17 rfl) rfl ?_
    exact F.1 _ _ _ _ _ rfl rfl (dx dX3_isOf 18 rfl) rfl ⟨congrArg (fun x => some (vi x)) (show nI 0 = b2i _ by rw [show (isG 1 x) = false by simp [isG, c1]]; rfl), rfl⟩
  ·
    have c1 : ¬ x < nI 97 := c1
    refine r_iload_n C (dx dX3_isOf 12 rfl) rfl ?_
    refine r_bipush (v := nI 122) C (dx dX3_isOf 13 rfl) rfl ?_
    refine r_icmp_gt (tgt := 56) C (dx dX3_isOf 14 rfl) (by decide) (fun c2 => ?_) (fun c2 => ?_)
    ·
      have c2 : nI 122 < x := c2
      refine r_iconst (v := nI 0) C (dx dX3_isOf 17 rfl) rfl ?_
      exact F.1 _ _ _ _ _ rfl rfl (dx dX3_isOf 18 rfl) rfl ⟨congrArg (fun x => some (vi x)) (show nI 0 = b2i _ by rw [show (isG 1 x) = false by simp [isG, c1, c2]]; rfl), rfl⟩
    ·
      have c2 : ¬ nI 122 < x := c2
      refine r_iconst (v := nI 1) C (dx dX3_isOf 15 rfl) rfl ?_
      refine r_goto (tgt := 57) C (dx dX3_isOf 16 rfl) (by decide) ?_
      exact F.1 _ _ _ _ _ rfl rfl (dx dX3_isOf 18 rfl) rfl ⟨congrArg (fun x => some (vi x)) (show nI 1 = b2i _ by rw [show (isG 1 x) = true by simp [isG, c1, c2]]; rfl), rfl⟩
set_option maxHeartbeats 4000000 in
theorem c_isOf_2 {l : Launch} {h : Hp} (x : Int32) : Mp l yX3_isOf cX3_isOf 2 (some .boolean) 1 [vi (nI 2), vi x] h (vi (b2i (isG 2 x))) := by
  refine Ms.of (by decide) (Nat.le_of_ble_eq_true rfl) (fun G C X F => ?_)
  have C : Cx G cX3_isOf 2 RX3 := C
  show Rr G 0 [(0, vi (nI 2)), (1, vi x)] [] h
  refine r_iload_n C (dx dX3_isOf 0 rfl) rfl ?_
  refine r_lookup (off := 57) (tgt := 58) C (dx dX3_isOf 1 rfl) (by decide) (by decide) (by decide) ?_
  refine r_iload_n C (dx dX3_isOf 19 rfl) rfl ?_
  refine r_bipush (v := nI 48) C (dx dX3_isOf 20 rfl) rfl ?_
  refine r_icmp_lt (tgt := 74) C (dx dX3_isOf 21 rfl) (by decide) (fun c1 => ?_) (fun c1 => ?_)
  ·
    have c1 : x < nI 48 := c1
    refine r_iconst (v := nI 0) C (dx dX3_isOf 27 rfl) rfl ?_
    exact F.1 _ _ _ _ _ rfl rfl (dx dX3_isOf 28 rfl) rfl ⟨congrArg (fun x => some (vi x)) (show nI 0 = b2i _ by rw [show (isG 2 x) = false by simp [isG, c1]]; rfl), rfl⟩
  ·
    have c1 : ¬ x < nI 48 := c1
    refine r_iload_n C (dx dX3_isOf 22 rfl) rfl ?_
    refine r_bipush (v := nI 57) C (dx dX3_isOf 23 rfl) rfl ?_
    refine r_icmp_gt (tgt := 74) C (dx dX3_isOf 24 rfl) (by decide) (fun c2 => ?_) (fun c2 => ?_)
    ·
      have c2 : nI 57 < x := c2
      refine r_iconst (v := nI 0) C (dx dX3_isOf 27 rfl) rfl ?_
      exact F.1 _ _ _ _ _ rfl rfl (dx dX3_isOf 28 rfl) rfl ⟨congrArg (fun x => some (vi x)) (show nI 0 = b2i _ by rw [show (isG 2 x) = false by simp [isG, c1, c2]]; rfl), rfl⟩
    ·
      have c2 : ¬ nI 57 < x := c2
      refine r_iconst (v := nI 1) C (dx dX3_isOf 25 rfl) rfl ?_
      refine r_goto (tgt := 75) C (dx dX3_isOf 26 rfl) (by decide) ?_
      exact F.1 _ _ _ _ _ rfl rfl (dx dX3_isOf 28 rfl) rfl ⟨congrArg (fun x => some (vi x)) (show nI 1 = b2i _ by rw [show (isG 2 x) = true by simp [isG, c1, c2]]; rfl), rfl⟩
theorem c_isOf {l : Launch} {h : Hp} {γ : Nat} (hγ : γ < 3) (x : Int32) : Mp l yX3_isOf cX3_isOf 2 (some .boolean) 1 [vi (nI γ), vi x] h (vi (b2i (isG γ x))) := by
  rcases (show γ = 0 ∨ γ = 1 ∨ γ = 2 by omega) with rfl | rfl | rfl
  · exact c_isOf_0 x
  · exact c_isOf_1 x
  · exact c_isOf_2 x
theorem btA_at {B : Nat → Int32} {z p : Nat} (h : p < z) : btA B z p = B p := if_pos h
set_option maxHeartbeats 4000000 in
theorem c_X3_byteAt {l : Launch} {h : Hp} {k : Nat} {B : Nat → Int32} {z : Nat} (ht : TapAt h k B z) {a : Nat} (ha : a < 2 ^ 31) : Mp l yX3_byteAt cX3_byteAt 2 (some .int) 1 [vr 3 k, vi (nI a)] h (vi (btA B z a)) := by
  refine Ms.of (by decide) (Nat.le_of_ble_eq_true rfl) (fun G C X F => ?_)
  have C : Cx G cX3_byteAt 2 RX3 := C
  show Rr G 0 [(0, vr 3 k), (1, vi (nI a))] [] h
  have bz := ht.2.2
  refine r_iload_n C (dx dX3_byteAt 0 rfl) rfl ?_
  refine r_if_lt (tgt := 28) C (dx dX3_byteAt 1 rfl) (by decide) (fun c1 => ?_) (fun c1 => ?_)
  · exact absurd c1 (nI_pos (by omega))
  ·
    have c1 : ¬ nI a < 0 := c1
    refine r_iload_n C (dx dX3_byteAt 2 rfl) rfl ?_
    refine r_aload_n C (dx dX3_byteAt 3 rfl) rfl ?_
    refine g_X3_15 (x := nI z) C (dx dX3_byteAt 4 rfl) ht.2.1 ?_
    refine rn_ge (a := a) (b := z) (tgt := 28) C (by omega) (by omega) (dx dX3_byteAt 5 rfl) (by decide) (fun c2 => ?_) (fun c2 => ?_)
    · first
      | (omega; done)
      | (
          have c2 : z ≤ a := c2
          refine r_iconst (v := -1) C (dx dX3_byteAt 14 rfl) rfl ?_
          exact F.1 _ _ _ _ _ rfl rfl (dx dX3_byteAt 15 rfl) rfl ⟨congrArg (fun x => some (vi x)) (show -1 = btA B z a by (unfold btA; first | (rw [if_neg (by omega)]; done) | (rw [if_pos (by omega)]; done))), rfl⟩)
    · first
      | (omega; done)
      | (
          have c2 : a < z := c2
          refine r_iload_n C (dx dX3_byteAt 6 rfl) rfl ?_
          refine r_sipush (v := nI 250) C (dx dX3_byteAt 7 rfl) rfl ?_
          refine rn_ge (a := a) (b := 250) (tgt := 28) C (by omega) (by omega) (dx dX3_byteAt 8 rfl) (by decide) (fun c3 => ?_) (fun c3 => ?_)
          · first
            | (omega; done)
            | (
                have c3 : 250 ≤ a := c3
                refine r_iconst (v := -1) C (dx dX3_byteAt 14 rfl) rfl ?_
                exact F.1 _ _ _ _ _ rfl rfl (dx dX3_byteAt 15 rfl) rfl ⟨congrArg (fun x => some (vi x)) (show -1 = btA B z a by (unfold btA; first | (rw [if_neg (by omega)]; done) | (rw [if_pos (by omega)]; done))), rfl⟩)
          · first
            | (omega; done)
            | (
                have c3 : a < 250 := c3
                refine r_aload_n C (dx dX3_byteAt 9 rfl) rfl ?_
                refine g_X3_9 C (dx dX3_byteAt 10 rfl) ?_
                refine r_iload_n C (dx dX3_byteAt 11 rfl) rfl ?_
                refine r_bald (j := a) (x := B a) C rfl rfl (by decide) rfl (by omega) (dx dX3_byteAt 12 rfl) (ht.1 _ (by omega)) ?_
                refine r_goto (tgt := 29) C (dx dX3_byteAt 13 rfl) (by decide) ?_
                exact F.1 _ _ _ _ _ rfl rfl (dx dX3_byteAt 15 rfl) rfl ⟨congrArg (fun x => some (vi x)) (show B a = btA B z a by (unfold btA; first | (rw [if_neg (by omega)]; done) | (rw [if_pos (by omega)]; done))), rfl⟩))
set_option maxHeartbeats 4000000 in
theorem c_X3_endOf {l : Launch} {h : Hp} {k : Nat} {B : Nat → Int32} {z : Nat} (ht : TapAt h k B z) {γ a : Nat} (hγ : γ < 3) (ha : a < 2 ^ 30) : Mp l yX3_endOf cX3_endOf 4 (some .int) 2 [vr 3 k, vi (nI (γ)), vi (nI a)] h (vi (nI (enO γ B z a))) := by
  refine Ms.of (by decide) (Nat.le_of_ble_eq_true rfl) (fun G C X F => ?_)
  have C : Cx G cX3_endOf 4 RX3 := C
  show Rr G 0 [(0, vr 3 k), (1, vi (nI (γ))), (2, vi (nI a))] [] h
  have bz := ht.2.2
  refine r_iload_n C (dx dX3_endOf 0 rfl) rfl ?_
  refine r_istore_n (ls' := [(0, vr 3 k), (1, vi (nI (γ))), (2, vi (nI a)), (3, vi (nI a))]) C (dx dX3_endOf 1 rfl) (by decide) [1, 2, 3, 0] rfl ?_
  refine loopU (Φ := fun p => enO γ B z a = enO γ B z p → Rr G 2 [(0, vr 3 k), (1, vi (nI (γ))), (2, vi (nI a)), (3, vi (nI p))] [] h) (N := a + (z - a)) ?_ ?_ a (Nat.le_add_right _ _) rfl
  ·
    intro hI
    refine r_iload_n C (dx dX3_endOf 2 rfl) rfl ?_
    refine r_aload_n C (dx dX3_endOf 3 rfl) rfl ?_
    refine g_X3_15 (x := nI z) C (dx dX3_endOf 4 rfl) ht.2.1 ?_
    refine rn_ge (a := a + (z - a)) (b := z) (tgt := 28) C (by omega) (by omega) (dx dX3_endOf 5 rfl) (by decide) (fun c1 => ?_) (fun c1 => ?_)
    · first
      | (omega; done)
      | (
          have c1 : z ≤ a + (z - a) := c1
          refine r_iload_n C (dx dX3_endOf 14 rfl) rfl ?_
          exact F.1 _ _ _ _ _ rfl rfl (dx dX3_endOf 15 rfl) rfl ⟨congrArg (fun x => some (vi x)) (show nI (a + (z - a)) = nI (enO γ B z a) by exact (congrArg nI (hI.trans (enO_e (by omega)))).symm), rfl⟩)
    · first
      | (omega; done)
  ·
    intro p hp ih hI
    refine r_iload_n C (dx dX3_endOf 2 rfl) rfl ?_
    refine r_aload_n C (dx dX3_endOf 3 rfl) rfl ?_
    refine g_X3_15 (x := nI z) C (dx dX3_endOf 4 rfl) ht.2.1 ?_
    refine rn_ge (a := p) (b := z) (tgt := 28) C (by omega) (by omega) (dx dX3_endOf 5 rfl) (by decide) (fun c3 => ?_) (fun c3 => ?_)
    · first
      | (omega; done)
      | (
          have c3 : z ≤ p := c3
          refine r_iload_n C (dx dX3_endOf 14 rfl) rfl ?_
          exact F.1 _ _ _ _ _ rfl rfl (dx dX3_endOf 15 rfl) rfl ⟨congrArg (fun x => some (vi x)) (show nI p = nI (enO γ B z a) by exact (congrArg nI (hI.trans (enO_e (by omega)))).symm), rfl⟩)
    · first
      | (omega; done)
      | (
          have c3 : p < z := c3
          refine r_iload_n C (dx dX3_endOf 6 rfl) rfl ?_
          refine r_aload_n C (dx dX3_endOf 7 rfl) rfl ?_
          refine r_iload_n C (dx dX3_endOf 8 rfl) rfl ?_
          refine r_cvP (as := [vi (nI p)]) (st := [vi (nI (γ))]) (v := vi (btA B z p)) C X I_X3_byteAt l_X3_113 (c_X3_byteAt ht (a := p) (by omega)) (by decide) (Nat.le_of_ble_eq_true rfl) List.prefix_rfl rfl rfl (Nat.le_of_ble_eq_true rfl) rfl (dx dX3_endOf 9 rfl) ?_
          refine r_csP (as := [vi (nI (γ)), vi (btA B z p)]) (st := []) (v := vi (b2i (isG (γ) (btA B z p)))) C X I_X3_isOf l_X3_117 (c_isOf (γ := γ) (by omega) (btA B z p)) (by decide) (Nat.le_of_ble_eq_true rfl) List.prefix_rfl (Nat.le_of_ble_eq_true rfl) rfl (dx dX3_endOf 10 rfl) ?_
          refine rb_eq (b := isG (γ) (btA B z p)) (tgt := 28) C (dx dX3_endOf 11 rfl) (by decide) (fun c4 => ?_) (fun c4 => ?_)
          ·
            have c4 : (isG (γ) (btA B z p)) = false := c4
            refine r_iload_n C (dx dX3_endOf 14 rfl) rfl ?_
            exact F.1 _ _ _ _ _ rfl rfl (dx dX3_endOf 15 rfl) rfl ⟨congrArg (fun x => some (vi x)) (show nI p = nI (enO γ B z a) by exact (congrArg nI (hI.trans (enO_n (by omega) (by have q := c4; rw [btA_at (by omega)] at q; exact q)))).symm), rfl⟩
          ·
            have c4 : (isG (γ) (btA B z p)) = true := c4
            refine rn_iinc (a := p) (k := 1) (ls' := [(0, vr 3 k), (1, vi (nI (γ))), (2, vi (nI a)), (3, vi (nI (p + 1)))]) C (dx dX3_endOf 12 rfl) rfl rfl (by decide) [1, 2, 3, 0] rfl ?_
            refine r_goto (tgt := 2) C (dx dX3_endOf 13 rfl) (by decide) ?_
            exact ih (hI.trans (enO_y (by omega) (by have q := c4; rw [btA_at (by omega)] at q; exact q))))
set_option maxHeartbeats 4000000 in
theorem c_X3_clear {l : Launch} {h : Hp} {k : Nat} {B : Nat → Int32} {z : Nat} (ht : TapAt h k B z)  : Ms l yX3_clear cX3_clear 1 none 1 [vr 3 k] h (xK h) (fun r0 h' => r0 = none ∧ TapAt h' k B 0 ∧ Fr k (k + 1) h h') := by
  refine Ms.of (by decide) (Nat.le_of_ble_eq_true rfl) (fun G C X F => ?_)
  have C : Cx G cX3_clear 1 RX3 := C
  show Rr G 0 [(0, vr 3 k)] [] h
  have bz := ht.2.2
  refine r_aload_n C (dx dX3_clear 0 rfl) rfl ?_
  refine r_iconst (v := nI 0) C (dx dX3_clear 1 rfl) rfl ?_
  refine p_X3_15 C (dx dX3_clear 2 rfl) rfl rfl ?_
  exact F.2.2.1 _ _ _ rfl (dx dX3_clear 3 rfl) rfl ⟨rfl, tp_z ht (by omega), Fr.sI (by omega) (by omega)⟩
