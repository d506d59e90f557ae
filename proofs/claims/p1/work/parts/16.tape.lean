/-! PART 16: the tape -/
def TapAt (h : Hp) (k : Nat) (B : Nat → Int32) (z : Nat) : Prop := (∀ i, i < 250 → xI h (k + 1) i = B i) ∧ xI h k 1 = nI z ∧ z ≤ 250
theorem tp_z {h : Hp} {k z z' : Nat} {B : Nat → Int32} (a : TapAt h k B z) (hz : z' ≤ 250) : TapAt (sI h k 1 (nI z')) k B z' :=
  ⟨fun i hi => by rw [sI_ne (by omega)]; exact a.1 i hi, by rw [sI_at]; rfl, hz⟩
def btA (B : Nat → Int32) (z a : Nat) : Int32 := if a < z then B a else -1
def isG : Nat → Int32 → Bool
  | 0, b => decide (b = nI 32)
  | 1, b => !decide (b < nI 97) && !decide (nI 122 < b)
  | _, b => !decide (b < nI 48) && !decide (nI 57 < b)
def enF (γ : Nat) (B : Nat → Int32) : Nat → Nat → Nat
  | 0, p => p
  | n + 1, p => if isG γ (B p) = true then enF γ B n (p + 1) else p
/-- the first place from one on where nothing of a group stands -/
def enO (γ : Nat) (B : Nat → Int32) (z p : Nat) : Nat := enF γ B (z - p) p
theorem enO_y {γ : Nat} {B : Nat → Int32} {z p : Nat} (h : p < z) (q : isG γ (B p) = true) : enO γ B z p = enO γ B z (p + 1) := by
  unfold enO; rw [show z - p = (z - (p + 1)) + 1 by omega]; simp only [enF]; rw [if_pos q]
theorem enO_n {γ : Nat} {B : Nat → Int32} {z p : Nat} (h : p < z) (q : isG γ (B p) = false) : enO γ B z p = p := by
  unfold enO; rw [show z - p = (z - (p + 1)) + 1 by omega]; simp only [enF]; rw [if_neg (by simp [q])]
theorem enO_e {γ : Nat} {B : Nat → Int32} {z p : Nat} (h : z ≤ p) : enO γ B z p = p := by
  unfold enO; rw [show z - p = 0 by omega]; rfl
set_option maxHeartbeats 4000000 in
theorem c_X3_length {l : Launch} {h : Hp} {k : Nat} {B : Nat → Int32} {z : Nat} (ht : TapAt h k B z)  : Mp l yX3_length cX3_length 1 (some .int) 1 [vr 3 k] h (vi (nI z)) := by
  refine Ms.of (by decide) (Nat.le_of_ble_eq_true rfl) (fun G C X F => ?_)
  have C : Cx G cX3_length 1 RX3 := C
  show Rr G 0 [(0, vr 3 k)] [] h
  have bz := ht.2.2
  refine r_aload_n C (dx dX3_length 0 rfl) rfl ?_
  refine g_X3_15 (x := nI z) C (dx dX3_length 1 rfl) ht.2.1 ?_
  exact F.1 _ _ _ _ _ rfl rfl (dx dX3_length 2 rfl) rfl ⟨congrArg (fun x => some (vi x)) rfl, rfl⟩
set_option maxHeartbeats 4000000 in
theorem c_isOf_0 {l : Launch} {h : Hp} (x : Int32) : Mp l yX3_isOf cX3_isOf 2 (some .boolean) 1 [vi (nI 0), vi x] h (vi (b2i (isG 0 x))) := by
  refine Ms.of (by decide) (Nat.le_of_ble_eq_true rfl) (fun G C X F => ?_)
  have C : Cx G cX3_isOf 2 RX3 := C
  show Rr G 0 [(0, vi (nI 0)), (1, vi x)] [] h
  refine r_iload_n C (dx dX3_isOf 0 rfl) rfl ?_
  refine r_lookup (off := 27) (tgt := 28) C (dx dX3_isOf 1 rfl) (by decide) (by decide) (by decide) ?_
  refine r_iload_n C (dx dX3_isOf 2 rfl) rfl ?_
  refine r_bipush (v := nI 32) C (dx dX3_isOf 3 rfl) rfl ?_
  refine r_icmp_ne (tgt := 38) C (dx dX3_isOf 4 rfl) (by decide) (fun c1 => ?_) (fun c1 => ?_)
  ·
    have c1 : ¬ x = nI 32 := c1
    refine r_iconst (v := nI 0) C (dx dX3_isOf 7 rfl) rfl ?_
    exact F.1 _ _ _ _ _ rfl rfl (dx dX3_isOf 8 rfl) rfl ⟨congrArg (fun x => some (vi x)) (show nI 0 = b2i _ by rw [show (isG 0 x) = false by simp [isG, c1]]; rfl), rfl⟩
  ·
    have c1 : x = nI 32 := c1
    refine r_iconst (v := nI 1) C (dx dX3_isOf 5 rfl) rfl ?_
    refine r_goto (tgt := 39) C (dx dX3_isOf 6 rfl) (by decide) ?_
    exact F.1 _ _ _ _ _ rfl rfl (dx dX3_isOf 8 rfl) rfl ⟨congrArg (fun x => some (vi x)) (show nI 1 = b2i _ by rw [show (isG 0 x) = true by simp [isG, c1]]; rfl), rfl⟩
set_option maxHeartbeats 4000000 in
theorem c_isOf_1 {l : Launch} {h : Hp} (x : Int32) : Mp l yX3_isOf cX3_isOf 2 (some .boolean) 1 [vi (nI 1), vi x] h (vi (b2i (isG 1 x))) := by
  refine Ms.of (by decide) (Nat.le_of_ble_eq_true rfl) (fun G C X F => ?_)
  have C : Cx G cX3_isOf 2 RX3 := C
  show Rr G 0 [(0, vi (nI 1)), (1, vi x)] [] h
  refine r_iload_n C (dx dX3_isOf 0 rfl) rfl ?_
  refine r_lookup (off := 39) (tgt := 40) C (dx dX3_isOf 1 rfl) (by decide) (by decide) (by decide) ?_
  refine r_iload_n C (dx dX3_isOf 9 rfl) rfl ?_
  refine r_bipush (v := nI 97) C (dx dX3_isOf 10 rfl) rfl ?_
  refine r_icmp_lt (tgt := 56) C (dx dX3_isOf 11 rfl) (by decide) (fun c1 => ?_) (fun c1 => ?_)
  ·
    have c1 : x < nI 97 := c1
    refine r_iconst (v := nI 0) C (dx dX3_isOf 17 rfl) rfl ?_
    exact F.1 _ _ _ _ _ rfl rfl (dx dX3_isOf 18 rfl) rfl ⟨congrArg (fun x => some (vi x)) (show nI 0 = b2i _ by rw [show (isG 1 x) = false by simp [isG, c1]]; rfl), rfl⟩
  ·
    have c1 : ¬ x < nI 97 := c1
    refine r_iload_n C (dx dX3_isOf 12 rfl) rfl ?_
    refine r_bipush (v := nI 122) C (dx dX3_isOf 13 rfl) rfl ?_
    refine r_icmp_gt (tgt := 56) C (dx dX3_isOf 14 rfl) (by decide) (fun c2 => ?_) (fun c2 => ?_)
    ·
      have c2 : nI 122 < x := c2
      refine r_iconst (v := nI 0) C (dx dX3_isOf 17 rfl) rfl ?_
      exact F.1 _ _ _ _ _ rfl rfl (dx dX3_isOf 18 rfl) rfl ⟨congrArg (fun x => some (vi x)) (show nI 0 = b2i _ by rw [show (isG 1 x) = false by simp [isG, c1, c2]]; rfl), rfl⟩
    ·
      have c2 : ¬ nI 122 < x := c2
      refine r_iconst (v := nI 1) C (dx dX3_isOf 15 rfl) rfl ?_
      refine r_goto (tgt := 57) C (dx dX3_isOf 16 rfl) (by decide) ?_
      exact F.1 _ _ _ _ _ rfl rfl (dx dX3_isOf 18 rfl) rfl ⟨congrArg (fun x => some (vi x)) (show nI 1 = b2i _ by rw [show (isG 1 x) = true by simp [isG, c1, c2]]; rfl), rfl⟩
set_option maxHeartbeats 4000000 in
theorem c_isOf_2 {l : Launch} {h : Hp} (x : Int32) : Mp l yX3_isOf cX3_isOf 2 (some .boolean) 1 [vi (nI 2), vi x] h (vi (b2i (isG 2 x))) := by
  refine Ms.of (by decide) (Nat.le_of_ble_eq_true rfl) (fun G C X F => ?_)
  have C : Cx G cX3_isOf 2 RX3 := C
  show Rr G 0 [(0, vi (nI 2)), (1, vi x)] [] h
  refine r_iload_n C (dx dX3_isOf 0 rfl) rfl ?_
  refine r_lookup (off := 57) (tgt := 58) C (dx dX3_isOf 1 rfl) (by decide) (by decide) (by decide) ?_
  refine r_iload_n C (dx dX3_isOf 19 rfl) rfl ?_
  refine r_bipush (v := nI 48) C (dx dX3_isOf 20 rfl) rfl ?_
  refine r_icmp_lt (tgt := 74) C (dx dX3_isOf 21 rfl) (by decide) (fun c1 => ?_) (fun c1 => ?_)
  ·
    have c1 : x < nI 48 := c1
    refine r_iconst (v := nI 0) C (dx dX3_isOf 27 rfl) rfl ?_
    exact F.1 _ _ _ _ _ rfl rfl (dx dX3_isOf 28 rfl) rfl ⟨congrArg (fun x => some (vi x)) (show nI 0 = b2i _ by rw [show (isG 2 x) = false by simp [isG, c1]]; rfl), rfl⟩
  ·
    have c1 : ¬ x < nI 48 := c1
    refine r_iload_n C (dx dX3_isOf 22 rfl) rfl ?_
    refine r_bipush (v := nI 57) C (dx dX3_isOf 23 rfl) rfl ?_
    refine r_icmp_gt (tgt := 74) C (dx dX3_isOf 24 rfl) (by decide) (fun c2 => ?_) (fun c2 => ?_)
    ·
      have c2 : nI 57 < x := c2
      refine r_iconst (v := nI 0) C (dx dX3_isOf 27 rfl) rfl ?_
      exact F.1 _ _ _ _ _ rfl rfl (dx dX3_isOf 28 rfl) rfl ⟨congrArg (fun x => some (vi x)) (show nI 0 = b2i _ by rw [show (isG 2 x) = false by simp [isG, c1, c2]]; rfl), rfl⟩
    ·
      have c2 : ¬ nI 57 < x := c2
      refine r_iconst (v := nI 1) C (dx dX3_isOf 25 rfl) rfl ?_
      refine r_goto (tgt := 75) C (dx dX3_isOf 26 rfl) (by decide) ?_
      exact F.1 _ _ _ _ _ rfl rfl (dx dX3_isOf 28 rfl) rfl ⟨congrArg (fun x => some (vi x)) (show nI 1 = b2i _ by rw [show (isG 2 x) = true by simp [isG, c1, c2]]; rfl), rfl⟩
theorem c_isOf {l : Launch} {h : Hp} {γ : Nat} (hγ : γ < 3) (x : Int32) : Mp l yX3_isOf cX3_isOf 2 (some .boolean) 1 [vi (nI γ), vi x] h (vi (b2i (isG γ x))) := by
  rcases (show γ = 0 ∨ γ = 1 ∨ γ = 2 by omega) with rfl | rfl | rfl
  · exact c_isOf_0 x
  · exact c_isOf_1 x
  · exact c_isOf_2 x
theorem btA_at {B : Nat → Int32} {z p : Nat} (h : p < z) : btA B z p = B p := if_pos h
set_option maxHeartbeats 4000000 in
theorem c_X3_byteAt {l : Launch} {h : Hp} {k : Nat} {B : Nat → Int32} {z : Nat} (ht : TapAt h k B z) {a : Nat} (ha : a < 2 ^ 31) : Mp l yX3_byteAt cX3_byteAt 2 (some .int) 1 [vr 3 k, vi (nI a)] h (vi (btA B z a)) := by
  refine Ms.of (by decide) (Nat.le_of_ble_eq_true rfl) (fun G C X F => ?_)
  have C : Cx G cX3_byteAt 2 RX3 := C
  show Rr G 0 [(0, vr 3 k), (1, vi (nI a))] [] h
  have bz := ht.2.2
  refine r_iload_n C (dx dX3_byteAt 0 rfl) rfl ?_
  refine r_if_lt (tgt := 28) C (dx dX3_byteAt 1 rfl) (by decide) (fun c1 => ?_) (fun c1 => ?_)
  · exact absurd c1 (nI_pos (by omega))
  ·
    have c1 : ¬ nI a < 0 := c1
    refine r_iload_n C (dx dX3_byteAt 2 rfl) rfl ?_
    refine r_aload_n C (dx dX3_byteAt 3 rfl) rfl ?_
    refine g_X3_15 (x := nI z) C (dx dX3_byteAt 4 rfl) ht.2.1 ?_
    refine rn_ge (a := a) (b := z) (tgt := 28) C (by omega) (by omega) (dx dX3_byteAt 5 rfl) (by decide) (fun c2 => ?_) (fun c2 => ?_)
    · first
      | (omega; done)
      | (
          have c2 : z ≤ a := c2
          refine r_iconst (v := -1) C (dx dX3_byteAt 14 rfl) rfl ?_
          exact F.1 _ _ _ _ _ rfl rfl (dx dX3_byteAt 15 rfl) rfl ⟨congrArg (fun x => some (vi x)) (show -1 = btA B z a by (unfold btA; first | (rw [if_neg (by omega)]; done) | (rw [if_pos (by omega)]; done))), rfl⟩)
    · first
      | (omega; done)
      | (
          have c2 : a < z := c2
          refine r_iload_n C (dx dX3_byteAt 6 rfl) rfl ?_
          refine r_sipush (v := nI 250) C (dx dX3_byteAt 7 rfl) rfl ?_
          refine rn_ge (a := a) (b := 250) (tgt := 28) C (by omega) (by omega) (dx dX3_byteAt 8 rfl) (by decide) (fun c3 => ?_) (fun c3 => ?_)
          · first
            | (omega; done)
            | (
                have c3 : 250 ≤ a := c3
                refine r_iconst (v := -1) C (dx dX3_byteAt 14 rfl) rfl ?_
                exact F.1 _ _ _ _ _ rfl rfl (dx dX3_byteAt 15 rfl) rfl ⟨congrArg (fun x => some (vi x)) (show -1 = btA B z a by (unfold btA; first | (rw [if_neg (by omega)]; done) | (rw [if_pos (by omega)]; done))), rfl⟩)
          · first
            | (omega; done)
            | (
                have c3 : a < 250 := c3
                refine r_aload_n C (dx dX3_byteAt 9 rfl) rfl ?_
                refine g_X3_9 C (dx dX3_byteAt 10 rfl) ?_
                refine r_iload_n C (dx dX3_byteAt 11 rfl) rfl ?_
                refine r_bald (j := a) (x := B a) C rfl rfl (by decide) rfl (by omega) (dx dX3_byteAt 12 rfl) (ht.1 _ (by omega)) ?_
                refine r_goto (tgt := 29) C (dx dX3_byteAt 13 rfl) (by decide) ?_
                exact F.1 _ _ _ _ _ rfl rfl (dx dX3_byteAt 15 rfl) rfl ⟨congrArg (fun x => some (vi x)) (show B a = btA B z a by (unfold btA; first | (rw [if_neg (by omega)]; done) | (rw [if_pos (by omega)]; done))), rfl⟩))
set_option maxHeartbeats 4000000 in
theorem c_X3_endOf {l : Launch} {h : Hp} {k : Nat} {B : Nat → Int32} {z : Nat} (ht : TapAt h k B z) {γ a : Nat} (hγ : γ < 3) (ha : a < 2 ^ 30) : Mp l yX3_endOf cX3_endOf 4 (some .int) 2 [vr 3 k, vi (nI (γ)), vi (nI a)] h (vi (nI (enO γ B z a))) := by
  refine Ms.of (by decide) (Nat.le_of_ble_eq_true rfl) (fun G C X F => ?_)
  have C : Cx G cX3_endOf 4 RX3 := C
  show Rr G 0 [(0, vr 3 k), (1, vi (nI (γ))), (2, vi (nI a))] [] h
  have bz := ht.2.2
  refine r_iload_n C (dx dX3_endOf 0 rfl) rfl ?_
  refine r_istore_n (ls' := [(0, vr 3 k), (1, vi (nI (γ))), (2, vi (nI a)), (3, vi (nI a))]) C (dx dX3_endOf 1 rfl) (by decide) [1, 2, 3, 0] rfl ?_
  refine loopU (Φ := fun p => enO γ B z a = enO γ B z p → Rr G 2 [(0, vr 3 k), (1, vi (nI (γ))), (2, vi (nI a)), (3, vi (nI p))] [] h) (N := a + (z - a)) ?_ ?_ a (Nat.le_add_right _ _) rfl
  ·
    intro hI
    refine r_iload_n C (dx dX3_endOf 2 rfl) rfl ?_
    refine r_aload_n C (dx dX3_endOf 3 rfl) rfl ?_
    refine g_X3_15 (x := nI z) C (dx dX3_endOf 4 rfl) ht.2.1 ?_
    refine rn_ge (a := a + (z - a)) (b := z) (tgt := 28) C (by omega) (by omega) (dx dX3_endOf 5 rfl) (by decide) (fun c1 => ?_) (fun c1 => ?_)
    · first
      | (omega; done)
      | (
          have c1 : z ≤ a + (z - a) := c1
          refine r_iload_n C (dx dX3_endOf 14 rfl) rfl ?_
          exact F.1 _ _ _ _ _ rfl rfl (dx dX3_endOf 15 rfl) rfl ⟨congrArg (fun x => some (vi x)) (show nI (a + (z - a)) = nI (enO γ B z a) by exact (congrArg nI (hI.trans (enO_e (by omega)))).symm), rfl⟩)
    · first
      | (omega; done)
  ·
    intro p hp ih hI
    refine r_iload_n C (dx dX3_endOf 2 rfl) rfl ?_
    refine r_aload_n C (dx dX3_endOf 3 rfl) rfl ?_
    refine g_X3_15 (x := nI z) C (dx dX3_endOf 4 rfl) ht.2.1 ?_
    refine rn_ge (a := p) (b := z) (tgt := 28) C (by omega) (by omega) (dx dX3_endOf 5 rfl) (by decide) (fun c3 => ?_) (fun c3 => ?_)
    · first
      | (omega; done)
      | (
          have c3 : z ≤ p := c3
          refine r_iload_n C (dx dX3_endOf 14 rfl) rfl ?_
          exact F.1 _ _ _ _ _ rfl rfl (dx dX3_endOf 15 rfl) rfl ⟨congrArg (fun x => some (vi x)) (show nI p = nI (enO γ B z a) by exact (congrArg nI (hI.trans (enO_e (by omega)))).symm), rfl⟩)
    · first
      | (omega; done)
      | (
          have c3 : p < z := c3
          refine r_iload_n C (dx dX3_endOf 6 rfl) rfl ?_
          refine r_aload_n C (dx dX3_endOf 7 rfl) rfl ?_
          refine r_iload_n C (dx dX3_endOf 8 rfl) rfl ?_
          refine r_cvP (as := [vi (nI p)]) (st := [vi (nI (γ))]) (v := vi (btA B z p)) C X I_X3_byteAt l_X3_113 (c_X3_byteAt ht (a := p) (by omega)) (by decide) (Nat.le_of_ble_eq_true rfl) List.prefix_rfl rfl rfl (Nat.le_of_ble_eq_true rfl) rfl (dx dX3_endOf 9 rfl) ?_
          refine r_csP (as := [vi (nI (γ)), vi (btA B z p)]) (st := []) (v := vi (b2i (isG (γ) (btA B z p)))) C X I_X3_isOf l_X3_117 (c_isOf (γ := γ) (by omega) (btA B z p)) (by decide) (Nat.le_of_ble_eq_true rfl) List.prefix_rfl (Nat.le_of_ble_eq_true rfl) rfl (dx dX3_endOf 10 rfl) ?_
          refine rb_eq (b := isG (γ) (btA B z p)) (tgt := 28) C (dx dX3_endOf 11 rfl) (by decide) (fun c4 => ?_) (fun c4 => ?_)
          ·
            have c4 : (isG (γ) (btA B z p)) = false := c4
            refine r_iload_n C (dx dX3_endOf 14 rfl) rfl ?_
            exact F.1 _ _ _ _ _ rfl rfl (dx dX3_endOf 15 rfl) rfl ⟨congrArg (fun x => some (vi x)) (show nI p = nI (enO γ B z a) by exact (congrArg nI (hI.trans (enO_n (by omega) (by have q := c4; rw [btA_at (by omega)] at q; exact q)))).symm), rfl⟩
          ·
            have c4 : (isG (γ) (btA B z p)) = true := c4
            refine rn_iinc (a := p) (k := 1) (ls' := [(0, vr 3 k), (1, vi (nI (γ))), (2, vi (nI a)), (3, vi (nI (p + 1)))]) C (dx dX3_endOf 12 rfl) rfl rfl (by decide) [1, 2, 3, 0] rfl ?_
            refine r_goto (tgt := 2) C (dx dX3_endOf 13 rfl) (by decide) ?_
            exact ih (hI.trans (enO_y (by omega) (by have q := c4; rw [btA_at (by omega)] at q; exact q))))
set_option maxHeartbeats 4000000 in
theorem c_X3_clear {l : Launch} {h : Hp} {k : Nat} {B : Nat → Int32} {z : Nat} (ht : TapAt h k B z)  : Ms l yX3_clear cX3_clear 1 none 1 [vr 3 k] h (xK h) (fun r0 h' => r0 = none ∧ TapAt h' k B 0 ∧ Fr k (k + 1) h h') := by
  refine Ms.of (by decide) (Nat.le_of_ble_eq_true rfl) (fun G C X F => ?_)
  have C : Cx G cX3_clear 1 RX3 := C
  show Rr G 0 [(0, vr 3 k)] [] h
  have bz := ht.2.2
  refine r_aload_n C (dx dX3_clear 0 rfl) rfl ?_
  refine r_iconst (v := nI 0) C (dx dX3_clear 1 rfl) rfl ?_
  refine p_X3_15 C (dx dX3_clear 2 rfl) rfl rfl ?_
  exact F.2.2.1 _ _ _ rfl (dx dX3_clear 3 rfl) rfl ⟨rfl, tp_z ht (by omega), Fr.sI (by omega) (by omega)⟩
/-- the tape and the token being looked at: its sort, place, end -/
def TkAt (h : Hp) (k : Nat) (B : Nat → Int32) (z t s e : Nat) : Prop := TapAt h k B z ∧ xI h k 2 = nI t ∧ xI h k 3 = nI s ∧ xI h k 4 = nI e
theorem TapAt.w {h : Hp} {k z j : Nat} {x : Int32} {B : Nat → Int32} (a : TapAt h k B z) (hj : j ≠ 1) : TapAt (sI h k j x) k B z :=
  ⟨fun i hi => by rw [sI_ne (by omega)]; exact a.1 i hi, by rw [sI_at, if_neg (by omega)]; exact a.2.1, a.2.2⟩
theorem TkAt.w2 {h : Hp} {k z t s e t' : Nat} {B : Nat → Int32} (a : TkAt h k B z t s e) : TkAt (sI h k 2 (nI t')) k B z t' s e :=
  ⟨a.1.w (by omega), by rw [sI_at]; rfl, by rw [sI_at]; exact a.2.2.1, by rw [sI_at]; exact a.2.2.2⟩
theorem TkAt.w3 {h : Hp} {k z t s e t' : Nat} {B : Nat → Int32} (a : TkAt h k B z t s e) : TkAt (sI h k 3 (nI t')) k B z t t' e :=
  ⟨a.1.w (by omega), by rw [sI_at]; exact a.2.1, by rw [sI_at]; rfl, by rw [sI_at]; exact a.2.2.2⟩
theorem TkAt.w4 {h : Hp} {k z t s e t' : Nat} {B : Nat → Int32} (a : TkAt h k B z t s e) : TkAt (sI h k 4 (nI t')) k B z t s t' :=
  ⟨a.1.w (by omega), by rw [sI_at]; exact a.2.1, by rw [sI_at]; exact a.2.2.1, by rw [sI_at]; rfl⟩
theorem TkAt.fr {h h1 : Hp} {k lo hi z t s e : Nat} {B : Nat → Int32} (a : TkAt h k B z t s e) (f : Fr lo hi h h1) (hk : k + 2 ≤ lo ∨ hi ≤ k) : TkAt h1 k B z t s e :=
  ⟨⟨fun i hi => (f.I (by omega) _).trans (a.1.1 i hi), (f.I (by omega) _).trans a.1.2.1, a.1.2.2⟩, (f.I (by omega) _).trans a.2.1, (f.I (by omega) _).trans a.2.2.1, (f.I (by omega) _).trans a.2.2.2⟩
theorem enF_le (γ : Nat) (B : Nat → Int32) : ∀ n p, p ≤ enF γ B n p ∧ enF γ B n p ≤ p + n
  | 0, p => ⟨Nat.le_refl _, Nat.le_refl _⟩
  | n + 1, p => by
    have q := enF_le γ B n (p + 1)
    simp only [enF]
    split <;> omega
theorem enO_le {γ : Nat} {B : Nat → Int32} {z p : Nat} (h : p ≤ z) : p ≤ enO γ B z p ∧ enO γ B z p ≤ z := by
  have q := enF_le γ B (z - p) p
  unfold enO; omega
theorem tk_eq {h : Hp} {k z t s e : Nat} {B : Nat → Int32} {q : Nat × Nat × Nat} (w : q = (t, s, e)) (a : TkAt h k B z t s e) : TkAt h k B z q.1 q.2.1 q.2.2 := by rw [w]; exact a
/-- the next token -/
def stp (B : Nat → Int32) (z e : Nat) : Nat × Nat × Nat :=
  if z ≤ enO 0 B z e then (3, enO 0 B z e, enO 0 B z e)
  else if isG 1 (B (enO 0 B z e)) = true then (0, enO 0 B z e, enO 1 B z (enO 0 B z e))
  else if isG 2 (B (enO 0 B z e)) = true then (1, enO 0 B z e, enO 2 B z (enO 0 B z e))
  else (if B (enO 0 B z e) = nI 59 then 2 else 4, enO 0 B z e, enO 0 B z e + 1)
theorem stp_le {B : Nat → Int32} {z e : Nat} (h : e ≤ z) : (stp B z e).2.1 ≤ (stp B z e).2.2 ∧ (stp B z e).2.2 ≤ z := by
  have q := enO_le (γ := 0) (B := B) h
  have q1 := enO_le (γ := 1) (B := B) q.2
  have q2 := enO_le (γ := 2) (B := B) q.2
  unfold stp
  split
  · exact ⟨Nat.le_refl _, q.2⟩
  · split
    · exact q1
    · split
      · exact q2
      · simp only; omega
set_option maxHeartbeats 4000000 in
theorem c_X3_step {l : Launch} {h : Hp} {k : Nat} {B : Nat → Int32} {z t s e : Nat} (hk : TkAt h k B z t s e) (he : e ≤ z) : Ms l yX3_step cX3_step 2 none 3 [vr 3 k] h (xK h) (fun r0 h' => r0 = none ∧ TkAt h' k B z (stp B z e).1 (stp B z e).2.1 (stp B z e).2.2 ∧ Fr k (k + 1) h h') := by
  refine Ms.of (by decide) (Nat.le_of_ble_eq_true rfl) (fun G C X F => ?_)
  have C : Cx G cX3_step 2 RX3 := C
  show Rr G 0 [(0, vr 3 k)] [] h
  have bz := hk.1.2.2
  have hs9 := enO_le (γ := 0) (B := B) he
  refine r_aload_n C (dx dX3_step 0 rfl) rfl ?_
  refine r_aload_n C (dx dX3_step 1 rfl) rfl ?_
  refine r_iconst (v := nI 0) C (dx dX3_step 2 rfl) rfl ?_
  refine r_aload_n C (dx dX3_step 3 rfl) rfl ?_
  refine g_X3_25 (x := nI e) C (dx dX3_step 4 rfl) hk.2.2.2 ?_
  refine r_cvP (as := [vi (nI 0), vi (nI e)]) (st := [vr 3 k]) (v := vi (nI (enO 0 B z e))) C X I_X3_endOf l_X3_110 (c_X3_endOf hk.1 (γ := 0) (a := e) (by omega) (by omega)) (by decide) (Nat.le_of_ble_eq_true rfl) List.prefix_rfl rfl rfl (Nat.le_of_ble_eq_true rfl) rfl (dx dX3_step 5 rfl) ?_
  refine p_X3_22 C (dx dX3_step 6 rfl) rfl rfl ?_
  have sh1 : TkAt (sI h k 3 (nI (enO 0 B z e))) k B z t (enO 0 B z e) e := hk.w3
  have fh1 : Fr k (k + 1) h (sI h k 3 (nI (enO 0 B z e))) := (Fr.sI (by omega) (by omega))
  have kh1 : xK (sI h k 3 (nI (enO 0 B z e))) = xK h := rfl
  generalize sI h k 3 (nI (enO 0 B z e)) = h1 at sh1 fh1 kh1 ⊢
  refine r_aload_n C (dx dX3_step 7 rfl) rfl ?_
  refine r_aload_n C (dx dX3_step 8 rfl) rfl ?_
  refine g_X3_22 (x := nI (enO 0 B z e)) C (dx dX3_step 9 rfl) sh1.2.2.1 ?_
  refine r_cvP (as := [vi (nI (enO 0 B z e))]) (st := []) (v := vi (btA B z (enO 0 B z e))) C X I_X3_byteAt l_X3_113 (c_X3_byteAt sh1.1 (a := enO 0 B z e) (by omega)) (by decide) (Nat.le_of_ble_eq_true rfl) (pfx_eq kh1) rfl rfl (Nat.le_of_ble_eq_true rfl) rfl (dx dX3_step 10 rfl) ?_
  refine r_istore_n (ls' := [(0, vr 3 k), (1, vi (btA B z (enO 0 B z e)))]) C (dx dX3_step 11 rfl) (by decide) [1, 0] rfl ?_
  refine r_aload_n C (dx dX3_step 12 rfl) rfl ?_
  refine g_X3_22 (x := nI (enO 0 B z e)) C (dx dX3_step 13 rfl) sh1.2.2.1 ?_
  refine r_aload_n C (dx dX3_step 14 rfl) rfl ?_
  refine g_X3_15 (x := nI z) C (dx dX3_step 15 rfl) sh1.1.2.1 ?_
  refine rn_lt (a := enO 0 B z e) (b := z) (tgt := 49) C (by omega) (by omega) (dx dX3_step 16 rfl) (by decide) (fun c2 => ?_) (fun c2 => ?_)
  · first
    | (omega; done)
    | (
        have c2 : enO 0 B z e < z := c2
        refine r_iconst (v := nI 1) C (dx dX3_step 25 rfl) rfl ?_
        refine r_iload_n C (dx dX3_step 26 rfl) rfl ?_
        refine r_csP (as := [vi (nI 1), vi (btA B z (enO 0 B z e))]) (st := []) (v := vi (b2i (isG 1 (btA B z (enO 0 B z e))))) C X I_X3_isOf l_X3_117 (c_isOf (γ := 1) (by omega) (btA B z (enO 0 B z e))) (by decide) (Nat.le_of_ble_eq_true rfl) (pfx_eq kh1) (Nat.le_of_ble_eq_true rfl) rfl (dx dX3_step 27 rfl) ?_
        refine rb_eq (b := isG 1 (btA B z (enO 0 B z e))) (tgt := 78) C (dx dX3_step 28 rfl) (by decide) (fun c3 => ?_) (fun c3 => ?_)
        ·
          have c3 : (isG 1 (btA B z (enO 0 B z e))) = false := c3
          refine r_iconst (v := nI 2) C (dx dX3_step 40 rfl) rfl ?_
          refine r_iload_n C (dx dX3_step 41 rfl) rfl ?_
          refine r_csP (as := [vi (nI 2), vi (btA B z (enO 0 B z e))]) (st := []) (v := vi (b2i (isG 2 (btA B z (enO 0 B z e))))) C X I_X3_isOf l_X3_117 (c_isOf (γ := 2) (by omega) (btA B z (enO 0 B z e))) (by decide) (Nat.le_of_ble_eq_true rfl) (pfx_eq kh1) (Nat.le_of_ble_eq_true rfl) rfl (dx dX3_step 42 rfl) ?_
          refine rb_eq (b := isG 2 (btA B z (enO 0 B z e))) (tgt := 107) C (dx dX3_step 43 rfl) (by decide) (fun c4 => ?_) (fun c4 => ?_)
          ·
            have c4 : (isG 2 (btA B z (enO 0 B z e))) = false := c4
            refine r_aload_n C (dx dX3_step 55 rfl) rfl ?_
            refine r_iload_n C (dx dX3_step 56 rfl) rfl ?_
            refine r_bipush (v := nI 59) C (dx dX3_step 57 rfl) rfl ?_
            refine r_icmp_ne (tgt := 118) C (dx dX3_step 58 rfl) (by decide) (fun c5 => ?_) (fun c5 => ?_)
            ·
              have c5 : ¬ btA B z (enO 0 B z e) = nI 59 := c5
              refine r_iconst (v := nI 4) C (dx dX3_step 61 rfl) rfl ?_
              refine p_X3_19 C (dx dX3_step 62 rfl) rfl rfl ?_
              have sh6 : TkAt (sI h1 k 2 (nI 4)) k B z 4 (enO 0 B z e) e := sh1.w2
              have fh6 : Fr k (k + 1) h (sI h1 k 2 (nI 4)) := fh1.tr (Fr.sI (by omega) (by omega))
              have kh6 : xK (sI h1 k 2 (nI 4)) = xK h := kh1
              generalize sI h1 k 2 (nI 4) = h6 at sh6 fh6 kh6 ⊢
              refine r_aload_n C (dx dX3_step 63 rfl) rfl ?_
              refine r_aload_n C (dx dX3_step 64 rfl) rfl ?_
              refine g_X3_22 (x := nI (enO 0 B z e)) C (dx dX3_step 65 rfl) sh6.2.2.1 ?_
              refine r_iconst (v := nI 1) C (dx dX3_step 66 rfl) rfl ?_
              refine rn_iadd (a := enO 0 B z e) (b := 1) C (dx dX3_step 67 rfl) ?_
              refine p_X3_25 C (dx dX3_step 68 rfl) rfl rfl ?_
              have sh7 : TkAt (sI h6 k 4 (nI (enO 0 B z e + 1))) k B z 4 (enO 0 B z e) (enO 0 B z e + 1) := sh6.w4
              have fh7 : Fr k (k + 1) h (sI h6 k 4 (nI (enO 0 B z e + 1))) := fh6.tr (Fr.sI (by omega) (by omega))
              have kh7 : xK (sI h6 k 4 (nI (enO 0 B z e + 1))) = xK h := kh6
              generalize sI h6 k 4 (nI (enO 0 B z e + 1)) = h7 at sh7 fh7 kh7 ⊢
              exact F.2.2.1 _ _ _ rfl (dx dX3_step 69 rfl) kh7 ⟨rfl, tk_eq (q := stp B z e) (by rw [btA_at (by omega)] at c3; rw [btA_at (by omega)] at c4; rw [btA_at (by omega)] at c5; unfold stp; rw [if_neg (by omega)]; simp [c3, c4, c5, show isG 1 (nI 59) = false by decide, show isG 2 (nI 59) = false by decide]) sh7, fh7⟩
            ·
              have c5 : btA B z (enO 0 B z e) = nI 59 := c5
              refine r_iconst (v := nI 2) C (dx dX3_step 59 rfl) rfl ?_
              refine r_goto (tgt := 119) C (dx dX3_step 60 rfl) (by decide) ?_
              refine p_X3_19 C (dx dX3_step 62 rfl) rfl rfl ?_
              have sh8 : TkAt (sI h1 k 2 (nI 2)) k B z 2 (enO 0 B z e) e := sh1.w2
              have fh8 : Fr k (k + 1) h (sI h1 k 2 (nI 2)) := fh1.tr (Fr.sI (by omega) (by omega))
              have kh8 : xK (sI h1 k 2 (nI 2)) = xK h := kh1
              generalize sI h1 k 2 (nI 2) = h8 at sh8 fh8 kh8 ⊢
              refine r_aload_n C (dx dX3_step 63 rfl) rfl ?_
              refine r_aload_n C (dx dX3_step 64 rfl) rfl ?_
              refine g_X3_22 (x := nI (enO 0 B z e)) C (dx dX3_step 65 rfl) sh8.2.2.1 ?_
              refine r_iconst (v := nI 1) C (dx dX3_step 66 rfl) rfl ?_
              refine rn_iadd (a := enO 0 B z e) (b := 1) C (dx dX3_step 67 rfl) ?_
              refine p_X3_25 C (dx dX3_step 68 rfl) rfl rfl ?_
              have sh9 : TkAt (sI h8 k 4 (nI (enO 0 B z e + 1))) k B z 2 (enO 0 B z e) (enO 0 B z e + 1) := sh8.w4
              have fh9 : Fr k (k + 1) h (sI h8 k 4 (nI (enO 0 B z e + 1))) := fh8.tr (Fr.sI (by omega) (by omega))
              have kh9 : xK (sI h8 k 4 (nI (enO 0 B z e + 1))) = xK h := kh8
              generalize sI h8 k 4 (nI (enO 0 B z e + 1)) = h9 at sh9 fh9 kh9 ⊢
              exact F.2.2.1 _ _ _ rfl (dx dX3_step 69 rfl) kh9 ⟨rfl, tk_eq (q := stp B z e) (by rw [btA_at (by omega)] at c3; rw [btA_at (by omega)] at c4; rw [btA_at (by omega)] at c5; unfold stp; rw [if_neg (by omega)]; simp [c3, c4, c5, show isG 1 (nI 59) = false by decide, show isG 2 (nI 59) = false by decide]) sh9, fh9⟩
          ·
            have c4 : (isG 2 (btA B z (enO 0 B z e))) = true := c4
            refine r_aload_n C (dx dX3_step 44 rfl) rfl ?_
            refine r_iconst (v := nI 1) C (dx dX3_step 45 rfl) rfl ?_
            refine p_X3_19 C (dx dX3_step 46 rfl) rfl rfl ?_
            have sh10 : TkAt (sI h1 k 2 (nI 1)) k B z 1 (enO 0 B z e) e := sh1.w2
            have fh10 : Fr k (k + 1) h (sI h1 k 2 (nI 1)) := fh1.tr (Fr.sI (by omega) (by omega))
            have kh10 : xK (sI h1 k 2 (nI 1)) = xK h := kh1
            generalize sI h1 k 2 (nI 1) = h10 at sh10 fh10 kh10 ⊢
            refine r_aload_n C (dx dX3_step 47 rfl) rfl ?_
            refine r_aload_n C (dx dX3_step 48 rfl) rfl ?_
            refine r_iconst (v := nI 2) C (dx dX3_step 49 rfl) rfl ?_
            refine r_aload_n C (dx dX3_step 50 rfl) rfl ?_
            refine g_X3_22 (x := nI (enO 0 B z e)) C (dx dX3_step 51 rfl) sh10.2.2.1 ?_
            refine r_cvP (as := [vi (nI 2), vi (nI (enO 0 B z e))]) (st := [vr 3 k]) (v := vi (nI (enO 2 B z (enO 0 B z e)))) C X I_X3_endOf l_X3_110 (c_X3_endOf sh10.1 (γ := 2) (a := enO 0 B z e) (by omega) (by omega)) (by decide) (Nat.le_of_ble_eq_true rfl) (pfx_eq kh10) rfl rfl (Nat.le_of_ble_eq_true rfl) rfl (dx dX3_step 52 rfl) ?_
            refine p_X3_25 C (dx dX3_step 53 rfl) rfl rfl ?_
            have sh11 : TkAt (sI h10 k 4 (nI (enO 2 B z (enO 0 B z e)))) k B z 1 (enO 0 B z e) (enO 2 B z (enO 0 B z e)) := sh10.w4
            have fh11 : Fr k (k + 1) h (sI h10 k 4 (nI (enO 2 B z (enO 0 B z e)))) := fh10.tr (Fr.sI (by omega) (by omega))
            have kh11 : xK (sI h10 k 4 (nI (enO 2 B z (enO 0 B z e)))) = xK h := kh10
            generalize sI h10 k 4 (nI (enO 2 B z (enO 0 B z e))) = h11 at sh11 fh11 kh11 ⊢
            refine r_goto (tgt := 132) C (dx dX3_step 54 rfl) (by decide) ?_
            exact F.2.2.1 _ _ _ rfl (dx dX3_step 69 rfl) kh11 ⟨rfl, tk_eq (q := stp B z e) (by rw [btA_at (by omega)] at c3; rw [btA_at (by omega)] at c4; unfold stp; rw [if_neg (by omega)]; simp [c3, c4, show isG 1 (nI 59) = false by decide, show isG 2 (nI 59) = false by decide]) sh11, fh11⟩
        ·
          have c3 : (isG 1 (btA B z (enO 0 B z e))) = true := c3
          refine r_aload_n C (dx dX3_step 29 rfl) rfl ?_
          refine r_iconst (v := nI 0) C (dx dX3_step 30 rfl) rfl ?_
          refine p_X3_19 C (dx dX3_step 31 rfl) rfl rfl ?_
          have sh12 : TkAt (sI h1 k 2 (nI 0)) k B z 0 (enO 0 B z e) e := sh1.w2
          have fh12 : Fr k (k + 1) h (sI h1 k 2 (nI 0)) := fh1.tr (Fr.sI (by omega) (by omega))
          have kh12 : xK (sI h1 k 2 (nI 0)) = xK h := kh1
          generalize sI h1 k 2 (nI 0) = h12 at sh12 fh12 kh12 ⊢
          refine r_aload_n C (dx dX3_step 32 rfl) rfl ?_
          refine r_aload_n C (dx dX3_step 33 rfl) rfl ?_
          refine r_iconst (v := nI 1) C (dx dX3_step 34 rfl) rfl ?_
          refine r_aload_n C (dx dX3_step 35 rfl) rfl ?_
          refine g_X3_22 (x := nI (enO 0 B z e)) C (dx dX3_step 36 rfl) sh12.2.2.1 ?_
          refine r_cvP (as := [vi (nI 1), vi (nI (enO 0 B z e))]) (st := [vr 3 k]) (v := vi (nI (enO 1 B z (enO 0 B z e)))) C X I_X3_endOf l_X3_110 (c_X3_endOf sh12.1 (γ := 1) (a := enO 0 B z e) (by omega) (by omega)) (by decide) (Nat.le_of_ble_eq_true rfl) (pfx_eq kh12) rfl rfl (Nat.le_of_ble_eq_true rfl) rfl (dx dX3_step 37 rfl) ?_
          refine p_X3_25 C (dx dX3_step 38 rfl) rfl rfl ?_
          have sh13 : TkAt (sI h12 k 4 (nI (enO 1 B z (enO 0 B z e)))) k B z 0 (enO 0 B z e) (enO 1 B z (enO 0 B z e)) := sh12.w4
          have fh13 : Fr k (k + 1) h (sI h12 k 4 (nI (enO 1 B z (enO 0 B z e)))) := fh12.tr (Fr.sI (by omega) (by omega))
          have kh13 : xK (sI h12 k 4 (nI (enO 1 B z (enO 0 B z e)))) = xK h := kh12
          generalize sI h12 k 4 (nI (enO 1 B z (enO 0 B z e))) = h13 at sh13 fh13 kh13 ⊢
          refine r_goto (tgt := 132) C (dx dX3_step 39 rfl) (by decide) ?_
          exact F.2.2.1 _ _ _ rfl (dx dX3_step 69 rfl) kh13 ⟨rfl, tk_eq (q := stp B z e) (by rw [btA_at (by omega)] at c3; unfold stp; rw [if_neg (by omega)]; simp [c3, show isG 1 (nI 59) = false by decide, show isG 2 (nI 59) = false by decide]) sh13, fh13⟩)
  · first
    | (omega; done)
    | (
        have c2 : z ≤ enO 0 B z e := c2
        refine r_aload_n C (dx dX3_step 17 rfl) rfl ?_
        refine r_iconst (v := nI 3) C (dx dX3_step 18 rfl) rfl ?_
        refine p_X3_19 C (dx dX3_step 19 rfl) rfl rfl ?_
        have sh14 : TkAt (sI h1 k 2 (nI 3)) k B z 3 (enO 0 B z e) e := sh1.w2
        have fh14 : Fr k (k + 1) h (sI h1 k 2 (nI 3)) := fh1.tr (Fr.sI (by omega) (by omega))
        have kh14 : xK (sI h1 k 2 (nI 3)) = xK h := kh1
        generalize sI h1 k 2 (nI 3) = h14 at sh14 fh14 kh14 ⊢
        refine r_aload_n C (dx dX3_step 20 rfl) rfl ?_
        refine r_aload_n C (dx dX3_step 21 rfl) rfl ?_
        refine g_X3_22 (x := nI (enO 0 B z e)) C (dx dX3_step 22 rfl) sh14.2.2.1 ?_
        refine p_X3_25 C (dx dX3_step 23 rfl) rfl rfl ?_
        have sh15 : TkAt (sI h14 k 4 (nI (enO 0 B z e))) k B z 3 (enO 0 B z e) (enO 0 B z e) := sh14.w4
        have fh15 : Fr k (k + 1) h (sI h14 k 4 (nI (enO 0 B z e))) := fh14.tr (Fr.sI (by omega) (by omega))
        have kh15 : xK (sI h14 k 4 (nI (enO 0 B z e))) = xK h := kh14
        generalize sI h14 k 4 (nI (enO 0 B z e)) = h15 at sh15 fh15 kh15 ⊢
        refine r_goto (tgt := 132) C (dx dX3_step 24 rfl) (by decide) ?_
        exact F.2.2.1 _ _ _ rfl (dx dX3_step 69 rfl) kh15 ⟨rfl, tk_eq (q := stp B z e) (by unfold stp; rw [if_pos (by omega)]) sh15, fh15⟩)
set_option maxHeartbeats 4000000 in
theorem c_X3_faultPlace {l : Launch} {h : Hp} {k : Nat} {B : Nat → Int32} {z t s e : Nat} (hk : TkAt h k B z t s e) : Mp l yX3_faultPlace cX3_faultPlace 1 (some .int) 1 [vr 3 k] h (vi (nI s)) := by
  refine Ms.of (by decide) (Nat.le_of_ble_eq_true rfl) (fun G C X F => ?_)
  have C : Cx G cX3_faultPlace 1 RX3 := C
  show Rr G 0 [(0, vr 3 k)] [] h
  refine r_aload_n C (dx dX3_faultPlace 0 rfl) rfl ?_
  refine g_X3_22 (x := nI s) C (dx dX3_faultPlace 1 rfl) hk.2.2.1 ?_
  exact F.1 _ _ _ _ _ rfl rfl (dx dX3_faultPlace 2 rfl) rfl ⟨congrArg (fun x => some (vi x)) rfl, rfl⟩
/-- digits from a place on, read as a number -/
def nmF (B : Nat → Int32) (z s : Nat) : Nat → Int32
  | 0 => nI 0
  | j + 1 => nI 10 * nmF B z s j + btA B z (s + j) - nI 48
theorem nmF_s {B : Nat → Int32} {z s p : Nat} (h : s ≤ p) : nI 10 * nmF B z s (p - s) + btA B z p - nI 48 = nmF B z s (p + 1 - s) := by
  rw [show p + 1 - s = (p - s) + 1 by omega]; simp only [nmF]; rw [show s + (p - s) = p by omega]
def nmV (B : Nat → Int32) (z t s e : Nat) (lo hi : Int32) : Int32 :=
  if t = 1 ∧ e - s ≤ 2 then (if nmF B z s (e - s) < lo then -1 else if nmF B z s (e - s) ≤ hi then nmF B z s (e - s) else -1) else -1
set_option maxHeartbeats 4000000 in
theorem c_X3_numberIn {l : Launch} {h : Hp} {k : Nat} {B : Nat → Int32} {z t s e : Nat} (hk : TkAt h k B z t s e) (ht5 : t < 5) (hse : s ≤ e) (hez : e ≤ z) (lo hi : Int32) : Mp l yX3_numberIn cX3_numberIn 5 (some .int) 2 [vr 3 k, vi lo, vi hi] h (vi (nmV B z t s e lo hi)) := by
  refine Ms.of (by decide) (Nat.le_of_ble_eq_true rfl) (fun G C X F => ?_)
  have C : Cx G cX3_numberIn 5 RX3 := C
  show Rr G 0 [(0, vr 3 k), (1, vi lo), (2, vi hi)] [] h
  have bz := hk.1.2.2
  refine r_aload_n C (dx dX3_numberIn 0 rfl) rfl ?_
  refine g_X3_19 (x := nI t) C (dx dX3_numberIn 1 rfl) hk.2.1 ?_
  refine r_iconst (v := nI 1) C (dx dX3_numberIn 2 rfl) rfl ?_
  refine rn_ne (a := t) (b := 1) (tgt := 21) C (by omega) (by omega) (dx dX3_numberIn 3 rfl) (by decide) (fun c1 => ?_) (fun c1 => ?_)
  · first
    | (omega; done)
    | (
        have c1 : ¬ t = 1 := c1
        refine r_iconst (v := -1) C (dx dX3_numberIn 11 rfl) rfl ?_
        exact F.1 _ _ _ _ _ rfl rfl (dx dX3_numberIn 12 rfl) rfl ⟨congrArg (fun x => some (vi x)) (show -1 = nmV B z t s e lo hi by unfold nmV; rw [if_neg (by omega)]), rfl⟩)
  · first
    | (omega; done)
    | (
        have c1 : t = 1 := c1
        refine r_aload_n C (dx dX3_numberIn 4 rfl) rfl ?_
        refine g_X3_25 (x := nI e) C (dx dX3_numberIn 5 rfl) hk.2.2.2 ?_
        refine r_aload_n C (dx dX3_numberIn 6 rfl) rfl ?_
        refine g_X3_22 (x := nI s) C (dx dX3_numberIn 7 rfl) hk.2.2.1 ?_
        refine rn_isub (a := e) (b := s) C (by omega) (dx dX3_numberIn 8 rfl) ?_
        refine r_iconst (v := nI 2) C (dx dX3_numberIn 9 rfl) rfl ?_
        refine rn_le (a := e - s) (b := 2) (tgt := 23) C (by omega) (by omega) (dx dX3_numberIn 10 rfl) (by decide) (fun c2 => ?_) (fun c2 => ?_)
        · first
          | (omega; done)
          | (
              have c2 : e - s ≤ 2 := c2
              refine r_iconst (v := nI 0) C (dx dX3_numberIn 13 rfl) rfl ?_
              refine r_istore_n (ls' := [(0, vr 3 k), (1, vi lo), (2, vi hi), (3, vi (nI 0))]) C (dx dX3_numberIn 14 rfl) (by decide) [1, 2, 3, 0] rfl ?_
              refine r_aload_n C (dx dX3_numberIn 15 rfl) rfl ?_
              refine g_X3_22 (x := nI s) C (dx dX3_numberIn 16 rfl) hk.2.2.1 ?_
              refine r_istore (ls' := [(0, vr 3 k), (1, vi lo), (2, vi hi), (3, vi (nI 0)), (4, vi (nI s))]) C (dx dX3_numberIn 17 rfl) (by decide) [1, 2, 3, 4, 0] rfl ?_
              refine loopU (Φ := fun p => s ≤ p → Rr G 31 [(0, vr 3 k), (1, vi lo), (2, vi hi), (3, vi (nmF B z s (p - s))), (4, vi (nI p))] [] h) (N := e) ?_ ?_ s hse (Nat.le_refl _) |> fun z9 => by rw [show nmF B z s (s - s) = nI 0 by rw [Nat.sub_self]; rfl] at z9; exact z9
              ·
                intro hsp
                refine r_iload C (dx dX3_numberIn 18 rfl) rfl ?_
                refine r_aload_n C (dx dX3_numberIn 19 rfl) rfl ?_
                refine g_X3_25 (x := nI e) C (dx dX3_numberIn 20 rfl) hk.2.2.2 ?_
                refine rn_ge (a := e) (b := e) (tgt := 61) C (by omega) (by omega) (dx dX3_numberIn 21 rfl) (by decide) (fun c3 => ?_) (fun c3 => ?_)
                · first
                  | (omega; done)
                  | (
                      have c3 : e ≤ e := c3
                      refine r_iload_n C (dx dX3_numberIn 34 rfl) rfl ?_
                      refine r_iload_n C (dx dX3_numberIn 35 rfl) rfl ?_
                      refine r_icmp_lt (tgt := 71) C (dx dX3_numberIn 36 rfl) (by decide) (fun c4 => ?_) (fun c4 => ?_)
                      ·
                        have c4 : nmF B z s (e - s) < lo := c4
                        refine r_iconst (v := -1) C (dx dX3_numberIn 40 rfl) rfl ?_
                        refine r_goto (tgt := 76) C (dx dX3_numberIn 41 rfl) (by decide) ?_
                        exact F.1 _ _ _ _ _ rfl rfl (dx dX3_numberIn 43 rfl) rfl ⟨congrArg (fun x => some (vi x)) (show -1 = nmV B z t s e lo hi by unfold nmV; rw [if_pos ⟨by omega, by omega⟩, if_pos c4]), rfl⟩
                      ·
                        have c4 : ¬ nmF B z s (e - s) < lo := c4
                        refine r_iload_n C (dx dX3_numberIn 37 rfl) rfl ?_
                        refine r_iload_n C (dx dX3_numberIn 38 rfl) rfl ?_
                        refine r_icmp_le (tgt := 75) C (dx dX3_numberIn 39 rfl) (by decide) (fun c5 => ?_) (fun c5 => ?_)
                        ·
                          have c5 : nmF B z s (e - s) ≤ hi := c5
                          refine r_iload_n C (dx dX3_numberIn 42 rfl) rfl ?_
                          exact F.1 _ _ _ _ _ rfl rfl (dx dX3_numberIn 43 rfl) rfl ⟨congrArg (fun x => some (vi x)) (show nmF B z s (e - s) = nmV B z t s e lo hi by unfold nmV; rw [if_pos ⟨by omega, by omega⟩, if_neg c4, if_pos c5]), rfl⟩
                        ·
                          have c5 : ¬ nmF B z s (e - s) ≤ hi := c5
                          refine r_iconst (v := -1) C (dx dX3_numberIn 40 rfl) rfl ?_
                          refine r_goto (tgt := 76) C (dx dX3_numberIn 41 rfl) (by decide) ?_
                          exact F.1 _ _ _ _ _ rfl rfl (dx dX3_numberIn 43 rfl) rfl ⟨congrArg (fun x => some (vi x)) (show -1 = nmV B z t s e lo hi by unfold nmV; rw [if_pos ⟨by omega, by omega⟩, if_neg c4, if_neg c5]), rfl⟩)
                · first
                  | (omega; done)
              ·
                intro p hp ih hsp
                refine r_iload C (dx dX3_numberIn 18 rfl) rfl ?_
                refine r_aload_n C (dx dX3_numberIn 19 rfl) rfl ?_
                refine g_X3_25 (x := nI e) C (dx dX3_numberIn 20 rfl) hk.2.2.2 ?_
                refine rn_ge (a := p) (b := e) (tgt := 61) C (by omega) (by omega) (dx dX3_numberIn 21 rfl) (by decide) (fun c6 => ?_) (fun c6 => ?_)
                · first
                  | (omega; done)
                  | (
                      have c6 : e ≤ p := c6
                      refine r_iload_n C (dx dX3_numberIn 34 rfl) rfl ?_
                      refine r_iload_n C (dx dX3_numberIn 35 rfl) rfl ?_
                      refine r_icmp_lt (tgt := 71) C (dx dX3_numberIn 36 rfl) (by decide) (fun c7 => ?_) (fun c7 => ?_)
                      ·
                        have c7 : nmF B z s (p - s) < lo := c7
                        refine r_iconst (v := -1) C (dx dX3_numberIn 40 rfl) rfl ?_
                        refine r_goto (tgt := 76) C (dx dX3_numberIn 41 rfl) (by decide) ?_
                        exact F.1 _ _ _ _ _ rfl rfl (dx dX3_numberIn 43 rfl) rfl ⟨congrArg (fun x => some (vi x)) (show -1 = nmV B z t s e lo hi by unfold nmV; rw [if_pos ⟨by omega, by omega⟩, if_pos c7]), rfl⟩
                      ·
                        have c7 : ¬ nmF B z s (p - s) < lo := c7
                        refine r_iload_n C (dx dX3_numberIn 37 rfl) rfl ?_
                        refine r_iload_n C (dx dX3_numberIn 38 rfl) rfl ?_
                        refine r_icmp_le (tgt := 75) C (dx dX3_numberIn 39 rfl) (by decide) (fun c8 => ?_) (fun c8 => ?_)
                        ·
                          have c8 : nmF B z s (p - s) ≤ hi := c8
                          refine r_iload_n C (dx dX3_numberIn 42 rfl) rfl ?_
                          exact F.1 _ _ _ _ _ rfl rfl (dx dX3_numberIn 43 rfl) rfl ⟨congrArg (fun x => some (vi x)) (show nmF B z s (p - s) = nmV B z t s e lo hi by unfold nmV; rw [if_pos ⟨by omega, by omega⟩, if_neg c7, if_pos c8]), rfl⟩
                        ·
                          have c8 : ¬ nmF B z s (p - s) ≤ hi := c8
                          refine r_iconst (v := -1) C (dx dX3_numberIn 40 rfl) rfl ?_
                          refine r_goto (tgt := 76) C (dx dX3_numberIn 41 rfl) (by decide) ?_
                          exact F.1 _ _ _ _ _ rfl rfl (dx dX3_numberIn 43 rfl) rfl ⟨congrArg (fun x => some (vi x)) (show -1 = nmV B z t s e lo hi by unfold nmV; rw [if_pos ⟨by omega, by omega⟩, if_neg c7, if_neg c8]), rfl⟩)
                · first
                  | (omega; done)
                  | (
                      have c6 : p < e := c6
                      refine r_bipush (v := nI 10) C (dx dX3_numberIn 22 rfl) rfl ?_
                      refine r_iload_n C (dx dX3_numberIn 23 rfl) rfl ?_
                      refine r_imul C (dx dX3_numberIn 24 rfl) ?_
                      refine r_aload_n C (dx dX3_numberIn 25 rfl) rfl ?_
                      refine r_iload C (dx dX3_numberIn 26 rfl) rfl ?_
                      refine r_cvP (as := [vi (nI p)]) (st := [vi ((nI 10) * (nmF B z s (p - s)))]) (v := vi (btA B z p)) C X I_X3_byteAt l_X3_113 (c_X3_byteAt hk.1 (a := p) (by omega)) (by decide) (Nat.le_of_ble_eq_true rfl) List.prefix_rfl rfl rfl (Nat.le_of_ble_eq_true rfl) rfl (dx dX3_numberIn 27 rfl) ?_
                      refine r_iadd C (dx dX3_numberIn 28 rfl) ?_
                      refine r_bipush (v := nI 48) C (dx dX3_numberIn 29 rfl) rfl ?_
                      refine r_isub C (dx dX3_numberIn 30 rfl) ?_
                      refine r_istore_n (ls' := [(0, vr 3 k), (1, vi lo), (2, vi hi), (3, vi ((((nI 10) * (nmF B z s (p - s))) + (btA B z p)) - (nI 48))), (4, vi (nI p))]) C (dx dX3_numberIn 31 rfl) (by decide) [1, 2, 3, 0, 4] rfl ?_
                      refine rn_iinc (a := p) (k := 1) (ls' := [(0, vr 3 k), (1, vi lo), (2, vi hi), (3, vi ((((nI 10) * (nmF B z s (p - s))) + (btA B z p)) - (nI 48))), (4, vi (nI (p + 1)))]) C (dx dX3_numberIn 32 rfl) rfl rfl (by decide) [1, 2, 3, 4, 0] rfl ?_
                      refine r_goto (tgt := 31) C (dx dX3_numberIn 33 rfl) (by decide) ?_
                      rw [nmF_s (by omega)]
                      exact ih (by omega)))
        · first
          | (omega; done)
          | (
              have c2 : 2 < e - s := c2
              refine r_iconst (v := -1) C (dx dX3_numberIn 11 rfl) rfl ?_
              exact F.1 _ _ _ _ _ rfl rfl (dx dX3_numberIn 12 rfl) rfl ⟨congrArg (fun x => some (vi x)) (show -1 = nmV B z t s e lo hi by unfold nmV; rw [if_neg (by omega)]), rfl⟩))

