section
/-! PART 15: shelves -/
/-- thing, size, by, elements -/
abbrev Sg : Type := (Nat → Int32) × (Nat → Int32) × (Nat → Int32) × (Nat → Nat → Int64)
abbrev gT (g : Sg) : Nat → Int32 := g.1
abbrev gZ (g : Sg) : Nat → Int32 := g.2.1
abbrev gY (g : Sg) : Nat → Int32 := g.2.2.1
abbrev gE (g : Sg) : Nat → Nat → Int64 := g.2.2.2
def ShAt (h : Hp) (k : Nat) (g : Sg) : Prop := (∀ s, s < 8 → xI h (k + 1) s = gT g s) ∧ (∀ s, s < 8 → xI h (k + 2) s = gZ g s) ∧ (∀ s, s < 8 → xI h (k + 12) s = gY g s) ∧ (∀ s, s < 8 → ∀ i, i < 40 → xL h (k + 4 + s) i = gE g s i)
def tOn (g : Sg) (x : Int32) : Int32 := if inR x 8 = true then gT g x.toNatClampNeg else -1
def bareB (g : Sg) (x : Int32) : Bool := decide (tOn g x = -1)
def holdB (g : Sg) (x : Int32) : Bool := decide (¬ tOn g x < nI 10)
def rowB (g : Sg) (x : Int32) : Bool := !bareB g x && !holdB g x
theorem tOn_no {g : Sg} {x : Int32} (h : inR x 8 = false) : tOn g x = -1 := by simp [tOn, h]
theorem hold_in {g : Sg} {x : Int32} (h : holdB g x = true) : inR x 8 = true := by
  rcases Bool.eq_false_or_eq_true (inR x 8) with q | q
  · exact q
  · exfalso
    unfold holdB at h
    rw [tOn_no q] at h
    exact absurd h (by decide)
theorem row_in {g : Sg} {x : Int32} (h : rowB g x = true) : inR x 8 = true := by
  rcases Bool.eq_false_or_eq_true (inR x 8) with q | q
  · exact q
  · exfalso
    unfold rowB bareB at h
    rw [tOn_no q] at h
    simp at h
def szV (g : Sg) (x : Int32) : Int32 := if rowB g x = true then gZ g x.toNatClampNeg else nI 0
def kdV (g : Sg) (x : Int32) : Int32 := if holdB g x = true then gT g x.toNatClampNeg - nI 10 else nI 0
def byV (g : Sg) (x : Int32) : Int32 := if holdB g x = true then gY g x.toNatClampNeg else nI 0
def elV (g : Sg) (x i : Int32) : Int64 := if i < 0 ∨ szV g x ≤ i then 0 else gE g x.toNatClampNeg i.toNatClampNeg
/-- sizes are at most 40 -/
def SzOk (g : Sg) : Prop := ∀ s, s < 8 → inR (gZ g s) 41 = true
theorem el_in {g : Sg} {x i : Int32} (hz : SzOk g) (h0 : ¬ i < 0) (h1 : ¬ szV g x ≤ i) : inR x 8 = true ∧ inR i 40 = true := by
  rcases Bool.eq_false_or_eq_true (rowB g x) with q | q
  · have q8 := row_in q
    refine ⟨q8, ?_⟩
    rw [szV, if_pos q] at h1
    have z := hz _ (inR_at (by omega) q8).2
    obtain ⟨j, hj, rfl⟩ := nI_of h0
    obtain ⟨e, l⟩ := inR_at (by omega) z
    rw [e] at h1
    have : ¬ (gZ g x.toNatClampNeg).toNatClampNeg ≤ j := fun y => h1 ((nI_leI (by omega) (by omega)).mpr y)
    rw [inR_nI (by omega)]; exact decide_eq_true (by omega)
  · rw [szV, if_neg (by simp [q])] at h1
    obtain ⟨j, hj, rfl⟩ := nI_of h0
    exact absurd ((nI_leI (by omega) hj).mpr (Nat.zero_le j)) h1
set_option maxHeartbeats 4000000 in
theorem c_X2_isShelf {l : Launch} {h : Hp} {k : Nat} (x : Int32) : Mp l yX2_isShelf cX2_isShelf 2 (some .boolean) 1 [vr 2 k, vi x] h (vi (b2i (inR x 8))) := by
  refine Ms.of (by decide) (Nat.le_of_ble_eq_true rfl) (fun G C X F => ?_)
  have C : Cx G cX2_isShelf 2 RX2 := C
  show Rr G 0 [(0, vr 2 k), (1, vi x)] [] h
  refine r_iload_n C (dx dX2_isShelf 0 rfl) rfl ?_
  refine r_if_lt (tgt := 14) C (dx dX2_isShelf 1 rfl) (by decide) (fun c1 => ?_) (fun c1 => ?_)
  ·
    have c1 : x < 0 := c1
    refine r_iconst (v := nI 0) C (dx dX2_isShelf 7 rfl) rfl ?_
    exact F.1 _ _ _ _ _ rfl rfl (dx dX2_isShelf 8 rfl) rfl ⟨congrArg (fun x => some (vi x)) (show nI 0 = b2i _ by rw [show (inR x 8) = false by first | exact inR_neg (by assumption) | exact inR_big (by omega) (by assumption) | exact inR_ok (by omega) (by assumption) (by assumption)]; rfl), rfl⟩
  ·
    have c1 : ¬ x < 0 := c1
    refine r_iload_n C (dx dX2_isShelf 2 rfl) rfl ?_
    refine r_bipush (v := nI 8) C (dx dX2_isShelf 3 rfl) rfl ?_
    refine r_icmp_ge (tgt := 14) C (dx dX2_isShelf 4 rfl) (by decide) (fun c2 => ?_) (fun c2 => ?_)
    ·
      have c2 : nI 8 ≤ x := c2
      refine r_iconst (v := nI 0) C (dx dX2_isShelf 7 rfl) rfl ?_
      exact F.1 _ _ _ _ _ rfl rfl (dx dX2_isShelf 8 rfl) rfl ⟨congrArg (fun x => some (vi x)) (show nI 0 = b2i _ by rw [show (inR x 8) = false by first | exact inR_neg (by assumption) | exact inR_big (by omega) (by assumption) | exact inR_ok (by omega) (by assumption) (by assumption)]; rfl), rfl⟩
    ·
      have c2 : ¬ nI 8 ≤ x := c2
      refine r_iconst (v := nI 1) C (dx dX2_isShelf 5 rfl) rfl ?_
      refine r_goto (tgt := 15) C (dx dX2_isShelf 6 rfl) (by decide) ?_
      exact F.1 _ _ _ _ _ rfl rfl (dx dX2_isShelf 8 rfl) rfl ⟨congrArg (fun x => some (vi x)) (show nI 1 = b2i _ by rw [show (inR x 8) = true by first | exact inR_neg (by assumption) | exact inR_big (by omega) (by assumption) | exact inR_ok (by omega) (by assumption) (by assumption)]; rfl), rfl⟩
set_option maxHeartbeats 4000000 in
theorem c_X2_thingOn {l : Launch} {h : Hp} {k : Nat} {g : Sg} (hs : ShAt h k g) (x : Int32) : Mp l yX2_thingOn cX2_thingOn 2 (some .int) 2 [vr 2 k, vi x] h (vi (tOn g x)) := by
  refine Ms.of (by decide) (Nat.le_of_ble_eq_true rfl) (fun G C X F => ?_)
  have C : Cx G cX2_thingOn 2 RX2 := C
  show Rr G 0 [(0, vr 2 k), (1, vi x)] [] h
  refine r_aload_n C (dx dX2_thingOn 0 rfl) rfl ?_
  refine r_iload_n C (dx dX2_thingOn 1 rfl) rfl ?_
  refine r_cvP (as := [vi x]) (st := []) (v := vi (b2i (inR x 8))) C X I_X2_isShelf l_X2_26 (c_X2_isShelf _) (by decide) (Nat.le_of_ble_eq_true rfl) List.prefix_rfl rfl rfl (Nat.le_of_ble_eq_true rfl) rfl (dx dX2_thingOn 2 rfl) ?_
  refine rb_eq (b := inR x 8) (tgt := 17) C (dx dX2_thingOn 3 rfl) (by decide) (fun c1 => ?_) (fun c1 => ?_)
  ·
    have c1 : (inR x 8) = false := c1
    refine r_iconst (v := -1) C (dx dX2_thingOn 9 rfl) rfl ?_
    exact F.1 _ _ _ _ _ rfl rfl (dx dX2_thingOn 10 rfl) rfl ⟨congrArg (fun x => some (vi x)) (show -1 = tOn g x by simp [tOn, c1]), rfl⟩
  ·
    have c1 : (inR x 8) = true := c1
    refine r_aload_n C (dx dX2_thingOn 4 rfl) rfl ?_
    refine g_X2_9 C (dx dX2_thingOn 5 rfl) ?_
    refine r_iload_n C (dx dX2_thingOn 6 rfl) rfl ?_
    refine r_iald (j := x.toNatClampNeg) (x := gT g x.toNatClampNeg) C rfl rfl (by decide) (inR_at (by omega) c1).1 (inR_at (by omega) c1).2 (dx dX2_thingOn 7 rfl) (hs.1 _ (inR_at (by omega) c1).2) ?_
    refine r_goto (tgt := 18) C (dx dX2_thingOn 8 rfl) (by decide) ?_
    exact F.1 _ _ _ _ _ rfl rfl (dx dX2_thingOn 10 rfl) rfl ⟨congrArg (fun x => some (vi x)) (show gT g x.toNatClampNeg = tOn g x by simp [tOn, c1]), rfl⟩
set_option maxHeartbeats 4000000 in
theorem c_X2_isBare {l : Launch} {h : Hp} {k : Nat} {g : Sg} (hs : ShAt h k g) (x : Int32) : Mp l yX2_isBare cX2_isBare 2 (some .boolean) 3 [vr 2 k, vi x] h (vi (b2i (bareB g x))) := by
  refine Ms.of (by decide) (Nat.le_of_ble_eq_true rfl) (fun G C X F => ?_)
  have C : Cx G cX2_isBare 2 RX2 := C
  show Rr G 0 [(0, vr 2 k), (1, vi x)] [] h
  refine r_aload_n C (dx dX2_isBare 0 rfl) rfl ?_
  refine r_iload_n C (dx dX2_isBare 1 rfl) rfl ?_
  refine r_cvP (as := [vi x]) (st := []) (v := vi (tOn g x)) C X I_X2_thingOn l_X2_30 (c_X2_thingOn hs _) (by decide) (Nat.le_of_ble_eq_true rfl) List.prefix_rfl rfl rfl (Nat.le_of_ble_eq_true rfl) rfl (dx dX2_isBare 2 rfl) ?_
  refine r_iconst (v := -1) C (dx dX2_isBare 3 rfl) rfl ?_
  refine r_icmp_ne (tgt := 13) C (dx dX2_isBare 4 rfl) (by decide) (fun c1 => ?_) (fun c1 => ?_)
  ·
    have c1 : ¬ tOn g x = -1 := c1
    refine r_iconst (v := nI 0) C (dx dX2_isBare 7 rfl) rfl ?_
    exact F.1 _ _ _ _ _ rfl rfl (dx dX2_isBare 8 rfl) rfl ⟨congrArg (fun x => some (vi x)) (show nI 0 = b2i _ by rw [show (bareB g x) = false by simp [bareB, c1]]; rfl), rfl⟩
  ·
    have c1 : tOn g x = -1 := c1
    refine r_iconst (v := nI 1) C (dx dX2_isBare 5 rfl) rfl ?_
    refine r_goto (tgt := 14) C (dx dX2_isBare 6 rfl) (by decide) ?_
    exact F.1 _ _ _ _ _ rfl rfl (dx dX2_isBare 8 rfl) rfl ⟨congrArg (fun x => some (vi x)) (show nI 1 = b2i _ by rw [show (bareB g x) = true by simp [bareB, c1]]; rfl), rfl⟩
set_option maxHeartbeats 4000000 in
theorem c_X2_isOfHolding {l : Launch} {h : Hp} {k : Nat} {g : Sg} (hs : ShAt h k g) (x : Int32) : Mp l yX2_isOfHolding cX2_isOfHolding 2 (some .boolean) 3 [vr 2 k, vi x] h (vi (b2i (holdB g x))) := by
  refine Ms.of (by decide) (Nat.le_of_ble_eq_true rfl) (fun G C X F => ?_)
  have C : Cx G cX2_isOfHolding 2 RX2 := C
  show Rr G 0 [(0, vr 2 k), (1, vi x)] [] h
  refine r_aload_n C (dx dX2_isOfHolding 0 rfl) rfl ?_
  refine r_iload_n C (dx dX2_isOfHolding 1 rfl) rfl ?_
  refine r_cvP (as := [vi x]) (st := []) (v := vi (tOn g x)) C X I_X2_thingOn l_X2_30 (c_X2_thingOn hs _) (by decide) (Nat.le_of_ble_eq_true rfl) List.prefix_rfl rfl rfl (Nat.le_of_ble_eq_true rfl) rfl (dx dX2_isOfHolding 2 rfl) ?_
  refine r_bipush (v := nI 10) C (dx dX2_isOfHolding 3 rfl) rfl ?_
  refine r_icmp_lt (tgt := 14) C (dx dX2_isOfHolding 4 rfl) (by decide) (fun c1 => ?_) (fun c1 => ?_)
  ·
    have c1 : tOn g x < nI 10 := c1
    refine r_iconst (v := nI 0) C (dx dX2_isOfHolding 7 rfl) rfl ?_
    exact F.1 _ _ _ _ _ rfl rfl (dx dX2_isOfHolding 8 rfl) rfl ⟨congrArg (fun x => some (vi x)) (show nI 0 = b2i _ by rw [show (holdB g x) = false by (unfold holdB; first | exact decide_eq_true c1 | exact decide_eq_false (fun z => z c1))]; rfl), rfl⟩
  ·
    have c1 : ¬ tOn g x < nI 10 := c1
    refine r_iconst (v := nI 1) C (dx dX2_isOfHolding 5 rfl) rfl ?_
    refine r_goto (tgt := 15) C (dx dX2_isOfHolding 6 rfl) (by decide) ?_
    exact F.1 _ _ _ _ _ rfl rfl (dx dX2_isOfHolding 8 rfl) rfl ⟨congrArg (fun x => some (vi x)) (show nI 1 = b2i _ by rw [show (holdB g x) = true by (unfold holdB; first | exact decide_eq_true c1 | exact decide_eq_false (fun z => z c1))]; rfl), rfl⟩
set_option maxHeartbeats 4000000 in
theorem c_X2_isOfRow {l : Launch} {h : Hp} {k : Nat} {g : Sg} (hs : ShAt h k g) (x : Int32) : Mp l yX2_isOfRow cX2_isOfRow 2 (some .boolean) 4 [vr 2 k, vi x] h (vi (b2i (rowB g x))) := by
  refine Ms.of (by decide) (Nat.le_of_ble_eq_true rfl) (fun G C X F => ?_)
  have C : Cx G cX2_isOfRow 2 RX2 := C
  show Rr G 0 [(0, vr 2 k), (1, vi x)] [] h
  refine r_aload_n C (dx dX2_isOfRow 0 rfl) rfl ?_
  refine r_iload_n C (dx dX2_isOfRow 1 rfl) rfl ?_
  refine r_cvP (as := [vi x]) (st := []) (v := vi (b2i (bareB g x))) C X I_X2_isBare l_X2_34 (c_X2_isBare hs _) (by decide) (Nat.le_of_ble_eq_true rfl) List.prefix_rfl rfl rfl (Nat.le_of_ble_eq_true rfl) rfl (dx dX2_isOfRow 2 rfl) ?_
  refine rb_ne (b := bareB g x) (tgt := 20) C (dx dX2_isOfRow 3 rfl) (by decide) (fun c1 => ?_) (fun c1 => ?_)
  ·
    have c1 : (bareB g x) = true := c1
    refine r_iconst (v := nI 0) C (dx dX2_isOfRow 10 rfl) rfl ?_
    exact F.1 _ _ _ _ _ rfl rfl (dx dX2_isOfRow 11 rfl) rfl ⟨congrArg (fun x => some (vi x)) (show nI 0 = b2i _ by rw [show (rowB g x) = false by simp [rowB, c1]]; rfl), rfl⟩
  ·
    have c1 : (bareB g x) = false := c1
    refine r_aload_n C (dx dX2_isOfRow 4 rfl) rfl ?_
    refine r_iload_n C (dx dX2_isOfRow 5 rfl) rfl ?_
    refine r_cvP (as := [vi x]) (st := []) (v := vi (b2i (holdB g x))) C X I_X2_isOfHolding l_X2_37 (c_X2_isOfHolding hs _) (by decide) (Nat.le_of_ble_eq_true rfl) List.prefix_rfl rfl rfl (Nat.le_of_ble_eq_true rfl) rfl (dx dX2_isOfRow 6 rfl) ?_
    refine rb_ne (b := holdB g x) (tgt := 20) C (dx dX2_isOfRow 7 rfl) (by decide) (fun c2 => ?_) (fun c2 => ?_)
    ·
      have c2 : (holdB g x) = true := c2
      refine r_iconst (v := nI 0) C (dx dX2_isOfRow 10 rfl) rfl ?_
      exact F.1 _ _ _ _ _ rfl rfl (dx dX2_isOfRow 11 rfl) rfl ⟨congrArg (fun x => some (vi x)) (show nI 0 = b2i _ by rw [show (rowB g x) = false by simp [rowB, c1, c2]]; rfl), rfl⟩
    ·
      have c2 : (holdB g x) = false := c2
      refine r_iconst (v := nI 1) C (dx dX2_isOfRow 8 rfl) rfl ?_
      refine r_goto (tgt := 21) C (dx dX2_isOfRow 9 rfl) (by decide) ?_
      exact F.1 _ _ _ _ _ rfl rfl (dx dX2_isOfRow 11 rfl) rfl ⟨congrArg (fun x => some (vi x)) (show nI 1 = b2i _ by rw [show (rowB g x) = true by simp [rowB, c1, c2]]; rfl), rfl⟩
set_option maxHeartbeats 4000000 in
theorem c_X2_rowFault {l : Launch} {h : Hp} {k : Nat} {g : Sg} (hs : ShAt h k g) (x : Int32) : Mp l yX2_rowFault cX2_rowFault 2 (some .int) 4 [vr 2 k, vi x] h (vi (if holdB g x = true then -3 else if bareB g x = true then -4 else nI 0)) := by
  refine Ms.of (by decide) (Nat.le_of_ble_eq_true rfl) (fun G C X F => ?_)
  have C : Cx G cX2_rowFault 2 RX2 := C
  show Rr G 0 [(0, vr 2 k), (1, vi x)] [] h
  refine r_aload_n C (dx dX2_rowFault 0 rfl) rfl ?_
  refine r_iload_n C (dx dX2_rowFault 1 rfl) rfl ?_
  refine r_cvP (as := [vi x]) (st := []) (v := vi (b2i (holdB g x))) C X I_X2_isOfHolding l_X2_37 (c_X2_isOfHolding hs _) (by decide) (Nat.le_of_ble_eq_true rfl) List.prefix_rfl rfl rfl (Nat.le_of_ble_eq_true rfl) rfl (dx dX2_rowFault 2 rfl) ?_
  refine rb_eq (b := holdB g x) (tgt := 11) C (dx dX2_rowFault 3 rfl) (by decide) (fun c1 => ?_) (fun c1 => ?_)
  ·
    have c1 : (holdB g x) = false := c1
    refine r_aload_n C (dx dX2_rowFault 6 rfl) rfl ?_
    refine r_iload_n C (dx dX2_rowFault 7 rfl) rfl ?_
    refine r_cvP (as := [vi x]) (st := []) (v := vi (b2i (bareB g x))) C X I_X2_isBare l_X2_34 (c_X2_isBare hs _) (by decide) (Nat.le_of_ble_eq_true rfl) List.prefix_rfl rfl rfl (Nat.le_of_ble_eq_true rfl) rfl (dx dX2_rowFault 8 rfl) ?_
    refine rb_eq (b := bareB g x) (tgt := 24) C (dx dX2_rowFault 9 rfl) (by decide) (fun c2 => ?_) (fun c2 => ?_)
    ·
      have c2 : (bareB g x) = false := c2
      refine r_iconst (v := nI 0) C (dx dX2_rowFault 12 rfl) rfl ?_
      exact F.1 _ _ _ _ _ rfl rfl (dx dX2_rowFault 13 rfl) rfl ⟨congrArg (fun x => some (vi x)) (show nI 0 = if holdB g x = true then -3 else if bareB g x = true then -4 else nI 0 by simp [c1, c2]), rfl⟩
    ·
      have c2 : (bareB g x) = true := c2
      refine r_bipush (v := -4) C (dx dX2_rowFault 10 rfl) rfl ?_
      refine r_goto (tgt := 25) C (dx dX2_rowFault 11 rfl) (by decide) ?_
      exact F.1 _ _ _ _ _ rfl rfl (dx dX2_rowFault 13 rfl) rfl ⟨congrArg (fun x => some (vi x)) (show -4 = if holdB g x = true then -3 else if bareB g x = true then -4 else nI 0 by simp [c1, c2]), rfl⟩
  ·
    have c1 : (holdB g x) = true := c1
    refine r_bipush (v := -3) C (dx dX2_rowFault 4 rfl) rfl ?_
    exact F.1 _ _ _ _ _ rfl rfl (dx dX2_rowFault 5 rfl) rfl ⟨congrArg (fun x => some (vi x)) (show -3 = if holdB g x = true then -3 else if bareB g x = true then -4 else nI 0 by simp [c1]), rfl⟩
set_option maxHeartbeats 4000000 in
theorem c_X2_holdingFault {l : Launch} {h : Hp} {k : Nat} {g : Sg} (hs : ShAt h k g) (x : Int32) : Mp l yX2_holdingFault cX2_holdingFault 2 (some .int) 5 [vr 2 k, vi x] h (vi (if rowB g x = true then -3 else if bareB g x = true then -4 else nI 0)) := by
  refine Ms.of (by decide) (Nat.le_of_ble_eq_true rfl) (fun G C X F => ?_)
  have C : Cx G cX2_holdingFault 2 RX2 := C
  show Rr G 0 [(0, vr 2 k), (1, vi x)] [] h
  refine r_aload_n C (dx dX2_holdingFault 0 rfl) rfl ?_
  refine r_iload_n C (dx dX2_holdingFault 1 rfl) rfl ?_
  refine r_cvP (as := [vi x]) (st := []) (v := vi (b2i (rowB g x))) C X I_X2_isOfRow l_X2_40 (c_X2_isOfRow hs _) (by decide) (Nat.le_of_ble_eq_true rfl) List.prefix_rfl rfl rfl (Nat.le_of_ble_eq_true rfl) rfl (dx dX2_holdingFault 2 rfl) ?_
  refine rb_eq (b := rowB g x) (tgt := 11) C (dx dX2_holdingFault 3 rfl) (by decide) (fun c1 => ?_) (fun c1 => ?_)
  ·
    have c1 : (rowB g x) = false := c1
    refine r_aload_n C (dx dX2_holdingFault 6 rfl) rfl ?_
    refine r_iload_n C (dx dX2_holdingFault 7 rfl) rfl ?_
    refine r_cvP (as := [vi x]) (st := []) (v := vi (b2i (bareB g x))) C X I_X2_isBare l_X2_34 (c_X2_isBare hs _) (by decide) (Nat.le_of_ble_eq_true rfl) List.prefix_rfl rfl rfl (Nat.le_of_ble_eq_true rfl) rfl (dx dX2_holdingFault 8 rfl) ?_
    refine rb_eq (b := bareB g x) (tgt := 24) C (dx dX2_holdingFault 9 rfl) (by decide) (fun c2 => ?_) (fun c2 => ?_)
    ·
      have c2 : (bareB g x) = false := c2
      refine r_iconst (v := nI 0) C (dx dX2_holdingFault 12 rfl) rfl ?_
      exact F.1 _ _ _ _ _ rfl rfl (dx dX2_holdingFault 13 rfl) rfl ⟨congrArg (fun x => some (vi x)) (show nI 0 = if rowB g x = true then -3 else if bareB g x = true then -4 else nI 0 by simp [c1, c2]), rfl⟩
    ·
      have c2 : (bareB g x) = true := c2
      refine r_bipush (v := -4) C (dx dX2_holdingFault 10 rfl) rfl ?_
      refine r_goto (tgt := 25) C (dx dX2_holdingFault 11 rfl) (by decide) ?_
      exact F.1 _ _ _ _ _ rfl rfl (dx dX2_holdingFault 13 rfl) rfl ⟨congrArg (fun x => some (vi x)) (show -4 = if rowB g x = true then -3 else if bareB g x = true then -4 else nI 0 by simp [c1, c2]), rfl⟩
  ·
    have c1 : (rowB g x) = true := c1
    refine r_bipush (v := -3) C (dx dX2_holdingFault 4 rfl) rfl ?_
    exact F.1 _ _ _ _ _ rfl rfl (dx dX2_holdingFault 5 rfl) rfl ⟨congrArg (fun x => some (vi x)) (show -3 = if rowB g x = true then -3 else if bareB g x = true then -4 else nI 0 by simp [c1]), rfl⟩
set_option maxHeartbeats 4000000 in
theorem c_X2_kindOn {l : Launch} {h : Hp} {k : Nat} {g : Sg} (hs : ShAt h k g) (x : Int32) : Mp l yX2_kindOn cX2_kindOn 2 (some .int) 4 [vr 2 k, vi x] h (vi (kdV g x)) := by
  refine Ms.of (by decide) (Nat.le_of_ble_eq_true rfl) (fun G C X F => ?_)
  have C : Cx G cX2_kindOn 2 RX2 := C
  show Rr G 0 [(0, vr 2 k), (1, vi x)] [] h
  refine r_aload_n C (dx dX2_kindOn 0 rfl) rfl ?_
  refine r_iload_n C (dx dX2_kindOn 1 rfl) rfl ?_
  refine r_cvP (as := [vi x]) (st := []) (v := vi (b2i (holdB g x))) C X I_X2_isOfHolding l_X2_37 (c_X2_isOfHolding hs _) (by decide) (Nat.le_of_ble_eq_true rfl) List.prefix_rfl rfl rfl (Nat.le_of_ble_eq_true rfl) rfl (dx dX2_kindOn 2 rfl) ?_
  refine rb_eq (b := holdB g x) (tgt := 20) C (dx dX2_kindOn 3 rfl) (by decide) (fun c1 => ?_) (fun c1 => ?_)
  ·
    have c1 : (holdB g x) = false := c1
    refine r_iconst (v := nI 0) C (dx dX2_kindOn 11 rfl) rfl ?_
    exact F.1 _ _ _ _ _ rfl rfl (dx dX2_kindOn 12 rfl) rfl ⟨congrArg (fun x => some (vi x)) (show nI 0 = kdV g x by simp [kdV, c1]), rfl⟩
  ·
    have c1 : (holdB g x) = true := c1
    refine r_aload_n C (dx dX2_kindOn 4 rfl) rfl ?_
    refine g_X2_9 C (dx dX2_kindOn 5 rfl) ?_
    refine r_iload_n C (dx dX2_kindOn 6 rfl) rfl ?_
    refine r_iald (j := x.toNatClampNeg) (x := gT g x.toNatClampNeg) C rfl rfl (by decide) (inR_at (by omega) (hold_in c1)).1 (inR_at (by omega) (hold_in c1)).2 (dx dX2_kindOn 7 rfl) (hs.1 _ (inR_at (by omega) (hold_in c1)).2) ?_
    refine r_bipush (v := nI 10) C (dx dX2_kindOn 8 rfl) rfl ?_
    refine r_isub C (dx dX2_kindOn 9 rfl) ?_
    refine r_goto (tgt := 21) C (dx dX2_kindOn 10 rfl) (by decide) ?_
    exact F.1 _ _ _ _ _ rfl rfl (dx dX2_kindOn 12 rfl) rfl ⟨congrArg (fun x => some (vi x)) (show (gT g x.toNatClampNeg) - (nI 10) = kdV g x by simp [kdV, c1]), rfl⟩
set_option maxHeartbeats 4000000 in
theorem c_X2_byOn {l : Launch} {h : Hp} {k : Nat} {g : Sg} (hs : ShAt h k g) (x : Int32) : Mp l yX2_byOn cX2_byOn 2 (some .int) 4 [vr 2 k, vi x] h (vi (byV g x)) := by
  refine Ms.of (by decide) (Nat.le_of_ble_eq_true rfl) (fun G C X F => ?_)
  have C : Cx G cX2_byOn 2 RX2 := C
  show Rr G 0 [(0, vr 2 k), (1, vi x)] [] h
  refine r_aload_n C (dx dX2_byOn 0 rfl) rfl ?_
  refine r_iload_n C (dx dX2_byOn 1 rfl) rfl ?_
  refine r_cvP (as := [vi x]) (st := []) (v := vi (b2i (holdB g x))) C X I_X2_isOfHolding l_X2_37 (c_X2_isOfHolding hs _) (by decide) (Nat.le_of_ble_eq_true rfl) List.prefix_rfl rfl rfl (Nat.le_of_ble_eq_true rfl) rfl (dx dX2_byOn 2 rfl) ?_
  refine rb_eq (b := holdB g x) (tgt := 17) C (dx dX2_byOn 3 rfl) (by decide) (fun c1 => ?_) (fun c1 => ?_)
  ·
    have c1 : (holdB g x) = false := c1
    refine r_iconst (v := nI 0) C (dx dX2_byOn 9 rfl) rfl ?_
    exact F.1 _ _ _ _ _ rfl rfl (dx dX2_byOn 10 rfl) rfl ⟨congrArg (fun x => some (vi x)) (show nI 0 = byV g x by simp [byV, c1]), rfl⟩
  ·
    have c1 : (holdB g x) = true := c1
    refine r_aload_n C (dx dX2_byOn 4 rfl) rfl ?_
    refine g_X2_23 C (dx dX2_byOn 5 rfl) ?_
    refine r_iload_n C (dx dX2_byOn 6 rfl) rfl ?_
    refine r_iald (j := x.toNatClampNeg) (x := gY g x.toNatClampNeg) C rfl rfl (by decide) (inR_at (by omega) (hold_in c1)).1 (inR_at (by omega) (hold_in c1)).2 (dx dX2_byOn 7 rfl) (hs.2.2.1 _ (inR_at (by omega) (hold_in c1)).2) ?_
    refine r_goto (tgt := 18) C (dx dX2_byOn 8 rfl) (by decide) ?_
    exact F.1 _ _ _ _ _ rfl rfl (dx dX2_byOn 10 rfl) rfl ⟨congrArg (fun x => some (vi x)) (show gY g x.toNatClampNeg = byV g x by simp [byV, c1]), rfl⟩
set_option maxHeartbeats 4000000 in
theorem c_X2_sizeOf {l : Launch} {h : Hp} {k : Nat} {g : Sg} (hs : ShAt h k g) (x : Int32) : Mp l yX2_sizeOf cX2_sizeOf 2 (some .int) 5 [vr 2 k, vi x] h (vi (szV g x)) := by
  refine Ms.of (by decide) (Nat.le_of_ble_eq_true rfl) (fun G C X F => ?_)
  have C : Cx G cX2_sizeOf 2 RX2 := C
  show Rr G 0 [(0, vr 2 k), (1, vi x)] [] h
  refine r_aload_n C (dx dX2_sizeOf 0 rfl) rfl ?_
  refine r_iload_n C (dx dX2_sizeOf 1 rfl) rfl ?_
  refine r_cvP (as := [vi x]) (st := []) (v := vi (b2i (rowB g x))) C X I_X2_isOfRow l_X2_40 (c_X2_isOfRow hs _) (by decide) (Nat.le_of_ble_eq_true rfl) List.prefix_rfl rfl rfl (Nat.le_of_ble_eq_true rfl) rfl (dx dX2_sizeOf 2 rfl) ?_
  refine rb_eq (b := rowB g x) (tgt := 17) C (dx dX2_sizeOf 3 rfl) (by decide) (fun c1 => ?_) (fun c1 => ?_)
  ·
    have c1 : (rowB g x) = false := c1
    refine r_iconst (v := nI 0) C (dx dX2_sizeOf 9 rfl) rfl ?_
    exact F.1 _ _ _ _ _ rfl rfl (dx dX2_sizeOf 10 rfl) rfl ⟨congrArg (fun x => some (vi x)) (show nI 0 = szV g x by simp [szV, c1]), rfl⟩
  ·
    have c1 : (rowB g x) = true := c1
    refine r_aload_n C (dx dX2_sizeOf 4 rfl) rfl ?_
    refine g_X2_15 C (dx dX2_sizeOf 5 rfl) ?_
    refine r_iload_n C (dx dX2_sizeOf 6 rfl) rfl ?_
    refine r_iald (j := x.toNatClampNeg) (x := gZ g x.toNatClampNeg) C rfl rfl (by decide) (inR_at (by omega) (row_in c1)).1 (inR_at (by omega) (row_in c1)).2 (dx dX2_sizeOf 7 rfl) (hs.2.1 _ (inR_at (by omega) (row_in c1)).2) ?_
    refine r_goto (tgt := 18) C (dx dX2_sizeOf 8 rfl) (by decide) ?_
    exact F.1 _ _ _ _ _ rfl rfl (dx dX2_sizeOf 10 rfl) rfl ⟨congrArg (fun x => some (vi x)) (show gZ g x.toNatClampNeg = szV g x by simp [szV, c1]), rfl⟩
set_option maxHeartbeats 4000000 in
theorem c_X2_elementAt {l : Launch} {h : Hp} {k : Nat} {g : Sg} (hs : ShAt h k g) (hz : SzOk g) (x i : Int32) : Mp l yX2_elementAt cX2_elementAt 3 (some .long) 6 [vr 2 k, vi x, vi i] h (vl (elV g x i)) := by
  refine Ms.of (by decide) (Nat.le_of_ble_eq_true rfl) (fun G C X F => ?_)
  have C : Cx G cX2_elementAt 3 RX2 := C
  show Rr G 0 [(0, vr 2 k), (1, vi x), (2, vi i)] [] h
  refine r_iload_n C (dx dX2_elementAt 0 rfl) rfl ?_
  refine r_if_lt (tgt := 24) C (dx dX2_elementAt 1 rfl) (by decide) (fun c1 => ?_) (fun c1 => ?_)
  ·
    have c1 : i < 0 := c1
    refine r_lconst (v := 0) C (dx dX2_elementAt 14 rfl) rfl ?_
    exact F.2.1 _ _ _ _ rfl (dx dX2_elementAt 15 rfl) rfl ⟨congrArg (fun x => some (vl x)) (show 0 = elV g x i by (unfold elV; rw [if_pos (Or.inl c1)])), rfl⟩
  ·
    have c1 : ¬ i < 0 := c1
    refine r_iload_n C (dx dX2_elementAt 2 rfl) rfl ?_
    refine r_aload_n C (dx dX2_elementAt 3 rfl) rfl ?_
    refine r_iload_n C (dx dX2_elementAt 4 rfl) rfl ?_
    refine r_cvP (as := [vi x]) (st := [vi i]) (v := vi (szV g x)) C X I_X2_sizeOf l_X2_49 (c_X2_sizeOf hs _) (by decide) (Nat.le_of_ble_eq_true rfl) List.prefix_rfl rfl rfl (Nat.le_of_ble_eq_true rfl) rfl (dx dX2_elementAt 5 rfl) ?_
    refine r_icmp_ge (tgt := 24) C (dx dX2_elementAt 6 rfl) (by decide) (fun c2 => ?_) (fun c2 => ?_)
    ·
      have c2 : szV g x ≤ i := c2
      refine r_lconst (v := 0) C (dx dX2_elementAt 14 rfl) rfl ?_
      exact F.2.1 _ _ _ _ rfl (dx dX2_elementAt 15 rfl) rfl ⟨congrArg (fun x => some (vl x)) (show 0 = elV g x i by (unfold elV; rw [if_pos (Or.inr c2)])), rfl⟩
    ·
      have c2 : ¬ szV g x ≤ i := c2
      refine r_aload_n C (dx dX2_elementAt 7 rfl) rfl ?_
      refine g_X2_20 C (dx dX2_elementAt 8 rfl) ?_
      refine r_iload_n C (dx dX2_elementAt 9 rfl) rfl ?_
      refine r_aald5 (j := x.toNatClampNeg) C rfl rfl (by decide) (inR_at (by omega) (el_in hz c1 c2).1).1 (inR_at (by omega) (el_in hz c1 c2).1).2 (dx dX2_elementAt 10 rfl) ?_
      refine r_iload_n C (dx dX2_elementAt 11 rfl) rfl ?_
      refine r_lald (j := i.toNatClampNeg) (x := gE g x.toNatClampNeg i.toNatClampNeg) C rfl rfl (by decide) (inR_at (by omega) (el_in hz c1 c2).2).1 (inR_at (by omega) (el_in hz c1 c2).2).2 (dx dX2_elementAt 12 rfl) (hs.2.2.2 _ (inR_at (by omega) (el_in hz c1 c2).1).2 _ (inR_at (by omega) (el_in hz c1 c2).2).2) ?_
      refine r_goto (tgt := 25) C (dx dX2_elementAt 13 rfl) (by decide) ?_
      exact F.2.1 _ _ _ _ rfl (dx dX2_elementAt 15 rfl) rfl ⟨congrArg (fun x => some (vl x)) (show gE g x.toNatClampNeg i.toNatClampNeg = elV g x i by (unfold elV; rw [if_neg (fun z => z.elim c1 c2)])), rfl⟩
def fullS (g : Sg) : Nat → Nat := cnt (fun s => !bareB g (nI s))
set_option maxHeartbeats 4000000 in
theorem c_X2_fullCount {l : Launch} {h : Hp} {k : Nat} {g : Sg} (hs : ShAt h k g)  : Mp l yX2_fullCount cX2_fullCount 3 (some .int) 4 [vr 2 k] h (vi (nI (fullS g 8))) := by
  refine Ms.of (by decide) (Nat.le_of_ble_eq_true rfl) (fun G C X F => ?_)
  have C : Cx G cX2_fullCount 3 RX2 := C
  show Rr G 0 [(0, vr 2 k)] [] h
  refine r_iconst (v := nI 0) C (dx dX2_fullCount 0 rfl) rfl ?_
  refine r_istore_n (ls' := [(0, vr 2 k), (1, vi (nI 0))]) C (dx dX2_fullCount 1 rfl) (by decide) [1, 0] rfl ?_
  refine r_iconst (v := nI 0) C (dx dX2_fullCount 2 rfl) rfl ?_
  refine r_istore_n (ls' := [(0, vr 2 k), (1, vi (nI 0)), (2, vi (nI 0))]) C (dx dX2_fullCount 3 rfl) (by decide) [1, 2, 0] rfl ?_
  refine loopU (Φ := fun p => Rr G 4 [(0, vr 2 k), (1, vi (nI (fullS g p))), (2, vi (nI p))] [] h) (N := 8) ?_ ?_ 0 (Nat.zero_le _)
  ·
    refine r_iload_n C (dx dX2_fullCount 4 rfl) rfl ?_
    refine r_bipush (v := nI 8) C (dx dX2_fullCount 5 rfl) rfl ?_
    refine rn_ge (a := 8) (b := 8) (tgt := 27) C (by omega) (by omega) (dx dX2_fullCount 6 rfl) (by decide) (fun c1 => ?_) (fun c1 => ?_)
    · first
      | (omega; done)
      | (
          have c1 : 8 ≤ 8 := c1
          refine r_iload_n C (dx dX2_fullCount 14 rfl) rfl ?_
          exact F.1 _ _ _ _ _ rfl rfl (dx dX2_fullCount 15 rfl) rfl ⟨congrArg (fun x => some (vi x)) rfl, rfl⟩)
    · first
      | (omega; done)
  ·
    intro p hp ih
    refine r_iload_n C (dx dX2_fullCount 4 rfl) rfl ?_
    refine r_bipush (v := nI 8) C (dx dX2_fullCount 5 rfl) rfl ?_
    refine rn_ge (a := p) (b := 8) (tgt := 27) C (by omega) (by omega) (dx dX2_fullCount 6 rfl) (by decide) (fun c3 => ?_) (fun c3 => ?_)
    · first
      | (omega; done)
      | (
          have c3 : 8 ≤ p := c3
          refine r_iload_n C (dx dX2_fullCount 14 rfl) rfl ?_
          exact F.1 _ _ _ _ _ rfl rfl (dx dX2_fullCount 15 rfl) rfl ⟨congrArg (fun x => some (vi x)) (show nI (fullS g p) = nI (fullS g 8) by rfl), rfl⟩)
    · first
      | (omega; done)
      | (
          have c3 : p < 8 := c3
          refine r_aload_n C (dx dX2_fullCount 7 rfl) rfl ?_
          refine r_iload_n C (dx dX2_fullCount 8 rfl) rfl ?_
          refine r_cvP (as := [vi (nI p)]) (st := []) (v := vi (b2i (bareB g (nI p)))) C X I_X2_isBare l_X2_34 (c_X2_isBare hs _) (by decide) (Nat.le_of_ble_eq_true rfl) List.prefix_rfl rfl rfl (Nat.le_of_ble_eq_true rfl) rfl (dx dX2_fullCount 9 rfl) ?_
          refine rb_ne (b := bareB g (nI p)) (tgt := 21) C (dx dX2_fullCount 10 rfl) (by decide) (fun c4 => ?_) (fun c4 => ?_)
          ·
            have c4 : (bareB g (nI p)) = true := c4
            refine rn_iinc (a := p) (k := 1) (ls' := [(0, vr 2 k), (1, vi (nI (fullS g p))), (2, vi (nI (p + 1)))]) C (dx dX2_fullCount 12 rfl) rfl rfl (by decide) [1, 2, 0] rfl ?_
            refine r_goto (tgt := 4) C (dx dX2_fullCount 13 rfl) (by decide) ?_
            have e9 : (nI (fullS g p)) = (nI (fullS g (p + 1))) := by simp [fullS, cnt, c4]
            rw [e9]
            exact ih
          ·
            have c4 : (bareB g (nI p)) = false := c4
            refine rn_iinc (a := fullS g p) (k := 1) (ls' := [(0, vr 2 k), (1, vi (nI (fullS g p + 1))), (2, vi (nI p))]) C (dx dX2_fullCount 11 rfl) rfl rfl (by decide) [1, 0, 2] rfl ?_
            refine rn_iinc (a := p) (k := 1) (ls' := [(0, vr 2 k), (1, vi (nI (fullS g p + 1))), (2, vi (nI (p + 1)))]) C (dx dX2_fullCount 12 rfl) rfl rfl (by decide) [1, 2, 0] rfl ?_
            refine r_goto (tgt := 4) C (dx dX2_fullCount 13 rfl) (by decide) ?_
            have e9 : (nI (fullS g p + 1)) = (nI (fullS g (p + 1))) := by simp [fullS, cnt, c4]
            rw [e9]
            exact ih)
def lowB (t : Int32) (v : Int64) : Int64 := if t = nI 0 then v.toInt32.toInt8.toInt32.toInt64 else if t = nI 1 then v.toInt32.toInt16.toInt32.toInt64 else if t = nI 2 then v.toInt32.toInt64 else if t = nI 3 then v else if v = 0 then 0 else 1
theorem sw4 (x : Int32) : x = nI 0 ∨ x = nI 1 ∨ x = nI 2 ∨ x = nI 3 ∨ ((x.toInt < 0 ∨ 3 < x.toInt) ∧ ∀ v, lowB x v = if v = 0 then 0 else 1) := by
  by_cases h : x.toInt < 0 ∨ 3 < x.toInt
  · refine Or.inr (Or.inr (Or.inr (Or.inr ⟨h, fun v => ?_⟩)))
    have ne : ∀ j, j < 4 → ¬ x = nI j := fun j hj q => by
      rw [q, nI_toInt (by omega)] at h; omega
    unfold lowB
    rw [if_neg (ne 0 (by omega)), if_neg (ne 1 (by omega)), if_neg (ne 2 (by omega)), if_neg (ne 3 (by omega))]
  · have e : ∀ j : Nat, j < 4 → x.toInt = (j : Int) → x = nI j := fun j hj q => Int32.toInt_inj.mp (by rw [q, nI_toInt (by omega)])
    have : x.toInt = 0 ∨ x.toInt = 1 ∨ x.toInt = 2 ∨ x.toInt = 3 := by omega
    rcases this with q | q | q | q
    · exact Or.inl (e 0 (by omega) q)
    · exact Or.inr (Or.inl (e 1 (by omega) q))
    · exact Or.inr (Or.inr (Or.inl (e 2 (by omega) q)))
    · exact Or.inr (Or.inr (Or.inr (Or.inl (e 3 (by omega) q))))
theorem ShAt.fr {h h1 : Hp} {k lo hi : Nat} {g : Sg} (a : ShAt h k g) (f : Fr lo hi h h1) (hk : k + 13 ≤ lo ∨ hi ≤ k + 1) : ShAt h1 k g :=
  ⟨fun s hs => (f.I (by omega) _).trans (a.1 s hs), fun s hs => (f.I (by omega) _).trans (a.2.1 s hs), fun s hs => (f.I (by omega) _).trans (a.2.2.1 s hs), fun s hs i hi => (f.L (by omega) _).trans (a.2.2.2 s hs i hi)⟩
theorem ShAt.sT {h : Hp} {k s : Nat} {x : Int32} {g : Sg} (a : ShAt h k g) : ShAt (sI h (k + 1) s x) k (sf (gT g) s x, gZ g, gY g, gE g) :=
  ⟨fun q hq => by rw [sI_at, a.1 q hq]; rfl, fun q hq => by rw [sI_ne (by omega)]; exact a.2.1 q hq, fun q hq => by rw [sI_ne (by omega)]; exact a.2.2.1 q hq, fun q hq i hi => a.2.2.2 q hq i hi⟩
theorem ShAt.sZ {h : Hp} {k s : Nat} {x : Int32} {g : Sg} (a : ShAt h k g) : ShAt (sI h (k + 2) s x) k (gT g, sf (gZ g) s x, gY g, gE g) :=
  ⟨fun q hq => by rw [sI_ne (by omega)]; exact a.1 q hq, fun q hq => by rw [sI_at, a.2.1 q hq]; rfl, fun q hq => by rw [sI_ne (by omega)]; exact a.2.2.1 q hq, fun q hq i hi => a.2.2.2 q hq i hi⟩
theorem ShAt.sY {h : Hp} {k s : Nat} {x : Int32} {g : Sg} (a : ShAt h k g) : ShAt (sI h (k + 12) s x) k (gT g, gZ g, sf (gY g) s x, gE g) :=
  ⟨fun q hq => by rw [sI_ne (by omega)]; exact a.1 q hq, fun q hq => by rw [sI_ne (by omega)]; exact a.2.1 q hq, fun q hq => by rw [sI_at, a.2.2.1 q hq]; rfl, fun q hq i hi => a.2.2.2 q hq i hi⟩
/-- one row of elements changed -/
def rowE (E : Nat → Nat → Int64) (s : Nat) (f : Nat → Int64) : Nat → Nat → Int64 := fun s' i => if s' = s then f i else E s' i
theorem ShAt.sE {h h1 : Hp} {k s : Nat} {f : Nat → Int64} {g : Sg} (a : ShAt h k g) (fr : Fr (k + 4 + s) (k + 4 + s + 1) h h1) (hs : s < 8) (e : ∀ i, i < 40 → xL h1 (k + 4 + s) i = f i) : ShAt h1 k (gT g, gZ g, gY g, rowE (gE g) s f) :=
  ⟨fun q hq => (fr.I (by omega) _).trans (a.1 q hq), fun q hq => (fr.I (by omega) _).trans (a.2.1 q hq), fun q hq => (fr.I (by omega) _).trans (a.2.2.1 q hq), fun q hq i hi => by
    show _ = if q = s then f i else gE g q i
    by_cases h9 : q = s
    · subst h9; rw [if_pos rfl]; exact e i hi
    · rw [if_neg h9]; exact (fr.L (by omega) _).trans (a.2.2.2 q hq i hi)⟩
set_option maxHeartbeats 4000000 in
theorem c_X2_lowestBits {l : Launch} {h : Hp} (x : Int32) (v : Int64) : Mp l yX2_lowestBits cX2_lowestBits 3 (some .long) 1 [vi x, vl v] h (vl (lowB x v)) := by
  refine Ms.of (by decide) (Nat.le_of_ble_eq_true rfl) (fun G C X F => ?_)
  have C : Cx G cX2_lowestBits 3 RX2 := C
  show Rr G 0 [(0, vi x), (1, vl v)] [] h
  refine r_iload_n C (dx dX2_lowestBits 0 rfl) rfl ?_
  rcases sw4 x with e9 | e9 | e9 | e9 | ⟨e9, e8⟩
  ·
    subst e9
    refine r_tabIn (off := 31) (tgt := 32) C (dx dX2_lowestBits 1 rfl) (by decide) (by decide) (by decide) (by decide) ?_
    refine r_lload_n C (dx dX2_lowestBits 2 rfl) rfl ?_
    refine r_l2i C (dx dX2_lowestBits 3 rfl) ?_
    refine r_i2b C (dx dX2_lowestBits 4 rfl) ?_
    refine r_i2l C (dx dX2_lowestBits 5 rfl) ?_
    exact F.2.1 _ _ _ _ rfl (dx dX2_lowestBits 6 rfl) rfl ⟨congrArg (fun x => some (vl x)) (show v.toInt32.toInt8.toInt32.toInt64 = lowB (nI 0) v by rfl), rfl⟩
  ·
    subst e9
    refine r_tabIn (off := 36) (tgt := 37) C (dx dX2_lowestBits 1 rfl) (by decide) (by decide) (by decide) (by decide) ?_
    refine r_lload_n C (dx dX2_lowestBits 7 rfl) rfl ?_
    refine r_l2i C (dx dX2_lowestBits 8 rfl) ?_
    refine r_i2s C (dx dX2_lowestBits 9 rfl) ?_
    refine r_i2l C (dx dX2_lowestBits 10 rfl) ?_
    exact F.2.1 _ _ _ _ rfl (dx dX2_lowestBits 11 rfl) rfl ⟨congrArg (fun x => some (vl x)) (show v.toInt32.toInt16.toInt32.toInt64 = lowB (nI 1) v by rfl), rfl⟩
  ·
    subst e9
    refine r_tabIn (off := 41) (tgt := 42) C (dx dX2_lowestBits 1 rfl) (by decide) (by decide) (by decide) (by decide) ?_
    refine r_lload_n C (dx dX2_lowestBits 12 rfl) rfl ?_
    refine r_l2i C (dx dX2_lowestBits 13 rfl) ?_
    refine r_i2l C (dx dX2_lowestBits 14 rfl) ?_
    exact F.2.1 _ _ _ _ rfl (dx dX2_lowestBits 15 rfl) rfl ⟨congrArg (fun x => some (vl x)) (show v.toInt32.toInt64 = lowB (nI 2) v by rfl), rfl⟩
  ·
    subst e9
    refine r_tabIn (off := 45) (tgt := 46) C (dx dX2_lowestBits 1 rfl) (by decide) (by decide) (by decide) (by decide) ?_
    refine r_lload_n C (dx dX2_lowestBits 16 rfl) rfl ?_
    exact F.2.1 _ _ _ _ rfl (dx dX2_lowestBits 17 rfl) rfl ⟨congrArg (fun x => some (vl x)) (show v = lowB (nI 3) v by rfl), rfl⟩
  ·
    refine r_tabOut (tgt := 48) C (dx dX2_lowestBits 1 rfl) e9 (by decide) ?_
    refine r_lload_n C (dx dX2_lowestBits 18 rfl) rfl ?_
    refine r_lconst (v := 0) C (dx dX2_lowestBits 19 rfl) rfl ?_
    refine r_lcmp C (dx dX2_lowestBits 20 rfl) ?_
    refine r_if_eq (tgt := 58) C (dx dX2_lowestBits 21 rfl) (by decide) (fun c1 => ?_) (fun c1 => ?_)
    ·
      have c1 : v = 0 := (lg_cmp_eq _ _).mp c1
      refine r_lconst (v := 0) C (dx dX2_lowestBits 24 rfl) rfl ?_
      exact F.2.1 _ _ _ _ rfl (dx dX2_lowestBits 25 rfl) rfl ⟨congrArg (fun x => some (vl x)) (show 0 = lowB x v by rw [e8]; simp [c1]), rfl⟩
    ·
      have c1 : ¬ (v = 0) := fun q => c1 ((lg_cmp_eq _ _).mpr q)
      refine r_lconst (v := 1) C (dx dX2_lowestBits 22 rfl) rfl ?_
      refine r_goto (tgt := 59) C (dx dX2_lowestBits 23 rfl) (by decide) ?_
      exact F.2.1 _ _ _ _ rfl (dx dX2_lowestBits 25 rfl) rfl ⟨congrArg (fun x => some (vl x)) (show 1 = lowB x v by rw [e8]; simp [c1]), rfl⟩
set_option maxHeartbeats 4000000 in
theorem c_J7_fill_d0a16 {l : Launch} {h : Hp} {a : Nat} (x : Int64) : Ms l yJ7_fill_d0a16 cJ7_fill_d0a16 5 none 1 [vr 31 a, vl x] h (xK h) (fun r0 h' => r0 = none ∧ (∀ i, i < 40 → xL h' a i = x) ∧ Fr a (a + 1) h h') := by
  refine Ms.of (by decide) (Nat.le_of_ble_eq_true rfl) (fun G C X F => ?_)
  have C : Cx G cJ7_fill_d0a16 5 RJ7 := C
  show Rr G 0 [(0, vr 31 a), (1, vl x)] [] h
  refine r_iconst (v := nI 0) C (dx dJ7_fill_d0a16 0 rfl) rfl ?_
  refine r_istore_n (ls' := [(0, vr 31 a), (1, vl x), (3, vi (nI 0))]) C (dx dJ7_fill_d0a16 1 rfl) (by decide) [1, 2, 0] rfl ?_
  refine r_aload_n C (dx dJ7_fill_d0a16 2 rfl) rfl ?_
  refine r_alen1 (v := nI 40) C rfl rfl rfl (dx dJ7_fill_d0a16 3 rfl) ?_
  refine r_istore (ls' := [(0, vr 31 a), (1, vl x), (3, vi (nI 0)), (4, vi (nI 40))]) C (dx dJ7_fill_d0a16 4 rfl) (by decide) [1, 2, 3, 0] rfl ?_
  refine loopU (Φ := fun p => ∀ h9, (∀ i, i < p → xL h9 a i = x) → Fr a (a + 1) h h9 → xK h9 = xK h → Rr G 6 [(0, vr 31 a), (1, vl x), (3, vi (nI p)), (4, vi (nI 40))] [] h9) (N := 40) ?_ ?_ 0 (Nat.zero_le _) _ (fun i hi => absurd hi (by omega)) Fr.rf rfl
  ·
    intro h9 q9 f9 k9
    refine r_iload_n C (dx dJ7_fill_d0a16 5 rfl) rfl ?_
    refine r_iload C (dx dJ7_fill_d0a16 6 rfl) rfl ?_
    refine rn_ge (a := 40) (b := 40) (tgt := 22) C (by omega) (by omega) (dx dJ7_fill_d0a16 7 rfl) (by decide) (fun c1 => ?_) (fun c1 => ?_)
    · first
      | (omega; done)
      | (
          have c1 : 40 ≤ 40 := c1
          exact F.2.2.1 _ _ _ rfl (dx dJ7_fill_d0a16 14 rfl) k9 ⟨rfl, q9, f9⟩)
    · first
      | (omega; done)
  ·
    intro p hp ih h9 q9 f9 k9
    refine r_iload_n C (dx dJ7_fill_d0a16 5 rfl) rfl ?_
    refine r_iload C (dx dJ7_fill_d0a16 6 rfl) rfl ?_
    refine rn_ge (a := p) (b := 40) (tgt := 22) C (by omega) (by omega) (dx dJ7_fill_d0a16 7 rfl) (by decide) (fun c2 => ?_) (fun c2 => ?_)
    · first
      | (omega; done)
      | (
          have c2 : 40 ≤ p := c2
          exact F.2.2.1 _ _ _ rfl (dx dJ7_fill_d0a16 14 rfl) k9 ⟨rfl, q9, f9⟩)
    · first
      | (omega; done)
      | (
          have c2 : p < 40 := c2
          refine r_aload_n C (dx dJ7_fill_d0a16 8 rfl) rfl ?_
          refine r_iload_n C (dx dJ7_fill_d0a16 9 rfl) rfl ?_
          refine r_lload_n C (dx dJ7_fill_d0a16 10 rfl) rfl ?_
          refine r_last (j := p) C rfl rfl (by decide) rfl (by omega) (dx dJ7_fill_d0a16 11 rfl) ?_
          refine rn_iinc (a := p) (k := 1) (ls' := [(0, vr 31 a), (1, vl x), (3, vi (nI (p + 1))), (4, vi (nI 40))]) C (dx dJ7_fill_d0a16 12 rfl) rfl rfl (by decide) [1, 2, 0, 3] rfl ?_
          refine r_goto (tgt := 6) C (dx dJ7_fill_d0a16 13 rfl) (by decide) ?_
          refine ih _ (fun i hi => ?_) (f9.tr (Fr.sL (by omega) (by omega))) k9
          rw [sL_at]; split
          · rfl
          · exact q9 i (by omega))
def pRow (g : Sg) (s : Nat) (t : Int32) (n : Nat) : Sg := (sf (gT g) s t, sf (gZ g) s (nI n), gY g, rowE (gE g) s (fun _ => 0))
def pHold (g : Sg) (s κ b : Nat) : Sg := (sf (gT g) s (nI (10 + κ)), sf (gZ g) s (nI 0), sf (gY g) s (nI b), gE g)
def rowPut (g : Sg) (s i : Nat) (x : Int64) : Sg := (gT g, gZ g, gY g, rowE (gE g) s (fun j => if j = i then x else gE g s j))
theorem ShAt.pE {h : Hp} {k s i : Nat} {x : Int64} {g : Sg} (a : ShAt h k g) (hs : s < 8) : ShAt (sL h (k + 4 + s) i x) k (rowPut g s i x) :=
  a.sE (Fr.sL (by omega) (by omega)) hs (fun j hj => by rw [sL_at, a.2.2.2 s hs j hj])
theorem in8 {s : Nat} (h : s < 8) : inR (nI s) 8 = true := by rw [inR_nI (by omega)]; exact decide_eq_true h
set_option maxHeartbeats 4000000 in
theorem c_X2_putRow {l : Launch} {h : Hp} {k : Nat} {g : Sg} (hs : ShAt h k g) {s n : Nat} (hs8 : s < 8) (hn : n ≤ 40) (t : Int32) : Ms l yX2_putRow cX2_putRow 4 none 2 [vr 2 k, vi (nI s), vi t, vi (nI n)] h (xK h) (fun r0 h' => r0 = none ∧ ShAt h' k (pRow g s t n) ∧ Fr (k + 1) (k + 13) h h') := by
  refine Ms.of (by decide) (Nat.le_of_ble_eq_true rfl) (fun G C X F => ?_)
  have C : Cx G cX2_putRow 4 RX2 := C
  show Rr G 0 [(0, vr 2 k), (1, vi (nI s)), (2, vi t), (3, vi (nI n))] [] h
  refine r_aload_n C (dx dX2_putRow 0 rfl) rfl ?_
  refine r_iload_n C (dx dX2_putRow 1 rfl) rfl ?_
  refine r_cvP (as := [vi (nI s)]) (st := []) (v := vi (b2i (inR (nI s) 8))) C X I_X2_isShelf l_X2_26 (c_X2_isShelf _) (by decide) (Nat.le_of_ble_eq_true rfl) List.prefix_rfl rfl rfl (Nat.le_of_ble_eq_true rfl) rfl (dx dX2_putRow 2 rfl) ?_
  refine rb_eq (b := inR (nI s) 8) (tgt := 42) C (dx dX2_putRow 3 rfl) (by decide) (fun c1 => ?_) (fun c1 => ?_)
  · (rw [in8 hs8] at c1; cases c1)
  ·
    have c1 : (inR (nI s) 8) = true := c1
    refine r_iload_n C (dx dX2_putRow 4 rfl) rfl ?_
    refine r_if_lt (tgt := 42) C (dx dX2_putRow 5 rfl) (by decide) (fun c2 => ?_) (fun c2 => ?_)
    · exact absurd c2 (nI_pos (by omega))
    ·
      have c2 : ¬ nI n < 0 := c2
      refine r_iload_n C (dx dX2_putRow 6 rfl) rfl ?_
      refine r_bipush (v := nI 40) C (dx dX2_putRow 7 rfl) rfl ?_
      refine rn_gt (a := n) (b := 40) (tgt := 42) C (by omega) (by omega) (dx dX2_putRow 8 rfl) (by decide) (fun c3 => ?_) (fun c3 => ?_)
      · first
        | (omega; done)
        | (
            have c3 : 40 < n := c3
            exact F.2.2.1 _ _ _ rfl (dx dX2_putRow 25 rfl) rfl ⟨rfl, hs, Fr.rf⟩)
      · first
        | (omega; done)
        | (
            have c3 : n ≤ 40 := c3
            refine r_aload_n C (dx dX2_putRow 9 rfl) rfl ?_
            refine g_X2_9 C (dx dX2_putRow 10 rfl) ?_
            refine r_iload_n C (dx dX2_putRow 11 rfl) rfl ?_
            refine r_iload_n C (dx dX2_putRow 12 rfl) rfl ?_
            refine r_iast (j := s) C rfl rfl (by decide) rfl (by omega) (dx dX2_putRow 13 rfl) ?_
            have sh4 : ShAt (sI h (k + 1) s t) k ((sf (gT g) s t, gZ g, gY g, gE g)) := hs.sT
            have fh4 : Fr (k + 1) (k + 13) h (sI h (k + 1) s t) := (Fr.sI (by omega) (by omega))
            have kh4 : xK (sI h (k + 1) s t) = xK h := rfl
            generalize sI h (k + 1) s t = h4 at sh4 fh4 kh4 ⊢
            refine r_aload_n C (dx dX2_putRow 14 rfl) rfl ?_
            refine g_X2_15 C (dx dX2_putRow 15 rfl) ?_
            refine r_iload_n C (dx dX2_putRow 16 rfl) rfl ?_
            refine r_iload_n C (dx dX2_putRow 17 rfl) rfl ?_
            refine r_iast (j := s) C rfl rfl (by decide) rfl (by omega) (dx dX2_putRow 18 rfl) ?_
            have sh5 : ShAt (sI h4 (k + 2) s (nI n)) k ((gT (sf (gT g) s t, gZ g, gY g, gE g), sf (gZ (sf (gT g) s t, gZ g, gY g, gE g)) s (nI n), gY (sf (gT g) s t, gZ g, gY g, gE g), gE (sf (gT g) s t, gZ g, gY g, gE g))) := sh4.sZ
            have fh5 : Fr (k + 1) (k + 13) h (sI h4 (k + 2) s (nI n)) := fh4.tr (Fr.sI (by omega) (by omega))
            have kh5 : xK (sI h4 (k + 2) s (nI n)) = xK h := kh4
            generalize sI h4 (k + 2) s (nI n) = h5 at sh5 fh5 kh5 ⊢
            refine r_aload_n C (dx dX2_putRow 19 rfl) rfl ?_
            refine g_X2_20 C (dx dX2_putRow 20 rfl) ?_
            refine r_iload_n C (dx dX2_putRow 21 rfl) rfl ?_
            refine r_aald5 (j := s) C rfl rfl (by decide) rfl (by omega) (dx dX2_putRow 22 rfl) ?_
            refine r_lconst (v := 0) C (dx dX2_putRow 23 rfl) rfl ?_
            refine r_cs (as := [vr 31 (k + 4 + s), vl 0]) (st := []) C X I_J7_fill_d0a16 l_X2_43 (c_J7_fill_d0a16 0) (by decide) (Nat.le_of_ble_eq_true rfl) List.prefix_rfl (pfx_eq kh5) (Nat.le_of_ble_eq_true rfl) rfl (dx dX2_putRow 24 rfl) ?_
            intro rh6 h6 hph6 kkh6
            obtain ⟨rfl, qh6, gh6⟩ := hph6
            have sh6 : ShAt h6 k (gT (gT (sf (gT g) s t, gZ g, gY g, gE g), sf (gZ (sf (gT g) s t, gZ g, gY g, gE g)) s (nI n), gY (sf (gT g) s t, gZ g, gY g, gE g), gE (sf (gT g) s t, gZ g, gY g, gE g)), gZ (gT (sf (gT g) s t, gZ g, gY g, gE g), sf (gZ (sf (gT g) s t, gZ g, gY g, gE g)) s (nI n), gY (sf (gT g) s t, gZ g, gY g, gE g), gE (sf (gT g) s t, gZ g, gY g, gE g)), gY (gT (sf (gT g) s t, gZ g, gY g, gE g), sf (gZ (sf (gT g) s t, gZ g, gY g, gE g)) s (nI n), gY (sf (gT g) s t, gZ g, gY g, gE g), gE (sf (gT g) s t, gZ g, gY g, gE g)), rowE (gE (gT (sf (gT g) s t, gZ g, gY g, gE g), sf (gZ (sf (gT g) s t, gZ g, gY g, gE g)) s (nI n), gY (sf (gT g) s t, gZ g, gY g, gE g), gE (sf (gT g) s t, gZ g, gY g, gE g))) s (fun _ => 0)) := sh5.sE gh6 hs8 qh6
            have fh6 : Fr (k + 1) (k + 13) h h6 := fh5.tr (gh6.mono (by omega) (by omega))
            have kh6 : xK h6 = xK h := kkh6.trans kh5
            exact F.2.2.1 _ _ _ rfl (dx dX2_putRow 25 rfl) kh6 ⟨rfl, sh6, fh6⟩)
set_option maxHeartbeats 4000000 in
theorem c_X2_putHolding {l : Launch} {h : Hp} {k : Nat} {g : Sg} (hs : ShAt h k g) {s κ b : Nat} (hs8 : s < 8) : Ms l yX2_putHolding cX2_putHolding 4 none 2 [vr 2 k, vi (nI s), vi (nI (κ)), vi (nI b)] h (xK h) (fun r0 h' => r0 = none ∧ ShAt h' k (pHold g s κ b) ∧ Fr (k + 1) (k + 13) h h') := by
  refine Ms.of (by decide) (Nat.le_of_ble_eq_true rfl) (fun G C X F => ?_)
  have C : Cx G cX2_putHolding 4 RX2 := C
  show Rr G 0 [(0, vr 2 k), (1, vi (nI s)), (2, vi (nI (κ))), (3, vi (nI b))] [] h
  refine r_aload_n C (dx dX2_putHolding 0 rfl) rfl ?_
  refine r_iload_n C (dx dX2_putHolding 1 rfl) rfl ?_
  refine r_cvP (as := [vi (nI s)]) (st := []) (v := vi (b2i (inR (nI s) 8))) C X I_X2_isShelf l_X2_26 (c_X2_isShelf _) (by decide) (Nat.le_of_ble_eq_true rfl) List.prefix_rfl rfl rfl (Nat.le_of_ble_eq_true rfl) rfl (dx dX2_putHolding 2 rfl) ?_
  refine rb_eq (b := inR (nI s) 8) (tgt := 32) C (dx dX2_putHolding 3 rfl) (by decide) (fun c1 => ?_) (fun c1 => ?_)
  · (rw [in8 hs8] at c1; cases c1)
  ·
    have c1 : (inR (nI s) 8) = true := c1
    refine r_aload_n C (dx dX2_putHolding 4 rfl) rfl ?_
    refine g_X2_9 C (dx dX2_putHolding 5 rfl) ?_
    refine r_iload_n C (dx dX2_putHolding 6 rfl) rfl ?_
    refine r_bipush (v := nI 10) C (dx dX2_putHolding 7 rfl) rfl ?_
    refine r_iload_n C (dx dX2_putHolding 8 rfl) rfl ?_
    refine rn_iadd (a := 10) (b := κ) C (dx dX2_putHolding 9 rfl) ?_
    refine r_iast (j := s) C rfl rfl (by decide) rfl (by omega) (dx dX2_putHolding 10 rfl) ?_
    have sh2 : ShAt (sI h (k + 1) s (nI (10 + (κ)))) k ((sf (gT g) s (nI (10 + (κ))), gZ g, gY g, gE g)) := hs.sT
    have fh2 : Fr (k + 1) (k + 13) h (sI h (k + 1) s (nI (10 + (κ)))) := (Fr.sI (by omega) (by omega))
    have kh2 : xK (sI h (k + 1) s (nI (10 + (κ)))) = xK h := rfl
    generalize sI h (k + 1) s (nI (10 + (κ))) = h2 at sh2 fh2 kh2 ⊢
    refine r_aload_n C (dx dX2_putHolding 11 rfl) rfl ?_
    refine g_X2_15 C (dx dX2_putHolding 12 rfl) ?_
    refine r_iload_n C (dx dX2_putHolding 13 rfl) rfl ?_
    refine r_iconst (v := nI 0) C (dx dX2_putHolding 14 rfl) rfl ?_
    refine r_iast (j := s) C rfl rfl (by decide) rfl (by omega) (dx dX2_putHolding 15 rfl) ?_
    have sh3 : ShAt (sI h2 (k + 2) s (nI 0)) k ((gT (sf (gT g) s (nI (10 + (κ))), gZ g, gY g, gE g), sf (gZ (sf (gT g) s (nI (10 + (κ))), gZ g, gY g, gE g)) s (nI 0), gY (sf (gT g) s (nI (10 + (κ))), gZ g, gY g, gE g), gE (sf (gT g) s (nI (10 + (κ))), gZ g, gY g, gE g))) := sh2.sZ
    have fh3 : Fr (k + 1) (k + 13) h (sI h2 (k + 2) s (nI 0)) := fh2.tr (Fr.sI (by omega) (by omega))
    have kh3 : xK (sI h2 (k + 2) s (nI 0)) = xK h := kh2
    generalize sI h2 (k + 2) s (nI 0) = h3 at sh3 fh3 kh3 ⊢
    refine r_aload_n C (dx dX2_putHolding 16 rfl) rfl ?_
    refine g_X2_23 C (dx dX2_putHolding 17 rfl) ?_
    refine r_iload_n C (dx dX2_putHolding 18 rfl) rfl ?_
    refine r_iload_n C (dx dX2_putHolding 19 rfl) rfl ?_
    refine r_iast (j := s) C rfl rfl (by decide) rfl (by omega) (dx dX2_putHolding 20 rfl) ?_
    have sh4 : ShAt (sI h3 (k + 12) s (nI b)) k ((gT (gT (sf (gT g) s (nI (10 + (κ))), gZ g, gY g, gE g), sf (gZ (sf (gT g) s (nI (10 + (κ))), gZ g, gY g, gE g)) s (nI 0), gY (sf (gT g) s (nI (10 + (κ))), gZ g, gY g, gE g), gE (sf (gT g) s (nI (10 + (κ))), gZ g, gY g, gE g)), gZ (gT (sf (gT g) s (nI (10 + (κ))), gZ g, gY g, gE g), sf (gZ (sf (gT g) s (nI (10 + (κ))), gZ g, gY g, gE g)) s (nI 0), gY (sf (gT g) s (nI (10 + (κ))), gZ g, gY g, gE g), gE (sf (gT g) s (nI (10 + (κ))), gZ g, gY g, gE g)), sf (gY (gT (sf (gT g) s (nI (10 + (κ))), gZ g, gY g, gE g), sf (gZ (sf (gT g) s (nI (10 + (κ))), gZ g, gY g, gE g)) s (nI 0), gY (sf (gT g) s (nI (10 + (κ))), gZ g, gY g, gE g), gE (sf (gT g) s (nI (10 + (κ))), gZ g, gY g, gE g))) s (nI b), gE (gT (sf (gT g) s (nI (10 + (κ))), gZ g, gY g, gE g), sf (gZ (sf (gT g) s (nI (10 + (κ))), gZ g, gY g, gE g)) s (nI 0), gY (sf (gT g) s (nI (10 + (κ))), gZ g, gY g, gE g), gE (sf (gT g) s (nI (10 + (κ))), gZ g, gY g, gE g)))) := sh3.sY
    have fh4 : Fr (k + 1) (k + 13) h (sI h3 (k + 12) s (nI b)) := fh3.tr (Fr.sI (by omega) (by omega))
    have kh4 : xK (sI h3 (k + 12) s (nI b)) = xK h := kh3
    generalize sI h3 (k + 12) s (nI b) = h4 at sh4 fh4 kh4 ⊢
    exact F.2.2.1 _ _ _ rfl (dx dX2_putHolding 21 rfl) kh4 ⟨rfl, sh4, fh4⟩
def pEl (g : Sg) (s : Nat) (i : Int32) (v : Int64) : Sg := if i < 0 ∨ szV g (nI s) ≤ i then g else rowPut g s i.toNatClampNeg (lowB (gT g s) v)
set_option maxHeartbeats 4000000 in
theorem c_X2_putElement {l : Launch} {h : Hp} {k : Nat} {g : Sg} (hs : ShAt h k g) (hz : SzOk g) {s : Nat} (hs8 : s < 8) (i : Int32) (v : Int64) : Ms l yX2_putElement cX2_putElement 5 none 6 [vr 2 k, vi (nI s), vi i, vl v] h (xK h) (fun r0 h' => r0 = none ∧ ShAt h' k (pEl g s i v) ∧ Fr (k + 1) (k + 13) h h') := by
  refine Ms.of (by decide) (Nat.le_of_ble_eq_true rfl) (fun G C X F => ?_)
  have C : Cx G cX2_putElement 5 RX2 := C
  show Rr G 0 [(0, vr 2 k), (1, vi (nI s)), (2, vi i), (3, vl v)] [] h
  refine r_iload_n C (dx dX2_putElement 0 rfl) rfl ?_
  refine r_if_lt (tgt := 31) C (dx dX2_putElement 1 rfl) (by decide) (fun c1 => ?_) (fun c1 => ?_)
  ·
    have c1 : i < 0 := c1
    exact F.2.2.1 _ _ _ rfl (dx dX2_putElement 19 rfl) rfl ⟨rfl, (by unfold pEl; rw [if_pos (Or.inl c1)]; exact hs), Fr.rf⟩
  ·
    have c1 : ¬ i < 0 := c1
    refine r_iload_n C (dx dX2_putElement 2 rfl) rfl ?_
    refine r_aload_n C (dx dX2_putElement 3 rfl) rfl ?_
    refine r_iload_n C (dx dX2_putElement 4 rfl) rfl ?_
    refine r_cvP (as := [vi (nI s)]) (st := [vi i]) (v := vi (szV g (nI s))) C X I_X2_sizeOf l_X2_49 (c_X2_sizeOf hs _) (by decide) (Nat.le_of_ble_eq_true rfl) List.prefix_rfl rfl rfl (Nat.le_of_ble_eq_true rfl) rfl (dx dX2_putElement 5 rfl) ?_
    refine r_icmp_ge (tgt := 31) C (dx dX2_putElement 6 rfl) (by decide) (fun c2 => ?_) (fun c2 => ?_)
    ·
      have c2 : szV g (nI s) ≤ i := c2
      exact F.2.2.1 _ _ _ rfl (dx dX2_putElement 19 rfl) rfl ⟨rfl, (by unfold pEl; rw [if_pos (Or.inr c2)]; exact hs), Fr.rf⟩
    ·
      have c2 : ¬ szV g (nI s) ≤ i := c2
      refine r_aload_n C (dx dX2_putElement 7 rfl) rfl ?_
      refine g_X2_20 C (dx dX2_putElement 8 rfl) ?_
      refine r_iload_n C (dx dX2_putElement 9 rfl) rfl ?_
      refine r_aald5 (j := s) C rfl rfl (by decide) rfl (by omega) (dx dX2_putElement 10 rfl) ?_
      refine r_iload_n C (dx dX2_putElement 11 rfl) rfl ?_
      refine r_aload_n C (dx dX2_putElement 12 rfl) rfl ?_
      refine g_X2_9 C (dx dX2_putElement 13 rfl) ?_
      refine r_iload_n C (dx dX2_putElement 14 rfl) rfl ?_
      refine r_iald (j := s) (x := gT g s) C rfl rfl (by decide) rfl (by omega) (dx dX2_putElement 15 rfl) (hs.1 _ (by omega)) ?_
      refine r_lload_n C (dx dX2_putElement 16 rfl) rfl ?_
      refine r_csP (as := [vi (gT g s), vl v]) (st := [vi i, vr 31 (k + 4 + s)]) (v := vl (lowB (gT g s) v)) C X I_X2_lowestBits l_X2_52 (c_X2_lowestBits (gT g s) v) (by decide) (Nat.le_of_ble_eq_true rfl) List.prefix_rfl (Nat.le_of_ble_eq_true rfl) rfl (dx dX2_putElement 17 rfl) ?_
      refine r_last (j := i.toNatClampNeg) C rfl rfl (by decide) (inR_at (by omega) (el_in hz c1 c2).2).1 (inR_at (by omega) (el_in hz c1 c2).2).2 (dx dX2_putElement 18 rfl) ?_
      have sh3 : ShAt (sL h (k + 4 + s) i.toNatClampNeg (lowB (gT g s) v)) k (rowPut g s i.toNatClampNeg (lowB (gT g s) v)) := hs.pE (by omega)
      have fh3 : Fr (k + 1) (k + 13) h (sL h (k + 4 + s) i.toNatClampNeg (lowB (gT g s) v)) := (Fr.sL (by omega) (by omega))
      have kh3 : xK (sL h (k + 4 + s) i.toNatClampNeg (lowB (gT g s) v)) = xK h := rfl
      generalize sL h (k + 4 + s) i.toNatClampNeg (lowB (gT g s) v) = h3 at sh3 fh3 kh3 ⊢
      exact F.2.2.1 _ _ _ rfl (dx dX2_putElement 19 rfl) kh3 ⟨rfl, (by unfold pEl; rw [if_neg (fun z => z.elim c1 c2)]; exact sh3), fh3⟩
theorem c_szN {l : Launch} {h : Hp} {k z : Nat} {g : Sg} {x : Int32} (hs : ShAt h k g) (e : szV g x = nI z) : Mp l yX2_sizeOf cX2_sizeOf 2 (some .int) 5 [vr 2 k, vi x] h (vi (nI z)) := by
  rw [← e]; exact c_X2_sizeOf hs x
def pCp (g : Sg) (p q i j n : Nat) : Sg := (gT g, gZ g, gY g, rowE (gE g) q (va_cpy (gE g p) (gE g q) i j n))
theorem Fr.cpLL {lo hi a0 a sp dp n : Nat} {h : Hp} (h1 : lo ≤ a) (h2 : a < hi) : Fr lo hi h (cpL h a0 a sp dp n) := fun b hb => by
  have : b ≠ a := by omega
  exact ⟨rfl, by simp [ cpL, xL, this], rfl⟩
theorem ShAt.cp {h : Hp} {k p q i j n : Nat} {g : Sg} (a : ShAt h k g) (hp : p < 8) (hq : q < 8) (hi : i + n ≤ 40) : ShAt (cpL h (k + 4 + p) (k + 4 + q) i j n) k (pCp g p q i j n) :=
  a.sE (Fr.cpLL (by omega) (by omega)) hq (fun t ht => by
    show (if k + 4 + q = k + 4 + q then va_cpy (xL h (k + 4 + p)) (xL h (k + 4 + q)) i j n else xL h (k + 4 + q)) t = _
    rw [if_pos rfl]
    unfold va_cpy
    split
    · rw [a.2.2.2 p hp _ (by omega)]
    · exact a.2.2.2 q hq t ht)
set_option maxHeartbeats 4000000 in
theorem c_X2_copyElements {l : Launch} {h : Hp} {k : Nat} {g : Sg} (hs : ShAt h k g) {p q i j n zp zq : Nat} (hp8 : p < 8) (hq8 : q < 8) (rp : rowB g (nI p) = true) (rq : rowB g (nI q) = true) (ep : szV g (nI p) = nI zp) (eq : szV g (nI q) = nI zq) (lp : zp ≤ 40) (lq : zq ≤ 40) (hi : i + n ≤ zp) (hj : j + n ≤ zq) : Ms l yX2_copyElements cX2_copyElements 7 none 6 [vr 2 k, vi (nI p), vi (nI q), vi (nI i), vi (nI j), vi (nI n)] h (xK h) (fun r0 h' => r0 = none ∧ ShAt h' k (pCp g p q i j n) ∧ Fr (k + 1) (k + 13) h h') := by
  refine Ms.of (by decide) (Nat.le_of_ble_eq_true rfl) (fun G C X F => ?_)
  have C : Cx G cX2_copyElements 7 RX2 := C
  show Rr G 0 [(0, vr 2 k), (1, vi (nI p)), (2, vi (nI q)), (3, vi (nI i)), (4, vi (nI j)), (5, vi (nI n))] [] h
  refine r_iload C (dx dX2_copyElements 0 rfl) rfl ?_
  refine r_if_lt (tgt := 43) C (dx dX2_copyElements 1 rfl) (by decide) (fun c1 => ?_) (fun c1 => ?_)
  · exact absurd c1 (nI_pos (by omega))
  ·
    have c1 : ¬ nI n < 0 := c1
    refine r_iload_n C (dx dX2_copyElements 2 rfl) rfl ?_
    refine r_if_lt (tgt := 43) C (dx dX2_copyElements 3 rfl) (by decide) (fun c2 => ?_) (fun c2 => ?_)
    · exact absurd c2 (nI_pos (by omega))
    ·
      have c2 : ¬ nI i < 0 := c2
      refine r_iload C (dx dX2_copyElements 4 rfl) rfl ?_
      refine r_if_lt (tgt := 43) C (dx dX2_copyElements 5 rfl) (by decide) (fun c3 => ?_) (fun c3 => ?_)
      · exact absurd c3 (nI_pos (by omega))
      ·
        have c3 : ¬ nI j < 0 := c3
        refine r_iload_n C (dx dX2_copyElements 6 rfl) rfl ?_
        refine r_aload_n C (dx dX2_copyElements 7 rfl) rfl ?_
        refine r_iload_n C (dx dX2_copyElements 8 rfl) rfl ?_
        refine r_cvP (as := [vi (nI p)]) (st := [vi (nI i)]) (v := vi (nI zp)) C X I_X2_sizeOf l_X2_49 (c_szN hs ep) (by decide) (Nat.le_of_ble_eq_true rfl) List.prefix_rfl rfl rfl (Nat.le_of_ble_eq_true rfl) rfl (dx dX2_copyElements 9 rfl) ?_
        refine r_iload C (dx dX2_copyElements 10 rfl) rfl ?_
        refine rn_isub (a := zp) (b := n) C (by omega) (dx dX2_copyElements 11 rfl) ?_
        refine rn_gt (a := i) (b := zp - n) (tgt := 43) C (by omega) (by omega) (dx dX2_copyElements 12 rfl) (by decide) (fun c4 => ?_) (fun c4 => ?_)
        · first
          | (omega; done)
          | (
              have c4 : zp - n < i := c4
              refine r_iconst (v := nI 0) C (dx dX2_copyElements 22 rfl) rfl ?_
              refine r_istore (ls' := [(0, vr 2 k), (1, vi (nI p)), (2, vi (nI q)), (3, vi (nI i)), (4, vi (nI j)), (5, vi (nI n)), (6, vi (nI 0))]) C (dx dX2_copyElements 23 rfl) (by decide) [1, 2, 3, 4, 5, 6, 0] rfl ?_
              refine r_iload C (dx dX2_copyElements 24 rfl) rfl ?_
              refine r_if_eq (tgt := 87) C (dx dX2_copyElements 25 rfl) (by decide) (fun _ => ?_) (fun c5 => (show False from by revert c5; decide).elim)
              exact F.2.2.1 _ _ _ rfl (dx dX2_copyElements 46 rfl) rfl ⟨rfl, hs, Fr.rf⟩)
        · first
          | (omega; done)
          | (
              have c4 : i ≤ zp - n := c4
              refine r_iload C (dx dX2_copyElements 13 rfl) rfl ?_
              refine r_aload_n C (dx dX2_copyElements 14 rfl) rfl ?_
              refine r_iload_n C (dx dX2_copyElements 15 rfl) rfl ?_
              refine r_cvP (as := [vi (nI q)]) (st := [vi (nI j)]) (v := vi (nI zq)) C X I_X2_sizeOf l_X2_49 (c_szN hs eq) (by decide) (Nat.le_of_ble_eq_true rfl) List.prefix_rfl rfl rfl (Nat.le_of_ble_eq_true rfl) rfl (dx dX2_copyElements 16 rfl) ?_
              refine r_iload C (dx dX2_copyElements 17 rfl) rfl ?_
              refine rn_isub (a := zq) (b := n) C (by omega) (dx dX2_copyElements 18 rfl) ?_
              refine rn_gt (a := j) (b := zq - n) (tgt := 43) C (by omega) (by omega) (dx dX2_copyElements 19 rfl) (by decide) (fun c6 => ?_) (fun c6 => ?_)
              · first
                | (omega; done)
                | (
                    have c6 : zq - n < j := c6
                    refine r_iconst (v := nI 0) C (dx dX2_copyElements 22 rfl) rfl ?_
                    refine r_istore (ls' := [(0, vr 2 k), (1, vi (nI p)), (2, vi (nI q)), (3, vi (nI i)), (4, vi (nI j)), (5, vi (nI n)), (6, vi (nI 0))]) C (dx dX2_copyElements 23 rfl) (by decide) [1, 2, 3, 4, 5, 6, 0] rfl ?_
                    refine r_iload C (dx dX2_copyElements 24 rfl) rfl ?_
                    refine r_if_eq (tgt := 87) C (dx dX2_copyElements 25 rfl) (by decide) (fun _ => ?_) (fun c7 => (show False from by revert c7; decide).elim)
                    exact F.2.2.1 _ _ _ rfl (dx dX2_copyElements 46 rfl) rfl ⟨rfl, hs, Fr.rf⟩)
              · first
                | (omega; done)
                | (
                    have c6 : j ≤ zq - n := c6
                    refine r_iconst (v := nI 1) C (dx dX2_copyElements 20 rfl) rfl ?_
                    refine r_goto (tgt := 44) C (dx dX2_copyElements 21 rfl) (by decide) ?_
                    refine r_istore (ls' := [(0, vr 2 k), (1, vi (nI p)), (2, vi (nI q)), (3, vi (nI i)), (4, vi (nI j)), (5, vi (nI n)), (6, vi (nI 1))]) C (dx dX2_copyElements 23 rfl) (by decide) [1, 2, 3, 4, 5, 6, 0] rfl ?_
                    refine r_iload C (dx dX2_copyElements 24 rfl) rfl ?_
                    refine r_if_eq (tgt := 87) C (dx dX2_copyElements 25 rfl) (by decide) (fun c8 => (show False from by revert c8; decide).elim) (fun _ => ?_)
                    refine r_aload_n C (dx dX2_copyElements 26 rfl) rfl ?_
                    refine r_iload_n C (dx dX2_copyElements 27 rfl) rfl ?_
                    refine r_cvP (as := [vi (nI p)]) (st := []) (v := vi (b2i (rowB g (nI p)))) C X I_X2_isOfRow l_X2_40 (c_X2_isOfRow hs _) (by decide) (Nat.le_of_ble_eq_true rfl) List.prefix_rfl rfl rfl (Nat.le_of_ble_eq_true rfl) rfl (dx dX2_copyElements 28 rfl) ?_
                    refine rb_eq (b := rowB g (nI p)) (tgt := 87) C (dx dX2_copyElements 29 rfl) (by decide) (fun c9 => ?_) (fun c9 => ?_)
                    · (rw [rp] at c9; cases c9)
                    ·
                      have c9 : (rowB g (nI p)) = true := c9
                      refine r_aload_n C (dx dX2_copyElements 30 rfl) rfl ?_
                      refine r_iload_n C (dx dX2_copyElements 31 rfl) rfl ?_
                      refine r_cvP (as := [vi (nI q)]) (st := []) (v := vi (b2i (rowB g (nI q)))) C X I_X2_isOfRow l_X2_40 (c_X2_isOfRow hs _) (by decide) (Nat.le_of_ble_eq_true rfl) List.prefix_rfl rfl rfl (Nat.le_of_ble_eq_true rfl) rfl (dx dX2_copyElements 32 rfl) ?_
                      refine rb_eq (b := rowB g (nI q)) (tgt := 87) C (dx dX2_copyElements 33 rfl) (by decide) (fun c10 => ?_) (fun c10 => ?_)
                      · (rw [rq] at c10; cases c10)
                      ·
                        have c10 : (rowB g (nI q)) = true := c10
                        refine r_aload_n C (dx dX2_copyElements 34 rfl) rfl ?_
                        refine g_X2_20 C (dx dX2_copyElements 35 rfl) ?_
                        refine r_iload_n C (dx dX2_copyElements 36 rfl) rfl ?_
                        refine r_aald5 (j := p) C rfl rfl (by decide) rfl (by omega) (dx dX2_copyElements 37 rfl) ?_
                        refine r_iload_n C (dx dX2_copyElements 38 rfl) rfl ?_
                        refine r_aload_n C (dx dX2_copyElements 39 rfl) rfl ?_
                        refine g_X2_20 C (dx dX2_copyElements 40 rfl) ?_
                        refine r_iload_n C (dx dX2_copyElements 41 rfl) rfl ?_
                        refine r_aald5 (j := q) C rfl rfl (by decide) rfl (by omega) (dx dX2_copyElements 42 rfl) ?_
                        refine r_iload C (dx dX2_copyElements 43 rfl) rfl ?_
                        refine r_iload C (dx dX2_copyElements 44 rfl) rfl ?_
                        refine r_copyL (sp := i) (dp := j) (n := n) C X (by decide) (Nat.le_of_ble_eq_true rfl) l_X2_56 q_cp rfl rfl rfl rfl rfl rfl rfl (by omega) (by omega) (by omega) (by omega) (by omega) (dx dX2_copyElements 45 rfl) ?_
                        have sh11 : ShAt (cpL h (k + 4 + p) (k + 4 + q) i j n) k (pCp g p q i j n) := hs.cp hp8 hq8 (by omega)
                        have fh11 : Fr (k + 1) (k + 13) h (cpL h (k + 4 + p) (k + 4 + q) i j n) := Fr.cpLL (by omega) (by omega)
                        have kh11 : xK (cpL h (k + 4 + p) (k + 4 + q) i j n) = xK h := rfl
                        generalize cpL h (k + 4 + p) (k + 4 + q) i j n = h11 at sh11 fh11 kh11 ⊢
                        exact F.2.2.1 _ _ _ rfl (dx dX2_copyElements 46 rfl) kh11 ⟨rfl, sh11, fh11⟩))
end
section
/-! PART 16: the tape -/
def TapAt (h : Hp) (k : Nat) (B : Nat → Int32) (z : Nat) : Prop := (∀ i, i < 250 → xI h (k + 1) i = B i) ∧ xI h k 1 = nI z ∧ z ≤ 250
theorem tp_z {h : Hp} {k z z' : Nat} {B : Nat → Int32} (a : TapAt h k B z) (hz : z' ≤ 250) : TapAt (sI h k 1 (nI z')) k B z' :=
  ⟨fun i hi => by rw [sI_ne (by omega)]; exact a.1 i hi, by rw [sI_at]; rfl, hz⟩
def btA (B : Nat → Int32) (z a : Nat) : Int32 := if a < z then B a else -1
def isG : Nat → Int32 → Bool
  | 0, b => decide (b = nI 32)
  | 1, b => !decide (b < nI 97) && !decide (nI 122 < b)
  | _, b => !decide (b < nI 48) && !decide (nI 57 < b)
def enF (γ : Nat) (B : Nat → Int32) : Nat → Nat → Nat
  | 0, p => p
  | n + 1, p => if isG γ (B p) = true then enF γ B n (p + 1) else p
/-- the first place from one on where nothing of a group stands -/
def enO (γ : Nat) (B : Nat → Int32) (z p : Nat) : Nat := enF γ B (z - p) p
theorem enO_y {γ : Nat} {B : Nat → Int32} {z p : Nat} (h : p < z) (q : isG γ (B p) = true) : enO γ B z p = enO γ B z (p + 1) := by
  unfold enO; rw [show z - p = (z - (p + 1)) + 1 by omega]; simp only [enF]; rw [if_pos q]
theorem enO_n {γ : Nat} {B : Nat → Int32} {z p : Nat} (h : p < z) (q : isG γ (B p) = false) : enO γ B z p = p := by
  unfold enO; rw [show z - p = (z - (p + 1)) + 1 by omega]; simp only [enF]; rw [if_neg (by simp [q])]
theorem enO_e {γ : Nat} {B : Nat → Int32} {z p : Nat} (h : z ≤ p) : enO γ B z p = p := by
  unfold enO; rw [show z - p = 0 by omega]; rfl
set_option maxHeartbeats 4000000 in
theorem c_X3_length {l : Launch} {h : Hp} {k : Nat} {B : Nat → Int32} {z : Nat} (ht : TapAt h k B z)  : Mp l yX3_length cX3_length 1 (some .int) 1 [vr 3 k] h (vi (nI z)) := by
  refine Ms.of (by decide) (Nat.le_of_ble_eq_true rfl) (fun G C X F => ?_)
  have C : Cx G cX3_length 1 RX3 := C
  show Rr G 0 [(0, vr 3 k)] [] h
  have bz := ht.2.2
  refine r_aload_n C (dx dX3_length 0 rfl) rfl ?_
  refine g_X3_15 (x := nI z) C (dx dX3_length 1 rfl) ht.2.1 ?_
  exact F.1 _ _ _ _ _ rfl rfl (dx dX3_length 2 rfl) rfl ⟨congrArg (fun x => some (vi x)) rfl, rfl⟩
set_option maxHeartbeats 4000000 in
theorem c_isOf_0 {l : Launch} {h : Hp} (x : Int32) : Mp l yX3_isOf cX3_isOf 2 (some .boolean) 1 [vi (nI 0), vi x] h (vi (b2i (isG 0 x))) := by
  refine Ms.of (by decide) (Nat.le_of_ble_eq_true rfl) (fun G C X F => ?_)
  have C : Cx G cX3_isOf 2 RX3 := C
  show Rr G 0 [(0, vi (nI 0)), (1, vi x)] [] h
  refine r_iload_n C (dx dX3_isOf 0 rfl) rfl ?_
  refine r_lookup (off := 27) (tgt := 28) C (dx dX3_isOf 1 rfl) (by decide) (by decide) (by decide) ?_
  refine r_iload_n C (dx dX3_isOf 2 rfl) rfl ?_
  refine r_bipush (v := nI 32) C (dx dX3_isOf 3 rfl) rfl ?_
  refine r_icmp_ne (tgt := 38) C (dx dX3_isOf 4 rfl) (by decide) (fun c1 => ?_) (fun c1 => ?_)
  ·
    have c1 : ¬ x = nI 32 := c1
    refine r_iconst (v := nI 0) C (dx dX3_isOf 7 rfl) rfl ?_
    exact F.1 _ _ _ _ _ rfl rfl (dx dX3_isOf 8 rfl) rfl ⟨congrArg (fun x => some (vi x)) (show nI 0 = b2i _ by rw [show (isG 0 x) = false by simp [isG, c1]]; rfl), rfl⟩
  ·
    have c1 : x = nI 32 := c1
    refine r_iconst (v := nI 1) C (dx dX3_isOf 5 rfl) rfl ?_
    refine r_goto (tgt := 39) C (dx dX3_isOf 6 rfl) (by decide) ?_
    exact F.1 _ _ _ _ _ rfl rfl (dx dX3_isOf 8 rfl) rfl ⟨congrArg (fun x => some (vi x)) (show nI 1 = b2i _ by rw [show (isG 0 x) = true by simp [isG, c1]]; rfl), rfl⟩
set_option maxHeartbeats 4000000 in
theorem c_isOf_1 {l : Launch} {h : Hp} (x : Int32) : Mp l yX3_isOf cX3_isOf 2 (some .boolean) 1 [vi (nI 1), vi x] h (vi (b2i (isG 1 x))) := by
  refine Ms.of (by decide) (Nat.le_of_ble_eq_true rfl) (fun G C X F => ?_)
  have C : Cx G cX3_isOf 2 RX3 := C
  show Rr G 0 [(0, vi (nI 1)), (1, vi x)] [] h
  refine r_iload_n C (dx dX3_isOf 0 rfl) rfl ?_
  refine r_lookup (off := 39) (tgt := 40) C (dx dX3_isOf 1 rfl) (by decide) (by decide) (by decide) ?_
  refine r_iload_n C (dx dX3_isOf 9 rfl) rfl ?_
  refine r_bipush (v := nI 97) C (dx dX3_isOf 10 rfl) rfl ?_
  refine r_icmp_lt (tgt := 56) C (dx dX3_isOf 11 rfl) (by decide) (fun c1 => ?_) (fun c1 => ?_)
  ·
    have c1 : x < nI 97 := c1
    refine r_iconst (v := nI 0) C (dx dX3_isOf 17 rfl) rfl ?_
    exact F.1 _ _ _ _ _ rfl rfl (dx dX3_isOf 18 rfl) rfl ⟨congrArg (fun x => some (vi x)) (show nI 0 = b2i _ by rw [show (isG 1 x) = false by simp [isG, c1]]; rfl), rfl⟩
  ·
    have c1 : ¬ x < nI 97 := c1
    refine r_iload_n C (dx dX3_isOf 12 rfl) rfl ?_
    refine r_bipush (v := nI 122) C (dx dX3_isOf 13 rfl) rfl ?_
    refine r_icmp_gt (tgt := 56) C (dx dX3_isOf 14 rfl) (by decide) (fun c2 => ?_) (fun c2 => ?_)
    ·
      have c2 : nI 122 < x := c2
      refine r_iconst (v := nI 0) C (dx dX3_isOf 17 rfl) rfl ?_
      exact F.1 _ _ _ _ _ rfl rfl (dx dX3_isOf 18 rfl) rfl ⟨congrArg (fun x => some (vi x)) (show nI 0 = b2i _ by rw [show (isG 1 x) = false by simp [isG, c1, c2]]; rfl), rfl⟩
    ·
      have c2 : ¬ nI 122 < x := c2
      refine r_iconst (v := nI 1) C (dx dX3_isOf 15 rfl) rfl ?_
      refine r_goto (tgt := 57) C (dx dX3_isOf 16 rfl) (by decide) ?_
      exact F.1 _ _ _ _ _ rfl rfl (dx dX3_isOf 18 rfl) rfl ⟨congrArg (fun x => some (vi x)) (show nI 1 = b2i _ by rw [show (isG 1 x) = true by simp [isG, c1, c2]]; rfl), rfl⟩
set_option maxHeartbeats 4000000 in
theorem c_isOf_2 {l : Launch} {h : Hp} (x : Int32) : Mp l yX3_isOf cX3_isOf 2 (some .boolean) 1 [vi (nI 2), vi x] h (vi (b2i (isG 2 x))) := by
  refine Ms.of (by decide) (Nat.le_of_ble_eq_true rfl) (fun G C X F => ?_)
  have C : Cx G cX3_isOf 2 RX3 := C
  show Rr G 0 [(0, vi (nI 2)), (1, vi x)] [] h
  refine r_iload_n C (dx dX3_isOf 0 rfl) rfl ?_
  refine r_lookup (off := 57) (tgt := 58) C (dx dX3_isOf 1 rfl) (by decide) (by decide) (by decide) ?_
  refine r_iload_n C (dx dX3_isOf 19 rfl) rfl ?_
  refine r_bipush (v := nI 48) C (dx dX3_isOf 20 rfl) rfl ?_
  refine r_icmp_lt (tgt := 74) C (dx dX3_isOf 21 rfl) (by decide) (fun c1 => ?_) (fun c1 => ?_)
  ·
    have c1 : x < nI 48 := c1
    refine r_iconst (v := nI 0) C (dx dX3_isOf 27 rfl) rfl ?_
    exact F.1 _ _ _ _ _ rfl rfl (dx dX3_isOf 28 rfl) rfl ⟨congrArg (fun x => some (vi x)) (show nI 0 = b2i _ by rw [show (isG 2 x) = false by simp [isG, c1]]; rfl), rfl⟩
  ·
    have c1 : ¬ x < nI 48 := c1
    refine r_iload_n C (dx dX3_isOf 22 rfl) rfl ?_
    refine r_bipush (v := nI 57) C (dx dX3_isOf 23 rfl) rfl ?_
    refine r_icmp_gt (tgt := 74) C (dx dX3_isOf 24 rfl) (by decide) (fun c2 => ?_) (fun c2 => ?_)
    ·
      have c2 : nI 57 < x := c2
      refine r_iconst (v := nI 0) C (dx dX3_isOf 27 rfl) rfl ?_
      exact F.1 _ _ _ _ _ rfl rfl (dx dX3_isOf 28 rfl) rfl ⟨congrArg (fun x => some (vi x)) (show nI 0 = b2i _ by rw [show (isG 2 x) = false by simp [isG, c1, c2]]; rfl), rfl⟩
    ·
      have c2 : ¬ nI 57 < x := c2
      refine r_iconst (v := nI 1) C (dx dX3_isOf 25 rfl) rfl ?_
      refine r_goto (tgt := 75) C (dx dX3_isOf 26 rfl) (by decide) ?_
      exact F.1 _ _ _ _ _ rfl rfl (dx dX3_isOf 28 rfl) rfl ⟨congrArg (fun x => some (vi x)) (show nI 1 = b2i _ by rw [show (isG 2 x) = true by simp [isG, c1, c2]]; rfl), rfl⟩
theorem c_isOf {l : Launch} {h : Hp} {γ : Nat} (hγ : γ < 3) (x : Int32) : Mp l yX3_isOf cX3_isOf 2 (some .boolean) 1 [vi (nI γ), vi x] h (vi (b2i (isG γ x))) := by
  rcases (show γ = 0 ∨ γ = 1 ∨ γ = 2 by omega) with rfl | rfl | rfl
  · exact c_isOf_0 x
  · exact c_isOf_1 x
  · exact c_isOf_2 x
theorem btA_at {B : Nat → Int32} {z p : Nat} (h : p < z) : btA B z p = B p := if_pos h
set_option maxHeartbeats 4000000 in
theorem c_X3_byteAt {l : Launch} {h : Hp} {k : Nat} {B : Nat → Int32} {z : Nat} (ht : TapAt h k B z) {a : Nat} (ha : a < 2 ^ 31) : Mp l yX3_byteAt cX3_byteAt 2 (some .int) 1 [vr 3 k, vi (nI a)] h (vi (btA B z a)) := by
  refine Ms.of (by decide) (Nat.le_of_ble_eq_true rfl) (fun G C X F => ?_)
  have C : Cx G cX3_byteAt 2 RX3 := C
  show Rr G 0 [(0, vr 3 k), (1, vi (nI a))] [] h
  have bz := ht.2.2
  refine r_iload_n C (dx dX3_byteAt 0 rfl) rfl ?_
  refine r_if_lt (tgt := 28) C (dx dX3_byteAt 1 rfl) (by decide) (fun c1 => ?_) (fun c1 => ?_)
  · exact absurd c1 (nI_pos (by omega))
  ·
    have c1 : ¬ nI a < 0 := c1
    refine r_iload_n C (dx dX3_byteAt 2 rfl) rfl ?_
    refine r_aload_n C (dx dX3_byteAt 3 rfl) rfl ?_
    refine g_X3_15 (x := nI z) C (dx dX3_byteAt 4 rfl) ht.2.1 ?_
    refine rn_ge (a := a) (b := z) (tgt := 28) C (by omega) (by omega) (dx dX3_byteAt 5 rfl) (by decide) (fun c2 => ?_) (fun c2 => ?_)
    · first
      | (omega; done)
      | (
          have c2 : z ≤ a := c2
          refine r_iconst (v := -1) C (dx dX3_byteAt 14 rfl) rfl ?_
          exact F.1 _ _ _ _ _ rfl rfl (dx dX3_byteAt 15 rfl) rfl ⟨congrArg (fun x => some (vi x)) (show -1 = btA B z a by (unfold btA; first | (rw [if_neg (by omega)]; done) | (rw [if_pos (by omega)]; done))), rfl⟩)
    · first
      | (omega; done)
      | (
          have c2 : a < z := c2
          refine r_iload_n C (dx dX3_byteAt 6 rfl) rfl ?_
          refine r_sipush (v := nI 250) C (dx dX3_byteAt 7 rfl) rfl ?_
          refine rn_ge (a := a) (b := 250) (tgt := 28) C (by omega) (by omega) (dx dX3_byteAt 8 rfl) (by decide) (fun c3 => ?_) (fun c3 => ?_)
          · first
            | (omega; done)
            | (
                have c3 : 250 ≤ a := c3
                refine r_iconst (v := -1) C (dx dX3_byteAt 14 rfl) rfl ?_
                exact F.1 _ _ _ _ _ rfl rfl (dx dX3_byteAt 15 rfl) rfl ⟨congrArg (fun x => some (vi x)) (show -1 = btA B z a by (unfold btA; first | (rw [if_neg (by omega)]; done) | (rw [if_pos (by omega)]; done))), rfl⟩)
          · first
            | (omega; done)
            | (
                have c3 : a < 250 := c3
                refine r_aload_n C (dx dX3_byteAt 9 rfl) rfl ?_
                refine g_X3_9 C (dx dX3_byteAt 10 rfl) ?_
                refine r_iload_n C (dx dX3_byteAt 11 rfl) rfl ?_
                refine r_bald (j := a) (x := B a) C rfl rfl (by decide) rfl (by omega) (dx dX3_byteAt 12 rfl) (ht.1 _ (by omega)) ?_
                refine r_goto (tgt := 29) C (dx dX3_byteAt 13 rfl) (by decide) ?_
                exact F.1 _ _ _ _ _ rfl rfl (dx dX3_byteAt 15 rfl) rfl ⟨congrArg (fun x => some (vi x)) (show B a = btA B z a by (unfold btA; first | (rw [if_neg (by omega)]; done) | (rw [if_pos (by omega)]; done))), rfl⟩))
set_option maxHeartbeats 4000000 in
theorem c_X3_endOf {l : Launch} {h : Hp} {k : Nat} {B : Nat → Int32} {z : Nat} (ht : TapAt h k B z) {γ a : Nat} (hγ : γ < 3) (ha : a < 2 ^ 30) : Mp l yX3_endOf cX3_endOf 4 (some .int) 2 [vr 3 k, vi (nI (γ)), vi (nI a)] h (vi (nI (enO γ B z a))) := by
  refine Ms.of (by decide) (Nat.le_of_ble_eq_true rfl) (fun G C X F => ?_)
  have C : Cx G cX3_endOf 4 RX3 := C
  show Rr G 0 [(0, vr 3 k), (1, vi (nI (γ))), (2, vi (nI a))] [] h
  have bz := ht.2.2
  refine r_iload_n C (dx dX3_endOf 0 rfl) rfl ?_
  refine r_istore_n (ls' := [(0, vr 3 k), (1, vi (nI (γ))), (2, vi (nI a)), (3, vi (nI a))]) C (dx dX3_endOf 1 rfl) (by decide) [1, 2, 3, 0] rfl ?_
  refine loopU (Φ := fun p => enO γ B z a = enO γ B z p → Rr G 2 [(0, vr 3 k), (1, vi (nI (γ))), (2, vi (nI a)), (3, vi (nI p))] [] h) (N := a + (z - a)) ?_ ?_ a (Nat.le_add_right _ _) rfl
  ·
    intro hI
    refine r_iload_n C (dx dX3_endOf 2 rfl) rfl ?_
    refine r_aload_n C (dx dX3_endOf 3 rfl) rfl ?_
    refine g_X3_15 (x := nI z) C (dx dX3_endOf 4 rfl) ht.2.1 ?_
    refine rn_ge (a := a + (z - a)) (b := z) (tgt := 28) C (by omega) (by omega) (dx dX3_endOf 5 rfl) (by decide) (fun c1 => ?_) (fun c1 => ?_)
    · first
      | (omega; done)
      | (
          have c1 : z ≤ a + (z - a) := c1
          refine r_iload_n C (dx dX3_endOf 14 rfl) rfl ?_
          exact F.1 _ _ _ _ _ rfl rfl (dx dX3_endOf 15 rfl) rfl ⟨congrArg (fun x => some (vi x)) (show nI (a + (z - a)) = nI (enO γ B z a) by exact (congrArg nI (hI.trans (enO_e (by omega)))).symm), rfl⟩)
    · first
      | (omega; done)
  ·
    intro p hp ih hI
    refine r_iload_n C (dx dX3_endOf 2 rfl) rfl ?_
    refine r_aload_n C (dx dX3_endOf 3 rfl) rfl ?_
    refine g_X3_15 (x := nI z) C (dx dX3_endOf 4 rfl) ht.2.1 ?_
    refine rn_ge (a := p) (b := z) (tgt := 28) C (by omega) (by omega) (dx dX3_endOf 5 rfl) (by decide) (fun c3 => ?_) (fun c3 => ?_)
    · first
      | (omega; done)
      | (
          have c3 : z ≤ p := c3
          refine r_iload_n C (dx dX3_endOf 14 rfl) rfl ?_
          exact F.1 _ _ _ _ _ rfl rfl (dx dX3_endOf 15 rfl) rfl ⟨congrArg (fun x => some (vi x)) (show nI p = nI (enO γ B z a) by exact (congrArg nI (hI.trans (enO_e (by omega)))).symm), rfl⟩)
    · first
      | (omega; done)
      | (
          have c3 : p < z := c3
          refine r_iload_n C (dx dX3_endOf 6 rfl) rfl ?_
          refine r_aload_n C (dx dX3_endOf 7 rfl) rfl ?_
          refine r_iload_n C (dx dX3_endOf 8 rfl) rfl ?_
          refine r_cvP (as := [vi (nI p)]) (st := [vi (nI (γ))]) (v := vi (btA B z p)) C X I_X3_byteAt l_X3_113 (c_X3_byteAt ht (a := p) (by omega)) (by decide) (Nat.le_of_ble_eq_true rfl) List.prefix_rfl rfl rfl (Nat.le_of_ble_eq_true rfl) rfl (dx dX3_endOf 9 rfl) ?_
          refine r_csP (as := [vi (nI (γ)), vi (btA B z p)]) (st := []) (v := vi (b2i (isG (γ) (btA B z p)))) C X I_X3_isOf l_X3_117 (c_isOf (γ := γ) (by omega) (btA B z p)) (by decide) (Nat.le_of_ble_eq_true rfl) List.prefix_rfl (Nat.le_of_ble_eq_true rfl) rfl (dx dX3_endOf 10 rfl) ?_
          refine rb_eq (b := isG (γ) (btA B z p)) (tgt := 28) C (dx dX3_endOf 11 rfl) (by decide) (fun c4 => ?_) (fun c4 => ?_)
          ·
            have c4 : (isG (γ) (btA B z p)) = false := c4
            refine r_iload_n C (dx dX3_endOf 14 rfl) rfl ?_
            exact F.1 _ _ _ _ _ rfl rfl (dx dX3_endOf 15 rfl) rfl ⟨congrArg (fun x => some (vi x)) (show nI p = nI (enO γ B z a) by exact (congrArg nI (hI.trans (enO_n (by omega) (by have q := c4; rw [btA_at (by omega)] at q; exact q)))).symm), rfl⟩
          ·
            have c4 : (isG (γ) (btA B z p)) = true := c4
            refine rn_iinc (a := p) (k := 1) (ls' := [(0, vr 3 k), (1, vi (nI (γ))), (2, vi (nI a)), (3, vi (nI (p + 1)))]) C (dx dX3_endOf 12 rfl) rfl rfl (by decide) [1, 2, 3, 0] rfl ?_
            refine r_goto (tgt := 2) C (dx dX3_endOf 13 rfl) (by decide) ?_
            exact ih (hI.trans (enO_y (by omega) (by have q := c4; rw [btA_at (by omega)] at q; exact q))))
set_option maxHeartbeats 4000000 in
theorem c_X3_clear {l : Launch} {h : Hp} {k : Nat} {B : Nat → Int32} {z : Nat} (ht : TapAt h k B z)  : Ms l yX3_clear cX3_clear 1 none 1 [vr 3 k] h (xK h) (fun r0 h' => r0 = none ∧ TapAt h' k B 0 ∧ Fr k (k + 1) h h') := by
  refine Ms.of (by decide) (Nat.le_of_ble_eq_true rfl) (fun G C X F => ?_)
  have C : Cx G cX3_clear 1 RX3 := C
  show Rr G 0 [(0, vr 3 k)] [] h
  have bz := ht.2.2
  refine r_aload_n C (dx dX3_clear 0 rfl) rfl ?_
  refine r_iconst (v := nI 0) C (dx dX3_clear 1 rfl) rfl ?_
  refine p_X3_15 C (dx dX3_clear 2 rfl) rfl rfl ?_
  exact F.2.2.1 _ _ _ rfl (dx dX3_clear 3 rfl) rfl ⟨rfl, tp_z ht (by omega), Fr.sI (by omega) (by omega)⟩
/-- the tape and the token being looked at: its sort, place, end -/
def TkAt (h : Hp) (k : Nat) (B : Nat → Int32) (z t s e : Nat) : Prop := TapAt h k B z ∧ xI h k 2 = nI t ∧ xI h k 3 = nI s ∧ xI h k 4 = nI e
theorem TapAt.w {h : Hp} {k z j : Nat} {x : Int32} {B : Nat → Int32} (a : TapAt h k B z) (hj : j ≠ 1) : TapAt (sI h k j x) k B z :=
  ⟨fun i hi => by rw [sI_ne (by omega)]; exact a.1 i hi, by rw [sI_at, if_neg (by omega)]; exact a.2.1, a.2.2⟩
theorem TkAt.w2 {h : Hp} {k z t s e t' : Nat} {B : Nat → Int32} (a : TkAt h k B z t s e) : TkAt (sI h k 2 (nI t')) k B z t' s e :=
  ⟨a.1.w (by omega), by rw [sI_at]; rfl, by rw [sI_at]; exact a.2.2.1, by rw [sI_at]; exact a.2.2.2⟩
theorem TkAt.w3 {h : Hp} {k z t s e t' : Nat} {B : Nat → Int32} (a : TkAt h k B z t s e) : TkAt (sI h k 3 (nI t')) k B z t t' e :=
  ⟨a.1.w (by omega), by rw [sI_at]; exact a.2.1, by rw [sI_at]; rfl, by rw [sI_at]; exact a.2.2.2⟩
theorem TkAt.w4 {h : Hp} {k z t s e t' : Nat} {B : Nat → Int32} (a : TkAt h k B z t s e) : TkAt (sI h k 4 (nI t')) k B z t s t' :=
  ⟨a.1.w (by omega), by rw [sI_at]; exact a.2.1, by rw [sI_at]; exact a.2.2.1, by rw [sI_at]; rfl⟩
theorem TkAt.fr {h h1 : Hp} {k lo hi z t s e : Nat} {B : Nat → Int32} (a : TkAt h k B z t s e) (f : Fr lo hi h h1) (hk : k + 2 ≤ lo ∨ hi ≤ k) : TkAt h1 k B z t s e :=
  ⟨⟨fun i hi => (f.I (by omega) _).trans (a.1.1 i hi), (f.I (by omega) _).trans a.1.2.1, a.1.2.2⟩, (f.I (by omega) _).trans a.2.1, (f.I (by omega) _).trans a.2.2.1, (f.I (by omega) _).trans a.2.2.2⟩
theorem enF_le (γ : Nat) (B : Nat → Int32) : ∀ n p, p ≤ enF γ B n p ∧ enF γ B n p ≤ p + n
  | 0, p => ⟨Nat.le_refl _, Nat.le_refl _⟩
  | n + 1, p => by
    have q := enF_le γ B n (p + 1)
    simp only [enF]
    split <;> omega
theorem enO_le {γ : Nat} {B : Nat → Int32} {z p : Nat} (h : p ≤ z) : p ≤ enO γ B z p ∧ enO γ B z p ≤ z := by
  have q := enF_le γ B (z - p) p
  unfold enO; omega
theorem tk_eq {h : Hp} {k z t s e : Nat} {B : Nat → Int32} {q : Nat × Nat × Nat} (w : q = (t, s, e)) (a : TkAt h k B z t s e) : TkAt h k B z q.1 q.2.1 q.2.2 := by rw [w]; exact a
/-- the next token -/
def stp (B : Nat → Int32) (z e : Nat) : Nat × Nat × Nat :=
  if z ≤ enO 0 B z e then (3, enO 0 B z e, enO 0 B z e)
  else if isG 1 (B (enO 0 B z e)) = true then (0, enO 0 B z e, enO 1 B z (enO 0 B z e))
  else if isG 2 (B (enO 0 B z e)) = true then (1, enO 0 B z e, enO 2 B z (enO 0 B z e))
  else (if B (enO 0 B z e) = nI 59 then 2 else 4, enO 0 B z e, enO 0 B z e + 1)
theorem stp_le {B : Nat → Int32} {z e : Nat} (h : e ≤ z) : (stp B z e).2.1 ≤ (stp B z e).2.2 ∧ (stp B z e).2.2 ≤ z := by
  have q := enO_le (γ := 0) (B := B) h
  have q1 := enO_le (γ := 1) (B := B) q.2
  have q2 := enO_le (γ := 2) (B := B) q.2
  unfold stp
  split
  · exact ⟨Nat.le_refl _, q.2⟩
  · split
    · exact q1
    · split
      · exact q2
      · simp only; omega
set_option maxHeartbeats 4000000 in
theorem c_X3_step {l : Launch} {h : Hp} {k : Nat} {B : Nat → Int32} {z t s e : Nat} (hk : TkAt h k B z t s e) (he : e ≤ z) : Ms l yX3_step cX3_step 2 none 3 [vr 3 k] h (xK h) (fun r0 h' => r0 = none ∧ TkAt h' k B z (stp B z e).1 (stp B z e).2.1 (stp B z e).2.2 ∧ Fr k (k + 1) h h') := by
  refine Ms.of (by decide) (Nat.le_of_ble_eq_true rfl) (fun G C X F => ?_)
  have C : Cx G cX3_step 2 RX3 := C
  show Rr G 0 [(0, vr 3 k)] [] h
  have bz := hk.1.2.2
  have hs9 := enO_le (γ := 0) (B := B) he
  refine r_aload_n C (dx dX3_step 0 rfl) rfl ?_
  refine r_aload_n C (dx dX3_step 1 rfl) rfl ?_
  refine r_iconst (v := nI 0) C (dx dX3_step 2 rfl) rfl ?_
  refine r_aload_n C (dx dX3_step 3 rfl) rfl ?_
  refine g_X3_25 (x := nI e) C (dx dX3_step 4 rfl) hk.2.2.2 ?_
  refine r_cvP (as := [vi (nI 0), vi (nI e)]) (st := [vr 3 k]) (v := vi (nI (enO 0 B z e))) C X I_X3_endOf l_X3_110 (c_X3_endOf hk.1 (γ := 0) (a := e) (by omega) (by omega)) (by decide) (Nat.le_of_ble_eq_true rfl) List.prefix_rfl rfl rfl (Nat.le_of_ble_eq_true rfl) rfl (dx dX3_step 5 rfl) ?_
  refine p_X3_22 C (dx dX3_step 6 rfl) rfl rfl ?_
  have sh1 : TkAt (sI h k 3 (nI (enO 0 B z e))) k B z t (enO 0 B z e) e := hk.w3
  have fh1 : Fr k (k + 1) h (sI h k 3 (nI (enO 0 B z e))) := (Fr.sI (by omega) (by omega))
  have kh1 : xK (sI h k 3 (nI (enO 0 B z e))) = xK h := rfl
  generalize sI h k 3 (nI (enO 0 B z e)) = h1 at sh1 fh1 kh1 ⊢
  refine r_aload_n C (dx dX3_step 7 rfl) rfl ?_
  refine r_aload_n C (dx dX3_step 8 rfl) rfl ?_
  refine g_X3_22 (x := nI (enO 0 B z e)) C (dx dX3_step 9 rfl) sh1.2.2.1 ?_
  refine r_cvP (as := [vi (nI (enO 0 B z e))]) (st := []) (v := vi (btA B z (enO 0 B z e))) C X I_X3_byteAt l_X3_113 (c_X3_byteAt sh1.1 (a := enO 0 B z e) (by omega)) (by decide) (Nat.le_of_ble_eq_true rfl) (pfx_eq kh1) rfl rfl (Nat.le_of_ble_eq_true rfl) rfl (dx dX3_step 10 rfl) ?_
  refine r_istore_n (ls' := [(0, vr 3 k), (1, vi (btA B z (enO 0 B z e)))]) C (dx dX3_step 11 rfl) (by decide) [1, 0] rfl ?_
  refine r_aload_n C (dx dX3_step 12 rfl) rfl ?_
  refine g_X3_22 (x := nI (enO 0 B z e)) C (dx dX3_step 13 rfl) sh1.2.2.1 ?_
  refine r_aload_n C (dx dX3_step 14 rfl) rfl ?_
  refine g_X3_15 (x := nI z) C (dx dX3_step 15 rfl) sh1.1.2.1 ?_
  refine rn_lt (a := enO 0 B z e) (b := z) (tgt := 49) C (by omega) (by omega) (dx dX3_step 16 rfl) (by decide) (fun c2 => ?_) (fun c2 => ?_)
  · first
    | (omega; done)
    | (
        have c2 : enO 0 B z e < z := c2
        refine r_iconst (v := nI 1) C (dx dX3_step 25 rfl) rfl ?_
        refine r_iload_n C (dx dX3_step 26 rfl) rfl ?_
        refine r_csP (as := [vi (nI 1), vi (btA B z (enO 0 B z e))]) (st := []) (v := vi (b2i (isG 1 (btA B z (enO 0 B z e))))) C X I_X3_isOf l_X3_117 (c_isOf (γ := 1) (by omega) (btA B z (enO 0 B z e))) (by decide) (Nat.le_of_ble_eq_true rfl) (pfx_eq kh1) (Nat.le_of_ble_eq_true rfl) rfl (dx dX3_step 27 rfl) ?_
        refine rb_eq (b := isG 1 (btA B z (enO 0 B z e))) (tgt := 78) C (dx dX3_step 28 rfl) (by decide) (fun c3 => ?_) (fun c3 => ?_)
        ·
          have c3 : (isG 1 (btA B z (enO 0 B z e))) = false := c3
          refine r_iconst (v := nI 2) C (dx dX3_step 40 rfl) rfl ?_
          refine r_iload_n C (dx dX3_step 41 rfl) rfl ?_
          refine r_csP (as := [vi (nI 2), vi (btA B z (enO 0 B z e))]) (st := []) (v := vi (b2i (isG 2 (btA B z (enO 0 B z e))))) C X I_X3_isOf l_X3_117 (c_isOf (γ := 2) (by omega) (btA B z (enO 0 B z e))) (by decide) (Nat.le_of_ble_eq_true rfl) (pfx_eq kh1) (Nat.le_of_ble_eq_true rfl) rfl (dx dX3_step 42 rfl) ?_
          refine rb_eq (b := isG 2 (btA B z (enO 0 B z e))) (tgt := 107) C (dx dX3_step 43 rfl) (by decide) (fun c4 => ?_) (fun c4 => ?_)
          ·
            have c4 : (isG 2 (btA B z (enO 0 B z e))) = false := c4
            refine r_aload_n C (dx dX3_step 55 rfl) rfl ?_
            refine r_iload_n C (dx dX3_step 56 rfl) rfl ?_
            refine r_bipush (v := nI 59) C (dx dX3_step 57 rfl) rfl ?_
            refine r_icmp_ne (tgt := 118) C (dx dX3_step 58 rfl) (by decide) (fun c5 => ?_) (fun c5 => ?_)
            ·
              have c5 : ¬ btA B z (enO 0 B z e) = nI 59 := c5
              refine r_iconst (v := nI 4) C (dx dX3_step 61 rfl) rfl ?_
              refine p_X3_19 C (dx dX3_step 62 rfl) rfl rfl ?_
              have sh6 : TkAt (sI h1 k 2 (nI 4)) k B z 4 (enO 0 B z e) e := sh1.w2
              have fh6 : Fr k (k + 1) h (sI h1 k 2 (nI 4)) := fh1.tr (Fr.sI (by omega) (by omega))
              have kh6 : xK (sI h1 k 2 (nI 4)) = xK h := kh1
              generalize sI h1 k 2 (nI 4) = h6 at sh6 fh6 kh6 ⊢
              refine r_aload_n C (dx dX3_step 63 rfl) rfl ?_
              refine r_aload_n C (dx dX3_step 64 rfl) rfl ?_
              refine g_X3_22 (x := nI (enO 0 B z e)) C (dx dX3_step 65 rfl) sh6.2.2.1 ?_
              refine r_iconst (v := nI 1) C (dx dX3_step 66 rfl) rfl ?_
              refine rn_iadd (a := enO 0 B z e) (b := 1) C (dx dX3_step 67 rfl) ?_
              refine p_X3_25 C (dx dX3_step 68 rfl) rfl rfl ?_
              have sh7 : TkAt (sI h6 k 4 (nI (enO 0 B z e + 1))) k B z 4 (enO 0 B z e) (enO 0 B z e + 1) := sh6.w4
              have fh7 : Fr k (k + 1) h (sI h6 k 4 (nI (enO 0 B z e + 1))) := fh6.tr (Fr.sI (by omega) (by omega))
              have kh7 : xK (sI h6 k 4 (nI (enO 0 B z e + 1))) = xK h := kh6
              generalize sI h6 k 4 (nI (enO 0 B z e + 1)) = h7 at sh7 fh7 kh7 ⊢
              exact F.2.2.1 _ _ _ rfl (dx dX3_step 69 rfl) kh7 ⟨rfl, tk_eq (q := stp B z e) (by rw [btA_at (by omega)] at c3; rw [btA_at (by omega)] at c4; rw [btA_at (by omega)] at c5; unfold stp; rw [if_neg (by omega)]; simp [c3, c4, c5, show isG 1 (nI 59) = false by decide, show isG 2 (nI 59) = false by decide]) sh7, fh7⟩
            ·
              have c5 : btA B z (enO 0 B z e) = nI 59 := c5
              refine r_iconst (v := nI 2) C (dx dX3_step 59 rfl) rfl ?_
              refine r_goto (tgt := 119) C (dx dX3_step 60 rfl) (by decide) ?_
              refine p_X3_19 C (dx dX3_step 62 rfl) rfl rfl ?_
              have sh8 : TkAt (sI h1 k 2 (nI 2)) k B z 2 (enO 0 B z e) e := sh1.w2
              have fh8 : Fr k (k + 1) h (sI h1 k 2 (nI 2)) := fh1.tr (Fr.sI (by omega) (by omega))
              have kh8 : xK (sI h1 k 2 (nI 2)) = xK h := kh1
              generalize sI h1 k 2 (nI 2) = h8 at sh8 fh8 kh8 ⊢
              refine r_aload_n C (dx dX3_step 63 rfl) rfl ?_
              refine r_aload_n C (dx dX3_step 64 rfl) rfl ?_
              refine g_X3_22 (x := nI (enO 0 B z e)) C (dx dX3_step 65 rfl) sh8.2.2.1 ?_
              refine r_iconst (v := nI 1) C (dx dX3_step 66 rfl) rfl ?_
              refine rn_iadd (a := enO 0 B z e) (b := 1) C (dx dX3_step 67 rfl) ?_
              refine p_X3_25 C (dx dX3_step 68 rfl) rfl rfl ?_
              have sh9 : TkAt (sI h8 k 4 (nI (enO 0 B z e + 1))) k B z 2 (enO 0 B z e) (enO 0 B z e + 1) := sh8.w4
              have fh9 : Fr k (k + 1) h (sI h8 k 4 (nI (enO 0 B z e + 1))) := fh8.tr (Fr.sI (by omega) (by omega))
              have kh9 : xK (sI h8 k 4 (nI (enO 0 B z e + 1))) = xK h := kh8
              generalize sI h8 k 4 (nI (enO 0 B z e + 1)) = h9 at sh9 fh9 kh9 ⊢
              exact F.2.2.1 _ _ _ rfl (dx dX3_step 69 rfl) kh9 ⟨rfl, tk_eq (q := stp B z e) (by rw [btA_at (by omega)] at c3; rw [btA_at (by omega)] at c4; rw [btA_at (by omega)] at c5; unfold stp; rw [if_neg (by omega)]; simp [c3, c4, c5, show isG 1 (nI 59) = false by decide, show isG 2 (nI 59) = false by decide]) sh9, fh9⟩
          ·
            have c4 : (isG 2 (btA B z (enO 0 B z e))) = true := c4
            refine r_aload_n C (dx dX3_step 44 rfl) rfl ?_
            refine r_iconst (v := nI 1) C (dx dX3_step 45 rfl) rfl ?_
            refine p_X3_19 C (dx dX3_step 46 rfl) rfl rfl ?_
            have sh10 : TkAt (sI h1 k 2 (nI 1)) k B z 1 (enO 0 B z e) e := sh1.w2
            have fh10 : Fr k (k + 1) h (sI h1 k 2 (nI 1)) := fh1.tr (Fr.sI (by omega) (by omega))
            have kh10 : xK (sI h1 k 2 (nI 1)) = xK h := kh1
            generalize sI h1 k 2 (nI 1) = h10 at sh10 fh10 kh10 ⊢
            refine r_aload_n C (dx dX3_step 47 rfl) rfl ?_
            refine r_aload_n C (dx dX3_step 48 rfl) rfl ?_
            refine r_iconst (v := nI 2) C (dx dX3_step 49 rfl) rfl ?_
            refine r_aload_n C (dx dX3_step 50 rfl) rfl ?_
            refine g_X3_22 (x := nI (enO 0 B z e)) C (dx dX3_step 51 rfl) sh10.2.2.1 ?_
            refine r_cvP (as := [vi (nI 2), vi (nI (enO 0 B z e))]) (st := [vr 3 k]) (v := vi (nI (enO 2 B z (enO 0 B z e)))) C X I_X3_endOf l_X3_110 (c_X3_endOf sh10.1 (γ := 2) (a := enO 0 B z e) (by omega) (by omega)) (by decide) (Nat.le_of_ble_eq_true rfl) (pfx_eq kh10) rfl rfl (Nat.le_of_ble_eq_true rfl) rfl (dx dX3_step 52 rfl) ?_
            refine p_X3_25 C (dx dX3_step 53 rfl) rfl rfl ?_
            have sh11 : TkAt (sI h10 k 4 (nI (enO 2 B z (enO 0 B z e)))) k B z 1 (enO 0 B z e) (enO 2 B z (enO 0 B z e)) := sh10.w4
            have fh11 : Fr k (k + 1) h (sI h10 k 4 (nI (enO 2 B z (enO 0 B z e)))) := fh10.tr (Fr.sI (by omega) (by omega))
            have kh11 : xK (sI h10 k 4 (nI (enO 2 B z (enO 0 B z e)))) = xK h := kh10
            generalize sI h10 k 4 (nI (enO 2 B z (enO 0 B z e))) = h11 at sh11 fh11 kh11 ⊢
            refine r_goto (tgt := 132) C (dx dX3_step 54 rfl) (by decide) ?_
            exact F.2.2.1 _ _ _ rfl (dx dX3_step 69 rfl) kh11 ⟨rfl, tk_eq (q := stp B z e) (by rw [btA_at (by omega)] at c3; rw [btA_at (by omega)] at c4; unfold stp; rw [if_neg (by omega)]; simp [c3, c4, show isG 1 (nI 59) = false by decide, show isG 2 (nI 59) = false by decide]) sh11, fh11⟩
        ·
          have c3 : (isG 1 (btA B z (enO 0 B z e))) = true := c3
          refine r_aload_n C (dx dX3_step 29 rfl) rfl ?_
          refine r_iconst (v := nI 0) C (dx dX3_step 30 rfl) rfl ?_
          refine p_X3_19 C (dx dX3_step 31 rfl) rfl rfl ?_
          have sh12 : TkAt (sI h1 k 2 (nI 0)) k B z 0 (enO 0 B z e) e := sh1.w2
          have fh12 : Fr k (k + 1) h (sI h1 k 2 (nI 0)) := fh1.tr (Fr.sI (by omega) (by omega))
          have kh12 : xK (sI h1 k 2 (nI 0)) = xK h := kh1
          generalize sI h1 k 2 (nI 0) = h12 at sh12 fh12 kh12 ⊢
          refine r_aload_n C (dx dX3_step 32 rfl) rfl ?_
          refine r_aload_n C (dx dX3_step 33 rfl) rfl ?_
          refine r_iconst (v := nI 1) C (dx dX3_step 34 rfl) rfl ?_
          refine r_aload_n C (dx dX3_step 35 rfl) rfl ?_
          refine g_X3_22 (x := nI (enO 0 B z e)) C (dx dX3_step 36 rfl) sh12.2.2.1 ?_
          refine r_cvP (as := [vi (nI 1), vi (nI (enO 0 B z e))]) (st := [vr 3 k]) (v := vi (nI (enO 1 B z (enO 0 B z e)))) C X I_X3_endOf l_X3_110 (c_X3_endOf sh12.1 (γ := 1) (a := enO 0 B z e) (by omega) (by omega)) (by decide) (Nat.le_of_ble_eq_true rfl) (pfx_eq kh12) rfl rfl (Nat.le_of_ble_eq_true rfl) rfl (dx dX3_step 37 rfl) ?_
          refine p_X3_25 C (dx dX3_step 38 rfl) rfl rfl ?_
          have sh13 : TkAt (sI h12 k 4 (nI (enO 1 B z (enO 0 B z e)))) k B z 0 (enO 0 B z e) (enO 1 B z (enO 0 B z e)) := sh12.w4
          have fh13 : Fr k (k + 1) h (sI h12 k 4 (nI (enO 1 B z (enO 0 B z e)))) := fh12.tr (Fr.sI (by omega) (by omega))
          have kh13 : xK (sI h12 k 4 (nI (enO 1 B z (enO 0 B z e)))) = xK h := kh12
          generalize sI h12 k 4 (nI (enO 1 B z (enO 0 B z e))) = h13 at sh13 fh13 kh13 ⊢
          refine r_goto (tgt := 132) C (dx dX3_step 39 rfl) (by decide) ?_
          exact F.2.2.1 _ _ _ rfl (dx dX3_step 69 rfl) kh13 ⟨rfl, tk_eq (q := stp B z e) (by rw [btA_at (by omega)] at c3; unfold stp; rw [if_neg (by omega)]; simp [c3, show isG 1 (nI 59) = false by decide, show isG 2 (nI 59) = false by decide]) sh13, fh13⟩)
  · first
    | (omega; done)
    | (
        have c2 : z ≤ enO 0 B z e := c2
        refine r_aload_n C (dx dX3_step 17 rfl) rfl ?_
        refine r_iconst (v := nI 3) C (dx dX3_step 18 rfl) rfl ?_
        refine p_X3_19 C (dx dX3_step 19 rfl) rfl rfl ?_
        have sh14 : TkAt (sI h1 k 2 (nI 3)) k B z 3 (enO 0 B z e) e := sh1.w2
        have fh14 : Fr k (k + 1) h (sI h1 k 2 (nI 3)) := fh1.tr (Fr.sI (by omega) (by omega))
        have kh14 : xK (sI h1 k 2 (nI 3)) = xK h := kh1
        generalize sI h1 k 2 (nI 3) = h14 at sh14 fh14 kh14 ⊢
        refine r_aload_n C (dx dX3_step 20 rfl) rfl ?_
        refine r_aload_n C (dx dX3_step 21 rfl) rfl ?_
        refine g_X3_22 (x := nI (enO 0 B z e)) C (dx dX3_step 22 rfl) sh14.2.2.1 ?_
        refine p_X3_25 C (dx dX3_step 23 rfl) rfl rfl ?_
        have sh15 : TkAt (sI h14 k 4 (nI (enO 0 B z e))) k B z 3 (enO 0 B z e) (enO 0 B z e) := sh14.w4
        have fh15 : Fr k (k + 1) h (sI h14 k 4 (nI (enO 0 B z e))) := fh14.tr (Fr.sI (by omega) (by omega))
        have kh15 : xK (sI h14 k 4 (nI (enO 0 B z e))) = xK h := kh14
        generalize sI h14 k 4 (nI (enO 0 B z e)) = h15 at sh15 fh15 kh15 ⊢
        refine r_goto (tgt := 132) C (dx dX3_step 24 rfl) (by decide) ?_
        exact F.2.2.1 _ _ _ rfl (dx dX3_step 69 rfl) kh15 ⟨rfl, tk_eq (q := stp B z e) (by unfold stp; rw [if_pos (by omega)]) sh15, fh15⟩)
set_option maxHeartbeats 4000000 in
theorem c_X3_faultPlace {l : Launch} {h : Hp} {k : Nat} {B : Nat → Int32} {z t s e : Nat} (hk : TkAt h k B z t s e) : Mp l yX3_faultPlace cX3_faultPlace 1 (some .int) 1 [vr 3 k] h (vi (nI s)) := by
  refine Ms.of (by decide) (Nat.le_of_ble_eq_true rfl) (fun G C X F => ?_)
  have C : Cx G cX3_faultPlace 1 RX3 := C
  show Rr G 0 [(0, vr 3 k)] [] h
  refine r_aload_n C (dx dX3_faultPlace 0 rfl) rfl ?_
  refine g_X3_22 (x := nI s) C (dx dX3_faultPlace 1 rfl) hk.2.2.1 ?_
  exact F.1 _ _ _ _ _ rfl rfl (dx dX3_faultPlace 2 rfl) rfl ⟨congrArg (fun x => some (vi x)) rfl, rfl⟩
/-- digits from a place on, read as a number -/
def nmF (B : Nat → Int32) (z s : Nat) : Nat → Int32
  | 0 => nI 0
  | j + 1 => nI 10 * nmF B z s j + btA B z (s + j) - nI 48
theorem nmF_s {B : Nat → Int32} {z s p : Nat} (h : s ≤ p) : nI 10 * nmF B z s (p - s) + btA B z p - nI 48 = nmF B z s (p + 1 - s) := by
  rw [show p + 1 - s = (p - s) + 1 by omega]; simp only [nmF]; rw [show s + (p - s) = p by omega]
def nmV (B : Nat → Int32) (z t s e : Nat) (lo hi : Int32) : Int32 :=
  if t = 1 ∧ e - s ≤ 2 then (if nmF B z s (e - s) < lo then -1 else if nmF B z s (e - s) ≤ hi then nmF B z s (e - s) else -1) else -1
set_option maxHeartbeats 4000000 in
theorem c_X3_numberIn {l : Launch} {h : Hp} {k : Nat} {B : Nat → Int32} {z t s e : Nat} (hk : TkAt h k B z t s e) (ht5 : t < 5) (hse : s ≤ e) (hez : e ≤ z) (lo hi : Int32) : Mp l yX3_numberIn cX3_numberIn 5 (some .int) 2 [vr 3 k, vi lo, vi hi] h (vi (nmV B z t s e lo hi)) := by
  refine Ms.of (by decide) (Nat.le_of_ble_eq_true rfl) (fun G C X F => ?_)
  have C : Cx G cX3_numberIn 5 RX3 := C
  show Rr G 0 [(0, vr 3 k), (1, vi lo), (2, vi hi)] [] h
  have bz := hk.1.2.2
  refine r_aload_n C (dx dX3_numberIn 0 rfl) rfl ?_
  refine g_X3_19 (x := nI t) C (dx dX3_numberIn 1 rfl) hk.2.1 ?_
  refine r_iconst (v := nI 1) C (dx dX3_numberIn 2 rfl) rfl ?_
  refine rn_ne (a := t) (b := 1) (tgt := 21) C (by omega) (by omega) (dx dX3_numberIn 3 rfl) (by decide) (fun c1 => ?_) (fun c1 => ?_)
  · first
    | (omega; done)
    | (
        have c1 : ¬ t = 1 := c1
        refine r_iconst (v := -1) C (dx dX3_numberIn 11 rfl) rfl ?_
        exact F.1 _ _ _ _ _ rfl rfl (dx dX3_numberIn 12 rfl) rfl ⟨congrArg (fun x => some (vi x)) (show -1 = nmV B z t s e lo hi by unfold nmV; rw [if_neg (by omega)]), rfl⟩)
  · first
    | (omega; done)
    | (
        have c1 : t = 1 := c1
        refine r_aload_n C (dx dX3_numberIn 4 rfl) rfl ?_
        refine g_X3_25 (x := nI e) C (dx dX3_numberIn 5 rfl) hk.2.2.2 ?_
        refine r_aload_n C (dx dX3_numberIn 6 rfl) rfl ?_
        refine g_X3_22 (x := nI s) C (dx dX3_numberIn 7 rfl) hk.2.2.1 ?_
        refine rn_isub (a := e) (b := s) C (by omega) (dx dX3_numberIn 8 rfl) ?_
        refine r_iconst (v := nI 2) C (dx dX3_numberIn 9 rfl) rfl ?_
        refine rn_le (a := e - s) (b := 2) (tgt := 23) C (by omega) (by omega) (dx dX3_numberIn 10 rfl) (by decide) (fun c2 => ?_) (fun c2 => ?_)
        · first
          | (omega; done)
          | (
              have c2 : e - s ≤ 2 := c2
              refine r_iconst (v := nI 0) C (dx dX3_numberIn 13 rfl) rfl ?_
              refine r_istore_n (ls' := [(0, vr 3 k), (1, vi lo), (2, vi hi), (3, vi (nI 0))]) C (dx dX3_numberIn 14 rfl) (by decide) [1, 2, 3, 0] rfl ?_
              refine r_aload_n C (dx dX3_numberIn 15 rfl) rfl ?_
              refine g_X3_22 (x := nI s) C (dx dX3_numberIn 16 rfl) hk.2.2.1 ?_
              refine r_istore (ls' := [(0, vr 3 k), (1, vi lo), (2, vi hi), (3, vi (nI 0)), (4, vi (nI s))]) C (dx dX3_numberIn 17 rfl) (by decide) [1, 2, 3, 4, 0] rfl ?_
              refine loopU (Φ := fun p => s ≤ p → Rr G 31 [(0, vr 3 k), (1, vi lo), (2, vi hi), (3, vi (nmF B z s (p - s))), (4, vi (nI p))] [] h) (N := e) ?_ ?_ s hse (Nat.le_refl _) |> fun z9 => by rw [show nmF B z s (s - s) = nI 0 by rw [Nat.sub_self]; rfl] at z9; exact z9
              ·
                intro hsp
                refine r_iload C (dx dX3_numberIn 18 rfl) rfl ?_
                refine r_aload_n C (dx dX3_numberIn 19 rfl) rfl ?_
                refine g_X3_25 (x := nI e) C (dx dX3_numberIn 20 rfl) hk.2.2.2 ?_
                refine rn_ge (a := e) (b := e) (tgt := 61) C (by omega) (by omega) (dx dX3_numberIn 21 rfl) (by decide) (fun c3 => ?_) (fun c3 => ?_)
                · first
                  | (omega; done)
                  | (
                      have c3 : e ≤ e := c3
                      refine r_iload_n C (dx dX3_numberIn 34 rfl) rfl ?_
                      refine r_iload_n C (dx dX3_numberIn 35 rfl) rfl ?_
                      refine r_icmp_lt (tgt := 71) C (dx dX3_numberIn 36 rfl) (by decide) (fun c4 => ?_) (fun c4 => ?_)
                      ·
                        have c4 : nmF B z s (e - s) < lo := c4
                        refine r_iconst (v := -1) C (dx dX3_numberIn 40 rfl) rfl ?_
                        refine r_goto (tgt := 76) C (dx dX3_numberIn 41 rfl) (by decide) ?_
                        exact F.1 _ _ _ _ _ rfl rfl (dx dX3_numberIn 43 rfl) rfl ⟨congrArg (fun x => some (vi x)) (show -1 = nmV B z t s e lo hi by unfold nmV; rw [if_pos ⟨by omega, by omega⟩, if_pos c4]), rfl⟩
                      ·
                        have c4 : ¬ nmF B z s (e - s) < lo := c4
                        refine r_iload_n C (dx dX3_numberIn 37 rfl) rfl ?_
                        refine r_iload_n C (dx dX3_numberIn 38 rfl) rfl ?_
                        refine r_icmp_le (tgt := 75) C (dx dX3_numberIn 39 rfl) (by decide) (fun c5 => ?_) (fun c5 => ?_)
                        ·
                          have c5 : nmF B z s (e - s) ≤ hi := c5
                          refine r_iload_n C (dx dX3_numberIn 42 rfl) rfl ?_
                          exact F.1 _ _ _ _ _ rfl rfl (dx dX3_numberIn 43 rfl) rfl ⟨congrArg (fun x => some (vi x)) (show nmF B z s (e - s) = nmV B z t s e lo hi by unfold nmV; rw [if_pos ⟨by omega, by omega⟩, if_neg c4, if_pos c5]), rfl⟩
                        ·
                          have c5 : ¬ nmF B z s (e - s) ≤ hi := c5
                          refine r_iconst (v := -1) C (dx dX3_numberIn 40 rfl) rfl ?_
                          refine r_goto (tgt := 76) C (dx dX3_numberIn 41 rfl) (by decide) ?_
                          exact F.1 _ _ _ _ _ rfl rfl (dx dX3_numberIn 43 rfl) rfl ⟨congrArg (fun x => some (vi x)) (show -1 = nmV B z t s e lo hi by unfold nmV; rw [if_pos ⟨by omega, by omega⟩, if_neg c4, if_neg c5]), rfl⟩)
                · first
                  | (omega; done)
              ·
                intro p hp ih hsp
                refine r_iload C (dx dX3_numberIn 18 rfl) rfl ?_
                refine r_aload_n C (dx dX3_numberIn 19 rfl) rfl ?_
                refine g_X3_25 (x := nI e) C (dx dX3_numberIn 20 rfl) hk.2.2.2 ?_
                refine rn_ge (a := p) (b := e) (tgt := 61) C (by omega) (by omega) (dx dX3_numberIn 21 rfl) (by decide) (fun c6 => ?_) (fun c6 => ?_)
                · first
                  | (omega; done)
                  | (
                      have c6 : e ≤ p := c6
                      refine r_iload_n C (dx dX3_numberIn 34 rfl) rfl ?_
                      refine r_iload_n C (dx dX3_numberIn 35 rfl) rfl ?_
                      refine r_icmp_lt (tgt := 71) C (dx dX3_numberIn 36 rfl) (by decide) (fun c7 => ?_) (fun c7 => ?_)
                      ·
                        have c7 : nmF B z s (p - s) < lo := c7
                        refine r_iconst (v := -1) C (dx dX3_numberIn 40 rfl) rfl ?_
                        refine r_goto (tgt := 76) C (dx dX3_numberIn 41 rfl) (by decide) ?_
                        exact F.1 _ _ _ _ _ rfl rfl (dx dX3_numberIn 43 rfl) rfl ⟨congrArg (fun x => some (vi x)) (show -1 = nmV B z t s e lo hi by unfold nmV; rw [if_pos ⟨by omega, by omega⟩, if_pos c7]), rfl⟩
                      ·
                        have c7 : ¬ nmF B z s (p - s) < lo := c7
                        refine r_iload_n C (dx dX3_numberIn 37 rfl) rfl ?_
                        refine r_iload_n C (dx dX3_numberIn 38 rfl) rfl ?_
                        refine r_icmp_le (tgt := 75) C (dx dX3_numberIn 39 rfl) (by decide) (fun c8 => ?_) (fun c8 => ?_)
                        ·
                          have c8 : nmF B z s (p - s) ≤ hi := c8
                          refine r_iload_n C (dx dX3_numberIn 42 rfl) rfl ?_
                          exact F.1 _ _ _ _ _ rfl rfl (dx dX3_numberIn 43 rfl) rfl ⟨congrArg (fun x => some (vi x)) (show nmF B z s (p - s) = nmV B z t s e lo hi by unfold nmV; rw [if_pos ⟨by omega, by omega⟩, if_neg c7, if_pos c8]), rfl⟩
                        ·
                          have c8 : ¬ nmF B z s (p - s) ≤ hi := c8
                          refine r_iconst (v := -1) C (dx dX3_numberIn 40 rfl) rfl ?_
                          refine r_goto (tgt := 76) C (dx dX3_numberIn 41 rfl) (by decide) ?_
                          exact F.1 _ _ _ _ _ rfl rfl (dx dX3_numberIn 43 rfl) rfl ⟨congrArg (fun x => some (vi x)) (show -1 = nmV B z t s e lo hi by unfold nmV; rw [if_pos ⟨by omega, by omega⟩, if_neg c7, if_neg c8]), rfl⟩)
                · first
                  | (omega; done)
                  | (
                      have c6 : p < e := c6
                      refine r_bipush (v := nI 10) C (dx dX3_numberIn 22 rfl) rfl ?_
                      refine r_iload_n C (dx dX3_numberIn 23 rfl) rfl ?_
                      refine r_imul C (dx dX3_numberIn 24 rfl) ?_
                      refine r_aload_n C (dx dX3_numberIn 25 rfl) rfl ?_
                      refine r_iload C (dx dX3_numberIn 26 rfl) rfl ?_
                      refine r_cvP (as := [vi (nI p)]) (st := [vi ((nI 10) * (nmF B z s (p - s)))]) (v := vi (btA B z p)) C X I_X3_byteAt l_X3_113 (c_X3_byteAt hk.1 (a := p) (by omega)) (by decide) (Nat.le_of_ble_eq_true rfl) List.prefix_rfl rfl rfl (Nat.le_of_ble_eq_true rfl) rfl (dx dX3_numberIn 27 rfl) ?_
                      refine r_iadd C (dx dX3_numberIn 28 rfl) ?_
                      refine r_bipush (v := nI 48) C (dx dX3_numberIn 29 rfl) rfl ?_
                      refine r_isub C (dx dX3_numberIn 30 rfl) ?_
                      refine r_istore_n (ls' := [(0, vr 3 k), (1, vi lo), (2, vi hi), (3, vi ((((nI 10) * (nmF B z s (p - s))) + (btA B z p)) - (nI 48))), (4, vi (nI p))]) C (dx dX3_numberIn 31 rfl) (by decide) [1, 2, 3, 0, 4] rfl ?_
                      refine rn_iinc (a := p) (k := 1) (ls' := [(0, vr 3 k), (1, vi lo), (2, vi hi), (3, vi ((((nI 10) * (nmF B z s (p - s))) + (btA B z p)) - (nI 48))), (4, vi (nI (p + 1)))]) C (dx dX3_numberIn 32 rfl) rfl rfl (by decide) [1, 2, 3, 4, 0] rfl ?_
                      refine r_goto (tgt := 31) C (dx dX3_numberIn 33 rfl) (by decide) ?_
                      rw [nmF_s (by omega)]
                      exact ih (by omega)))
        · first
          | (omega; done)
          | (
              have c2 : 2 < e - s := c2
              refine r_iconst (v := -1) C (dx dX3_numberIn 11 rfl) rfl ?_
              exact F.1 _ _ _ _ _ rfl rfl (dx dX3_numberIn 12 rfl) rfl ⟨congrArg (fun x => some (vi x)) (show -1 = nmV B z t s e lo hi by unfold nmV; rw [if_neg (by omega)]), rfl⟩))
end
section
/-! PART 17: texts: the rows over the words that the programs know -/
section TX
variable {G : Gt} {cc : ByteArray} {nL pc : Nat} {own : String} {ls : List (Nat × V)} {st : List V} {h : Hp} {l : Launch} {d : Nat} {alX : List Nat}
theorem r_txC (C : Cx G cc nL own) {i index : Nat} (hi : i < 10) (hlk : Cond.fieldLink own index "java/lang/String" "coder" "B" ∈ lw_g) (dd : decode cc pc = .ok (.getfield index, 3)) (kk : Rr G (pc + 3) ls (vi (nI 0) :: st) h) : Rr G pc ls (vt (1000 + i) :: st) h := by
  obtain ⟨p, l, e, R, s, m, args, below, meth, c, D, dA, A, f0, al0, Q, nL'⟩ := G
  obtain ⟨rfl, hx, hb, hml, hown, hts, hlk', hK, hAz, hSF⟩ := C
  intro f H locs LS h1 h2 h3 hP hD hS hl w1 w2
  have e1 : f (1000 + i) = f0 (1000 + i) := h1 _ (Or.inr (by omega))
  show W p l e R s m args below meth c H locs _ _ Q (F0 m pc LS (.ref (f (1000 + i)) :: st.map (rep f)))
  rw [e1]
  exact vk_getf hx hb (hSF.1.1 i hi).2.1 hS hown (hts _ hlk) (fun _ h9 => h9) dd (kk f H locs LS h1 h2 h3 hP hD hS hl w1 (w_1 (w_t w2)))
theorem r_txV (C : Cx G cc nL own) {i index : Nat} (hi : i < 10) (hlk : Cond.fieldLink own index "java/lang/String" "value" "[B" ∈ lw_g) (dd : decode cc pc = .ok (.getfield index, 3)) (kk : Rr G (pc + 3) ls (vt (2000 + i) :: st) h) : Rr G pc ls (vt (1000 + i) :: st) h := by
  obtain ⟨p, l, e, R, s, m, args, below, meth, c, D, dA, A, f0, al0, Q, nL'⟩ := G
  obtain ⟨rfl, hx, hb, hml, hown, hts, hlk', hK, hAz, hSF⟩ := C
  intro f H locs LS h1 h2 h3 hP hD hS hl w1 w2
  have e1 : f (1000 + i) = f0 (1000 + i) := h1 _ (Or.inr (by omega))
  have e2 : f (2000 + i) = f0 (2000 + i) := h1 _ (Or.inr (by omega))
  have k2 := kk f H locs LS h1 h2 h3 hP hD hS hl w1 (w_c (show 1000 ≤ 2000 + i by omega) (w_t w2))
  show W p l e R s m args below meth c H locs _ _ Q (F0 m pc LS (.ref (f (1000 + i)) :: st.map (rep f)))
  rw [e1]
  refine vk_getf hx hb (hSF.1.1 i hi).2.2.1 hS hown (hts _ hlk) (fun _ h9 => h9) dd ?_
  rw [show (fun i => f0 (2000 + i)) i = f (2000 + i) from e2.symm]
  exact k2
theorem r_gsC (C : Cx G cc nL own) {index : Nat} (hlk : Cond.fieldLink own index "java/lang/String" "COMPACT_STRINGS" "Z" ∈ lw_g) (dd : decode cc pc = .ok (.getstatic index, 3)) (kk : Rr G (pc + 3) ls (vi (nI 1) :: st) h) : Rr G pc ls st h := by
  obtain ⟨p, l, e, R, s, m, args, below, meth, c, D, dA, A, f0, al0, Q, nL'⟩ := G
  obtain ⟨rfl, hx, hb, hml, hown, hts, hlk', hK, hAz, hSF⟩ := C
  intro f H locs LS h1 h2 h3 hP hD hS hl w1 w2
  exact va_gets hx hb hSF.2.1 hS hown (hts _ hlk) (fun _ h9 => h9) dd (kk f H locs LS h1 h2 h3 hP hD hS hl w1 (w_1 w2))
theorem r_gsF (C : Cx G cc nL own) {index : Nat} (hlk : Cond.fieldLink own index "jdk/internal/util/Preconditions" "SIOOBE_FORMATTER" "Ljava/util/function/BiFunction;" ∈ lw_g) (dd : decode cc pc = .ok (.getstatic index, 3)) (k1 : Rr G (pc + 3) ls (vn 0 0 :: st) h) (k2 : Rr G (pc + 3) ls (vt 3000 :: st) h) : Rr G pc ls st h := by
  obtain ⟨p, l, e, R, s, m, args, below, meth, c, D, dA, A, f0, al0, Q, nL'⟩ := G
  obtain ⟨rfl, hx, hb, hml, hown, hts, hlk', hK, hAz, hSF⟩ := C
  intro f H locs LS h1 h2 h3 hP hD hS hl w1 w2
  have e2 : f 3000 = f0 3000 := h1 _ (Or.inr (by omega))
  rcases hSF.2.2.1 with z | z
  · exact va_gets hx hb z hS hown (hts _ hlk) (fun _ h9 => h9) dd (k1 f H locs LS h1 h2 h3 hP hD hS hl w1 (w_c (Or.inl rfl) w2))
  · refine va_gets hx hb z hS hown (hts _ hlk) (fun _ h9 => h9) dd ?_
    rw [← e2]
    exact k2 f H locs LS h1 h2 h3 hP hD hS hl w1 (w_c (show 1000 ≤ 3000 by omega) w2)
theorem r_txN (C : Cx G cc nL own) {i : Nat} (hi : i < 10) (dd : decode cc pc = .ok (.arraylength, 1)) (kk : Rr G (pc + 1) ls (vi (nI (txL.getD i 0)) :: st) h) : Rr G pc ls (vt (2000 + i) :: st) h := by
  obtain ⟨p, l, e, R, s, m, args, below, meth, c, D, dA, A, f0, al0, Q, nL'⟩ := G
  obtain ⟨rfl, hx, hb, hml, hown, hts, hlk', hK, hAz, hSF⟩ := C
  intro f H locs LS h1 h2 h3 hP hD hS hl w1 w2
  have e1 : f (2000 + i) = f0 (2000 + i) := h1 _ (Or.inr (by omega))
  show W p l e R s m args below meth c H locs _ _ Q (F0 m pc LS (.ref (f (2000 + i)) :: st.map (rep f)))
  rw [e1]
  exact va_tlen hx hb (hSF.1.1 i hi).2.2.2 hS rfl dd (kk f H locs LS h1 h2 h3 hP hD hS hl w1 (w_1 (w_t w2)))
theorem r_txB (C : Cx G cc nL own) {i j : Nat} (hi : i < 10) (hj : j < txL.getD i 0) (dd : decode cc pc = .ok (.baload, 1)) (kk : Rr G (pc + 1) ls (vi ((txB.getD i []).getD j 0) :: st) h) : Rr G pc ls (vi (nI j) :: vt (2000 + i) :: st) h := by
  have hN : ∀ i, i < 10 → txL.getD i 0 < 20 := by decide
  have hN := hN i hi
  obtain ⟨p, l, e, R, s, m, args, below, meth, c, D, dA, A, f0, al0, Q, nL'⟩ := G
  obtain ⟨rfl, hx, hb, hml, hown, hts, hlk', hK, hAz, hSF⟩ := C
  intro f H locs LS h1 h2 h3 hP hD hS hl w1 w2
  have e1 : f (2000 + i) = f0 (2000 + i) := h1 _ (Or.inr (by omega))
  show W p l e R s m args below meth c H locs _ _ Q (F0 m pc LS (.int (nI j) :: .ref (f (2000 + i)) :: st.map (rep f)))
  rw [e1]
  exact va_tb hx hb (hSF.1.1 i hi).2.2.2 hS (vp_in_nI hj (by omega)) (show Value.int ((txB.getD i []).getD (nI j).toNatClampNeg 0) = Value.int ((txB.getD i []).getD j 0) by rw [nI_clamp (by omega)]) dd (kk f H locs LS h1 h2 h3 hP hD hS hl w1 (w_1 (w_t (w_t w2))))
variable {y : MethodName} {cc' : ByteArray} {nL' d' index : Nat} {ret : Option FieldType} {as : List V} {al1 : List Nat} {post : Option V → Hp → Prop}
theorem r_callVT {i : Nat} (hi : i < 10) (C : Cx G cc nL own) (X : Rmx l G d alX) (hM : Ms l y cc' nL' ret d' (vt (1000 + i) :: as) h al1 post) (hd' : d' + 1 ≤ d) (hn : nL' ≤ 21) (hpre : xK h <+: al1) (hal : al1 <+: alX) (hc : y.cls = "java/lang/String") (hcat : catS st ≤ 8)
    (q1 : Cond.methodLink own index y ∈ lw_g) (q2 : Cond.instanceMethod y ∈ lw_g) (q3 : Cond.selects y.cls y y ∈ lw_g) (q4 : Cond.initialized y.cls ∈ lw_g) (q5 : Cond.code y cc' nL' ret ∈ lw_g) (hy : NotMH y) (hpar : Par y as.length) (dd : decode cc pc = .ok (.invokevirtual index, 3))
    (kk : ∀ (r : Option V) (h' : Hp), post r h' → xK h' = al1 → Rr G (pc + 3) ls (r.toList ++ st) h') : Rr G pc ls (as.reverse ++ vt (1000 + i) :: st) h := by
  refine r_callC (as := vt (1000 + i) :: as) C X hM hd' hn hpre hal q5 (fun al hw => ⟨w_c (w_h (w_app hw).2) (w_rev (w_app hw).1), w_t (w_app hw).2⟩) ?_ kk
  intro f H locs LS cells slots mc ms sz
  obtain ⟨p, l', e, R, s, m, args, below, meth, c, D, dA, A, f0, al0, Q, nL'⟩ := G
  intro hl hx hb hml hown hts hK hP hw hR hG hM2 hPc hf
  have hrc : ∃ cell : Cell, H[f (1000 + i)]? = some cell ∧ cell.vm.isStatics = false ∧ s.vm.findClass y.cls = some cell.cls := by
    have z := hPc { s with heap := H } rfl ⟨rfl, rfl, fun dd kk hk => ⟨kk, hk, rfl, rfl, fun i => Or.inl rfl, Or.inl ⟨rfl, rfl⟩⟩⟩
    obtain ⟨_, _, _, _, _, _, _, hSF⟩ := z
    obtain ⟨cell, z1, z2, z3, -⟩ := (hSF.1.1 i hi).1
    rw [hc]
    exact ⟨cell, z1, z2, z3⟩
  exact ⟨_, va_runV (As := as.map (rep f)) ⟨hx, hb, hml, hown, hts⟩ hM2 ⟨callB_of as.length hts hG rfl rfl rfl (hts _ q4) (hts _ q1) ⟨hy.1, hy.2, hpar⟩ hR, hts _ q2, hts _ q3⟩ ⟨blindM, hrc, hPc⟩ rfl (by simp) hl.1 (by simp [rep]) (rest_ok hcat) dd hf⟩
end TX
end
section
/-! PART 18: lengths and letters of texts -/
theorem fw_38 : Cond.fieldLink RJ0 38 "java/lang/String" "COMPACT_STRINGS" "Z" ∈ lw_g := tb_3 60 rfl rfl
theorem fw_1053 : Cond.fieldLink RJ0 1053 "jdk/internal/util/Preconditions" "SIOOBE_FORMATTER" "Ljava/util/function/BiFunction;" ∈ lw_g := tb_3 76 rfl rfl
theorem fw_9 : Cond.fieldLink RJ0 9 "java/lang/String" "value" "[B" ∈ lw_g := tb_7 82 rfl rfl
theorem fw_15 : Cond.fieldLink RJ0 15 "java/lang/String" "coder" "B" ∈ lw_g := tb_7 83 rfl rfl
section T8
variable {G : Gt} {cc : ByteArray} {nL pc : Nat} {own : String} {ls : List (Nat × V)} {st : List V} {h : Hp} {l : Launch} {d : Nat} {alX : List Nat}
theorem r_i2c (C : Cx G cc nL own) {x : Int32} (d : decode cc pc = .ok (.i2c, 1)) (kk : Rr G (pc + 1) ls (vi (x.toUInt32 % 65536).toInt32 :: st) h) : Rr G pc ls (vi x :: st) h :=
  r_op C (fun al hw => w_1 (w_t hw)) (fun f hx hb k => lv_i2c hx hb d rfl k) kk
theorem r_cvTP {y : MethodName} {cc' : ByteArray} {nL' d' index n i : Nat} {ret : Option FieldType} {as : List V} {v : V} (C : Cx G cc nL own) (X : Rmx l G d alX) (hi : i < 10) (I : VI y cc' nL' ret n) (q1 : Cond.methodLink own index y ∈ lw_g) (hM : Mp l y cc' nL' ret d' (vt (1000 + i) :: as) h v) (hd' : d' + 1 ≤ d) (hn : nL' ≤ 21) (hal : xK h <+: alX) (hc : y.cls = "java/lang/String") (hcat : catS st ≤ 8) (hlen : n = as.length) (dd : decode cc pc = .ok (.invokevirtual index, 3))
    (kk : Rr G (pc + 3) ls (v :: st) h) : Rr G pc ls (as.reverse ++ vt (1000 + i) :: st) h := by
  refine r_callVT hi C X hM hd' hn List.prefix_rfl hal hc hcat q1 I.1 I.2.1 I.2.2.1 I.2.2.2.1 I.2.2.2.2.1 (hlen ▸ I.2.2.2.2.2) dd (fun r h' hp _ => ?_)
  obtain ⟨rfl, rfl⟩ := hp
  exact kk
end T8
theorem tx_len {i : Nat} (hi : i < 10) : txL.getD i 0 < 20 := by
  have key : ∀ i, i < 10 → txL.getD i 0 < 20 := by decide
  exact key i hi
theorem tx_sh {i : Nat} (hi : i < 10) : nI (txL.getD i 0) >>> (nI 0 &&& 31) = nI (txL.getD i 0) := by
  have key : ∀ i, i < 10 → nI (txL.getD i 0) >>> (nI 0 &&& 31) = nI (txL.getD i 0) := by decide +kernel
  exact key i hi
def txc (i j : Nat) : Int32 := (txB.getD i []).getD j 0
theorem tx_ch {i j : Nat} (hi : i < 10) (hj : j < txL.getD i 0) : ((txc i j &&& nI 255).toUInt32 % 65536).toInt32 = txc i j := by
  have key : ∀ i, i < 10 → ∀ j, j < txL.getD i 0 → ((txc i j &&& nI 255).toUInt32 % 65536).toInt32 = txc i j := by decide +kernel
  exact key i hi j hj
theorem tx_nar {i j : Nat} (hi : i < 10) (hj : j < txL.getD i 0) : narrow .char (.int (txc i j)) = .int (txc i j) := by
  have key : ∀ i, i < 10 → ∀ j, j < txL.getD i 0 → narrow .char (.int (txc i j)) = .int (txc i j) := by decide +kernel
  exact key i hi j hj
set_option maxHeartbeats 4000000 in
theorem c_J0_coder_7d493 {l : Launch} {h : Hp} {i : Nat} (hi : i < 10) : Mp l yJ0_coder_7d493 cJ0_coder_7d493 1 (some .byte) 1 [vt (1000 + i)] h (vi (nI 0)) := by
  refine Ms.of (by decide) (Nat.le_of_ble_eq_true rfl) (fun G C X F => ?_)
  have C : Cx G cJ0_coder_7d493 1 RJ0 := C
  show Rr G 0 [(0, vt (1000 + i))] [] h
  refine r_gsC C fw_38 (dx dJ0_coder_7d493 0 rfl) ?_
  refine r_if_eq (tgt := 13) C (dx dJ0_coder_7d493 1 rfl) (by decide) (fun c1 => (show False from by revert c1; decide).elim) (fun _ => ?_)
  refine r_aload_nT C (dx dJ0_coder_7d493 2 rfl) rfl ?_
  refine r_txC (i := i) C hi fw_15 (dx dJ0_coder_7d493 3 rfl) ?_
  refine r_goto (tgt := 14) C (dx dJ0_coder_7d493 4 rfl) (by decide) ?_
  exact F.1 _ _ _ _ _ rfl rfl (dx dJ0_coder_7d493 6 rfl) rfl ⟨congrArg (fun x => some (vi x)) rfl, rfl⟩
set_option maxHeartbeats 4000000 in
theorem c_J0_isLatin1_aae02 {l : Launch} {h : Hp} {i : Nat} (hi : i < 10) : Mp l yJ0_isLatin1_aae02 cJ0_isLatin1_aae02 1 (some .boolean) 1 [vt (1000 + i)] h (vi (b2i true)) := by
  refine Ms.of (by decide) (Nat.le_of_ble_eq_true rfl) (fun G C X F => ?_)
  have C : Cx G cJ0_isLatin1_aae02 1 RJ0 := C
  show Rr G 0 [(0, vt (1000 + i))] [] h
  refine r_gsC C fw_38 (dx dJ0_isLatin1_aae02 0 rfl) ?_
  refine r_if_eq (tgt := 17) C (dx dJ0_isLatin1_aae02 1 rfl) (by decide) (fun c1 => (show False from by revert c1; decide).elim) (fun _ => ?_)
  refine r_aload_nT C (dx dJ0_isLatin1_aae02 2 rfl) rfl ?_
  refine r_txC (i := i) C hi fw_15 (dx dJ0_isLatin1_aae02 3 rfl) ?_
  refine r_if_ne (tgt := 17) C (dx dJ0_isLatin1_aae02 4 rfl) (by decide) (fun c2 => (show False from by revert c2; decide).elim) (fun _ => ?_)
  refine r_iconst (v := nI 1) C (dx dJ0_isLatin1_aae02 5 rfl) rfl ?_
  refine r_goto (tgt := 18) C (dx dJ0_isLatin1_aae02 6 rfl) (by decide) ?_
  exact F.1 _ _ _ _ _ rfl rfl (dx dJ0_isLatin1_aae02 8 rfl) rfl ⟨congrArg (fun x => some (vi x)) (show nI 1 = b2i _ by rw [show true = true by simp]; rfl), rfl⟩
set_option maxHeartbeats 4000000 in
theorem c_J0_length_8abf5 {l : Launch} {h : Hp} {i : Nat} (hi : i < 10) : Mp l yJ0_length_8abf5 cJ0_length_8abf5 1 (some .int) 2 [vt (1000 + i)] h (vi (nI (txL.getD i 0))) := by
  refine Ms.of (by decide) (Nat.le_of_ble_eq_true rfl) (fun G C X F => ?_)
  have C : Cx G cJ0_length_8abf5 1 RJ0 := C
  show Rr G 0 [(0, vt (1000 + i))] [] h
  refine r_aload_nT C (dx dJ0_length_8abf5 0 rfl) rfl ?_
  refine r_txV (i := i) C hi fw_9 (dx dJ0_length_8abf5 1 rfl) ?_
  refine r_txN (i := i) C hi (dx dJ0_length_8abf5 2 rfl) ?_
  refine r_aload_nT C (dx dJ0_length_8abf5 3 rfl) rfl ?_
  refine r_cvTP (as := []) (st := [vi (nI (txL.getD i 0))]) (v := vi (nI 0)) C X hi I_J0_coder_7d493 l_J0_335 (c_J0_coder_7d493 hi) (by decide) (Nat.le_of_ble_eq_true rfl) List.prefix_rfl rfl (Nat.le_of_ble_eq_true rfl) rfl (dx dJ0_length_8abf5 4 rfl) ?_
  refine r_ishr C (dx dJ0_length_8abf5 5 rfl) ?_
  exact F.1 _ _ _ _ _ rfl rfl (dx dJ0_length_8abf5 6 rfl) rfl ⟨congrArg (fun x => some (vi x)) (show (nI (txL.getD i 0)) >>> ((nI 0) &&& 31) = nI (txL.getD i 0) by exact tx_sh hi), rfl⟩
set_option maxHeartbeats 4000000 in
theorem c_ci_n {l : Launch} {h : Hp} {j n : Nat} (hj : j < n) (hn : n < 2 ^ 31) : Mp l yJ3_checkIndex_8e157 cJ3_checkIndex_8e157 3 (some .int) 1 [vi (nI j), vi (nI n), vn 0 0] h (vi (nI j)) := by
  refine Ms.of (by decide) (Nat.le_of_ble_eq_true rfl) (fun G C X F => ?_)
  have C : Cx G cJ3_checkIndex_8e157 3 RJ3 := C
  show Rr G 0 [(0, vi (nI j)), (1, vi (nI n)), (2, vn 0 0)] [] h
  refine r_iload_n C (dx dJ3_checkIndex_8e157 0 rfl) rfl ?_
  refine r_if_lt (tgt := 9) C (dx dJ3_checkIndex_8e157 1 rfl) (by decide) (fun c1 => ?_) (fun c1 => ?_)
  · exact absurd c1 (nI_pos (by omega))
  ·
    have c1 : ¬ nI j < 0 := c1
    refine r_iload_n C (dx dJ3_checkIndex_8e157 2 rfl) rfl ?_
    refine r_iload_n C (dx dJ3_checkIndex_8e157 3 rfl) rfl ?_
    refine rn_lt (a := j) (b := n) (tgt := 16) C (by omega) (by omega) (dx dJ3_checkIndex_8e157 4 rfl) (by decide) (fun c2 => ?_) (fun c2 => ?_)
    ·
      have c2 : j < n := c2
      refine r_iload_n C (dx dJ3_checkIndex_8e157 10 rfl) rfl ?_
      exact F.1 _ _ _ _ _ rfl rfl (dx dJ3_checkIndex_8e157 11 rfl) rfl ⟨congrArg (fun x => some (vi x)) rfl, rfl⟩
    · omega
set_option maxHeartbeats 4000000 in
theorem c_ci_t {l : Launch} {h : Hp} {j n : Nat} (hj : j < n) (hn : n < 2 ^ 31) : Mp l yJ3_checkIndex_8e157 cJ3_checkIndex_8e157 3 (some .int) 1 [vi (nI j), vi (nI n), vt 3000] h (vi (nI j)) := by
  refine Ms.of (by decide) (Nat.le_of_ble_eq_true rfl) (fun G C X F => ?_)
  have C : Cx G cJ3_checkIndex_8e157 3 RJ3 := C
  show Rr G 0 [(0, vi (nI j)), (1, vi (nI n)), (2, vt 3000)] [] h
  refine r_iload_n C (dx dJ3_checkIndex_8e157 0 rfl) rfl ?_
  refine r_if_lt (tgt := 9) C (dx dJ3_checkIndex_8e157 1 rfl) (by decide) (fun c1 => ?_) (fun c1 => ?_)
  · exact absurd c1 (nI_pos (by omega))
  ·
    have c1 : ¬ nI j < 0 := c1
    refine r_iload_n C (dx dJ3_checkIndex_8e157 2 rfl) rfl ?_
    refine r_iload_n C (dx dJ3_checkIndex_8e157 3 rfl) rfl ?_
    refine rn_lt (a := j) (b := n) (tgt := 16) C (by omega) (by omega) (dx dJ3_checkIndex_8e157 4 rfl) (by decide) (fun c2 => ?_) (fun c2 => ?_)
    ·
      have c2 : j < n := c2
      refine r_iload_n C (dx dJ3_checkIndex_8e157 10 rfl) rfl ?_
      exact F.1 _ _ _ _ _ rfl rfl (dx dJ3_checkIndex_8e157 11 rfl) rfl ⟨congrArg (fun x => some (vi x)) rfl, rfl⟩
    · omega
set_option maxHeartbeats 4000000 in
theorem c_J0_checkIndex_df160 {l : Launch} {h : Hp} {j n : Nat} (hj : j < n) (hn : n < 2 ^ 31) : Ms l yJ0_checkIndex_df160 cJ0_checkIndex_df160 2 none 2 [vi (nI j), vi (nI n)] h (xK h) (fun r0 h' => r0 = none ∧ h' = h) := by
  refine Ms.of (by decide) (Nat.le_of_ble_eq_true rfl) (fun G C X F => ?_)
  have C : Cx G cJ0_checkIndex_df160 2 RJ0 := C
  show Rr G 0 [(0, vi (nI j)), (1, vi (nI n))] [] h
  refine r_iload_n C (dx dJ0_checkIndex_df160 0 rfl) rfl ?_
  refine r_iload_n C (dx dJ0_checkIndex_df160 1 rfl) rfl ?_
  refine r_gsF C fw_1053 (dx dJ0_checkIndex_df160 2 rfl) ?_ ?_
  ·
    refine r_csP (as := [vi (nI j), vi (nI n), vn 0 0]) (st := []) (v := vi (nI j)) C X I_J3_checkIndex_8e157 l_J0_1059 (c_ci_n hj hn) (by decide) (Nat.le_of_ble_eq_true rfl) List.prefix_rfl (Nat.le_of_ble_eq_true rfl) rfl (dx dJ0_checkIndex_df160 3 rfl) ?_
    refine r_popI C (dx dJ0_checkIndex_df160 4 rfl) ?_
    exact F.2.2.1 _ _ _ rfl (dx dJ0_checkIndex_df160 5 rfl) rfl ⟨rfl, rfl⟩
  ·
    refine r_csP (as := [vi (nI j), vi (nI n), vt 3000]) (st := []) (v := vi (nI j)) C X I_J3_checkIndex_8e157 l_J0_1059 (c_ci_t hj hn) (by decide) (Nat.le_of_ble_eq_true rfl) List.prefix_rfl (Nat.le_of_ble_eq_true rfl) rfl (dx dJ0_checkIndex_df160 3 rfl) ?_
    refine r_popI C (dx dJ0_checkIndex_df160 4 rfl) ?_
    exact F.2.2.1 _ _ _ rfl (dx dJ0_checkIndex_df160 5 rfl) rfl ⟨rfl, rfl⟩
set_option maxHeartbeats 4000000 in
theorem c_J1_charAt_3b067 {l : Launch} {h : Hp} {i j : Nat} (hi : i < 10) (hj : j < txL.getD i 0) : Mp l yJ1_charAt_3b067 cJ1_charAt_3b067 2 (some .char) 3 [vt (2000 + i), vi (nI j)] h (vi (txc i j)) := by
  refine Ms.of (by decide) (Nat.le_of_ble_eq_true rfl) (fun G C X F => ?_)
  have C : Cx G cJ1_charAt_3b067 2 RJ1 := C
  show Rr G 0 [(0, vt (2000 + i)), (1, vi (nI j))] [] h
  refine r_iload_n C (dx dJ1_charAt_3b067 0 rfl) rfl ?_
  refine r_aload_nT C (dx dJ1_charAt_3b067 1 rfl) rfl ?_
  refine r_txN (i := i) C hi (dx dJ1_charAt_3b067 2 rfl) ?_
  refine r_cs (as := [vi (nI j), vi (nI (txL.getD i 0))]) (st := []) C X I_J0_checkIndex_df160 l_J1_9 (c_J0_checkIndex_df160 hj (by have := tx_len hi; omega)) (by decide) (Nat.le_of_ble_eq_true rfl) List.prefix_rfl List.prefix_rfl (Nat.le_of_ble_eq_true rfl) rfl (dx dJ1_charAt_3b067 3 rfl) ?_
  intro rh1 h1 hph1 kkh1
  obtain ⟨rfl, rfl⟩ := hph1
  refine r_aload_nT C (dx dJ1_charAt_3b067 4 rfl) rfl ?_
  refine r_iload_n C (dx dJ1_charAt_3b067 5 rfl) rfl ?_
  refine r_txB (i := i) (j := j) C hi hj (dx dJ1_charAt_3b067 6 rfl) ?_
  refine r_sipush (v := nI 255) C (dx dJ1_charAt_3b067 7 rfl) rfl ?_
  refine r_iand C (dx dJ1_charAt_3b067 8 rfl) ?_
  refine r_i2c C (dx dJ1_charAt_3b067 9 rfl) ?_
  exact F.1 _ _ _ _ _ rfl (by rw [show (((txB.getD i []).getD j 0 &&& nI 255).toUInt32 % 65536).toInt32 = txc i j from tx_ch hi hj]; exact tx_nar hi hj) (dx dJ1_charAt_3b067 10 rfl) rfl ⟨congrArg (fun x => some (vi x)) (show ((((txB.getD i []).getD j 0) &&& (nI 255)).toUInt32 % 65536).toInt32 = txc i j by exact tx_ch hi hj), rfl⟩
set_option maxHeartbeats 4000000 in
theorem c_J0_charAt_5068e {l : Launch} {h : Hp} {i j : Nat} (hi : i < 10) (hj : j < txL.getD i 0) : Mp l yJ0_charAt_5068e cJ0_charAt_5068e 2 (some .char) 4 [vt (1000 + i), vi (nI j)] h (vi (txc i j)) := by
  refine Ms.of (by decide) (Nat.le_of_ble_eq_true rfl) (fun G C X F => ?_)
  have C : Cx G cJ0_charAt_5068e 2 RJ0 := C
  show Rr G 0 [(0, vt (1000 + i)), (1, vi (nI j))] [] h
  refine r_aload_nT C (dx dJ0_charAt_5068e 0 rfl) rfl ?_
  refine r_cvTP (as := []) (st := []) (v := vi (b2i true)) C X hi I_J0_isLatin1_aae02 l_J0_492 (c_J0_isLatin1_aae02 hi) (by decide) (Nat.le_of_ble_eq_true rfl) List.prefix_rfl rfl (Nat.le_of_ble_eq_true rfl) rfl (dx dJ0_charAt_5068e 1 rfl) ?_
  refine rb_eq (b := true) (tgt := 16) C (dx dJ0_charAt_5068e 2 rfl) (by decide) (fun c1 => ?_) (fun c1 => ?_)
  · cases c1
  ·
    have c1 : true = true := c1
    refine r_aload_nT C (dx dJ0_charAt_5068e 3 rfl) rfl ?_
    refine r_txV (i := i) C hi fw_9 (dx dJ0_charAt_5068e 4 rfl) ?_
    refine r_iload_n C (dx dJ0_charAt_5068e 5 rfl) rfl ?_
    refine r_csP (as := [vt (2000 + i), vi (nI j)]) (st := []) (v := vi (txc i j)) C X I_J1_charAt_3b067 l_J0_495 (c_J1_charAt_3b067 hi hj) (by decide) (Nat.le_of_ble_eq_true rfl) List.prefix_rfl (Nat.le_of_ble_eq_true rfl) rfl (dx dJ0_charAt_5068e 6 rfl) ?_
    exact F.1 _ _ _ _ _ rfl (tx_nar hi hj) (dx dJ0_charAt_5068e 7 rfl) rfl ⟨congrArg (fun x => some (vi x)) rfl, rfl⟩
end
section
/-! PART 19: words of the tape -/
theorem nI_z {t : Nat} (h : t < 2 ^ 31) : nI t = 0 ↔ t = 0 := by rw [← nI_0]; exact nI_eq h (by omega)
def allF (P : Nat → Bool) : Nat → Bool
  | 0 => true
  | n + 1 => allF P n && P n
theorem all_no {P : Nat → Bool} {p : Nat} (q : P p = false) : ∀ n, p < n → allF P n = false
  | 0, h => absurd h (by omega)
  | n + 1, h => by
    simp only [allF]
    by_cases e : p = n
    · subst e; rw [q, Bool.and_false]
    · rw [all_no q n (by omega), Bool.false_and]
/-- the token is a word -/
def wdB (i : Nat) (B : Nat → Int32) (z t s e : Nat) : Bool := decide (t = 0) && (decide (e - s = txL.getD i 0) && allF (fun j => decide (btA B z (s + j) = txc i j)) (txL.getD i 0))
set_option maxHeartbeats 4000000 in
theorem c_X3_isWord {l : Launch} {h : Hp} {k : Nat} {B : Nat → Int32} {z t s e : Nat} (hk : TkAt h k B z t s e) (ht5 : t < 5) (hse : s ≤ e) (hez : e ≤ z) {i : Nat} (hi : i < 10) : Mp l yX3_isWord cX3_isWord 3 (some .boolean) 5 [vr 3 k, vt (1000 + i)] h (vi (b2i (wdB i B z t s e))) := by
  refine Ms.of (by decide) (Nat.le_of_ble_eq_true rfl) (fun G C X F => ?_)
  have C : Cx G cX3_isWord 3 RX3 := C
  show Rr G 0 [(0, vr 3 k), (1, vt (1000 + i))] [] h
  have bz := hk.1.2.2
  have bl := tx_len hi
  refine r_aload_n C (dx dX3_isWord 0 rfl) rfl ?_
  refine g_X3_19 (x := nI t) C (dx dX3_isWord 1 rfl) hk.2.1 ?_
  refine r_if_ne (tgt := 23) C (dx dX3_isWord 2 rfl) (by decide) (fun c1 => ?_) (fun c1 => ?_)
  ·
    have c1 : ¬ nI t = 0 := c1
    refine r_iconst (v := nI 0) C (dx dX3_isWord 11 rfl) rfl ?_
    exact F.1 _ _ _ _ _ rfl rfl (dx dX3_isWord 12 rfl) rfl ⟨congrArg (fun x => some (vi x)) (show nI 0 = b2i _ by rw [show (wdB i B z t s e) = false by (unfold wdB; rw [decide_eq_false (fun q => c1 ((nI_z (by omega)).mpr q))]; rfl)]; rfl), rfl⟩
  ·
    have c1 : nI t = 0 := c1
    refine r_aload_n C (dx dX3_isWord 3 rfl) rfl ?_
    refine g_X3_25 (x := nI e) C (dx dX3_isWord 4 rfl) hk.2.2.2 ?_
    refine r_aload_n C (dx dX3_isWord 5 rfl) rfl ?_
    refine g_X3_22 (x := nI s) C (dx dX3_isWord 6 rfl) hk.2.2.1 ?_
    refine rn_isub (a := e) (b := s) C (by omega) (dx dX3_isWord 7 rfl) ?_
    refine r_aload_nT C (dx dX3_isWord 8 rfl) rfl ?_
    refine r_cvTP (as := []) (st := [vi (nI (e - s))]) (v := vi (nI (txL.getD i 0))) C X hi I_J0_length_8abf5 l_X3_121 (c_J0_length_8abf5 hi) (by decide) (Nat.le_of_ble_eq_true rfl) List.prefix_rfl rfl (Nat.le_of_ble_eq_true rfl) rfl (dx dX3_isWord 9 rfl) ?_
    refine rn_eq (a := e - s) (b := txL.getD i 0) (tgt := 25) C (by omega) (by omega) (dx dX3_isWord 10 rfl) (by decide) (fun c2 => ?_) (fun c2 => ?_)
    · first
      | (omega; done)
      | (
          have c2 : e - s = txL.getD i 0 := c2
          refine r_iconst (v := nI 0) C (dx dX3_isWord 13 rfl) rfl ?_
          refine r_istore_n (ls' := [(0, vr 3 k), (1, vt (1000 + i)), (2, vi (nI 0))]) C (dx dX3_isWord 14 rfl) (by decide) [1, 2, 0] rfl ?_
          have et : t = 0 := (nI_z (by omega)).mp c1
          have el : e - s = txL.getD i 0 := c2
          refine loopU (Φ := fun p => allF (fun j => decide (btA B z (s + j) = txc i j)) p = true → Rr G 27 [(0, vr 3 k), (1, vt (1000 + i)), (2, vi (nI p))] [] h) (N := txL.getD i 0) ?_ ?_ 0 (Nat.zero_le _) rfl
          ·
            intro hA
            refine r_iload_n C (dx dX3_isWord 15 rfl) rfl ?_
            refine r_aload_nT C (dx dX3_isWord 16 rfl) rfl ?_
            refine r_cvTP (as := []) (st := [vi (nI (txL.getD i 0))]) (v := vi (nI (txL.getD i 0))) C X hi I_J0_length_8abf5 l_X3_121 (c_J0_length_8abf5 hi) (by decide) (Nat.le_of_ble_eq_true rfl) List.prefix_rfl rfl (Nat.le_of_ble_eq_true rfl) rfl (dx dX3_isWord 17 rfl) ?_
            refine rn_ge (a := txL.getD i 0) (b := txL.getD i 0) (tgt := 61) C (by omega) (by omega) (dx dX3_isWord 18 rfl) (by decide) (fun c3 => ?_) (fun c3 => ?_)
            · first
              | (omega; done)
              | (
                  have c3 : txL.getD i 0 ≤ txL.getD i 0 := c3
                  refine r_iconst (v := nI 1) C (dx dX3_isWord 33 rfl) rfl ?_
                  exact F.1 _ _ _ _ _ rfl rfl (dx dX3_isWord 34 rfl) rfl ⟨congrArg (fun x => some (vi x)) (show nI 1 = b2i _ by rw [show (wdB i B z t s e) = true by (unfold wdB; rw [et, el, hA]; simp)]; rfl), rfl⟩)
            · first
              | (omega; done)
          ·
            intro p hp ih hA
            refine r_iload_n C (dx dX3_isWord 15 rfl) rfl ?_
            refine r_aload_nT C (dx dX3_isWord 16 rfl) rfl ?_
            refine r_cvTP (as := []) (st := [vi (nI p)]) (v := vi (nI (txL.getD i 0))) C X hi I_J0_length_8abf5 l_X3_121 (c_J0_length_8abf5 hi) (by decide) (Nat.le_of_ble_eq_true rfl) List.prefix_rfl rfl (Nat.le_of_ble_eq_true rfl) rfl (dx dX3_isWord 17 rfl) ?_
            refine rn_ge (a := p) (b := txL.getD i 0) (tgt := 61) C (by omega) (by omega) (dx dX3_isWord 18 rfl) (by decide) (fun c5 => ?_) (fun c5 => ?_)
            · first
              | (omega; done)
              | (
                  have c5 : txL.getD i 0 ≤ p := c5
                  refine r_iconst (v := nI 1) C (dx dX3_isWord 33 rfl) rfl ?_
                  exact F.1 _ _ _ _ _ rfl rfl (dx dX3_isWord 34 rfl) rfl ⟨congrArg (fun x => some (vi x)) (show nI 1 = b2i _ by rw [show (wdB i B z t s e) = true by (unfold wdB; rw [et, el, hA]; simp)]; rfl), rfl⟩)
            · first
              | (omega; done)
              | (
                  have c5 : p < txL.getD i 0 := c5
                  refine r_aload_n C (dx dX3_isWord 19 rfl) rfl ?_
                  refine r_aload_n C (dx dX3_isWord 20 rfl) rfl ?_
                  refine g_X3_22 (x := nI s) C (dx dX3_isWord 21 rfl) hk.2.2.1 ?_
                  refine r_iload_n C (dx dX3_isWord 22 rfl) rfl ?_
                  refine rn_iadd (a := s) (b := p) C (dx dX3_isWord 23 rfl) ?_
                  refine r_cvP (as := [vi (nI (s + p))]) (st := []) (v := vi (btA B z (s + p))) C X I_X3_byteAt l_X3_113 (c_X3_byteAt hk.1 (a := s + p) (by omega)) (by decide) (Nat.le_of_ble_eq_true rfl) List.prefix_rfl rfl rfl (Nat.le_of_ble_eq_true rfl) rfl (dx dX3_isWord 24 rfl) ?_
                  refine r_aload_nT C (dx dX3_isWord 25 rfl) rfl ?_
                  refine r_iload_n C (dx dX3_isWord 26 rfl) rfl ?_
                  refine r_cvTP (as := [vi (nI p)]) (st := [vi (btA B z (s + p))]) (v := vi (txc i p)) C X hi I_J0_charAt_5068e l_X3_126 (c_J0_charAt_5068e (j := p) hi (by omega)) (by decide) (Nat.le_of_ble_eq_true rfl) List.prefix_rfl rfl (Nat.le_of_ble_eq_true rfl) rfl (dx dX3_isWord 27 rfl) ?_
                  refine r_icmp_eq (tgt := 55) C (dx dX3_isWord 28 rfl) (by decide) (fun c6 => ?_) (fun c6 => ?_)
                  ·
                    have c6 : btA B z (s + p) = txc i p := c6
                    refine rn_iinc (a := p) (k := 1) (ls' := [(0, vr 3 k), (1, vt (1000 + i)), (2, vi (nI (p + 1)))]) C (dx dX3_isWord 31 rfl) rfl rfl (by decide) [1, 2, 0] rfl ?_
                    refine r_goto (tgt := 27) C (dx dX3_isWord 32 rfl) (by decide) ?_
                    exact ih (by simp only [allF]; rw [hA, Bool.true_and]; exact decide_eq_true c6)
                  ·
                    have c6 : ¬ btA B z (s + p) = txc i p := c6
                    refine r_iconst (v := nI 0) C (dx dX3_isWord 29 rfl) rfl ?_
                    exact F.1 _ _ _ _ _ rfl rfl (dx dX3_isWord 30 rfl) rfl ⟨congrArg (fun x => some (vi x)) (show nI 0 = b2i _ by rw [show (wdB i B z t s e) = false by (unfold wdB; rw [all_no (p := p) (decide_eq_false c6) _ hp]; simp)]; rfl), rfl⟩))
    · first
      | (omega; done)
      | (
          have c2 : ¬ e - s = txL.getD i 0 := c2
          refine r_iconst (v := nI 0) C (dx dX3_isWord 11 rfl) rfl ?_
          exact F.1 _ _ _ _ _ rfl rfl (dx dX3_isWord 12 rfl) rfl ⟨congrArg (fun x => some (vi x)) (show nI 0 = b2i _ by rw [show (wdB i B z t s e) = false by (unfold wdB; rw [decide_eq_false (p := e - s = txL.getD i 0) c2]; simp)]; rfl), rfl⟩)
end
section
/-! PART 20: statements read into a village -/
abbrev Tkn : Type := Nat × Nat × Nat
abbrev Rd : Type := Bool × Tkn × Vg
def nmQ (B : Nat → Int32) (z : Nat) (q : Tkn) (lo hi : Int32) : Int32 := nmV B z q.1 q.2.1 q.2.2 lo hi
/-- the tape's cell and a village's -/
def RT (k kv b : Nat) : Prop := b = k ∨ (kv ≤ b ∧ b < kv + 9)
def RdAt (h0 h : Hp) (k kv : Nat) (B : Nat → Int32) (z : Nat) (w : Rd) : Prop := TkAt h k B z w.2.1.1 w.2.1.2.1 w.2.1.2.2 ∧ VilAt h kv w.2.2 ∧ Fs (RT k kv) h0 h
theorem stp_5 {B : Nat → Int32} {z e : Nat} : (stp B z e).1 < 5 := by
  unfold stp
  split
  · show 3 < 5; omega
  · split
    · show 0 < 5; omega
    · split
      · show 1 < 5; omega
      · show (if B (enO 0 B z e) = nI 59 then 2 else 4) < 5; split <;> omega
theorem in_hi {x : Int32} {n : Nat} (hn : n < 2 ^ 30) (h0 : ¬ x < nI 0) (h1 : x ≤ nI n - nI 1) : inR x n = true := by
  rw [Int32.le_iff_toInt_le, pk_sub_toInt hn (by omega)] at h1
  rw [Int32.lt_iff_toInt_lt, nI_toInt (by omega)] at h0
  unfold inR
  exact decide_eq_true (by omega)
theorem nm_in {B : Nat → Int32} {z n : Nat} {q : Tkn} (hn : n < 2 ^ 30) (h : ¬ nmQ B z q (nI 0) (nI n - nI 1) = -1) : inR (nmQ B z q (nI 0) (nI n - nI 1)) n = true := by
  unfold nmQ nmV at h ⊢
  split at h
  · next c =>
    rw [if_pos c]
    split at h
    · exact absurd rfl h
    · next c2 =>
      rw [if_neg c2]
      split at h
      · next c3 => rw [if_pos c3]; exact in_hi hn c2 c3
      · exact absurd rfl h
  · exact absurd rfl h
def gvP (B : Nat → Int32) (z e : Nat) (v : Vg) : Int32 := nmQ B z (stp B z e) (nI 0) (nI (vP v) - nI 1)
def gvO (B : Nat → Int32) (z e : Nat) (v : Vg) : Int32 := nmQ B z (stp B z e) (nI 0) (nI (vN v) - nI 1)
/-- gives -/
def gvW (B : Nat → Int32) (z e : Nat) (v : Vg) : Rd :=
  if gvP B z e v = -1 then (false, stp B z e, v)
  else if gvO B z (stp B z e).2.2 v = -1 ∨ (¬ vF v 0 (gvP B z e v).toNatClampNeg = gvO B z (stp B z e).2.2 v ∧ hasRm v (gvO B z (stp B z e).2.2 v) = false) then (false, stp B z (stp B z e).2.2, v)
  else (true, stp B z (stp B z (stp B z e).2.2).2.2, vset v 0 (gvP B z e v).toNatClampNeg (gvO B z (stp B z e).2.2 v))
set_option maxHeartbeats 4000000 in
theorem c_X3_readGives {l : Launch} {h : Hp} {k kv : Nat} {B : Nat → Int32} {z t s e : Nat} {v : Vg} (hk : TkAt h k B z t s e) (he : e ≤ z) (hv : VilAt h kv v) (hd : kv + 9 ≤ k ∨ k + 2 ≤ kv) : Ms l yX3_readGives cX3_readGives 4 (some .boolean) 4 [vr 3 k, vr 5 kv] h (xK h) (fun r0 h' => r0 = some (vi (b2i (gvW B z e v).1)) ∧ RdAt h h' k kv B z (gvW B z e v)) := by
  refine Ms.of (by decide) (Nat.le_of_ble_eq_true rfl) (fun G C X F => ?_)
  have C : Cx G cX3_readGives 4 RX3 := C
  show Rr G 0 [(0, vr 3 k), (1, vr 5 kv)] [] h
  have bP := hv.bP
  have bM := hv.bM
  have bN := hv.bN
  have bz := hk.1.2.2
  refine r_aload_n C (dx dX3_readGives 0 rfl) rfl ?_
  refine r_cv (as := []) (st := []) C X I_X3_step l_X3_28 (c_X3_step hk he) (by decide) (Nat.le_of_ble_eq_true rfl) List.prefix_rfl List.prefix_rfl rfl rfl (Nat.le_of_ble_eq_true rfl) rfl (dx dX3_readGives 1 rfl) ?_
  intro rh1 h1 hph1 kkh1
  obtain ⟨rfl, sh1, gh1⟩ := hph1
  have wh1 : VilAt h1 kv (v) := hv.fr gh1 (by omega)
  have fh1 : Fs (RT k kv) h h1 := (Fs.of gh1 (fun b h1 h2 => Or.inl (by omega)))
  have kh1 : xK h1 = xK h := kkh1
  have lh1 := stp_le (B := B) he
  refine r_aload_n C (dx dX3_readGives 2 rfl) rfl ?_
  refine r_iconst (v := nI 0) C (dx dX3_readGives 3 rfl) rfl ?_
  refine r_aload_n C (dx dX3_readGives 4 rfl) rfl ?_
  refine g_X3_91 (x := nI (vP v)) C (dx dX3_readGives 5 rfl) wh1.eP ?_
  refine r_iconst (v := nI 1) C (dx dX3_readGives 6 rfl) rfl ?_
  refine r_isub C (dx dX3_readGives 7 rfl) ?_
  refine r_cvP (as := [vi (nI 0), vi ((nI (vP v)) - (nI 1))]) (st := []) (v := vi (nmQ B z (stp B z e) (nI 0) ((nI (vP v)) - (nI 1)))) C X I_X3_numberIn l_X3_70 (c_X3_numberIn sh1 stp_5 lh1.1 lh1.2 _ _) (by decide) (Nat.le_of_ble_eq_true rfl) (pfx_eq kh1) rfl rfl (Nat.le_of_ble_eq_true rfl) rfl (dx dX3_readGives 8 rfl) ?_
  refine r_istore_n (ls' := [(0, vr 3 k), (1, vr 5 kv), (2, vi (nmQ B z (stp B z e) (nI 0) ((nI (vP v)) - (nI 1))))]) C (dx dX3_readGives 9 rfl) (by decide) [1, 2, 0] rfl ?_
  refine r_iload_n C (dx dX3_readGives 10 rfl) rfl ?_
  refine r_iconst (v := -1) C (dx dX3_readGives 11 rfl) rfl ?_
  refine r_icmp_ne (tgt := 23) C (dx dX3_readGives 12 rfl) (by decide) (fun c2 => ?_) (fun c2 => ?_)
  ·
    have c2 : ¬ nmQ B z (stp B z e) (nI 0) ((nI (vP v)) - (nI 1)) = -1 := c2
    refine r_aload_n C (dx dX3_readGives 15 rfl) rfl ?_
    refine r_cv (as := []) (st := []) C X I_X3_step l_X3_28 (c_X3_step sh1 lh1.2) (by decide) (Nat.le_of_ble_eq_true rfl) List.prefix_rfl (pfx_eq kh1) rfl rfl (Nat.le_of_ble_eq_true rfl) rfl (dx dX3_readGives 16 rfl) ?_
    intro rh3 h3 hph3 kkh3
    obtain ⟨rfl, sh3, gh3⟩ := hph3
    have wh3 : VilAt h3 kv (v) := wh1.fr gh3 (by omega)
    have fh3 : Fs (RT k kv) h h3 := fh1.tr (Fs.of gh3 (fun b h1 h2 => Or.inl (by omega)))
    have kh3 : xK h3 = xK h := kkh3.trans kh1
    have lh3 := stp_le (B := B) lh1.2
    refine r_aload_n C (dx dX3_readGives 17 rfl) rfl ?_
    refine r_iconst (v := nI 0) C (dx dX3_readGives 18 rfl) rfl ?_
    refine r_aload_n C (dx dX3_readGives 19 rfl) rfl ?_
    refine g_X3_67 (x := nI (vN v)) C (dx dX3_readGives 20 rfl) wh3.eN ?_
    refine r_iconst (v := nI 1) C (dx dX3_readGives 21 rfl) rfl ?_
    refine r_isub C (dx dX3_readGives 22 rfl) ?_
    refine r_cvP (as := [vi (nI 0), vi ((nI (vN v)) - (nI 1))]) (st := []) (v := vi (nmQ B z (stp B z ((stp B z e).2.2)) (nI 0) ((nI (vN v)) - (nI 1)))) C X I_X3_numberIn l_X3_70 (c_X3_numberIn sh3 stp_5 lh3.1 lh3.2 _ _) (by decide) (Nat.le_of_ble_eq_true rfl) (pfx_eq kh3) rfl rfl (Nat.le_of_ble_eq_true rfl) rfl (dx dX3_readGives 23 rfl) ?_
    refine r_istore_n (ls' := [(0, vr 3 k), (1, vr 5 kv), (2, vi (nmQ B z (stp B z e) (nI 0) ((nI (vP v)) - (nI 1)))), (3, vi (nmQ B z (stp B z ((stp B z e).2.2)) (nI 0) ((nI (vN v)) - (nI 1))))]) C (dx dX3_readGives 24 rfl) (by decide) [1, 2, 3, 0] rfl ?_
    refine r_iload_n C (dx dX3_readGives 25 rfl) rfl ?_
    refine r_iconst (v := -1) C (dx dX3_readGives 26 rfl) rfl ?_
    refine r_icmp_eq (tgt := 62) C (dx dX3_readGives 27 rfl) (by decide) (fun c4 => ?_) (fun c4 => ?_)
    ·
      have c4 : nmQ B z (stp B z ((stp B z e).2.2)) (nI 0) ((nI (vN v)) - (nI 1)) = -1 := c4
      refine r_iconst (v := nI 0) C (dx dX3_readGives 38 rfl) rfl ?_
      have e9 : gvW B z e v = (false, (stp B z ((stp B z e).2.2)), v) := by unfold gvW gvP gvO; rw [if_neg c2, if_pos (Or.inl c4)]
      exact F.1 _ _ _ _ .boolean rfl rfl (dx dX3_readGives 39 rfl) kh3 (show some (vi (nI 0)) = some (vi (b2i (gvW B z e v).1)) ∧ RdAt h h3 k kv B z (gvW B z e v) from by rw [e9]; exact ⟨rfl, sh3, wh3, fh3⟩)
    ·
      have c4 : ¬ nmQ B z (stp B z ((stp B z e).2.2)) (nI 0) ((nI (vN v)) - (nI 1)) = -1 := c4
      refine r_aload_n C (dx dX3_readGives 28 rfl) rfl ?_
      refine g_X3_78 C (dx dX3_readGives 29 rfl) ?_
      refine r_iload_n C (dx dX3_readGives 30 rfl) rfl ?_
      refine r_iald (j := (nmQ B z (stp B z e) (nI 0) ((nI (vP v)) - (nI 1))).toNatClampNeg) (x := vF v 0 ((nmQ B z (stp B z e) (nI 0) ((nI (vP v)) - (nI 1))).toNatClampNeg)) C rfl rfl (by decide) (inR_at (by omega) (nm_in (by omega) c2)).1 (Nat.lt_of_lt_of_le (inR_at (by omega) (nm_in (by omega) c2)).2 (by omega)) (dx dX3_readGives 31 rfl) (wh3.e0 (Nat.lt_of_lt_of_le (inR_at (by omega) (nm_in (by omega) c2)).2 (by omega))) ?_
      refine r_iload_n C (dx dX3_readGives 32 rfl) rfl ?_
      refine r_icmp_eq (tgt := 64) C (dx dX3_readGives 33 rfl) (by decide) (fun c5 => ?_) (fun c5 => ?_)
      ·
        have c5 : vF v 0 ((nmQ B z (stp B z e) (nI 0) ((nI (vP v)) - (nI 1))).toNatClampNeg) = nmQ B z (stp B z ((stp B z e).2.2)) (nI 0) ((nI (vN v)) - (nI 1)) := c5
        refine r_aload_n C (dx dX3_readGives 40 rfl) rfl ?_
        refine g_X3_78 C (dx dX3_readGives 41 rfl) ?_
        refine r_iload_n C (dx dX3_readGives 42 rfl) rfl ?_
        refine r_iload_n C (dx dX3_readGives 43 rfl) rfl ?_
        refine r_iast (j := (nmQ B z (stp B z e) (nI 0) ((nI (vP v)) - (nI 1))).toNatClampNeg) C rfl rfl (by decide) (inR_at (by omega) (nm_in (by omega) c2)).1 (Nat.lt_of_lt_of_le (inR_at (by omega) (nm_in (by omega) c2)).2 (by omega)) (dx dX3_readGives 44 rfl) ?_
        have wh6 : VilAt (sI h3 (kv + 1) ((nmQ B z (stp B z e) (nI 0) ((nI (vP v)) - (nI 1))).toNatClampNeg) (nmQ B z (stp B z ((stp B z e).2.2)) (nI 0) ((nI (vN v)) - (nI 1)))) kv (vset v 0 ((nmQ B z (stp B z e) (nI 0) ((nI (vP v)) - (nI 1))).toNatClampNeg) (nmQ B z (stp B z ((stp B z e).2.2)) (nI 0) ((nI (vN v)) - (nI 1)))) := wh3.s0
        have sh6 : TkAt (sI h3 (kv + 1) ((nmQ B z (stp B z e) (nI 0) ((nI (vP v)) - (nI 1))).toNatClampNeg) (nmQ B z (stp B z ((stp B z e).2.2)) (nI 0) ((nI (vN v)) - (nI 1)))) k B z ((stp B z ((stp B z e).2.2)).1) ((stp B z ((stp B z e).2.2)).2.1) ((stp B z ((stp B z e).2.2)).2.2) := sh3.fr (Fr.sI (lo := kv) (hi := kv + 9) (by omega) (by omega)) (by omega)
        have fh6 : Fs (RT k kv) h (sI h3 (kv + 1) ((nmQ B z (stp B z e) (nI 0) ((nI (vP v)) - (nI 1))).toNatClampNeg) (nmQ B z (stp B z ((stp B z e).2.2)) (nI 0) ((nI (vN v)) - (nI 1)))) := fh3.tr (Fs.of (Fr.sI (lo := kv) (hi := kv + 9) (by omega) (by omega)) (fun b h1 h2 => Or.inr ⟨h1, h2⟩))
        have kh6 : xK (sI h3 (kv + 1) ((nmQ B z (stp B z e) (nI 0) ((nI (vP v)) - (nI 1))).toNatClampNeg) (nmQ B z (stp B z ((stp B z e).2.2)) (nI 0) ((nI (vN v)) - (nI 1)))) = xK h := kh3
        generalize sI h3 (kv + 1) ((nmQ B z (stp B z e) (nI 0) ((nI (vP v)) - (nI 1))).toNatClampNeg) (nmQ B z (stp B z ((stp B z e).2.2)) (nI 0) ((nI (vN v)) - (nI 1))) = h6 at wh6 sh6 fh6 kh6 ⊢
        refine r_aload_n C (dx dX3_readGives 45 rfl) rfl ?_
        refine r_cv (as := []) (st := []) C X I_X3_step l_X3_28 (c_X3_step sh6 lh3.2) (by decide) (Nat.le_of_ble_eq_true rfl) List.prefix_rfl (pfx_eq kh6) rfl rfl (Nat.le_of_ble_eq_true rfl) rfl (dx dX3_readGives 46 rfl) ?_
        intro rh7 h7 hph7 kkh7
        obtain ⟨rfl, sh7, gh7⟩ := hph7
        have wh7 : VilAt h7 kv (vset v 0 ((nmQ B z (stp B z e) (nI 0) ((nI (vP v)) - (nI 1))).toNatClampNeg) (nmQ B z (stp B z ((stp B z e).2.2)) (nI 0) ((nI (vN v)) - (nI 1)))) := wh6.fr gh7 (by omega)
        have fh7 : Fs (RT k kv) h h7 := fh6.tr (Fs.of gh7 (fun b h1 h2 => Or.inl (by omega)))
        have kh7 : xK h7 = xK h := kkh7.trans kh6
        have lh7 := stp_le (B := B) lh3.2
        refine r_iconst (v := nI 1) C (dx dX3_readGives 47 rfl) rfl ?_
        have e9 : gvW B z e v = (true, (stp B z ((stp B z ((stp B z e).2.2)).2.2)), vset v 0 ((nmQ B z (stp B z e) (nI 0) ((nI (vP v)) - (nI 1))).toNatClampNeg) (nmQ B z (stp B z ((stp B z e).2.2)) (nI 0) ((nI (vN v)) - (nI 1)))) := by unfold gvW gvP gvO; rw [if_neg c2, if_neg (fun z => z.elim c4 (fun y => y.1 c5))]
        exact F.1 _ _ _ _ .boolean rfl rfl (dx dX3_readGives 48 rfl) kh7 (show some (vi (nI 1)) = some (vi (b2i (gvW B z e v).1)) ∧ RdAt h h7 k kv B z (gvW B z e v) from by rw [e9]; exact ⟨rfl, sh7, wh7, fh7⟩)
      ·
        have c5 : ¬ vF v 0 ((nmQ B z (stp B z e) (nI 0) ((nI (vP v)) - (nI 1))).toNatClampNeg) = nmQ B z (stp B z ((stp B z e).2.2)) (nI 0) ((nI (vN v)) - (nI 1)) := c5
        refine r_aload_n C (dx dX3_readGives 34 rfl) rfl ?_
        refine r_iload_n C (dx dX3_readGives 35 rfl) rfl ?_
        refine r_cvP (as := [vi (nmQ B z (stp B z ((stp B z e).2.2)) (nI 0) ((nI (vN v)) - (nI 1)))]) (st := []) (v := vi (b2i (hasRm v (nmQ B z (stp B z ((stp B z e).2.2)) (nI 0) ((nI (vN v)) - (nI 1)))))) C X I_X5_hasRoom l_X3_74 (c_X5_hasRoom wh3 _) (by decide) (Nat.le_of_ble_eq_true rfl) (pfx_eq kh3) rfl rfl (Nat.le_of_ble_eq_true rfl) rfl (dx dX3_readGives 36 rfl) ?_
        refine rb_ne (b := hasRm v (nmQ B z (stp B z ((stp B z e).2.2)) (nI 0) ((nI (vN v)) - (nI 1)))) (tgt := 64) C (dx dX3_readGives 37 rfl) (by decide) (fun c8 => ?_) (fun c8 => ?_)
        ·
          have c8 : (hasRm v (nmQ B z (stp B z ((stp B z e).2.2)) (nI 0) ((nI (vN v)) - (nI 1)))) = true := c8
          refine r_aload_n C (dx dX3_readGives 40 rfl) rfl ?_
          refine g_X3_78 C (dx dX3_readGives 41 rfl) ?_
          refine r_iload_n C (dx dX3_readGives 42 rfl) rfl ?_
          refine r_iload_n C (dx dX3_readGives 43 rfl) rfl ?_
          refine r_iast (j := (nmQ B z (stp B z e) (nI 0) ((nI (vP v)) - (nI 1))).toNatClampNeg) C rfl rfl (by decide) (inR_at (by omega) (nm_in (by omega) c2)).1 (Nat.lt_of_lt_of_le (inR_at (by omega) (nm_in (by omega) c2)).2 (by omega)) (dx dX3_readGives 44 rfl) ?_
          have wh9 : VilAt (sI h3 (kv + 1) ((nmQ B z (stp B z e) (nI 0) ((nI (vP v)) - (nI 1))).toNatClampNeg) (nmQ B z (stp B z ((stp B z e).2.2)) (nI 0) ((nI (vN v)) - (nI 1)))) kv (vset v 0 ((nmQ B z (stp B z e) (nI 0) ((nI (vP v)) - (nI 1))).toNatClampNeg) (nmQ B z (stp B z ((stp B z e).2.2)) (nI 0) ((nI (vN v)) - (nI 1)))) := wh3.s0
          have sh9 : TkAt (sI h3 (kv + 1) ((nmQ B z (stp B z e) (nI 0) ((nI (vP v)) - (nI 1))).toNatClampNeg) (nmQ B z (stp B z ((stp B z e).2.2)) (nI 0) ((nI (vN v)) - (nI 1)))) k B z ((stp B z ((stp B z e).2.2)).1) ((stp B z ((stp B z e).2.2)).2.1) ((stp B z ((stp B z e).2.2)).2.2) := sh3.fr (Fr.sI (lo := kv) (hi := kv + 9) (by omega) (by omega)) (by omega)
          have fh9 : Fs (RT k kv) h (sI h3 (kv + 1) ((nmQ B z (stp B z e) (nI 0) ((nI (vP v)) - (nI 1))).toNatClampNeg) (nmQ B z (stp B z ((stp B z e).2.2)) (nI 0) ((nI (vN v)) - (nI 1)))) := fh3.tr (Fs.of (Fr.sI (lo := kv) (hi := kv + 9) (by omega) (by omega)) (fun b h1 h2 => Or.inr ⟨h1, h2⟩))
          have kh9 : xK (sI h3 (kv + 1) ((nmQ B z (stp B z e) (nI 0) ((nI (vP v)) - (nI 1))).toNatClampNeg) (nmQ B z (stp B z ((stp B z e).2.2)) (nI 0) ((nI (vN v)) - (nI 1)))) = xK h := kh3
          generalize sI h3 (kv + 1) ((nmQ B z (stp B z e) (nI 0) ((nI (vP v)) - (nI 1))).toNatClampNeg) (nmQ B z (stp B z ((stp B z e).2.2)) (nI 0) ((nI (vN v)) - (nI 1))) = h9 at wh9 sh9 fh9 kh9 ⊢
          refine r_aload_n C (dx dX3_readGives 45 rfl) rfl ?_
          refine r_cv (as := []) (st := []) C X I_X3_step l_X3_28 (c_X3_step sh9 lh3.2) (by decide) (Nat.le_of_ble_eq_true rfl) List.prefix_rfl (pfx_eq kh9) rfl rfl (Nat.le_of_ble_eq_true rfl) rfl (dx dX3_readGives 46 rfl) ?_
          intro rh10 h10 hph10 kkh10
          obtain ⟨rfl, sh10, gh10⟩ := hph10
          have wh10 : VilAt h10 kv (vset v 0 ((nmQ B z (stp B z e) (nI 0) ((nI (vP v)) - (nI 1))).toNatClampNeg) (nmQ B z (stp B z ((stp B z e).2.2)) (nI 0) ((nI (vN v)) - (nI 1)))) := wh9.fr gh10 (by omega)
          have fh10 : Fs (RT k kv) h h10 := fh9.tr (Fs.of gh10 (fun b h1 h2 => Or.inl (by omega)))
          have kh10 : xK h10 = xK h := kkh10.trans kh9
          have lh10 := stp_le (B := B) lh3.2
          refine r_iconst (v := nI 1) C (dx dX3_readGives 47 rfl) rfl ?_
          have e9 : gvW B z e v = (true, (stp B z ((stp B z ((stp B z e).2.2)).2.2)), vset v 0 ((nmQ B z (stp B z e) (nI 0) ((nI (vP v)) - (nI 1))).toNatClampNeg) (nmQ B z (stp B z ((stp B z e).2.2)) (nI 0) ((nI (vN v)) - (nI 1)))) := by unfold gvW gvP gvO; rw [if_neg c2, if_neg (fun z => z.elim c4 (fun y => Bool.noConfusion (y.2.symm.trans c8)))]
          exact F.1 _ _ _ _ .boolean rfl rfl (dx dX3_readGives 48 rfl) kh10 (show some (vi (nI 1)) = some (vi (b2i (gvW B z e v).1)) ∧ RdAt h h10 k kv B z (gvW B z e v) from by rw [e9]; exact ⟨rfl, sh10, wh10, fh10⟩)
        ·
          have c8 : (hasRm v (nmQ B z (stp B z ((stp B z e).2.2)) (nI 0) ((nI (vN v)) - (nI 1)))) = false := c8
          refine r_iconst (v := nI 0) C (dx dX3_readGives 38 rfl) rfl ?_
          have e9 : gvW B z e v = (false, (stp B z ((stp B z e).2.2)), v) := by unfold gvW gvP gvO; rw [if_neg c2, if_pos (Or.inr ⟨c5, c8⟩)]
          exact F.1 _ _ _ _ .boolean rfl rfl (dx dX3_readGives 39 rfl) kh3 (show some (vi (nI 0)) = some (vi (b2i (gvW B z e v).1)) ∧ RdAt h h3 k kv B z (gvW B z e v) from by rw [e9]; exact ⟨rfl, sh3, wh3, fh3⟩)
  ·
    have c2 : nmQ B z (stp B z e) (nI 0) ((nI (vP v)) - (nI 1)) = -1 := c2
    refine r_iconst (v := nI 0) C (dx dX3_readGives 13 rfl) rfl ?_
    have e9 : gvW B z e v = (false, (stp B z e), v) := by unfold gvW gvP gvO; rw [if_pos c2]
    exact F.1 _ _ _ _ .boolean rfl rfl (dx dX3_readGives 14 rfl) kh1 (show some (vi (nI 0)) = some (vi (b2i (gvW B z e v).1)) ∧ RdAt h h1 k kv B z (gvW B z e v) from by rw [e9]; exact ⟨rfl, sh1, wh1, fh1⟩)
theorem vset_N {v : Vg} {c i : Nat} {x : Int32} : vN (vset v c i x) = vN v := rfl
/-- a piece told by a word, or not -/
def byS (B : Nat → Int32) (z c i p : Nat) (q : Tkn) (v : Vg) : Rd :=
  if wdB i B z q.1 q.2.1 q.2.2 = true then
    (if hasRm v (nmQ B z (stp B z q.2.2) (nI 0) (nI (vN v) - nI 1)) = true then (true, stp B z (stp B z q.2.2).2.2, vset v c p (nmQ B z (stp B z q.2.2) (nI 0) (nI (vN v) - nI 1))) else (false, stp B z q.2.2, v))
  else (true, q, v)
def ptW (B : Nat → Int32) (z : Nat) (q : Tkn) (v : Vg) : Rd :=
  if vP v < 12 then
    (if (byS B z 0 1 (vP v) (stp B z q.2.2) (addPartV v)).1 = true then byS B z 1 2 (vP v) (byS B z 0 1 (vP v) (stp B z q.2.2) (addPartV v)).2.1 (byS B z 0 1 (vP v) (stp B z q.2.2) (addPartV v)).2.2
     else byS B z 0 1 (vP v) (stp B z q.2.2) (addPartV v))
  else (false, q, v)
set_option maxHeartbeats 4000000 in
theorem c_X3_readPart {l : Launch} {h : Hp} {k kv : Nat} {B : Nat → Int32} {z t s e : Nat} {v : Vg} (hk : TkAt h k B z t s e) (he : e ≤ z) (hv : VilAt h kv v) (hd : kv + 9 ≤ k ∨ k + 2 ≤ kv) : Ms l yX3_readPart cX3_readPart 4 (some .boolean) 6 [vr 3 k, vr 5 kv] h (xK h) (fun r0 h' => r0 = some (vi (b2i (ptW B z (t, s, e) v).1)) ∧ RdAt h h' k kv B z (ptW B z (t, s, e) v)) := by
  refine Ms.of (by decide) (Nat.le_of_ble_eq_true rfl) (fun G C X F => ?_)
  have C : Cx G cX3_readPart 4 RX3 := C
  show Rr G 0 [(0, vr 3 k), (1, vr 5 kv)] [] h
  have bP := hv.bP
  have bM := hv.bM
  have bN := hv.bN
  have bz := hk.1.2.2
  by_cases hP : vP v < 12
  ·
    refine r_aload_n C (dx dX3_readPart 0 rfl) rfl ?_
    refine r_cv (as := []) (st := []) C X I_X5_addPart l_X3_59 (c_X5_addPart hv hP) (by decide) (Nat.le_of_ble_eq_true rfl) List.prefix_rfl List.prefix_rfl rfl rfl (Nat.le_of_ble_eq_true rfl) rfl (dx dX3_readPart 1 rfl) ?_
    intro rh1 h1 hph1 kkh1
    obtain ⟨rfl, wh1, gh1⟩ := hph1
    have sh1 : TkAt h1 k B z t s e := hk.fr gh1 (by omega)
    have fh1 : Fs (RT k kv) h h1 := (Fs.of gh1 (fun b h1 h2 => Or.inr ⟨h1, h2⟩))
    have kh1 : xK h1 = xK h := kkh1
    refine r_istore_n (ls' := [(0, vr 3 k), (1, vr 5 kv), (2, vi (nI (vP v)))]) C (dx dX3_readPart 2 rfl) (by decide) [1, 2, 0] rfl ?_
    refine r_iload_n C (dx dX3_readPart 3 rfl) rfl ?_
    refine r_iconst (v := -1) C (dx dX3_readPart 4 rfl) rfl ?_
    refine r_icmp_ne (tgt := 12) C (dx dX3_readPart 5 rfl) (by decide) (fun c2 => ?_) (fun c2 => ?_)
    ·
      have c2 : ¬ nI (vP v) = -1 := c2
      refine r_aload_n C (dx dX3_readPart 8 rfl) rfl ?_
      refine r_cv (as := []) (st := []) C X I_X3_step l_X3_28 (c_X3_step sh1 he) (by decide) (Nat.le_of_ble_eq_true rfl) List.prefix_rfl (pfx_eq kh1) rfl rfl (Nat.le_of_ble_eq_true rfl) rfl (dx dX3_readPart 9 rfl) ?_
      intro rh3 h3 hph3 kkh3
      obtain ⟨rfl, sh3, gh3⟩ := hph3
      have wh3 : VilAt h3 kv (addPartV v) := wh1.fr gh3 (by omega)
      have fh3 : Fs (RT k kv) h h3 := fh1.tr (Fs.of gh3 (fun b h1 h2 => Or.inl (by omega)))
      have kh3 : xK h3 = xK h := kkh3.trans kh1
      have lh3 := stp_le (B := B) he
      refine r_aload_n C (dx dX3_readPart 10 rfl) rfl ?_
      refine r_ldcS C 1 rfl (dx dX3_readPart 11 rfl) ?_
      refine r_cvP (as := [vt 1001]) (st := []) (v := vi (b2i (wdB 1 B z (stp B z e).1 (stp B z e).2.1 (stp B z e).2.2))) C X I_X3_isWord l_X3_37 (c_X3_isWord sh3 stp_5 lh3.1 lh3.2 (i := 1) (by omega)) (by decide) (Nat.le_of_ble_eq_true rfl) (pfx_eq kh3) rfl rfl (Nat.le_of_ble_eq_true rfl) rfl (dx dX3_readPart 12 rfl) ?_
      refine rb_eq (b := wdB 1 B z (stp B z e).1 (stp B z e).2.1 (stp B z e).2.2) (tgt := 62) C (dx dX3_readPart 13 rfl) (by decide) (fun c4 => ?_) (fun c4 => ?_)
      ·
        have c4 : (wdB 1 B z (stp B z e).1 (stp B z e).2.1 (stp B z e).2.2) = false := c4
        refine r_aload_n C (dx dX3_readPart 37 rfl) rfl ?_
        refine r_ldcS C 2 rfl (dx dX3_readPart 38 rfl) ?_
        refine r_cvP (as := [vt 1002]) (st := []) (v := vi (b2i (wdB 2 B z (stp B z e).1 (stp B z e).2.1 (stp B z e).2.2))) C X I_X3_isWord l_X3_37 (c_X3_isWord sh3 stp_5 lh3.1 lh3.2 (i := 2) (by omega)) (by decide) (Nat.le_of_ble_eq_true rfl) (pfx_eq kh3) rfl rfl (Nat.le_of_ble_eq_true rfl) rfl (dx dX3_readPart 39 rfl) ?_
        refine rb_eq (b := wdB 2 B z (stp B z e).1 (stp B z e).2.1 (stp B z e).2.2) (tgt := 108) C (dx dX3_readPart 40 rfl) (by decide) (fun c5 => ?_) (fun c5 => ?_)
        ·
          have c5 : (wdB 2 B z (stp B z e).1 (stp B z e).2.1 (stp B z e).2.2) = false := c5
          refine r_iconst (v := nI 1) C (dx dX3_readPart 64 rfl) rfl ?_
          have e9 : ptW B z (t, s, e) v = (true, (stp B z e), addPartV v) := by unfold ptW byS; simp [hP, vset_N, c4, c5]
          exact F.1 _ _ _ _ .boolean rfl rfl (dx dX3_readPart 65 rfl) kh3 (show some (vi (nI 1)) = some (vi (b2i (ptW B z (t, s, e) v).1)) ∧ RdAt h h3 k kv B z (ptW B z (t, s, e) v) from by rw [e9]; exact ⟨rfl, sh3, wh3, fh3⟩)
        ·
          have c5 : (wdB 2 B z (stp B z e).1 (stp B z e).2.1 (stp B z e).2.2) = true := c5
          refine r_aload_n C (dx dX3_readPart 41 rfl) rfl ?_
          refine r_cv (as := []) (st := []) C X I_X3_step l_X3_28 (c_X3_step sh3 lh3.2) (by decide) (Nat.le_of_ble_eq_true rfl) List.prefix_rfl (pfx_eq kh3) rfl rfl (Nat.le_of_ble_eq_true rfl) rfl (dx dX3_readPart 42 rfl) ?_
          intro rh6 h6 hph6 kkh6
          obtain ⟨rfl, sh6, gh6⟩ := hph6
          have wh6 : VilAt h6 kv (addPartV v) := wh3.fr gh6 (by omega)
          have fh6 : Fs (RT k kv) h h6 := fh3.tr (Fs.of gh6 (fun b h1 h2 => Or.inl (by omega)))
          have kh6 : xK h6 = xK h := kkh6.trans kh3
          have lh6 := stp_le (B := B) lh3.2
          refine r_aload_n C (dx dX3_readPart 43 rfl) rfl ?_
          refine r_iconst (v := nI 0) C (dx dX3_readPart 44 rfl) rfl ?_
          refine r_aload_n C (dx dX3_readPart 45 rfl) rfl ?_
          refine g_X3_67 (x := nI (vN (addPartV v))) C (dx dX3_readPart 46 rfl) wh6.eN ?_
          refine r_iconst (v := nI 1) C (dx dX3_readPart 47 rfl) rfl ?_
          refine r_isub C (dx dX3_readPart 48 rfl) ?_
          refine r_cvP (as := [vi (nI 0), vi ((nI (vN (addPartV v))) - (nI 1))]) (st := []) (v := vi (nmQ B z (stp B z ((stp B z e).2.2)) (nI 0) ((nI (vN (addPartV v))) - (nI 1)))) C X I_X3_numberIn l_X3_70 (c_X3_numberIn sh6 stp_5 lh6.1 lh6.2 _ _) (by decide) (Nat.le_of_ble_eq_true rfl) (pfx_eq kh6) rfl rfl (Nat.le_of_ble_eq_true rfl) rfl (dx dX3_readPart 49 rfl) ?_
          refine r_istore_n (ls' := [(0, vr 3 k), (1, vr 5 kv), (2, vi (nI (vP v))), (3, vi (nmQ B z (stp B z ((stp B z e).2.2)) (nI 0) ((nI (vN (addPartV v))) - (nI 1))))]) C (dx dX3_readPart 50 rfl) (by decide) [1, 2, 3, 0] rfl ?_
          refine r_aload_n C (dx dX3_readPart 51 rfl) rfl ?_
          refine r_iload_n C (dx dX3_readPart 52 rfl) rfl ?_
          refine r_cvP (as := [vi (nmQ B z (stp B z ((stp B z e).2.2)) (nI 0) ((nI (vN (addPartV v))) - (nI 1)))]) (st := []) (v := vi (b2i (hasRm (addPartV v) (nmQ B z (stp B z ((stp B z e).2.2)) (nI 0) ((nI (vN (addPartV v))) - (nI 1)))))) C X I_X5_hasRoom l_X3_74 (c_X5_hasRoom wh6 _) (by decide) (Nat.le_of_ble_eq_true rfl) (pfx_eq kh6) rfl rfl (Nat.le_of_ble_eq_true rfl) rfl (dx dX3_readPart 53 rfl) ?_
          refine rb_ne (b := hasRm (addPartV v) (nmQ B z (stp B z ((stp B z e).2.2)) (nI 0) ((nI (vN (addPartV v))) - (nI 1)))) (tgt := 97) C (dx dX3_readPart 54 rfl) (by decide) (fun c7 => ?_) (fun c7 => ?_)
          ·
            have c7 : (hasRm (addPartV v) (nmQ B z (stp B z ((stp B z e).2.2)) (nI 0) ((nI (vN (addPartV v))) - (nI 1)))) = true := c7
            refine r_aload_n C (dx dX3_readPart 57 rfl) rfl ?_
            refine g_X3_84 C (dx dX3_readPart 58 rfl) ?_
            refine r_iload_n C (dx dX3_readPart 59 rfl) rfl ?_
            refine r_iload_n C (dx dX3_readPart 60 rfl) rfl ?_
            refine r_iast (j := vP v) C rfl rfl (by decide) rfl (by omega) (dx dX3_readPart 61 rfl) ?_
            have wh8 : VilAt (sI h6 (kv + 2) (vP v) (nmQ B z (stp B z ((stp B z e).2.2)) (nI 0) ((nI (vN (addPartV v))) - (nI 1)))) kv (vset (addPartV v) 1 (vP v) (nmQ B z (stp B z ((stp B z e).2.2)) (nI 0) ((nI (vN (addPartV v))) - (nI 1)))) := wh6.s1
            have sh8 : TkAt (sI h6 (kv + 2) (vP v) (nmQ B z (stp B z ((stp B z e).2.2)) (nI 0) ((nI (vN (addPartV v))) - (nI 1)))) k B z ((stp B z ((stp B z e).2.2)).1) ((stp B z ((stp B z e).2.2)).2.1) ((stp B z ((stp B z e).2.2)).2.2) := sh6.fr (Fr.sI (lo := kv) (hi := kv + 9) (by omega) (by omega)) (by omega)
            have fh8 : Fs (RT k kv) h (sI h6 (kv + 2) (vP v) (nmQ B z (stp B z ((stp B z e).2.2)) (nI 0) ((nI (vN (addPartV v))) - (nI 1)))) := fh6.tr (Fs.of (Fr.sI (lo := kv) (hi := kv + 9) (by omega) (by omega)) (fun b h1 h2 => Or.inr ⟨h1, h2⟩))
            have kh8 : xK (sI h6 (kv + 2) (vP v) (nmQ B z (stp B z ((stp B z e).2.2)) (nI 0) ((nI (vN (addPartV v))) - (nI 1)))) = xK h := kh6
            generalize sI h6 (kv + 2) (vP v) (nmQ B z (stp B z ((stp B z e).2.2)) (nI 0) ((nI (vN (addPartV v))) - (nI 1))) = h8 at wh8 sh8 fh8 kh8 ⊢
            refine r_aload_n C (dx dX3_readPart 62 rfl) rfl ?_
            refine r_cv (as := []) (st := []) C X I_X3_step l_X3_28 (c_X3_step sh8 lh6.2) (by decide) (Nat.le_of_ble_eq_true rfl) List.prefix_rfl (pfx_eq kh8) rfl rfl (Nat.le_of_ble_eq_true rfl) rfl (dx dX3_readPart 63 rfl) ?_
            intro rh9 h9 hph9 kkh9
            obtain ⟨rfl, sh9, gh9⟩ := hph9
            have wh9 : VilAt h9 kv (vset (addPartV v) 1 (vP v) (nmQ B z (stp B z ((stp B z e).2.2)) (nI 0) ((nI (vN (addPartV v))) - (nI 1)))) := wh8.fr gh9 (by omega)
            have fh9 : Fs (RT k kv) h h9 := fh8.tr (Fs.of gh9 (fun b h1 h2 => Or.inl (by omega)))
            have kh9 : xK h9 = xK h := kkh9.trans kh8
            have lh9 := stp_le (B := B) lh6.2
            refine r_iconst (v := nI 1) C (dx dX3_readPart 64 rfl) rfl ?_
            have e9 : ptW B z (t, s, e) v = (true, (stp B z ((stp B z ((stp B z e).2.2)).2.2)), vset (addPartV v) 1 (vP v) (nmQ B z (stp B z ((stp B z e).2.2)) (nI 0) ((nI (vN (addPartV v))) - (nI 1)))) := by unfold ptW byS; simp [hP, vset_N, c4, c5, c7]
            exact F.1 _ _ _ _ .boolean rfl rfl (dx dX3_readPart 65 rfl) kh9 (show some (vi (nI 1)) = some (vi (b2i (ptW B z (t, s, e) v).1)) ∧ RdAt h h9 k kv B z (ptW B z (t, s, e) v) from by rw [e9]; exact ⟨rfl, sh9, wh9, fh9⟩)
          ·
            have c7 : (hasRm (addPartV v) (nmQ B z (stp B z ((stp B z e).2.2)) (nI 0) ((nI (vN (addPartV v))) - (nI 1)))) = false := c7
            refine r_iconst (v := nI 0) C (dx dX3_readPart 55 rfl) rfl ?_
            have e9 : ptW B z (t, s, e) v = (false, (stp B z ((stp B z e).2.2)), addPartV v) := by unfold ptW byS; simp [hP, vset_N, c4, c5, c7]
            exact F.1 _ _ _ _ .boolean rfl rfl (dx dX3_readPart 56 rfl) kh6 (show some (vi (nI 0)) = some (vi (b2i (ptW B z (t, s, e) v).1)) ∧ RdAt h h6 k kv B z (ptW B z (t, s, e) v) from by rw [e9]; exact ⟨rfl, sh6, wh6, fh6⟩)
      ·
        have c4 : (wdB 1 B z (stp B z e).1 (stp B z e).2.1 (stp B z e).2.2) = true := c4
        refine r_aload_n C (dx dX3_readPart 14 rfl) rfl ?_
        refine r_cv (as := []) (st := []) C X I_X3_step l_X3_28 (c_X3_step sh3 lh3.2) (by decide) (Nat.le_of_ble_eq_true rfl) List.prefix_rfl (pfx_eq kh3) rfl rfl (Nat.le_of_ble_eq_true rfl) rfl (dx dX3_readPart 15 rfl) ?_
        intro rh10 h10 hph10 kkh10
        obtain ⟨rfl, sh10, gh10⟩ := hph10
        have wh10 : VilAt h10 kv (addPartV v) := wh3.fr gh10 (by omega)
        have fh10 : Fs (RT k kv) h h10 := fh3.tr (Fs.of gh10 (fun b h1 h2 => Or.inl (by omega)))
        have kh10 : xK h10 = xK h := kkh10.trans kh3
        have lh10 := stp_le (B := B) lh3.2
        refine r_aload_n C (dx dX3_readPart 16 rfl) rfl ?_
        refine r_iconst (v := nI 0) C (dx dX3_readPart 17 rfl) rfl ?_
        refine r_aload_n C (dx dX3_readPart 18 rfl) rfl ?_
        refine g_X3_67 (x := nI (vN (addPartV v))) C (dx dX3_readPart 19 rfl) wh10.eN ?_
        refine r_iconst (v := nI 1) C (dx dX3_readPart 20 rfl) rfl ?_
        refine r_isub C (dx dX3_readPart 21 rfl) ?_
        refine r_cvP (as := [vi (nI 0), vi ((nI (vN (addPartV v))) - (nI 1))]) (st := []) (v := vi (nmQ B z (stp B z ((stp B z e).2.2)) (nI 0) ((nI (vN (addPartV v))) - (nI 1)))) C X I_X3_numberIn l_X3_70 (c_X3_numberIn sh10 stp_5 lh10.1 lh10.2 _ _) (by decide) (Nat.le_of_ble_eq_true rfl) (pfx_eq kh10) rfl rfl (Nat.le_of_ble_eq_true rfl) rfl (dx dX3_readPart 22 rfl) ?_
        refine r_istore_n (ls' := [(0, vr 3 k), (1, vr 5 kv), (2, vi (nI (vP v))), (3, vi (nmQ B z (stp B z ((stp B z e).2.2)) (nI 0) ((nI (vN (addPartV v))) - (nI 1))))]) C (dx dX3_readPart 23 rfl) (by decide) [1, 2, 3, 0] rfl ?_
        refine r_aload_n C (dx dX3_readPart 24 rfl) rfl ?_
        refine r_iload_n C (dx dX3_readPart 25 rfl) rfl ?_
        refine r_cvP (as := [vi (nmQ B z (stp B z ((stp B z e).2.2)) (nI 0) ((nI (vN (addPartV v))) - (nI 1)))]) (st := []) (v := vi (b2i (hasRm (addPartV v) (nmQ B z (stp B z ((stp B z e).2.2)) (nI 0) ((nI (vN (addPartV v))) - (nI 1)))))) C X I_X5_hasRoom l_X3_74 (c_X5_hasRoom wh10 _) (by decide) (Nat.le_of_ble_eq_true rfl) (pfx_eq kh10) rfl rfl (Nat.le_of_ble_eq_true rfl) rfl (dx dX3_readPart 26 rfl) ?_
        refine rb_ne (b := hasRm (addPartV v) (nmQ B z (stp B z ((stp B z e).2.2)) (nI 0) ((nI (vN (addPartV v))) - (nI 1)))) (tgt := 51) C (dx dX3_readPart 27 rfl) (by decide) (fun c11 => ?_) (fun c11 => ?_)
        ·
          have c11 : (hasRm (addPartV v) (nmQ B z (stp B z ((stp B z e).2.2)) (nI 0) ((nI (vN (addPartV v))) - (nI 1)))) = true := c11
          refine r_aload_n C (dx dX3_readPart 30 rfl) rfl ?_
          refine g_X3_78 C (dx dX3_readPart 31 rfl) ?_
          refine r_iload_n C (dx dX3_readPart 32 rfl) rfl ?_
          refine r_iload_n C (dx dX3_readPart 33 rfl) rfl ?_
          refine r_iast (j := vP v) C rfl rfl (by decide) rfl (by omega) (dx dX3_readPart 34 rfl) ?_
          have wh12 : VilAt (sI h10 (kv + 1) (vP v) (nmQ B z (stp B z ((stp B z e).2.2)) (nI 0) ((nI (vN (addPartV v))) - (nI 1)))) kv (vset (addPartV v) 0 (vP v) (nmQ B z (stp B z ((stp B z e).2.2)) (nI 0) ((nI (vN (addPartV v))) - (nI 1)))) := wh10.s0
          have sh12 : TkAt (sI h10 (kv + 1) (vP v) (nmQ B z (stp B z ((stp B z e).2.2)) (nI 0) ((nI (vN (addPartV v))) - (nI 1)))) k B z ((stp B z ((stp B z e).2.2)).1) ((stp B z ((stp B z e).2.2)).2.1) ((stp B z ((stp B z e).2.2)).2.2) := sh10.fr (Fr.sI (lo := kv) (hi := kv + 9) (by omega) (by omega)) (by omega)
          have fh12 : Fs (RT k kv) h (sI h10 (kv + 1) (vP v) (nmQ B z (stp B z ((stp B z e).2.2)) (nI 0) ((nI (vN (addPartV v))) - (nI 1)))) := fh10.tr (Fs.of (Fr.sI (lo := kv) (hi := kv + 9) (by omega) (by omega)) (fun b h1 h2 => Or.inr ⟨h1, h2⟩))
          have kh12 : xK (sI h10 (kv + 1) (vP v) (nmQ B z (stp B z ((stp B z e).2.2)) (nI 0) ((nI (vN (addPartV v))) - (nI 1)))) = xK h := kh10
          generalize sI h10 (kv + 1) (vP v) (nmQ B z (stp B z ((stp B z e).2.2)) (nI 0) ((nI (vN (addPartV v))) - (nI 1))) = h12 at wh12 sh12 fh12 kh12 ⊢
          refine r_aload_n C (dx dX3_readPart 35 rfl) rfl ?_
          refine r_cv (as := []) (st := []) C X I_X3_step l_X3_28 (c_X3_step sh12 lh10.2) (by decide) (Nat.le_of_ble_eq_true rfl) List.prefix_rfl (pfx_eq kh12) rfl rfl (Nat.le_of_ble_eq_true rfl) rfl (dx dX3_readPart 36 rfl) ?_
          intro rh13 h13 hph13 kkh13
          obtain ⟨rfl, sh13, gh13⟩ := hph13
          have wh13 : VilAt h13 kv (vset (addPartV v) 0 (vP v) (nmQ B z (stp B z ((stp B z e).2.2)) (nI 0) ((nI (vN (addPartV v))) - (nI 1)))) := wh12.fr gh13 (by omega)
          have fh13 : Fs (RT k kv) h h13 := fh12.tr (Fs.of gh13 (fun b h1 h2 => Or.inl (by omega)))
          have kh13 : xK h13 = xK h := kkh13.trans kh12
          have lh13 := stp_le (B := B) lh10.2
          refine r_aload_n C (dx dX3_readPart 37 rfl) rfl ?_
          refine r_ldcS C 2 rfl (dx dX3_readPart 38 rfl) ?_
          refine r_cvP (as := [vt 1002]) (st := []) (v := vi (b2i (wdB 2 B z (stp B z ((stp B z ((stp B z e).2.2)).2.2)).1 (stp B z ((stp B z ((stp B z e).2.2)).2.2)).2.1 (stp B z ((stp B z ((stp B z e).2.2)).2.2)).2.2))) C X I_X3_isWord l_X3_37 (c_X3_isWord sh13 stp_5 lh13.1 lh13.2 (i := 2) (by omega)) (by decide) (Nat.le_of_ble_eq_true rfl) (pfx_eq kh13) rfl rfl (Nat.le_of_ble_eq_true rfl) rfl (dx dX3_readPart 39 rfl) ?_
          refine rb_eq (b := wdB 2 B z (stp B z ((stp B z ((stp B z e).2.2)).2.2)).1 (stp B z ((stp B z ((stp B z e).2.2)).2.2)).2.1 (stp B z ((stp B z ((stp B z e).2.2)).2.2)).2.2) (tgt := 108) C (dx dX3_readPart 40 rfl) (by decide) (fun c14 => ?_) (fun c14 => ?_)
          ·
            have c14 : (wdB 2 B z (stp B z ((stp B z ((stp B z e).2.2)).2.2)).1 (stp B z ((stp B z ((stp B z e).2.2)).2.2)).2.1 (stp B z ((stp B z ((stp B z e).2.2)).2.2)).2.2) = false := c14
            refine r_iconst (v := nI 1) C (dx dX3_readPart 64 rfl) rfl ?_
            have e9 : ptW B z (t, s, e) v = (true, (stp B z ((stp B z ((stp B z e).2.2)).2.2)), vset (addPartV v) 0 (vP v) (nmQ B z (stp B z ((stp B z e).2.2)) (nI 0) ((nI (vN (addPartV v))) - (nI 1)))) := by unfold ptW byS; simp [hP, vset_N, c4, c11, c14]
            exact F.1 _ _ _ _ .boolean rfl rfl (dx dX3_readPart 65 rfl) kh13 (show some (vi (nI 1)) = some (vi (b2i (ptW B z (t, s, e) v).1)) ∧ RdAt h h13 k kv B z (ptW B z (t, s, e) v) from by rw [e9]; exact ⟨rfl, sh13, wh13, fh13⟩)
          ·
            have c14 : (wdB 2 B z (stp B z ((stp B z ((stp B z e).2.2)).2.2)).1 (stp B z ((stp B z ((stp B z e).2.2)).2.2)).2.1 (stp B z ((stp B z ((stp B z e).2.2)).2.2)).2.2) = true := c14
            refine r_aload_n C (dx dX3_readPart 41 rfl) rfl ?_
            refine r_cv (as := []) (st := []) C X I_X3_step l_X3_28 (c_X3_step sh13 lh13.2) (by decide) (Nat.le_of_ble_eq_true rfl) List.prefix_rfl (pfx_eq kh13) rfl rfl (Nat.le_of_ble_eq_true rfl) rfl (dx dX3_readPart 42 rfl) ?_
            intro rh15 h15 hph15 kkh15
            obtain ⟨rfl, sh15, gh15⟩ := hph15
            have wh15 : VilAt h15 kv (vset (addPartV v) 0 (vP v) (nmQ B z (stp B z ((stp B z e).2.2)) (nI 0) ((nI (vN (addPartV v))) - (nI 1)))) := wh13.fr gh15 (by omega)
            have fh15 : Fs (RT k kv) h h15 := fh13.tr (Fs.of gh15 (fun b h1 h2 => Or.inl (by omega)))
            have kh15 : xK h15 = xK h := kkh15.trans kh13
            have lh15 := stp_le (B := B) lh13.2
            refine r_aload_n C (dx dX3_readPart 43 rfl) rfl ?_
            refine r_iconst (v := nI 0) C (dx dX3_readPart 44 rfl) rfl ?_
            refine r_aload_n C (dx dX3_readPart 45 rfl) rfl ?_
            refine g_X3_67 (x := nI (vN (addPartV v))) C (dx dX3_readPart 46 rfl) wh15.eN ?_
            refine r_iconst (v := nI 1) C (dx dX3_readPart 47 rfl) rfl ?_
            refine r_isub C (dx dX3_readPart 48 rfl) ?_
            refine r_cvP (as := [vi (nI 0), vi ((nI (vN (addPartV v))) - (nI 1))]) (st := []) (v := vi (nmQ B z (stp B z ((stp B z ((stp B z ((stp B z e).2.2)).2.2)).2.2)) (nI 0) ((nI (vN (addPartV v))) - (nI 1)))) C X I_X3_numberIn l_X3_70 (c_X3_numberIn sh15 stp_5 lh15.1 lh15.2 _ _) (by decide) (Nat.le_of_ble_eq_true rfl) (pfx_eq kh15) rfl rfl (Nat.le_of_ble_eq_true rfl) rfl (dx dX3_readPart 49 rfl) ?_
            refine r_istore_n (ls' := [(0, vr 3 k), (1, vr 5 kv), (2, vi (nI (vP v))), (3, vi (nmQ B z (stp B z ((stp B z ((stp B z ((stp B z e).2.2)).2.2)).2.2)) (nI 0) ((nI (vN (addPartV v))) - (nI 1))))]) C (dx dX3_readPart 50 rfl) (by decide) [1, 2, 3, 0] rfl ?_
            refine r_aload_n C (dx dX3_readPart 51 rfl) rfl ?_
            refine r_iload_n C (dx dX3_readPart 52 rfl) rfl ?_
            refine r_cvP (as := [vi (nmQ B z (stp B z ((stp B z ((stp B z ((stp B z e).2.2)).2.2)).2.2)) (nI 0) ((nI (vN (addPartV v))) - (nI 1)))]) (st := []) (v := vi (b2i (hasRm (vset (addPartV v) 0 (vP v) (nmQ B z (stp B z ((stp B z e).2.2)) (nI 0) ((nI (vN (addPartV v))) - (nI 1)))) (nmQ B z (stp B z ((stp B z ((stp B z ((stp B z e).2.2)).2.2)).2.2)) (nI 0) ((nI (vN (addPartV v))) - (nI 1)))))) C X I_X5_hasRoom l_X3_74 (c_X5_hasRoom wh15 _) (by decide) (Nat.le_of_ble_eq_true rfl) (pfx_eq kh15) rfl rfl (Nat.le_of_ble_eq_true rfl) rfl (dx dX3_readPart 53 rfl) ?_
            refine rb_ne (b := hasRm (vset (addPartV v) 0 (vP v) (nmQ B z (stp B z ((stp B z e).2.2)) (nI 0) ((nI (vN (addPartV v))) - (nI 1)))) (nmQ B z (stp B z ((stp B z ((stp B z ((stp B z e).2.2)).2.2)).2.2)) (nI 0) ((nI (vN (addPartV v))) - (nI 1)))) (tgt := 97) C (dx dX3_readPart 54 rfl) (by decide) (fun c16 => ?_) (fun c16 => ?_)
            ·
              have c16 : (hasRm (vset (addPartV v) 0 (vP v) (nmQ B z (stp B z ((stp B z e).2.2)) (nI 0) ((nI (vN (addPartV v))) - (nI 1)))) (nmQ B z (stp B z ((stp B z ((stp B z ((stp B z e).2.2)).2.2)).2.2)) (nI 0) ((nI (vN (addPartV v))) - (nI 1)))) = true := c16
              refine r_aload_n C (dx dX3_readPart 57 rfl) rfl ?_
              refine g_X3_84 C (dx dX3_readPart 58 rfl) ?_
              refine r_iload_n C (dx dX3_readPart 59 rfl) rfl ?_
              refine r_iload_n C (dx dX3_readPart 60 rfl) rfl ?_
              refine r_iast (j := vP v) C rfl rfl (by decide) rfl (by omega) (dx dX3_readPart 61 rfl) ?_
              have wh17 : VilAt (sI h15 (kv + 2) (vP v) (nmQ B z (stp B z ((stp B z ((stp B z ((stp B z e).2.2)).2.2)).2.2)) (nI 0) ((nI (vN (addPartV v))) - (nI 1)))) kv (vset (vset (addPartV v) 0 (vP v) (nmQ B z (stp B z ((stp B z e).2.2)) (nI 0) ((nI (vN (addPartV v))) - (nI 1)))) 1 (vP v) (nmQ B z (stp B z ((stp B z ((stp B z ((stp B z e).2.2)).2.2)).2.2)) (nI 0) ((nI (vN (addPartV v))) - (nI 1)))) := wh15.s1
              have sh17 : TkAt (sI h15 (kv + 2) (vP v) (nmQ B z (stp B z ((stp B z ((stp B z ((stp B z e).2.2)).2.2)).2.2)) (nI 0) ((nI (vN (addPartV v))) - (nI 1)))) k B z ((stp B z ((stp B z ((stp B z ((stp B z e).2.2)).2.2)).2.2)).1) ((stp B z ((stp B z ((stp B z ((stp B z e).2.2)).2.2)).2.2)).2.1) ((stp B z ((stp B z ((stp B z ((stp B z e).2.2)).2.2)).2.2)).2.2) := sh15.fr (Fr.sI (lo := kv) (hi := kv + 9) (by omega) (by omega)) (by omega)
              have fh17 : Fs (RT k kv) h (sI h15 (kv + 2) (vP v) (nmQ B z (stp B z ((stp B z ((stp B z ((stp B z e).2.2)).2.2)).2.2)) (nI 0) ((nI (vN (addPartV v))) - (nI 1)))) := fh15.tr (Fs.of (Fr.sI (lo := kv) (hi := kv + 9) (by omega) (by omega)) (fun b h1 h2 => Or.inr ⟨h1, h2⟩))
              have kh17 : xK (sI h15 (kv + 2) (vP v) (nmQ B z (stp B z ((stp B z ((stp B z ((stp B z e).2.2)).2.2)).2.2)) (nI 0) ((nI (vN (addPartV v))) - (nI 1)))) = xK h := kh15
              generalize sI h15 (kv + 2) (vP v) (nmQ B z (stp B z ((stp B z ((stp B z ((stp B z e).2.2)).2.2)).2.2)) (nI 0) ((nI (vN (addPartV v))) - (nI 1))) = h17 at wh17 sh17 fh17 kh17 ⊢
              refine r_aload_n C (dx dX3_readPart 62 rfl) rfl ?_
              refine r_cv (as := []) (st := []) C X I_X3_step l_X3_28 (c_X3_step sh17 lh15.2) (by decide) (Nat.le_of_ble_eq_true rfl) List.prefix_rfl (pfx_eq kh17) rfl rfl (Nat.le_of_ble_eq_true rfl) rfl (dx dX3_readPart 63 rfl) ?_
              intro rh18 h18 hph18 kkh18
              obtain ⟨rfl, sh18, gh18⟩ := hph18
              have wh18 : VilAt h18 kv (vset (vset (addPartV v) 0 (vP v) (nmQ B z (stp B z ((stp B z e).2.2)) (nI 0) ((nI (vN (addPartV v))) - (nI 1)))) 1 (vP v) (nmQ B z (stp B z ((stp B z ((stp B z ((stp B z e).2.2)).2.2)).2.2)) (nI 0) ((nI (vN (addPartV v))) - (nI 1)))) := wh17.fr gh18 (by omega)
              have fh18 : Fs (RT k kv) h h18 := fh17.tr (Fs.of gh18 (fun b h1 h2 => Or.inl (by omega)))
              have kh18 : xK h18 = xK h := kkh18.trans kh17
              have lh18 := stp_le (B := B) lh15.2
              refine r_iconst (v := nI 1) C (dx dX3_readPart 64 rfl) rfl ?_
              have e9 : ptW B z (t, s, e) v = (true, (stp B z ((stp B z ((stp B z ((stp B z ((stp B z e).2.2)).2.2)).2.2)).2.2)), vset (vset (addPartV v) 0 (vP v) (nmQ B z (stp B z ((stp B z e).2.2)) (nI 0) ((nI (vN (addPartV v))) - (nI 1)))) 1 (vP v) (nmQ B z (stp B z ((stp B z ((stp B z ((stp B z e).2.2)).2.2)).2.2)) (nI 0) ((nI (vN (addPartV v))) - (nI 1)))) := by unfold ptW byS; simp [hP, vset_N, c4, c11, c14, c16]
              exact F.1 _ _ _ _ .boolean rfl rfl (dx dX3_readPart 65 rfl) kh18 (show some (vi (nI 1)) = some (vi (b2i (ptW B z (t, s, e) v).1)) ∧ RdAt h h18 k kv B z (ptW B z (t, s, e) v) from by rw [e9]; exact ⟨rfl, sh18, wh18, fh18⟩)
            ·
              have c16 : (hasRm (vset (addPartV v) 0 (vP v) (nmQ B z (stp B z ((stp B z e).2.2)) (nI 0) ((nI (vN (addPartV v))) - (nI 1)))) (nmQ B z (stp B z ((stp B z ((stp B z ((stp B z e).2.2)).2.2)).2.2)) (nI 0) ((nI (vN (addPartV v))) - (nI 1)))) = false := c16
              refine r_iconst (v := nI 0) C (dx dX3_readPart 55 rfl) rfl ?_
              have e9 : ptW B z (t, s, e) v = (false, (stp B z ((stp B z ((stp B z ((stp B z e).2.2)).2.2)).2.2)), vset (addPartV v) 0 (vP v) (nmQ B z (stp B z ((stp B z e).2.2)) (nI 0) ((nI (vN (addPartV v))) - (nI 1)))) := by unfold ptW byS; simp [hP, vset_N, c4, c11, c14, c16]
              exact F.1 _ _ _ _ .boolean rfl rfl (dx dX3_readPart 56 rfl) kh15 (show some (vi (nI 0)) = some (vi (b2i (ptW B z (t, s, e) v).1)) ∧ RdAt h h15 k kv B z (ptW B z (t, s, e) v) from by rw [e9]; exact ⟨rfl, sh15, wh15, fh15⟩)
        ·
          have c11 : (hasRm (addPartV v) (nmQ B z (stp B z ((stp B z e).2.2)) (nI 0) ((nI (vN (addPartV v))) - (nI 1)))) = false := c11
          refine r_iconst (v := nI 0) C (dx dX3_readPart 28 rfl) rfl ?_
          have e9 : ptW B z (t, s, e) v = (false, (stp B z ((stp B z e).2.2)), addPartV v) := by unfold ptW byS; simp [hP, vset_N, c4, c11]
          exact F.1 _ _ _ _ .boolean rfl rfl (dx dX3_readPart 29 rfl) kh10 (show some (vi (nI 0)) = some (vi (b2i (ptW B z (t, s, e) v).1)) ∧ RdAt h h10 k kv B z (ptW B z (t, s, e) v) from by rw [e9]; exact ⟨rfl, sh10, wh10, fh10⟩)
    · exact absurd c2 (nI_nm1 (by omega))
  ·
    refine r_aload_n C (dx dX3_readPart 0 rfl) rfl ?_
    refine r_cvP (as := []) (st := []) (v := vi (-1)) C X I_X5_addPart l_X3_59 (c_X5_addPart_f hv hP) (by decide) (Nat.le_of_ble_eq_true rfl) List.prefix_rfl rfl rfl (Nat.le_of_ble_eq_true rfl) rfl (dx dX3_readPart 1 rfl) ?_
    refine r_istore_n (ls' := [(0, vr 3 k), (1, vr 5 kv), (2, vi (-1))]) C (dx dX3_readPart 2 rfl) (by decide) [1, 2, 0] rfl ?_
    refine r_iload_n C (dx dX3_readPart 3 rfl) rfl ?_
    refine r_iconst (v := -1) C (dx dX3_readPart 4 rfl) rfl ?_
    refine r_icmp_ne (tgt := 12) C (dx dX3_readPart 5 rfl) (by decide) (fun c19 => ?_) (fun c19 => ?_)
    · exact (c19 rfl).elim
    ·
      have c19 : (-1 : Int32) = -1 := c19
      refine r_iconst (v := nI 0) C (dx dX3_readPart 6 rfl) rfl ?_
      have e9 : ptW B z (t, s, e) v = (false, (t, s, e), v) := by unfold ptW; rw [if_neg hP]
      exact F.1 _ _ _ _ .boolean rfl rfl (dx dX3_readPart 7 rfl) rfl (show some (vi (nI 0)) = some (vi (b2i (ptW B z (t, s, e) v).1)) ∧ RdAt h h k kv B z (ptW B z (t, s, e) v) from by rw [e9]; exact ⟨rfl, hk, hv, Fs.rf⟩)
def oneE (B : Nat → Int32) (z : Nat) (q : Tkn) (v : Vg) (x a : Int32) : Rd :=
  if wdB 8 B z q.1 q.2.1 q.2.2 = true then (true, stp B z q.2.2, vset (addOneV v x a) 6 (vN v) (vp_nar .boolean (nI 1))) else (true, q, addOneV v x a)
def oneA (B : Nat → Int32) (z : Nat) (q : Tkn) (v : Vg) (x : Int32) : Rd :=
  if wdB 7 B z q.1 q.2.1 q.2.2 = true then
    (if nmQ B z (stp B z q.2.2) (nI 0) (nI 10) = -1 then (false, stp B z q.2.2, v) else oneE B z (stp B z (stp B z q.2.2).2.2) v x (nmQ B z (stp B z q.2.2) (nI 0) (nI 10)))
  else oneE B z q v x (nI 0)
def oneW (B : Nat → Int32) (z : Nat) (q : Tkn) (v : Vg) : Rd :=
  if vN v < 8 then
    (if nmQ B z (stp B z q.2.2) (nI 0) (nI 9) = -1 then (false, stp B z q.2.2, v) else oneA B z (stp B z (stp B z q.2.2).2.2) v (nmQ B z (stp B z q.2.2) (nI 0) (nI 9)))
  else (false, q, v)
set_option maxHeartbeats 4000000 in
theorem c_X3_readOne {l : Launch} {h : Hp} {k kv : Nat} {B : Nat → Int32} {z t s e : Nat} {v : Vg} (hk : TkAt h k B z t s e) (he : e ≤ z) (hv : VilAt h kv v) (hd : kv + 9 ≤ k ∨ k + 2 ≤ kv) : Ms l yX3_readOne cX3_readOne 5 (some .boolean) 6 [vr 3 k, vr 5 kv] h (xK h) (fun r0 h' => r0 = some (vi (b2i (oneW B z (t, s, e) v).1)) ∧ RdAt h h' k kv B z (oneW B z (t, s, e) v)) := by
  refine Ms.of (by decide) (Nat.le_of_ble_eq_true rfl) (fun G C X F => ?_)
  have C : Cx G cX3_readOne 5 RX3 := C
  show Rr G 0 [(0, vr 3 k), (1, vr 5 kv)] [] h
  have bP := hv.bP
  have bM := hv.bM
  have bN := hv.bN
  have bz := hk.1.2.2
  refine r_aload_n C (dx dX3_readOne 0 rfl) rfl ?_
  refine g_X3_67 (x := nI (vN v)) C (dx dX3_readOne 1 rfl) hv.eN ?_
  refine r_bipush (v := nI 8) C (dx dX3_readOne 2 rfl) rfl ?_
  refine rn_lt (a := vN v) (b := 8) (tgt := 11) C (by omega) (by omega) (dx dX3_readOne 3 rfl) (by decide) (fun c1 => ?_) (fun c1 => ?_)
  · first
    | (omega; done)
    | (
        have c1 : vN v < 8 := c1
        refine r_aload_n C (dx dX3_readOne 6 rfl) rfl ?_
        refine r_cv (as := []) (st := []) C X I_X3_step l_X3_28 (c_X3_step hk he) (by decide) (Nat.le_of_ble_eq_true rfl) List.prefix_rfl List.prefix_rfl rfl rfl (Nat.le_of_ble_eq_true rfl) rfl (dx dX3_readOne 7 rfl) ?_
        intro rh2 h2 hph2 kkh2
        obtain ⟨rfl, sh2, gh2⟩ := hph2
        have wh2 : VilAt h2 kv (v) := hv.fr gh2 (by omega)
        have fh2 : Fs (RT k kv) h h2 := (Fs.of gh2 (fun b h1 h2 => Or.inl (by omega)))
        have kh2 : xK h2 = xK h := kkh2
        have lh2 := stp_le (B := B) he
        refine r_aload_n C (dx dX3_readOne 8 rfl) rfl ?_
        refine r_iconst (v := nI 0) C (dx dX3_readOne 9 rfl) rfl ?_
        refine r_bipush (v := nI 9) C (dx dX3_readOne 10 rfl) rfl ?_
        refine r_cvP (as := [vi (nI 0), vi (nI 9)]) (st := []) (v := vi (nmQ B z (stp B z e) (nI 0) (nI 9))) C X I_X3_numberIn l_X3_70 (c_X3_numberIn sh2 stp_5 lh2.1 lh2.2 _ _) (by decide) (Nat.le_of_ble_eq_true rfl) (pfx_eq kh2) rfl rfl (Nat.le_of_ble_eq_true rfl) rfl (dx dX3_readOne 11 rfl) ?_
        refine r_istore_n (ls' := [(0, vr 3 k), (1, vr 5 kv), (2, vi (nmQ B z (stp B z e) (nI 0) (nI 9)))]) C (dx dX3_readOne 12 rfl) (by decide) [1, 2, 0] rfl ?_
        refine r_iload_n C (dx dX3_readOne 13 rfl) rfl ?_
        refine r_iconst (v := -1) C (dx dX3_readOne 14 rfl) rfl ?_
        refine r_icmp_ne (tgt := 30) C (dx dX3_readOne 15 rfl) (by decide) (fun c3 => ?_) (fun c3 => ?_)
        ·
          have c3 : ¬ nmQ B z (stp B z e) (nI 0) (nI 9) = -1 := c3
          refine r_aload_n C (dx dX3_readOne 18 rfl) rfl ?_
          refine r_cv (as := []) (st := []) C X I_X3_step l_X3_28 (c_X3_step sh2 lh2.2) (by decide) (Nat.le_of_ble_eq_true rfl) List.prefix_rfl (pfx_eq kh2) rfl rfl (Nat.le_of_ble_eq_true rfl) rfl (dx dX3_readOne 19 rfl) ?_
          intro rh4 h4 hph4 kkh4
          obtain ⟨rfl, sh4, gh4⟩ := hph4
          have wh4 : VilAt h4 kv (v) := wh2.fr gh4 (by omega)
          have fh4 : Fs (RT k kv) h h4 := fh2.tr (Fs.of gh4 (fun b h1 h2 => Or.inl (by omega)))
          have kh4 : xK h4 = xK h := kkh4.trans kh2
          have lh4 := stp_le (B := B) lh2.2
          refine r_iconst (v := nI 0) C (dx dX3_readOne 20 rfl) rfl ?_
          refine r_istore_n (ls' := [(0, vr 3 k), (1, vr 5 kv), (2, vi (nmQ B z (stp B z e) (nI 0) (nI 9))), (3, vi (nI 0))]) C (dx dX3_readOne 21 rfl) (by decide) [1, 2, 3, 0] rfl ?_
          refine r_aload_n C (dx dX3_readOne 22 rfl) rfl ?_
          refine r_ldcS C 7 rfl (dx dX3_readOne 23 rfl) ?_
          refine r_cvP (as := [vt 1007]) (st := []) (v := vi (b2i (wdB 7 B z (stp B z ((stp B z e).2.2)).1 (stp B z ((stp B z e).2.2)).2.1 (stp B z ((stp B z e).2.2)).2.2))) C X I_X3_isWord l_X3_37 (c_X3_isWord sh4 stp_5 lh4.1 lh4.2 (i := 7) (by omega)) (by decide) (Nat.le_of_ble_eq_true rfl) (pfx_eq kh4) rfl rfl (Nat.le_of_ble_eq_true rfl) rfl (dx dX3_readOne 24 rfl) ?_
          refine rb_eq (b := wdB 7 B z (stp B z ((stp B z e).2.2)).1 (stp B z ((stp B z e).2.2)).2.1 (stp B z ((stp B z e).2.2)).2.2) (tgt := 68) C (dx dX3_readOne 25 rfl) (by decide) (fun c5 => ?_) (fun c5 => ?_)
          ·
            have c5 : (wdB 7 B z (stp B z ((stp B z e).2.2)).1 (stp B z ((stp B z e).2.2)).2.1 (stp B z ((stp B z e).2.2)).2.2) = false := c5
            refine r_aload_n C (dx dX3_readOne 40 rfl) rfl ?_
            refine r_iload_n C (dx dX3_readOne 41 rfl) rfl ?_
            refine r_iload_n C (dx dX3_readOne 42 rfl) rfl ?_
            refine r_cv (as := [vi (nmQ B z (stp B z e) (nI 0) (nI 9)), vi (nI 0)]) (st := []) C X I_X5_addOne l_X3_101 (c_X5_addOne wh4 (nmQ B z (stp B z e) (nI 0) (nI 9)) (nI 0) (by omega)) (by decide) (Nat.le_of_ble_eq_true rfl) List.prefix_rfl (pfx_eq kh4) rfl rfl (Nat.le_of_ble_eq_true rfl) rfl (dx dX3_readOne 43 rfl) ?_
            intro rh6 h6 hph6 kkh6
            obtain ⟨rfl, wh6, gh6⟩ := hph6
            have sh6 : TkAt h6 k B z ((stp B z ((stp B z e).2.2)).1) ((stp B z ((stp B z e).2.2)).2.1) ((stp B z ((stp B z e).2.2)).2.2) := sh4.fr gh6 (by omega)
            have fh6 : Fs (RT k kv) h h6 := fh4.tr (Fs.of gh6 (fun b h1 h2 => Or.inr ⟨h1, h2⟩))
            have kh6 : xK h6 = xK h := kkh6.trans kh4
            refine r_istore (ls' := [(0, vr 3 k), (1, vr 5 kv), (2, vi (nmQ B z (stp B z e) (nI 0) (nI 9))), (3, vi (nI 0)), (4, vi (nI (vN v)))]) C (dx dX3_readOne 44 rfl) (by decide) [1, 2, 3, 4, 0] rfl ?_
            refine r_iload C (dx dX3_readOne 45 rfl) rfl ?_
            refine r_iconst (v := -1) C (dx dX3_readOne 46 rfl) rfl ?_
            refine r_icmp_eq (tgt := 103) C (dx dX3_readOne 47 rfl) (by decide) (fun c7 => ?_) (fun c7 => ?_)
            · exact absurd c7 (nI_nm1 (by omega))
            ·
              have c7 : ¬ nI (vN v) = -1 := c7
              refine r_aload_n C (dx dX3_readOne 48 rfl) rfl ?_
              refine r_ldcS C 8 rfl (dx dX3_readOne 49 rfl) ?_
              refine r_cvP (as := [vt 1008]) (st := []) (v := vi (b2i (wdB 8 B z (stp B z ((stp B z e).2.2)).1 (stp B z ((stp B z e).2.2)).2.1 (stp B z ((stp B z e).2.2)).2.2))) C X I_X3_isWord l_X3_37 (c_X3_isWord sh6 stp_5 lh4.1 lh4.2 (i := 8) (by omega)) (by decide) (Nat.le_of_ble_eq_true rfl) (pfx_eq kh6) rfl rfl (Nat.le_of_ble_eq_true rfl) rfl (dx dX3_readOne 50 rfl) ?_
              refine rb_eq (b := wdB 8 B z (stp B z ((stp B z e).2.2)).1 (stp B z ((stp B z e).2.2)).2.1 (stp B z ((stp B z e).2.2)).2.2) (tgt := 103) C (dx dX3_readOne 51 rfl) (by decide) (fun c8 => ?_) (fun c8 => ?_)
              ·
                have c8 : (wdB 8 B z (stp B z ((stp B z e).2.2)).1 (stp B z ((stp B z e).2.2)).2.1 (stp B z ((stp B z e).2.2)).2.2) = false := c8
                refine r_iload C (dx dX3_readOne 59 rfl) rfl ?_
                refine r_iconst (v := -1) C (dx dX3_readOne 60 rfl) rfl ?_
                refine r_icmp_eq (tgt := 113) C (dx dX3_readOne 61 rfl) (by decide) (fun c9 => ?_) (fun c9 => ?_)
                · exact absurd c9 (nI_nm1 (by omega))
                ·
                  have c9 : ¬ nI (vN v) = -1 := c9
                  refine r_iconst (v := nI 1) C (dx dX3_readOne 62 rfl) rfl ?_
                  refine r_goto (tgt := 114) C (dx dX3_readOne 63 rfl) (by decide) ?_
                  have e9 : oneW B z (t, s, e) v = (true, (stp B z ((stp B z e).2.2)), addOneV v (nmQ B z (stp B z e) (nI 0) (nI 9)) (nI 0)) := by unfold oneW oneA oneE; simp [c1, c3, c5, c7, c8, c9]
                  exact F.1 _ _ _ _ .boolean rfl rfl (dx dX3_readOne 65 rfl) kh6 (show some (vi (nI 1)) = some (vi (b2i (oneW B z (t, s, e) v).1)) ∧ RdAt h h6 k kv B z (oneW B z (t, s, e) v) from by rw [e9]; exact ⟨rfl, sh6, wh6, fh6⟩)
              ·
                have c8 : (wdB 8 B z (stp B z ((stp B z e).2.2)).1 (stp B z ((stp B z e).2.2)).2.1 (stp B z ((stp B z e).2.2)).2.2) = true := c8
                refine r_aload_n C (dx dX3_readOne 52 rfl) rfl ?_
                refine g_X3_106 C (dx dX3_readOne 53 rfl) ?_
                refine r_iload C (dx dX3_readOne 54 rfl) rfl ?_
                refine r_iconst (v := nI 1) C (dx dX3_readOne 55 rfl) rfl ?_
                refine r_zast (j := vN v) C rfl rfl (by decide) rfl (by omega) (dx dX3_readOne 56 rfl) ?_
                have wh10 : VilAt (sI h6 (kv + 7) (vN v) (vp_nar .boolean (nI 1))) kv (vset (addOneV v (nmQ B z (stp B z e) (nI 0) (nI 9)) (nI 0)) 6 (vN v) (vp_nar .boolean (nI 1))) := wh6.s6 rfl
                have sh10 : TkAt (sI h6 (kv + 7) (vN v) (vp_nar .boolean (nI 1))) k B z ((stp B z ((stp B z e).2.2)).1) ((stp B z ((stp B z e).2.2)).2.1) ((stp B z ((stp B z e).2.2)).2.2) := sh6.fr (Fr.sI (lo := kv) (hi := kv + 9) (by omega) (by omega)) (by omega)
                have fh10 : Fs (RT k kv) h (sI h6 (kv + 7) (vN v) (vp_nar .boolean (nI 1))) := fh6.tr (Fs.of (Fr.sI (lo := kv) (hi := kv + 9) (by omega) (by omega)) (fun b h1 h2 => Or.inr ⟨h1, h2⟩))
                have kh10 : xK (sI h6 (kv + 7) (vN v) (vp_nar .boolean (nI 1))) = xK h := kh6
                generalize sI h6 (kv + 7) (vN v) (vp_nar .boolean (nI 1)) = h10 at wh10 sh10 fh10 kh10 ⊢
                refine r_aload_n C (dx dX3_readOne 57 rfl) rfl ?_
                refine r_cv (as := []) (st := []) C X I_X3_step l_X3_28 (c_X3_step sh10 lh4.2) (by decide) (Nat.le_of_ble_eq_true rfl) List.prefix_rfl (pfx_eq kh10) rfl rfl (Nat.le_of_ble_eq_true rfl) rfl (dx dX3_readOne 58 rfl) ?_
                intro rh11 h11 hph11 kkh11
                obtain ⟨rfl, sh11, gh11⟩ := hph11
                have wh11 : VilAt h11 kv (vset (addOneV v (nmQ B z (stp B z e) (nI 0) (nI 9)) (nI 0)) 6 (vN v) (vp_nar .boolean (nI 1))) := wh10.fr gh11 (by omega)
                have fh11 : Fs (RT k kv) h h11 := fh10.tr (Fs.of gh11 (fun b h1 h2 => Or.inl (by omega)))
                have kh11 : xK h11 = xK h := kkh11.trans kh10
                have lh11 := stp_le (B := B) lh4.2
                refine r_iload C (dx dX3_readOne 59 rfl) rfl ?_
                refine r_iconst (v := -1) C (dx dX3_readOne 60 rfl) rfl ?_
                refine r_icmp_eq (tgt := 113) C (dx dX3_readOne 61 rfl) (by decide) (fun c12 => ?_) (fun c12 => ?_)
                · exact absurd c12 (nI_nm1 (by omega))
                ·
                  have c12 : ¬ nI (vN v) = -1 := c12
                  refine r_iconst (v := nI 1) C (dx dX3_readOne 62 rfl) rfl ?_
                  refine r_goto (tgt := 114) C (dx dX3_readOne 63 rfl) (by decide) ?_
                  have e9 : oneW B z (t, s, e) v = (true, (stp B z ((stp B z ((stp B z e).2.2)).2.2)), vset (addOneV v (nmQ B z (stp B z e) (nI 0) (nI 9)) (nI 0)) 6 (vN v) (vp_nar .boolean (nI 1))) := by unfold oneW oneA oneE; simp [c1, c3, c5, c7, c8, c12]
                  exact F.1 _ _ _ _ .boolean rfl rfl (dx dX3_readOne 65 rfl) kh11 (show some (vi (nI 1)) = some (vi (b2i (oneW B z (t, s, e) v).1)) ∧ RdAt h h11 k kv B z (oneW B z (t, s, e) v) from by rw [e9]; exact ⟨rfl, sh11, wh11, fh11⟩)
          ·
            have c5 : (wdB 7 B z (stp B z ((stp B z e).2.2)).1 (stp B z ((stp B z e).2.2)).2.1 (stp B z ((stp B z e).2.2)).2.2) = true := c5
            refine r_aload_n C (dx dX3_readOne 26 rfl) rfl ?_
            refine r_cv (as := []) (st := []) C X I_X3_step l_X3_28 (c_X3_step sh4 lh4.2) (by decide) (Nat.le_of_ble_eq_true rfl) List.prefix_rfl (pfx_eq kh4) rfl rfl (Nat.le_of_ble_eq_true rfl) rfl (dx dX3_readOne 27 rfl) ?_
            intro rh13 h13 hph13 kkh13
            obtain ⟨rfl, sh13, gh13⟩ := hph13
            have wh13 : VilAt h13 kv (v) := wh4.fr gh13 (by omega)
            have fh13 : Fs (RT k kv) h h13 := fh4.tr (Fs.of gh13 (fun b h1 h2 => Or.inl (by omega)))
            have kh13 : xK h13 = xK h := kkh13.trans kh4
            have lh13 := stp_le (B := B) lh4.2
            refine r_aload_n C (dx dX3_readOne 28 rfl) rfl ?_
            refine r_iconst (v := nI 0) C (dx dX3_readOne 29 rfl) rfl ?_
            refine r_bipush (v := nI 10) C (dx dX3_readOne 30 rfl) rfl ?_
            refine r_cvP (as := [vi (nI 0), vi (nI 10)]) (st := []) (v := vi (nmQ B z (stp B z ((stp B z ((stp B z e).2.2)).2.2)) (nI 0) (nI 10))) C X I_X3_numberIn l_X3_70 (c_X3_numberIn sh13 stp_5 lh13.1 lh13.2 _ _) (by decide) (Nat.le_of_ble_eq_true rfl) (pfx_eq kh13) rfl rfl (Nat.le_of_ble_eq_true rfl) rfl (dx dX3_readOne 31 rfl) ?_
            refine r_istore_n (ls' := [(0, vr 3 k), (1, vr 5 kv), (2, vi (nmQ B z (stp B z e) (nI 0) (nI 9))), (3, vi (nmQ B z (stp B z ((stp B z ((stp B z e).2.2)).2.2)) (nI 0) (nI 10)))]) C (dx dX3_readOne 32 rfl) (by decide) [1, 2, 3, 0] rfl ?_
            refine r_iload_n C (dx dX3_readOne 33 rfl) rfl ?_
            refine r_iconst (v := -1) C (dx dX3_readOne 34 rfl) rfl ?_
            refine r_icmp_ne (tgt := 64) C (dx dX3_readOne 35 rfl) (by decide) (fun c14 => ?_) (fun c14 => ?_)
            ·
              have c14 : ¬ nmQ B z (stp B z ((stp B z ((stp B z e).2.2)).2.2)) (nI 0) (nI 10) = -1 := c14
              refine r_aload_n C (dx dX3_readOne 38 rfl) rfl ?_
              refine r_cv (as := []) (st := []) C X I_X3_step l_X3_28 (c_X3_step sh13 lh13.2) (by decide) (Nat.le_of_ble_eq_true rfl) List.prefix_rfl (pfx_eq kh13) rfl rfl (Nat.le_of_ble_eq_true rfl) rfl (dx dX3_readOne 39 rfl) ?_
              intro rh15 h15 hph15 kkh15
              obtain ⟨rfl, sh15, gh15⟩ := hph15
              have wh15 : VilAt h15 kv (v) := wh13.fr gh15 (by omega)
              have fh15 : Fs (RT k kv) h h15 := fh13.tr (Fs.of gh15 (fun b h1 h2 => Or.inl (by omega)))
              have kh15 : xK h15 = xK h := kkh15.trans kh13
              have lh15 := stp_le (B := B) lh13.2
              refine r_aload_n C (dx dX3_readOne 40 rfl) rfl ?_
              refine r_iload_n C (dx dX3_readOne 41 rfl) rfl ?_
              refine r_iload_n C (dx dX3_readOne 42 rfl) rfl ?_
              refine r_cv (as := [vi (nmQ B z (stp B z e) (nI 0) (nI 9)), vi (nmQ B z (stp B z ((stp B z ((stp B z e).2.2)).2.2)) (nI 0) (nI 10))]) (st := []) C X I_X5_addOne l_X3_101 (c_X5_addOne wh15 (nmQ B z (stp B z e) (nI 0) (nI 9)) (nmQ B z (stp B z ((stp B z ((stp B z e).2.2)).2.2)) (nI 0) (nI 10)) (by omega)) (by decide) (Nat.le_of_ble_eq_true rfl) List.prefix_rfl (pfx_eq kh15) rfl rfl (Nat.le_of_ble_eq_true rfl) rfl (dx dX3_readOne 43 rfl) ?_
              intro rh16 h16 hph16 kkh16
              obtain ⟨rfl, wh16, gh16⟩ := hph16
              have sh16 : TkAt h16 k B z ((stp B z ((stp B z ((stp B z ((stp B z e).2.2)).2.2)).2.2)).1) ((stp B z ((stp B z ((stp B z ((stp B z e).2.2)).2.2)).2.2)).2.1) ((stp B z ((stp B z ((stp B z ((stp B z e).2.2)).2.2)).2.2)).2.2) := sh15.fr gh16 (by omega)
              have fh16 : Fs (RT k kv) h h16 := fh15.tr (Fs.of gh16 (fun b h1 h2 => Or.inr ⟨h1, h2⟩))
              have kh16 : xK h16 = xK h := kkh16.trans kh15
              refine r_istore (ls' := [(0, vr 3 k), (1, vr 5 kv), (2, vi (nmQ B z (stp B z e) (nI 0) (nI 9))), (3, vi (nmQ B z (stp B z ((stp B z ((stp B z e).2.2)).2.2)) (nI 0) (nI 10))), (4, vi (nI (vN v)))]) C (dx dX3_readOne 44 rfl) (by decide) [1, 2, 3, 4, 0] rfl ?_
              refine r_iload C (dx dX3_readOne 45 rfl) rfl ?_
              refine r_iconst (v := -1) C (dx dX3_readOne 46 rfl) rfl ?_
              refine r_icmp_eq (tgt := 103) C (dx dX3_readOne 47 rfl) (by decide) (fun c17 => ?_) (fun c17 => ?_)
              · exact absurd c17 (nI_nm1 (by omega))
              ·
                have c17 : ¬ nI (vN v) = -1 := c17
                refine r_aload_n C (dx dX3_readOne 48 rfl) rfl ?_
                refine r_ldcS C 8 rfl (dx dX3_readOne 49 rfl) ?_
                refine r_cvP (as := [vt 1008]) (st := []) (v := vi (b2i (wdB 8 B z (stp B z ((stp B z ((stp B z ((stp B z e).2.2)).2.2)).2.2)).1 (stp B z ((stp B z ((stp B z ((stp B z e).2.2)).2.2)).2.2)).2.1 (stp B z ((stp B z ((stp B z ((stp B z e).2.2)).2.2)).2.2)).2.2))) C X I_X3_isWord l_X3_37 (c_X3_isWord sh16 stp_5 lh15.1 lh15.2 (i := 8) (by omega)) (by decide) (Nat.le_of_ble_eq_true rfl) (pfx_eq kh16) rfl rfl (Nat.le_of_ble_eq_true rfl) rfl (dx dX3_readOne 50 rfl) ?_
                refine rb_eq (b := wdB 8 B z (stp B z ((stp B z ((stp B z ((stp B z e).2.2)).2.2)).2.2)).1 (stp B z ((stp B z ((stp B z ((stp B z e).2.2)).2.2)).2.2)).2.1 (stp B z ((stp B z ((stp B z ((stp B z e).2.2)).2.2)).2.2)).2.2) (tgt := 103) C (dx dX3_readOne 51 rfl) (by decide) (fun c18 => ?_) (fun c18 => ?_)
                ·
                  have c18 : (wdB 8 B z (stp B z ((stp B z ((stp B z ((stp B z e).2.2)).2.2)).2.2)).1 (stp B z ((stp B z ((stp B z ((stp B z e).2.2)).2.2)).2.2)).2.1 (stp B z ((stp B z ((stp B z ((stp B z e).2.2)).2.2)).2.2)).2.2) = false := c18
                  refine r_iload C (dx dX3_readOne 59 rfl) rfl ?_
                  refine r_iconst (v := -1) C (dx dX3_readOne 60 rfl) rfl ?_
                  refine r_icmp_eq (tgt := 113) C (dx dX3_readOne 61 rfl) (by decide) (fun c19 => ?_) (fun c19 => ?_)
                  · exact absurd c19 (nI_nm1 (by omega))
                  ·
                    have c19 : ¬ nI (vN v) = -1 := c19
                    refine r_iconst (v := nI 1) C (dx dX3_readOne 62 rfl) rfl ?_
                    refine r_goto (tgt := 114) C (dx dX3_readOne 63 rfl) (by decide) ?_
                    have e9 : oneW B z (t, s, e) v = (true, (stp B z ((stp B z ((stp B z ((stp B z e).2.2)).2.2)).2.2)), addOneV v (nmQ B z (stp B z e) (nI 0) (nI 9)) (nmQ B z (stp B z ((stp B z ((stp B z e).2.2)).2.2)) (nI 0) (nI 10))) := by unfold oneW oneA oneE; simp [c1, c3, c5, c14, c17, c18, c19]
                    exact F.1 _ _ _ _ .boolean rfl rfl (dx dX3_readOne 65 rfl) kh16 (show some (vi (nI 1)) = some (vi (b2i (oneW B z (t, s, e) v).1)) ∧ RdAt h h16 k kv B z (oneW B z (t, s, e) v) from by rw [e9]; exact ⟨rfl, sh16, wh16, fh16⟩)
                ·
                  have c18 : (wdB 8 B z (stp B z ((stp B z ((stp B z ((stp B z e).2.2)).2.2)).2.2)).1 (stp B z ((stp B z ((stp B z ((stp B z e).2.2)).2.2)).2.2)).2.1 (stp B z ((stp B z ((stp B z ((stp B z e).2.2)).2.2)).2.2)).2.2) = true := c18
                  refine r_aload_n C (dx dX3_readOne 52 rfl) rfl ?_
                  refine g_X3_106 C (dx dX3_readOne 53 rfl) ?_
                  refine r_iload C (dx dX3_readOne 54 rfl) rfl ?_
                  refine r_iconst (v := nI 1) C (dx dX3_readOne 55 rfl) rfl ?_
                  refine r_zast (j := vN v) C rfl rfl (by decide) rfl (by omega) (dx dX3_readOne 56 rfl) ?_
                  have wh20 : VilAt (sI h16 (kv + 7) (vN v) (vp_nar .boolean (nI 1))) kv (vset (addOneV v (nmQ B z (stp B z e) (nI 0) (nI 9)) (nmQ B z (stp B z ((stp B z ((stp B z e).2.2)).2.2)) (nI 0) (nI 10))) 6 (vN v) (vp_nar .boolean (nI 1))) := wh16.s6 rfl
                  have sh20 : TkAt (sI h16 (kv + 7) (vN v) (vp_nar .boolean (nI 1))) k B z ((stp B z ((stp B z ((stp B z ((stp B z e).2.2)).2.2)).2.2)).1) ((stp B z ((stp B z ((stp B z ((stp B z e).2.2)).2.2)).2.2)).2.1) ((stp B z ((stp B z ((stp B z ((stp B z e).2.2)).2.2)).2.2)).2.2) := sh16.fr (Fr.sI (lo := kv) (hi := kv + 9) (by omega) (by omega)) (by omega)
                  have fh20 : Fs (RT k kv) h (sI h16 (kv + 7) (vN v) (vp_nar .boolean (nI 1))) := fh16.tr (Fs.of (Fr.sI (lo := kv) (hi := kv + 9) (by omega) (by omega)) (fun b h1 h2 => Or.inr ⟨h1, h2⟩))
                  have kh20 : xK (sI h16 (kv + 7) (vN v) (vp_nar .boolean (nI 1))) = xK h := kh16
                  generalize sI h16 (kv + 7) (vN v) (vp_nar .boolean (nI 1)) = h20 at wh20 sh20 fh20 kh20 ⊢
                  refine r_aload_n C (dx dX3_readOne 57 rfl) rfl ?_
                  refine r_cv (as := []) (st := []) C X I_X3_step l_X3_28 (c_X3_step sh20 lh15.2) (by decide) (Nat.le_of_ble_eq_true rfl) List.prefix_rfl (pfx_eq kh20) rfl rfl (Nat.le_of_ble_eq_true rfl) rfl (dx dX3_readOne 58 rfl) ?_
                  intro rh21 h21 hph21 kkh21
                  obtain ⟨rfl, sh21, gh21⟩ := hph21
                  have wh21 : VilAt h21 kv (vset (addOneV v (nmQ B z (stp B z e) (nI 0) (nI 9)) (nmQ B z (stp B z ((stp B z ((stp B z e).2.2)).2.2)) (nI 0) (nI 10))) 6 (vN v) (vp_nar .boolean (nI 1))) := wh20.fr gh21 (by omega)
                  have fh21 : Fs (RT k kv) h h21 := fh20.tr (Fs.of gh21 (fun b h1 h2 => Or.inl (by omega)))
                  have kh21 : xK h21 = xK h := kkh21.trans kh20
                  have lh21 := stp_le (B := B) lh15.2
                  refine r_iload C (dx dX3_readOne 59 rfl) rfl ?_
                  refine r_iconst (v := -1) C (dx dX3_readOne 60 rfl) rfl ?_
                  refine r_icmp_eq (tgt := 113) C (dx dX3_readOne 61 rfl) (by decide) (fun c22 => ?_) (fun c22 => ?_)
                  · exact absurd c22 (nI_nm1 (by omega))
                  ·
                    have c22 : ¬ nI (vN v) = -1 := c22
                    refine r_iconst (v := nI 1) C (dx dX3_readOne 62 rfl) rfl ?_
                    refine r_goto (tgt := 114) C (dx dX3_readOne 63 rfl) (by decide) ?_
                    have e9 : oneW B z (t, s, e) v = (true, (stp B z ((stp B z ((stp B z ((stp B z ((stp B z e).2.2)).2.2)).2.2)).2.2)), vset (addOneV v (nmQ B z (stp B z e) (nI 0) (nI 9)) (nmQ B z (stp B z ((stp B z ((stp B z e).2.2)).2.2)) (nI 0) (nI 10))) 6 (vN v) (vp_nar .boolean (nI 1))) := by unfold oneW oneA oneE; simp [c1, c3, c5, c14, c17, c18, c22]
                    exact F.1 _ _ _ _ .boolean rfl rfl (dx dX3_readOne 65 rfl) kh21 (show some (vi (nI 1)) = some (vi (b2i (oneW B z (t, s, e) v).1)) ∧ RdAt h h21 k kv B z (oneW B z (t, s, e) v) from by rw [e9]; exact ⟨rfl, sh21, wh21, fh21⟩)
            ·
              have c14 : nmQ B z (stp B z ((stp B z ((stp B z e).2.2)).2.2)) (nI 0) (nI 10) = -1 := c14
              refine r_iconst (v := nI 0) C (dx dX3_readOne 36 rfl) rfl ?_
              have e9 : oneW B z (t, s, e) v = (false, (stp B z ((stp B z ((stp B z e).2.2)).2.2)), v) := by unfold oneW oneA oneE; simp [c1, c3, c5, c14]
              exact F.1 _ _ _ _ .boolean rfl rfl (dx dX3_readOne 37 rfl) kh13 (show some (vi (nI 0)) = some (vi (b2i (oneW B z (t, s, e) v).1)) ∧ RdAt h h13 k kv B z (oneW B z (t, s, e) v) from by rw [e9]; exact ⟨rfl, sh13, wh13, fh13⟩)
        ·
          have c3 : nmQ B z (stp B z e) (nI 0) (nI 9) = -1 := c3
          refine r_iconst (v := nI 0) C (dx dX3_readOne 16 rfl) rfl ?_
          have e9 : oneW B z (t, s, e) v = (false, (stp B z e), v) := by unfold oneW oneA oneE; simp [c1, c3]
          exact F.1 _ _ _ _ .boolean rfl rfl (dx dX3_readOne 17 rfl) kh2 (show some (vi (nI 0)) = some (vi (b2i (oneW B z (t, s, e) v).1)) ∧ RdAt h h2 k kv B z (oneW B z (t, s, e) v) from by rw [e9]; exact ⟨rfl, sh2, wh2, fh2⟩))
  · first
    | (omega; done)
    | (
        have c1 : 8 ≤ vN v := c1
        refine r_iconst (v := nI 0) C (dx dX3_readOne 4 rfl) rfl ?_
        have e9 : oneW B z (t, s, e) v = (false, (t, s, e), v) := by unfold oneW; rw [if_neg (by omega)]
        exact F.1 _ _ _ _ .boolean rfl rfl (dx dX3_readOne 5 rfl) rfl (show some (vi (nI 0)) = some (vi (b2i (oneW B z (t, s, e) v).1)) ∧ RdAt h h k kv B z (oneW B z (t, s, e) v) from by rw [e9]; exact ⟨rfl, hk, hv, Fs.rf⟩))
/-- the parts that a machine needs, as they are told -/
def ndR (B : Nat → Int32) (z : Nat) (v : Vg) : Nat → Tkn → Int32 → Bool × Tkn × Int32
  | 0, q, nd => (true, q, nd)
  | n + 1, q, nd => if nmQ B z (stp B z q.2.2) (nI 0) (nI (vP v) - nI 1) = -1 then (false, stp B z q.2.2, nd)
    else if wdB 5 B z (stp B z (stp B z q.2.2).2.2).1 (stp B z (stp B z q.2.2).2.2).2.1 (stp B z (stp B z q.2.2).2.2).2.2 = true then ndR B z v n (stp B z (stp B z q.2.2).2.2) (nd ||| (nI 1 <<< (nmQ B z (stp B z q.2.2) (nI 0) (nI (vP v) - nI 1) &&& 31)))
    else (true, stp B z (stp B z q.2.2).2.2, nd ||| (nI 1 <<< (nmQ B z (stp B z q.2.2) (nI 0) (nI (vP v) - nI 1) &&& 31)))
def mcR (B : Nat → Int32) (z e : Nat) (v : Vg) : Bool × Tkn × Int32 := ndR B z v 250 (stp B z (stp B z e).2.2) (nI 0)
def mcW (B : Nat → Int32) (z : Nat) (q : Tkn) (v : Vg) : Rd :=
  if vM v < 6 then
    (if nmQ B z (stp B z q.2.2) (nI 1) (nI 99) = -1 then (false, stp B z q.2.2, v)
     else if wdB 4 B z (stp B z (stp B z q.2.2).2.2).1 (stp B z (stp B z q.2.2).2.2).2.1 (stp B z (stp B z q.2.2).2.2).2.2 = true then
       (if (mcR B z q.2.2 v).1 = true then (true, (mcR B z q.2.2 v).2.1, addMacV v (mcR B z q.2.2 v).2.2 (nmQ B z (stp B z q.2.2) (nI 1) (nI 99))) else (false, (mcR B z q.2.2 v).2.1, v))
     else (false, stp B z (stp B z q.2.2).2.2, v))
  else (false, q, v)
set_option maxHeartbeats 4000000 in
theorem c_X3_readMachine {l : Launch} {h : Hp} {k kv : Nat} {B : Nat → Int32} {z t s e : Nat} {v : Vg} (hk : TkAt h k B z t s e) (he : e ≤ z) (hv : VilAt h kv v) (hd : kv + 9 ≤ k ∨ k + 2 ≤ kv) : Ms l yX3_readMachine cX3_readMachine 7 (some .boolean) 6 [vr 3 k, vr 5 kv] h (xK h) (fun r0 h' => r0 = some (vi (b2i (mcW B z (t, s, e) v).1)) ∧ RdAt h h' k kv B z (mcW B z (t, s, e) v)) := by
  refine Ms.of (by decide) (Nat.le_of_ble_eq_true rfl) (fun G C X F => ?_)
  have C : Cx G cX3_readMachine 7 RX3 := C
  show Rr G 0 [(0, vr 3 k), (1, vr 5 kv)] [] h
  have bP := hv.bP
  have bM := hv.bM
  have bN := hv.bN
  have bz := hk.1.2.2
  refine r_aload_n C (dx dX3_readMachine 0 rfl) rfl ?_
  refine g_X3_86 (x := nI (vM v)) C (dx dX3_readMachine 1 rfl) hv.eM ?_
  refine r_bipush (v := nI 6) C (dx dX3_readMachine 2 rfl) rfl ?_
  refine rn_lt (a := vM v) (b := 6) (tgt := 11) C (by omega) (by omega) (dx dX3_readMachine 3 rfl) (by decide) (fun c1 => ?_) (fun c1 => ?_)
  · first
    | (omega; done)
    | (
        have c1 : vM v < 6 := c1
        refine r_aload_n C (dx dX3_readMachine 6 rfl) rfl ?_
        refine r_cv (as := []) (st := []) C X I_X3_step l_X3_28 (c_X3_step hk he) (by decide) (Nat.le_of_ble_eq_true rfl) List.prefix_rfl List.prefix_rfl rfl rfl (Nat.le_of_ble_eq_true rfl) rfl (dx dX3_readMachine 7 rfl) ?_
        intro rh2 h2 hph2 kkh2
        obtain ⟨rfl, sh2, gh2⟩ := hph2
        have wh2 : VilAt h2 kv (v) := hv.fr gh2 (by omega)
        have fh2 : Fs (RT k kv) h h2 := (Fs.of gh2 (fun b h1 h2 => Or.inl (by omega)))
        have kh2 : xK h2 = xK h := kkh2
        have lh2 := stp_le (B := B) he
        refine r_aload_n C (dx dX3_readMachine 8 rfl) rfl ?_
        refine r_iconst (v := nI 1) C (dx dX3_readMachine 9 rfl) rfl ?_
        refine r_bipush (v := nI 99) C (dx dX3_readMachine 10 rfl) rfl ?_
        refine r_cvP (as := [vi (nI 1), vi (nI 99)]) (st := []) (v := vi (nmQ B z (stp B z e) (nI 1) (nI 99))) C X I_X3_numberIn l_X3_70 (c_X3_numberIn sh2 stp_5 lh2.1 lh2.2 _ _) (by decide) (Nat.le_of_ble_eq_true rfl) (pfx_eq kh2) rfl rfl (Nat.le_of_ble_eq_true rfl) rfl (dx dX3_readMachine 11 rfl) ?_
        refine r_istore_n (ls' := [(0, vr 3 k), (1, vr 5 kv), (2, vi (nmQ B z (stp B z e) (nI 1) (nI 99)))]) C (dx dX3_readMachine 12 rfl) (by decide) [1, 2, 0] rfl ?_
        refine r_iload_n C (dx dX3_readMachine 13 rfl) rfl ?_
        refine r_iconst (v := -1) C (dx dX3_readMachine 14 rfl) rfl ?_
        refine r_icmp_ne (tgt := 30) C (dx dX3_readMachine 15 rfl) (by decide) (fun c3 => ?_) (fun c3 => ?_)
        ·
          have c3 : ¬ nmQ B z (stp B z e) (nI 1) (nI 99) = -1 := c3
          refine r_aload_n C (dx dX3_readMachine 18 rfl) rfl ?_
          refine r_cv (as := []) (st := []) C X I_X3_step l_X3_28 (c_X3_step sh2 lh2.2) (by decide) (Nat.le_of_ble_eq_true rfl) List.prefix_rfl (pfx_eq kh2) rfl rfl (Nat.le_of_ble_eq_true rfl) rfl (dx dX3_readMachine 19 rfl) ?_
          intro rh4 h4 hph4 kkh4
          obtain ⟨rfl, sh4, gh4⟩ := hph4
          have wh4 : VilAt h4 kv (v) := wh2.fr gh4 (by omega)
          have fh4 : Fs (RT k kv) h h4 := fh2.tr (Fs.of gh4 (fun b h1 h2 => Or.inl (by omega)))
          have kh4 : xK h4 = xK h := kkh4.trans kh2
          have lh4 := stp_le (B := B) lh2.2
          refine r_aload_n C (dx dX3_readMachine 20 rfl) rfl ?_
          refine r_ldcS C 4 rfl (dx dX3_readMachine 21 rfl) ?_
          refine r_cvP (as := [vt 1004]) (st := []) (v := vi (b2i (wdB 4 B z (stp B z ((stp B z e).2.2)).1 (stp B z ((stp B z e).2.2)).2.1 (stp B z ((stp B z e).2.2)).2.2))) C X I_X3_isWord l_X3_37 (c_X3_isWord sh4 stp_5 lh4.1 lh4.2 (i := 4) (by omega)) (by decide) (Nat.le_of_ble_eq_true rfl) (pfx_eq kh4) rfl rfl (Nat.le_of_ble_eq_true rfl) rfl (dx dX3_readMachine 22 rfl) ?_
          refine rb_ne (b := wdB 4 B z (stp B z ((stp B z e).2.2)).1 (stp B z ((stp B z e).2.2)).2.1 (stp B z ((stp B z e).2.2)).2.2) (tgt := 45) C (dx dX3_readMachine 23 rfl) (by decide) (fun c5 => ?_) (fun c5 => ?_)
          ·
            have c5 : (wdB 4 B z (stp B z ((stp B z e).2.2)).1 (stp B z ((stp B z e).2.2)).2.1 (stp B z ((stp B z e).2.2)).2.2) = true := c5
            refine r_iconst (v := nI 0) C (dx dX3_readMachine 26 rfl) rfl ?_
            refine r_istore_n (ls' := [(0, vr 3 k), (1, vr 5 kv), (2, vi (nmQ B z (stp B z e) (nI 1) (nI 99))), (3, vi (nI 0))]) C (dx dX3_readMachine 27 rfl) (by decide) [1, 2, 3, 0] rfl ?_
            refine r_iconst (v := nI 1) C (dx dX3_readMachine 28 rfl) rfl ?_
            refine r_istore (ls' := [(0, vr 3 k), (1, vr 5 kv), (2, vi (nmQ B z (stp B z e) (nI 1) (nI 99))), (3, vi (nI 0)), (4, vi (nI 1))]) C (dx dX3_readMachine 29 rfl) (by decide) [1, 2, 3, 4, 0] rfl ?_
            refine r_iconst (v := nI 0) C (dx dX3_readMachine 30 rfl) rfl ?_
            refine r_istore (ls' := [(0, vr 3 k), (1, vr 5 kv), (2, vi (nmQ B z (stp B z e) (nI 1) (nI 99))), (3, vi (nI 0)), (4, vi (nI 1)), (5, vi (nI 0))]) C (dx dX3_readMachine 31 rfl) (by decide) [1, 2, 3, 4, 5, 0] rfl ?_
            refine loopU (Φ := fun p => ∀ (h9 : Hp) (q : Tkn) (nd : Int32), TkAt h9 k B z q.1 q.2.1 q.2.2 → q.2.1 ≤ q.2.2 ∧ q.2.2 ≤ z → q.1 < 5 → VilAt h9 kv v → Fs (RT k kv) h h9 → xK h9 = xK h → ndR B z v 250 (stp B z ((stp B z e).2.2)) (nI 0) = ndR B z v (250 - p) q nd → Rr G 53 [(0, vr 3 k), (1, vr 5 kv), (2, vi (nmQ B z (stp B z e) (nI 1) (nI 99))), (3, vi nd), (4, vi (nI 1)), (5, vi (nI p))] [] h9) (N := 250) ?_ ?_ 0 (Nat.zero_le _) _ (stp B z ((stp B z e).2.2)) (nI 0) sh4 lh4 stp_5 wh4 fh4 kh4 rfl
            ·
              intro h6 q nd sh6 lh6 th6 wh6 fh6 kh6 hI
              have hJ : mcR B z e v = (true, q, nd) := by unfold mcR; rw [hI]; rfl
              refine r_iload C (dx dX3_readMachine 32 rfl) rfl ?_
              refine r_sipush (v := nI 250) C (dx dX3_readMachine 33 rfl) rfl ?_
              refine rn_ge (a := 250) (b := 250) (tgt := 116) C (by omega) (by omega) (dx dX3_readMachine 34 rfl) (by decide) (fun c7 => ?_) (fun c7 => ?_)
              · first
                | (omega; done)
                | (
                    have c7 : 250 ≤ 250 := c7
                    refine r_aload_n C (dx dX3_readMachine 66 rfl) rfl ?_
                    refine r_iload_n C (dx dX3_readMachine 67 rfl) rfl ?_
                    refine r_iload_n C (dx dX3_readMachine 68 rfl) rfl ?_
                    refine r_cv (as := [vi nd, vi (nmQ B z (stp B z e) (nI 1) (nI 99))]) (st := []) C X I_X5_addMachine l_X3_96 (c_X5_addMachine wh6 nd (nmQ B z (stp B z e) (nI 1) (nI 99)) (by omega)) (by decide) (Nat.le_of_ble_eq_true rfl) List.prefix_rfl (pfx_eq kh6) rfl rfl (Nat.le_of_ble_eq_true rfl) rfl (dx dX3_readMachine 69 rfl) ?_
                    intro rh8 h8 hph8 kkh8
                    obtain ⟨rfl, wh8, gh8⟩ := hph8
                    have sh8 : TkAt h8 k B z q.1 q.2.1 q.2.2 := sh6.fr gh8 (by omega)
                    have fh8 : Fs (RT k kv) h h8 := fh6.tr (Fs.of gh8 (fun b h1 h2 => Or.inr ⟨h1, h2⟩))
                    have kh8 : xK h8 = xK h := kkh8.trans kh6
                    refine r_popI C (dx dX3_readMachine 70 rfl) ?_
                    refine r_iconst (v := nI 1) C (dx dX3_readMachine 71 rfl) rfl ?_
                    have e9 : mcW B z (t, s, e) v = (true, q, addMacV v nd (nmQ B z (stp B z e) (nI 1) (nI 99))) := by unfold mcW; rw [if_pos c1, if_neg c3, if_pos c5]; simp only [hJ]; rfl
                    exact F.1 _ _ _ _ .boolean rfl rfl (dx dX3_readMachine 72 rfl) kh8 (show some (vi (nI 1)) = some (vi (b2i (mcW B z (t, s, e) v).1)) ∧ RdAt h h8 k kv B z (mcW B z (t, s, e) v) from by rw [e9]; exact ⟨rfl, sh8, wh8, fh8⟩))
              · first
                | (omega; done)
            ·
              intro p hp ih h13 q nd sh13 lh13 th13 wh13 fh13 kh13 hI
              refine r_iload C (dx dX3_readMachine 32 rfl) rfl ?_
              refine r_sipush (v := nI 250) C (dx dX3_readMachine 33 rfl) rfl ?_
              refine rn_ge (a := p) (b := 250) (tgt := 116) C (by omega) (by omega) (dx dX3_readMachine 34 rfl) (by decide) (fun c14 => ?_) (fun c14 => ?_)
              · first
                | (omega; done)
                | (
                    have c14 : 250 ≤ p := c14
                    refine r_aload_n C (dx dX3_readMachine 66 rfl) rfl ?_
                    refine r_iload_n C (dx dX3_readMachine 67 rfl) rfl ?_
                    refine r_iload_n C (dx dX3_readMachine 68 rfl) rfl ?_
                    refine r_cv (as := [vi nd, vi (nmQ B z (stp B z e) (nI 1) (nI 99))]) (st := []) C X I_X5_addMachine l_X3_96 (c_X5_addMachine wh13 nd (nmQ B z (stp B z e) (nI 1) (nI 99)) (by omega)) (by decide) (Nat.le_of_ble_eq_true rfl) List.prefix_rfl (pfx_eq kh13) rfl rfl (Nat.le_of_ble_eq_true rfl) rfl (dx dX3_readMachine 69 rfl) ?_
                    intro rh15 h15 hph15 kkh15
                    obtain ⟨rfl, wh15, gh15⟩ := hph15
                    have sh15 : TkAt h15 k B z q.1 q.2.1 q.2.2 := sh13.fr gh15 (by omega)
                    have fh15 : Fs (RT k kv) h h15 := fh13.tr (Fs.of gh15 (fun b h1 h2 => Or.inr ⟨h1, h2⟩))
                    have kh15 : xK h15 = xK h := kkh15.trans kh13
                    refine r_popI C (dx dX3_readMachine 70 rfl) ?_
                    refine r_iconst (v := nI 1) C (dx dX3_readMachine 71 rfl) rfl ?_
                    have e9 : mcW B z (t, s, e) v = (true, q, addMacV v nd (nmQ B z (stp B z e) (nI 1) (nI 99))) := by skip
                    exact F.1 _ _ _ _ .boolean rfl rfl (dx dX3_readMachine 72 rfl) kh15 (show some (vi (nI 1)) = some (vi (b2i (mcW B z (t, s, e) v).1)) ∧ RdAt h h15 k kv B z (mcW B z (t, s, e) v) from by rw [e9]; exact ⟨rfl, sh15, wh15, fh15⟩))
              · first
                | (omega; done)
                | (
                    have c14 : p < 250 := c14
                    refine r_iload C (dx dX3_readMachine 35 rfl) rfl ?_
                    refine r_if_eq (tgt := 116) C (dx dX3_readMachine 36 rfl) (by decide) (fun c16 => (show False from by revert c16; decide).elim) (fun _ => ?_)
                    refine r_aload_n C (dx dX3_readMachine 37 rfl) rfl ?_
                    refine r_cv (as := []) (st := []) C X I_X3_step l_X3_28 (c_X3_step sh13 lh13.2) (by decide) (Nat.le_of_ble_eq_true rfl) List.prefix_rfl (pfx_eq kh13) rfl rfl (Nat.le_of_ble_eq_true rfl) rfl (dx dX3_readMachine 38 rfl) ?_
                    intro rh17 h17 hph17 kkh17
                    obtain ⟨rfl, sh17, gh17⟩ := hph17
                    have wh17 : VilAt h17 kv (v) := wh13.fr gh17 (by omega)
                    have fh17 : Fs (RT k kv) h h17 := fh13.tr (Fs.of gh17 (fun b h1 h2 => Or.inl (by omega)))
                    have kh17 : xK h17 = xK h := kkh17.trans kh13
                    have lh17 := stp_le (B := B) lh13.2
                    refine r_aload_n C (dx dX3_readMachine 39 rfl) rfl ?_
                    refine r_iconst (v := nI 0) C (dx dX3_readMachine 40 rfl) rfl ?_
                    refine r_aload_n C (dx dX3_readMachine 41 rfl) rfl ?_
                    refine g_X3_91 (x := nI (vP v)) C (dx dX3_readMachine 42 rfl) wh17.eP ?_
                    refine r_iconst (v := nI 1) C (dx dX3_readMachine 43 rfl) rfl ?_
                    refine r_isub C (dx dX3_readMachine 44 rfl) ?_
                    refine r_cvP (as := [vi (nI 0), vi ((nI (vP v)) - (nI 1))]) (st := []) (v := vi (nmQ B z (stp B z q.2.2) (nI 0) ((nI (vP v)) - (nI 1)))) C X I_X3_numberIn l_X3_70 (c_X3_numberIn sh17 stp_5 lh17.1 lh17.2 _ _) (by decide) (Nat.le_of_ble_eq_true rfl) (pfx_eq kh17) rfl rfl (Nat.le_of_ble_eq_true rfl) rfl (dx dX3_readMachine 45 rfl) ?_
                    refine r_istore (ls' := [(0, vr 3 k), (1, vr 5 kv), (2, vi (nmQ B z (stp B z e) (nI 1) (nI 99))), (3, vi nd), (4, vi (nI 1)), (5, vi (nI p)), (6, vi (nmQ B z (stp B z q.2.2) (nI 0) ((nI (vP v)) - (nI 1))))]) C (dx dX3_readMachine 46 rfl) (by decide) [1, 2, 3, 4, 5, 6, 0] rfl ?_
                    refine r_iload C (dx dX3_readMachine 47 rfl) rfl ?_
                    refine r_iconst (v := -1) C (dx dX3_readMachine 48 rfl) rfl ?_
                    refine r_icmp_ne (tgt := 91) C (dx dX3_readMachine 49 rfl) (by decide) (fun c18 => ?_) (fun c18 => ?_)
                    ·
                      have c18 : ¬ nmQ B z (stp B z q.2.2) (nI 0) ((nI (vP v)) - (nI 1)) = -1 := c18
                      refine r_iload_n C (dx dX3_readMachine 52 rfl) rfl ?_
                      refine r_iconst (v := nI 1) C (dx dX3_readMachine 53 rfl) rfl ?_
                      refine r_iload C (dx dX3_readMachine 54 rfl) rfl ?_
                      refine r_ishl C (dx dX3_readMachine 55 rfl) ?_
                      refine r_ior C (dx dX3_readMachine 56 rfl) ?_
                      refine r_istore_n (ls' := [(0, vr 3 k), (1, vr 5 kv), (2, vi (nmQ B z (stp B z e) (nI 1) (nI 99))), (3, vi (nd ||| ((nI 1) <<< ((nmQ B z (stp B z q.2.2) (nI 0) ((nI (vP v)) - (nI 1))) &&& 31)))), (4, vi (nI 1)), (5, vi (nI p)), (6, vi (nmQ B z (stp B z q.2.2) (nI 0) ((nI (vP v)) - (nI 1))))]) C (dx dX3_readMachine 57 rfl) (by decide) [1, 2, 3, 0, 4, 5, 6] rfl ?_
                      refine r_aload_n C (dx dX3_readMachine 58 rfl) rfl ?_
                      refine r_cv (as := []) (st := []) C X I_X3_step l_X3_28 (c_X3_step sh17 lh17.2) (by decide) (Nat.le_of_ble_eq_true rfl) List.prefix_rfl (pfx_eq kh17) rfl rfl (Nat.le_of_ble_eq_true rfl) rfl (dx dX3_readMachine 59 rfl) ?_
                      intro rh19 h19 hph19 kkh19
                      obtain ⟨rfl, sh19, gh19⟩ := hph19
                      have wh19 : VilAt h19 kv (v) := wh17.fr gh19 (by omega)
                      have fh19 : Fs (RT k kv) h h19 := fh17.tr (Fs.of gh19 (fun b h1 h2 => Or.inl (by omega)))
                      have kh19 : xK h19 = xK h := kkh19.trans kh17
                      have lh19 := stp_le (B := B) lh17.2
                      refine r_aload_n C (dx dX3_readMachine 60 rfl) rfl ?_
                      refine r_ldcS C 5 rfl (dx dX3_readMachine 61 rfl) ?_
                      refine r_cvP (as := [vt 1005]) (st := []) (v := vi (b2i (wdB 5 B z (stp B z ((stp B z q.2.2).2.2)).1 (stp B z ((stp B z q.2.2).2.2)).2.1 (stp B z ((stp B z q.2.2).2.2)).2.2))) C X I_X3_isWord l_X3_37 (c_X3_isWord sh19 stp_5 lh19.1 lh19.2 (i := 5) (by omega)) (by decide) (Nat.le_of_ble_eq_true rfl) (pfx_eq kh19) rfl rfl (Nat.le_of_ble_eq_true rfl) rfl (dx dX3_readMachine 62 rfl) ?_
                      refine r_istore (ls' := [(0, vr 3 k), (1, vr 5 kv), (2, vi (nmQ B z (stp B z e) (nI 1) (nI 99))), (3, vi (nd ||| ((nI 1) <<< ((nmQ B z (stp B z q.2.2) (nI 0) ((nI (vP v)) - (nI 1))) &&& 31)))), (4, vi (b2i (wdB 5 B z (stp B z ((stp B z q.2.2).2.2)).1 (stp B z ((stp B z q.2.2).2.2)).2.1 (stp B z ((stp B z q.2.2).2.2)).2.2))), (5, vi (nI p)), (6, vi (nmQ B z (stp B z q.2.2) (nI 0) ((nI (vP v)) - (nI 1))))]) C (dx dX3_readMachine 63 rfl) (by decide) [1, 2, 3, 4, 0, 5, 6] rfl ?_
                      refine rn_iinc (a := p) (k := 1) (ls' := [(0, vr 3 k), (1, vr 5 kv), (2, vi (nmQ B z (stp B z e) (nI 1) (nI 99))), (3, vi (nd ||| ((nI 1) <<< ((nmQ B z (stp B z q.2.2) (nI 0) ((nI (vP v)) - (nI 1))) &&& 31)))), (4, vi (b2i (wdB 5 B z (stp B z ((stp B z q.2.2).2.2)).1 (stp B z ((stp B z q.2.2).2.2)).2.1 (stp B z ((stp B z q.2.2).2.2)).2.2))), (5, vi (nI (p + 1))), (6, vi (nmQ B z (stp B z q.2.2) (nI 0) ((nI (vP v)) - (nI 1))))]) C (dx dX3_readMachine 64 rfl) rfl rfl (by decide) [1, 2, 3, 4, 5, 0, 6] rfl ?_
                      refine r_goto (tgt := 53) C (dx dX3_readMachine 65 rfl) (by decide) ?_
                      rcases Bool.eq_false_or_eq_true (wdB 5 B z (stp B z ((stp B z q.2.2).2.2)).1 (stp B z ((stp B z q.2.2).2.2)).2.1 (stp B z ((stp B z q.2.2).2.2)).2.2) with hw | hw
                      · rw [hw]
                        refine (?_ : Rr G 53 [(0, vr 3 k), (1, vr 5 kv), (2, vi (nmQ B z (stp B z e) (nI 1) (nI 99))), (3, vi (nd ||| ((nI 1) <<< ((nmQ B z (stp B z q.2.2) (nI 0) ((nI (vP v)) - (nI 1))) &&& 31)))), (4, vi (nI 1)), (5, vi (nI (p + 1))), (6, vi (nmQ B z (stp B z q.2.2) (nI 0) ((nI (vP v)) - (nI 1))))] [] h19)
                        refine r_weak C [0, 1, 2, 3, 4, 5] rfl ?_
                        exact ih _ _ _ sh19 lh19 stp_5 wh19 fh19 kh19 (by rw [hI, show 250 - p = (250 - (p + 1)) + 1 by omega]; simp only [ndR]; rw [if_neg c18, if_pos hw])
                      · rw [hw]
                        have hJ : mcR B z e v = (true, (stp B z ((stp B z q.2.2).2.2)), nd ||| ((nI 1) <<< ((nmQ B z (stp B z q.2.2) (nI 0) ((nI (vP v)) - (nI 1))) &&& 31))) := by unfold mcR; rw [hI, show 250 - p = (250 - (p + 1)) + 1 by omega]; simp only [ndR]; rw [if_neg c18, if_neg (by simp [hw])]
                        refine (?_ : Rr G 53 [(0, vr 3 k), (1, vr 5 kv), (2, vi (nmQ B z (stp B z e) (nI 1) (nI 99))), (3, vi (nd ||| ((nI 1) <<< ((nmQ B z (stp B z q.2.2) (nI 0) ((nI (vP v)) - (nI 1))) &&& 31)))), (4, vi (nI 0)), (5, vi (nI (p + 1))), (6, vi (nmQ B z (stp B z q.2.2) (nI 0) ((nI (vP v)) - (nI 1))))] [] h19)
                        refine r_iload C (dx dX3_readMachine 32 rfl) rfl ?_
                        refine r_sipush (v := nI 250) C (dx dX3_readMachine 33 rfl) rfl ?_
                        refine rn_ge (a := p + 1) (b := 250) (tgt := 116) C (by omega) (by omega) (dx dX3_readMachine 34 rfl) (by decide) (fun c20 => ?_) (fun c20 => ?_)
                        · first
                          | (omega; done)
                          | (
                              have c20 : 250 ≤ p + 1 := c20
                              refine r_aload_n C (dx dX3_readMachine 66 rfl) rfl ?_
                              refine r_iload_n C (dx dX3_readMachine 67 rfl) rfl ?_
                              refine r_iload_n C (dx dX3_readMachine 68 rfl) rfl ?_
                              refine r_cv (as := [vi (nd ||| ((nI 1) <<< ((nmQ B z (stp B z q.2.2) (nI 0) ((nI (vP v)) - (nI 1))) &&& 31))), vi (nmQ B z (stp B z e) (nI 1) (nI 99))]) (st := []) C X I_X5_addMachine l_X3_96 (c_X5_addMachine wh19 (nd ||| ((nI 1) <<< ((nmQ B z (stp B z q.2.2) (nI 0) ((nI (vP v)) - (nI 1))) &&& 31))) (nmQ B z (stp B z e) (nI 1) (nI 99)) (by omega)) (by decide) (Nat.le_of_ble_eq_true rfl) List.prefix_rfl (pfx_eq kh19) rfl rfl (Nat.le_of_ble_eq_true rfl) rfl (dx dX3_readMachine 69 rfl) ?_
                              intro rh21 h21 hph21 kkh21
                              obtain ⟨rfl, wh21, gh21⟩ := hph21
                              have sh21 : TkAt h21 k B z ((stp B z ((stp B z q.2.2).2.2)).1) ((stp B z ((stp B z q.2.2).2.2)).2.1) ((stp B z ((stp B z q.2.2).2.2)).2.2) := sh19.fr gh21 (by omega)
                              have fh21 : Fs (RT k kv) h h21 := fh19.tr (Fs.of gh21 (fun b h1 h2 => Or.inr ⟨h1, h2⟩))
                              have kh21 : xK h21 = xK h := kkh21.trans kh19
                              refine r_popI C (dx dX3_readMachine 70 rfl) ?_
                              refine r_iconst (v := nI 1) C (dx dX3_readMachine 71 rfl) rfl ?_
                              have e9 : mcW B z (t, s, e) v = (true, (stp B z ((stp B z q.2.2).2.2)), addMacV v (nd ||| ((nI 1) <<< ((nmQ B z (stp B z q.2.2) (nI 0) ((nI (vP v)) - (nI 1))) &&& 31))) (nmQ B z (stp B z e) (nI 1) (nI 99))) := by unfold mcW; rw [if_pos c1, if_neg c3, if_pos c5]; simp only [hJ]; rfl
                              exact F.1 _ _ _ _ .boolean rfl rfl (dx dX3_readMachine 72 rfl) kh21 (show some (vi (nI 1)) = some (vi (b2i (mcW B z (t, s, e) v).1)) ∧ RdAt h h21 k kv B z (mcW B z (t, s, e) v) from by rw [e9]; exact ⟨rfl, sh21, wh21, fh21⟩))
                        · first
                          | (omega; done)
                          | (
                              have c20 : p + 1 < 250 := c20
                              refine r_iload C (dx dX3_readMachine 35 rfl) rfl ?_
                              refine r_if_eq (tgt := 116) C (dx dX3_readMachine 36 rfl) (by decide) (fun _ => ?_) (fun c22 => (show False from by revert c22; decide).elim)
                              refine r_aload_n C (dx dX3_readMachine 66 rfl) rfl ?_
                              refine r_iload_n C (dx dX3_readMachine 67 rfl) rfl ?_
                              refine r_iload_n C (dx dX3_readMachine 68 rfl) rfl ?_
                              refine r_cv (as := [vi (nd ||| ((nI 1) <<< ((nmQ B z (stp B z q.2.2) (nI 0) ((nI (vP v)) - (nI 1))) &&& 31))), vi (nmQ B z (stp B z e) (nI 1) (nI 99))]) (st := []) C X I_X5_addMachine l_X3_96 (c_X5_addMachine wh19 (nd ||| ((nI 1) <<< ((nmQ B z (stp B z q.2.2) (nI 0) ((nI (vP v)) - (nI 1))) &&& 31))) (nmQ B z (stp B z e) (nI 1) (nI 99)) (by omega)) (by decide) (Nat.le_of_ble_eq_true rfl) List.prefix_rfl (pfx_eq kh19) rfl rfl (Nat.le_of_ble_eq_true rfl) rfl (dx dX3_readMachine 69 rfl) ?_
                              intro rh23 h23 hph23 kkh23
                              obtain ⟨rfl, wh23, gh23⟩ := hph23
                              have sh23 : TkAt h23 k B z ((stp B z ((stp B z q.2.2).2.2)).1) ((stp B z ((stp B z q.2.2).2.2)).2.1) ((stp B z ((stp B z q.2.2).2.2)).2.2) := sh19.fr gh23 (by omega)
                              have fh23 : Fs (RT k kv) h h23 := fh19.tr (Fs.of gh23 (fun b h1 h2 => Or.inr ⟨h1, h2⟩))
                              have kh23 : xK h23 = xK h := kkh23.trans kh19
                              refine r_popI C (dx dX3_readMachine 70 rfl) ?_
                              refine r_iconst (v := nI 1) C (dx dX3_readMachine 71 rfl) rfl ?_
                              have e9 : mcW B z (t, s, e) v = (true, (stp B z ((stp B z q.2.2).2.2)), addMacV v (nd ||| ((nI 1) <<< ((nmQ B z (stp B z q.2.2) (nI 0) ((nI (vP v)) - (nI 1))) &&& 31))) (nmQ B z (stp B z e) (nI 1) (nI 99))) := by unfold mcW; rw [if_pos c1, if_neg c3, if_pos c5]; simp only [hJ]; rfl
                              exact F.1 _ _ _ _ .boolean rfl rfl (dx dX3_readMachine 72 rfl) kh23 (show some (vi (nI 1)) = some (vi (b2i (mcW B z (t, s, e) v).1)) ∧ RdAt h h23 k kv B z (mcW B z (t, s, e) v) from by rw [e9]; exact ⟨rfl, sh23, wh23, fh23⟩))
                    ·
                      have c18 : nmQ B z (stp B z q.2.2) (nI 0) ((nI (vP v)) - (nI 1)) = -1 := c18
                      refine r_iconst (v := nI 0) C (dx dX3_readMachine 50 rfl) rfl ?_
                      have e9 : mcW B z (t, s, e) v = (false, (stp B z q.2.2), v) := by have hJ : mcR B z e v = (false, (stp B z q.2.2), nd) := (by unfold mcR; rw [hI, show 250 - p = (250 - (p + 1)) + 1 by omega]; simp only [ndR]; rw [if_pos c18]); unfold mcW; rw [if_pos c1, if_neg c3, if_pos c5]; simp only [hJ]; rfl
                      exact F.1 _ _ _ _ .boolean rfl rfl (dx dX3_readMachine 51 rfl) kh17 (show some (vi (nI 0)) = some (vi (b2i (mcW B z (t, s, e) v).1)) ∧ RdAt h h17 k kv B z (mcW B z (t, s, e) v) from by rw [e9]; exact ⟨rfl, sh17, wh17, fh17⟩))
          ·
            have c5 : (wdB 4 B z (stp B z ((stp B z e).2.2)).1 (stp B z ((stp B z e).2.2)).2.1 (stp B z ((stp B z e).2.2)).2.2) = false := c5
            refine r_iconst (v := nI 0) C (dx dX3_readMachine 24 rfl) rfl ?_
            have e9 : mcW B z (t, s, e) v = (false, (stp B z ((stp B z e).2.2)), v) := by unfold mcW; rw [if_pos c1, if_neg c3, if_neg (by simp [c5])]
            exact F.1 _ _ _ _ .boolean rfl rfl (dx dX3_readMachine 25 rfl) kh4 (show some (vi (nI 0)) = some (vi (b2i (mcW B z (t, s, e) v).1)) ∧ RdAt h h4 k kv B z (mcW B z (t, s, e) v) from by rw [e9]; exact ⟨rfl, sh4, wh4, fh4⟩)
        ·
          have c3 : nmQ B z (stp B z e) (nI 1) (nI 99) = -1 := c3
          refine r_iconst (v := nI 0) C (dx dX3_readMachine 16 rfl) rfl ?_
          have e9 : mcW B z (t, s, e) v = (false, (stp B z e), v) := by unfold mcW; rw [if_pos c1, if_pos c3]
          exact F.1 _ _ _ _ .boolean rfl rfl (dx dX3_readMachine 17 rfl) kh2 (show some (vi (nI 0)) = some (vi (b2i (mcW B z (t, s, e) v).1)) ∧ RdAt h h2 k kv B z (mcW B z (t, s, e) v) from by rw [e9]; exact ⟨rfl, sh2, wh2, fh2⟩))
  · first
    | (omega; done)
    | (
        have c1 : 6 ≤ vM v := c1
        refine r_iconst (v := nI 0) C (dx dX3_readMachine 4 rfl) rfl ?_
        have e9 : mcW B z (t, s, e) v = (false, (t, s, e), v) := by unfold mcW; rw [if_neg (by omega)]
        exact F.1 _ _ _ _ .boolean rfl rfl (dx dX3_readMachine 5 rfl) rfl (show some (vi (nI 0)) = some (vi (b2i (mcW B z (t, s, e) v).1)) ∧ RdAt h h k kv B z (mcW B z (t, s, e) v) from by rw [e9]; exact ⟨rfl, hk, hv, Fs.rf⟩))
def stW (B : Nat → Int32) (z : Nat) (q : Tkn) (v : Vg) : Rd :=
  if wdB 0 B z q.1 q.2.1 q.2.2 = true then ptW B z q v else if wdB 3 B z q.1 q.2.1 q.2.2 = true then mcW B z q v
  else if wdB 6 B z q.1 q.2.1 q.2.2 = true then oneW B z q v else if wdB 9 B z q.1 q.2.1 q.2.2 = true then gvW B z q.2.2 v else (false, q, v)
set_option maxHeartbeats 4000000 in
theorem c_X3_readStatement {l : Launch} {h : Hp} {k kv : Nat} {B : Nat → Int32} {z t s e : Nat} {v : Vg} (hk : TkAt h k B z t s e) (he : e ≤ z) (hv : VilAt h kv v) (hd : kv + 9 ≤ k ∨ k + 2 ≤ kv) (ht5 : t < 5) (hse : s ≤ e) : Ms l yX3_readStatement cX3_readStatement 2 (some .boolean) 7 [vr 3 k, vr 5 kv] h (xK h) (fun r0 h' => r0 = some (vi (b2i (stW B z (t, s, e) v).1)) ∧ RdAt h h' k kv B z (stW B z (t, s, e) v)) := by
  refine Ms.of (by decide) (Nat.le_of_ble_eq_true rfl) (fun G C X F => ?_)
  have C : Cx G cX3_readStatement 2 RX3 := C
  show Rr G 0 [(0, vr 3 k), (1, vr 5 kv)] [] h
  have bP := hv.bP
  have bM := hv.bM
  have bN := hv.bN
  have bz := hk.1.2.2
  refine r_aload_n C (dx dX3_readStatement 0 rfl) rfl ?_
  refine r_ldcS C 0 rfl (dx dX3_readStatement 1 rfl) ?_
  refine r_cvP (as := [vt 1000]) (st := []) (v := vi (b2i (wdB 0 B z (t, s, e).1 (t, s, e).2.1 (t, s, e).2.2))) C X I_X3_isWord l_X3_37 (c_X3_isWord hk ht5 (⟨hse, he⟩ : s ≤ e ∧ e ≤ z).1 (⟨hse, he⟩ : s ≤ e ∧ e ≤ z).2 (i := 0) (by omega)) (by decide) (Nat.le_of_ble_eq_true rfl) List.prefix_rfl rfl rfl (Nat.le_of_ble_eq_true rfl) rfl (dx dX3_readStatement 2 rfl) ?_
  refine rb_eq (b := wdB 0 B z (t, s, e).1 (t, s, e).2.1 (t, s, e).2.2) (tgt := 15) C (dx dX3_readStatement 3 rfl) (by decide) (fun c1 => ?_) (fun c1 => ?_)
  ·
    have c1 : (wdB 0 B z (t, s, e).1 (t, s, e).2.1 (t, s, e).2.2) = false := c1
    refine r_aload_n C (dx dX3_readStatement 8 rfl) rfl ?_
    refine r_ldcS C 3 rfl (dx dX3_readStatement 9 rfl) ?_
    refine r_cvP (as := [vt 1003]) (st := []) (v := vi (b2i (wdB 3 B z (t, s, e).1 (t, s, e).2.1 (t, s, e).2.2))) C X I_X3_isWord l_X3_37 (c_X3_isWord hk ht5 (⟨hse, he⟩ : s ≤ e ∧ e ≤ z).1 (⟨hse, he⟩ : s ≤ e ∧ e ≤ z).2 (i := 3) (by omega)) (by decide) (Nat.le_of_ble_eq_true rfl) List.prefix_rfl rfl rfl (Nat.le_of_ble_eq_true rfl) rfl (dx dX3_readStatement 10 rfl) ?_
    refine rb_eq (b := wdB 3 B z (t, s, e).1 (t, s, e).2.1 (t, s, e).2.2) (tgt := 30) C (dx dX3_readStatement 11 rfl) (by decide) (fun c2 => ?_) (fun c2 => ?_)
    ·
      have c2 : (wdB 3 B z (t, s, e).1 (t, s, e).2.1 (t, s, e).2.2) = false := c2
      refine r_aload_n C (dx dX3_readStatement 16 rfl) rfl ?_
      refine r_ldcS C 6 rfl (dx dX3_readStatement 17 rfl) ?_
      refine r_cvP (as := [vt 1006]) (st := []) (v := vi (b2i (wdB 6 B z (t, s, e).1 (t, s, e).2.1 (t, s, e).2.2))) C X I_X3_isWord l_X3_37 (c_X3_isWord hk ht5 (⟨hse, he⟩ : s ≤ e ∧ e ≤ z).1 (⟨hse, he⟩ : s ≤ e ∧ e ≤ z).2 (i := 6) (by omega)) (by decide) (Nat.le_of_ble_eq_true rfl) List.prefix_rfl rfl rfl (Nat.le_of_ble_eq_true rfl) rfl (dx dX3_readStatement 18 rfl) ?_
      refine rb_eq (b := wdB 6 B z (t, s, e).1 (t, s, e).2.1 (t, s, e).2.2) (tgt := 45) C (dx dX3_readStatement 19 rfl) (by decide) (fun c3 => ?_) (fun c3 => ?_)
      ·
        have c3 : (wdB 6 B z (t, s, e).1 (t, s, e).2.1 (t, s, e).2.2) = false := c3
        refine r_aload_n C (dx dX3_readStatement 24 rfl) rfl ?_
        refine r_ldcS C 9 rfl (dx dX3_readStatement 25 rfl) ?_
        refine r_cvP (as := [vt 1009]) (st := []) (v := vi (b2i (wdB 9 B z (t, s, e).1 (t, s, e).2.1 (t, s, e).2.2))) C X I_X3_isWord l_X3_37 (c_X3_isWord hk ht5 (⟨hse, he⟩ : s ≤ e ∧ e ≤ z).1 (⟨hse, he⟩ : s ≤ e ∧ e ≤ z).2 (i := 9) (by omega)) (by decide) (Nat.le_of_ble_eq_true rfl) List.prefix_rfl rfl rfl (Nat.le_of_ble_eq_true rfl) rfl (dx dX3_readStatement 26 rfl) ?_
        refine rb_eq (b := wdB 9 B z (t, s, e).1 (t, s, e).2.1 (t, s, e).2.2) (tgt := 66) C (dx dX3_readStatement 27 rfl) (by decide) (fun c4 => ?_) (fun c4 => ?_)
        ·
          have c4 : (wdB 9 B z (t, s, e).1 (t, s, e).2.1 (t, s, e).2.2) = false := c4
          refine r_iconst (v := nI 0) C (dx dX3_readStatement 34 rfl) rfl ?_
          have e9 : stW B z (t, s, e) v = (false, (t, s, e), v) := by unfold stW; rw [if_neg (by simp [c1]), if_neg (by simp [c2]), if_neg (by simp [c3]), if_neg (by simp [c4])]
          exact F.1 _ _ _ _ .boolean rfl rfl (dx dX3_readStatement 35 rfl) rfl (show some (vi (nI 0)) = some (vi (b2i (stW B z (t, s, e) v).1)) ∧ RdAt h h k kv B z (stW B z (t, s, e) v) from by rw [e9]; exact ⟨rfl, hk, hv, Fs.rf⟩)
        ·
          have c4 : (wdB 9 B z (t, s, e).1 (t, s, e).2.1 (t, s, e).2.2) = true := c4
          refine r_aload_n C (dx dX3_readStatement 28 rfl) rfl ?_
          refine r_aload_n C (dx dX3_readStatement 29 rfl) rfl ?_
          refine r_cv (as := [vr 5 kv]) (st := []) C X I_X3_readGives l_X3_56 (c_X3_readGives hk he hv hd) (by decide) (Nat.le_of_ble_eq_true rfl) List.prefix_rfl List.prefix_rfl rfl rfl (Nat.le_of_ble_eq_true rfl) rfl (dx dX3_readStatement 30 rfl) ?_
          intro rh5 h5 hph5 kkh5
          obtain ⟨rfl, wh5⟩ := hph5
          refine rb_eq (b := (gvW B z e v).1) (tgt := 66) C (dx dX3_readStatement 31 rfl) (by decide) (fun c6 => ?_) (fun c6 => ?_)
          ·
            have c6 : ((gvW B z e v).1) = false := c6
            refine r_iconst (v := nI 0) C (dx dX3_readStatement 34 rfl) rfl ?_
            have e9 : stW B z (t, s, e) v = gvW B z e v := by unfold stW; rw [if_neg (by simp [c1]), if_neg (by simp [c2]), if_neg (by simp [c3]), if_pos c4]
            exact F.1 _ _ _ _ .boolean rfl rfl (dx dX3_readStatement 35 rfl) kkh5 (show some (vi (nI 0)) = some (vi (b2i (stW B z (t, s, e) v).1)) ∧ RdAt h h5 k kv B z (stW B z (t, s, e) v) from by rw [e9]; exact ⟨by rw [c6]; rfl, wh5⟩)
          ·
            have c6 : ((gvW B z e v).1) = true := c6
            refine r_iconst (v := nI 1) C (dx dX3_readStatement 32 rfl) rfl ?_
            refine r_goto (tgt := 67) C (dx dX3_readStatement 33 rfl) (by decide) ?_
            have e9 : stW B z (t, s, e) v = gvW B z e v := by unfold stW; rw [if_neg (by simp [c1]), if_neg (by simp [c2]), if_neg (by simp [c3]), if_pos c4]
            exact F.1 _ _ _ _ .boolean rfl rfl (dx dX3_readStatement 35 rfl) kkh5 (show some (vi (nI 1)) = some (vi (b2i (stW B z (t, s, e) v).1)) ∧ RdAt h h5 k kv B z (stW B z (t, s, e) v) from by rw [e9]; exact ⟨by rw [c6]; rfl, wh5⟩)
      ·
        have c3 : (wdB 6 B z (t, s, e).1 (t, s, e).2.1 (t, s, e).2.2) = true := c3
        refine r_aload_n C (dx dX3_readStatement 20 rfl) rfl ?_
        refine r_aload_n C (dx dX3_readStatement 21 rfl) rfl ?_
        refine r_cv (as := [vr 5 kv]) (st := []) C X I_X3_readOne l_X3_51 (c_X3_readOne hk he hv hd) (by decide) (Nat.le_of_ble_eq_true rfl) List.prefix_rfl List.prefix_rfl rfl rfl (Nat.le_of_ble_eq_true rfl) rfl (dx dX3_readStatement 22 rfl) ?_
        intro rh7 h7 hph7 kkh7
        obtain ⟨rfl, wh7⟩ := hph7
        have e9 : stW B z (t, s, e) v = oneW B z (t, s, e) v := by unfold stW; rw [if_neg (by simp [c1]), if_neg (by simp [c2]), if_pos c3]
        exact F.1 _ _ _ _ .boolean rfl (nar_b _) (dx dX3_readStatement 23 rfl) kkh7 (show some (vi (b2i ((oneW B z (t, s, e) v).1))) = some (vi (b2i (stW B z (t, s, e) v).1)) ∧ RdAt h h7 k kv B z (stW B z (t, s, e) v) from by rw [e9]; exact ⟨rfl, wh7⟩)
    ·
      have c2 : (wdB 3 B z (t, s, e).1 (t, s, e).2.1 (t, s, e).2.2) = true := c2
      refine r_aload_n C (dx dX3_readStatement 12 rfl) rfl ?_
      refine r_aload_n C (dx dX3_readStatement 13 rfl) rfl ?_
      refine r_cv (as := [vr 5 kv]) (st := []) C X I_X3_readMachine l_X3_46 (c_X3_readMachine hk he hv hd) (by decide) (Nat.le_of_ble_eq_true rfl) List.prefix_rfl List.prefix_rfl rfl rfl (Nat.le_of_ble_eq_true rfl) rfl (dx dX3_readStatement 14 rfl) ?_
      intro rh8 h8 hph8 kkh8
      obtain ⟨rfl, wh8⟩ := hph8
      have e9 : stW B z (t, s, e) v = mcW B z (t, s, e) v := by unfold stW; rw [if_neg (by simp [c1]), if_pos c2]
      exact F.1 _ _ _ _ .boolean rfl (nar_b _) (dx dX3_readStatement 15 rfl) kkh8 (show some (vi (b2i ((mcW B z (t, s, e) v).1))) = some (vi (b2i (stW B z (t, s, e) v).1)) ∧ RdAt h h8 k kv B z (stW B z (t, s, e) v) from by rw [e9]; exact ⟨rfl, wh8⟩)
  ·
    have c1 : (wdB 0 B z (t, s, e).1 (t, s, e).2.1 (t, s, e).2.2) = true := c1
    refine r_aload_n C (dx dX3_readStatement 4 rfl) rfl ?_
    refine r_aload_n C (dx dX3_readStatement 5 rfl) rfl ?_
    refine r_cv (as := [vr 5 kv]) (st := []) C X I_X3_readPart l_X3_41 (c_X3_readPart hk he hv hd) (by decide) (Nat.le_of_ble_eq_true rfl) List.prefix_rfl List.prefix_rfl rfl rfl (Nat.le_of_ble_eq_true rfl) rfl (dx dX3_readStatement 6 rfl) ?_
    intro rh9 h9 hph9 kkh9
    obtain ⟨rfl, wh9⟩ := hph9
    have e9 : stW B z (t, s, e) v = ptW B z (t, s, e) v := by unfold stW; rw [if_pos c1]
    exact F.1 _ _ _ _ .boolean rfl (nar_b _) (dx dX3_readStatement 7 rfl) kkh9 (show some (vi (b2i ((ptW B z (t, s, e) v).1))) = some (vi (b2i (stW B z (t, s, e) v).1)) ∧ RdAt h h9 k kv B z (stW B z (t, s, e) v) from by rw [e9]; exact ⟨rfl, wh9⟩)
/-- a token of the tape -/
def Tok (z : Nat) (q : Tkn) : Prop := q.1 < 5 ∧ q.2.1 ≤ q.2.2 ∧ q.2.2 ≤ z
theorem stp_tok {B : Nat → Int32} {z e : Nat} (h : e ≤ z) : Tok z (stp B z e) := ⟨stp_5, (stp_le h).1, (stp_le h).2⟩
theorem byS_tok {B : Nat → Int32} {z c i p : Nat} {q : Tkn} {v : Vg} (h : Tok z q) : Tok z (byS B z c i p q v).2.1 := by
  unfold byS
  split
  · split
    · exact stp_tok (stp_tok h.2.2).2.2
    · exact stp_tok h.2.2
  · exact h
theorem ptW_tok {B : Nat → Int32} {z : Nat} {q : Tkn} {v : Vg} (h : Tok z q) : Tok z (ptW B z q v).2.1 := by
  unfold ptW
  split
  · split
    · exact byS_tok (byS_tok (stp_tok h.2.2))
    · exact byS_tok (stp_tok h.2.2)
  · exact h
theorem oneE_tok {B : Nat → Int32} {z : Nat} {q : Tkn} {v : Vg} {x a : Int32} (h : Tok z q) : Tok z (oneE B z q v x a).2.1 := by
  unfold oneE
  split
  · exact stp_tok h.2.2
  · exact h
theorem oneA_tok {B : Nat → Int32} {z : Nat} {q : Tkn} {v : Vg} {x : Int32} (h : Tok z q) : Tok z (oneA B z q v x).2.1 := by
  unfold oneA
  split
  · split
    · exact stp_tok h.2.2
    · exact oneE_tok (stp_tok (stp_tok h.2.2).2.2)
  · exact oneE_tok h
theorem oneW_tok {B : Nat → Int32} {z : Nat} {q : Tkn} {v : Vg} (h : Tok z q) : Tok z (oneW B z q v).2.1 := by
  unfold oneW
  split
  · split
    · exact stp_tok h.2.2
    · exact oneA_tok (stp_tok (stp_tok h.2.2).2.2)
  · exact h
theorem gvW_tok {B : Nat → Int32} {z e : Nat} {v : Vg} (h : e ≤ z) : Tok z (gvW B z e v).2.1 := by
  unfold gvW
  split
  · exact stp_tok h
  · split
    · exact stp_tok (stp_tok h).2.2
    · exact stp_tok (stp_tok (stp_tok h).2.2).2.2
theorem ndR_tok {B : Nat → Int32} {z : Nat} {v : Vg} : ∀ (n : Nat) (q : Tkn) (nd : Int32), Tok z q → Tok z (ndR B z v n q nd).2.1
  | 0, _, _, h => h
  | n + 1, q, nd, h => by
    simp only [ndR]
    split
    · exact stp_tok h.2.2
    · split
      · exact ndR_tok n _ _ (stp_tok (stp_tok h.2.2).2.2)
      · exact stp_tok (stp_tok h.2.2).2.2
theorem mcW_tok {B : Nat → Int32} {z : Nat} {q : Tkn} {v : Vg} (h : Tok z q) : Tok z (mcW B z q v).2.1 := by
  have hm : Tok z (mcR B z q.2.2 v).2.1 := ndR_tok _ _ _ (stp_tok (stp_tok h.2.2).2.2)
  unfold mcW
  split
  · split
    · exact stp_tok h.2.2
    · split
      · split
        · exact hm
        · exact hm
      · exact stp_tok (stp_tok h.2.2).2.2
  · exact h
theorem stW_tok {B : Nat → Int32} {z : Nat} {q : Tkn} {v : Vg} (h : Tok z q) : Tok z (stW B z q v).2.1 := by
  unfold stW
  split
  · exact ptW_tok h
  · split
    · exact mcW_tok h
    · split
      · exact oneW_tok h
      · split
        · exact gvW_tok h.2.2
        · exact h
/-- statement by statement: how many, or none -/
def riS (B : Nat → Int32) (z : Nat) : Nat → Nat → Tkn → Vg → Int32 × Tkn × Vg
  | 0, _, q, v => (-1, q, v)
  | f + 1, n, q, v => if (stW B z q v).1 = false then (-1, (stW B z q v).2) else if (stW B z q v).2.1.1 = 3 then (nI n, (stW B z q v).2)
    else if (stW B z q v).2.1.1 = 2 then riS B z f (n + 1) (stp B z (stW B z q v).2.1.2.2) (stW B z q v).2.2 else (-1, (stW B z q v).2)
def RiAt (h0 h : Hp) (k kv : Nat) (B : Nat → Int32) (z : Nat) (w : Int32 × Tkn × Vg) : Prop := TkAt h k B z w.2.1.1 w.2.1.2.1 w.2.1.2.2 ∧ VilAt h kv w.2.2 ∧ Fs (RT k kv) h0 h
set_option maxHeartbeats 4000000 in
theorem c_X3_readInto {l : Launch} {h : Hp} {k kv : Nat} {B : Nat → Int32} {z t s e : Nat} {v : Vg} (hk : TkAt h k B z t s e) (hv : VilAt h kv v) (hd : kv + 9 ≤ k ∨ k + 2 ≤ kv) : Ms l yX3_readInto cX3_readInto 3 (some .int) 8 [vr 3 k, vr 5 kv] h (xK h) (fun r0 h' => r0 = some (vi (riS B z 250 1 (stp B z 0) v).1) ∧ RiAt h h' k kv B z (riS B z 250 1 (stp B z 0) v)) := by
  refine Ms.of (by decide) (Nat.le_of_ble_eq_true rfl) (fun G C X F => ?_)
  have C : Cx G cX3_readInto 3 RX3 := C
  show Rr G 0 [(0, vr 3 k), (1, vr 5 kv)] [] h
  have bP := hv.bP
  have bM := hv.bM
  have bN := hv.bN
  have bz := hk.1.2.2
  refine r_aload_n C (dx dX3_readInto 0 rfl) rfl ?_
  refine r_iconst (v := nI 0) C (dx dX3_readInto 1 rfl) rfl ?_
  refine p_X3_25 C (dx dX3_readInto 2 rfl) rfl rfl ?_
  have sh1 : TkAt (sI h k 4 (nI 0)) k B z t s 0 := hk.w4
  have wh1 : VilAt (sI h k 4 (nI 0)) kv (v) := hv.fr (Fr.sI (lo := k) (hi := k + 1) (by omega) (by omega)) (by omega)
  have fh1 : Fs (RT k kv) h (sI h k 4 (nI 0)) := (Fs.of (Fr.sI (lo := k) (hi := k + 1) (by omega) (by omega)) (fun b h1 h2 => Or.inl (by omega)))
  have kh1 : xK (sI h k 4 (nI 0)) = xK h := rfl
  generalize sI h k 4 (nI 0) = h1 at wh1 sh1 fh1 kh1 ⊢
  refine r_aload_n C (dx dX3_readInto 3 rfl) rfl ?_
  refine r_cv (as := []) (st := []) C X I_X3_step l_X3_28 (c_X3_step sh1 (Nat.zero_le z)) (by decide) (Nat.le_of_ble_eq_true rfl) List.prefix_rfl (pfx_eq kh1) rfl rfl (Nat.le_of_ble_eq_true rfl) rfl (dx dX3_readInto 4 rfl) ?_
  intro rh2 h2 hph2 kkh2
  obtain ⟨rfl, sh2, gh2⟩ := hph2
  have wh2 : VilAt h2 kv (v) := wh1.fr gh2 (by omega)
  have fh2 : Fs (RT k kv) h h2 := fh1.tr (Fs.of gh2 (fun b h1 h2 => Or.inl (by omega)))
  have kh2 : xK h2 = xK h := kkh2.trans kh1
  have lh2 := stp_le (B := B) (Nat.zero_le z)
  refine r_iconst (v := nI 1) C (dx dX3_readInto 5 rfl) rfl ?_
  refine r_istore_n (ls' := [(0, vr 3 k), (1, vr 5 kv), (2, vi (nI 1))]) C (dx dX3_readInto 6 rfl) (by decide) [1, 2, 0] rfl ?_
  refine loopU (Φ := fun p => ∀ (h9 : Hp) (q : Tkn) (v9 : Vg), TkAt h9 k B z q.1 q.2.1 q.2.2 → Tok z q → VilAt h9 kv v9 → Fs (RT k kv) h h9 → xK h9 = xK h → riS B z 250 1 (stp B z 0) v = riS B z (251 - p) p q v9 → Rr G 11 [(0, vr 3 k), (1, vr 5 kv), (2, vi (nI p))] [] h9) (N := 251) ?_ ?_ 1 (by omega) _ (stp B z 0) _ sh2 (stp_tok (Nat.zero_le z)) wh2 fh2 kh2 rfl
  ·
    intro h3 q v9 sh3 oh3 wh3 fh3 kh3 hI
    refine r_iload_n C (dx dX3_readInto 7 rfl) rfl ?_
    refine r_sipush (v := nI 250) C (dx dX3_readInto 8 rfl) rfl ?_
    refine rn_gt (a := 251) (b := 250) (tgt := 58) C (by omega) (by omega) (dx dX3_readInto 9 rfl) (by decide) (fun c4 => ?_) (fun c4 => ?_)
    · first
      | (omega; done)
      | (
          have c4 : 250 < 251 := c4
          refine r_iconst (v := -1) C (dx dX3_readInto 32 rfl) rfl ?_
          have e9 : riS B z 250 1 (stp B z 0) v = (-1, q, v9) := by rw [hI]; rfl
          exact F.1 _ _ _ _ .int rfl rfl (dx dX3_readInto 33 rfl) kh3 (show some (vi (-1)) = some (vi (riS B z 250 1 (stp B z 0) v).1) ∧ RiAt h h3 k kv B z (riS B z 250 1 (stp B z 0) v) from by rw [e9]; exact ⟨rfl, sh3, wh3, fh3⟩))
    · first
      | (omega; done)
      | (
          have c4 : 251 ≤ 250 := c4
          refine r_aload_n C (dx dX3_readInto 10 rfl) rfl ?_
          refine r_aload_n C (dx dX3_readInto 11 rfl) rfl ?_
          refine r_cv (as := [vr 5 kv]) (st := []) C X I_X3_readStatement l_X3_31 (c_X3_readStatement sh3 oh3.2.2 wh3 hd oh3.1 oh3.2.1) (by decide) (Nat.le_of_ble_eq_true rfl) List.prefix_rfl (pfx_eq kh3) rfl rfl (Nat.le_of_ble_eq_true rfl) rfl (dx dX3_readInto 12 rfl) ?_
          intro rh5 h5 hph5 kkh5
          obtain ⟨rfl, sh5, wh5, gh5⟩ := hph5
          replace sh5 : TkAt h5 k B z (stW B z q v9).2.1.1 (stW B z q v9).2.1.2.1 (stW B z q v9).2.1.2.2 := sh5
          replace wh5 : VilAt h5 kv (stW B z q v9).2.2 := wh5
          have fh5 : Fs (RT k kv) h h5 := fh3.tr gh5
          have kh5 : xK h5 = xK h := kkh5.trans kh3
          have oh5 : Tok z (stW B z q v9).2.1 := stW_tok oh3
          have ah5 : (stW B z q v9).2.1.1 < 5 := oh5.1
          have lh5 : (stW B z q v9).2.1.2.1 ≤ (stW B z q v9).2.1.2.2 ∧ (stW B z q v9).2.1.2.2 ≤ z := oh5.2
          refine rb_ne (b := (stW B z q v9).1) (tgt := 28) C (dx dX3_readInto 13 rfl) (by decide) (fun c6 => ?_) (fun c6 => ?_)
          ·
            have c6 : ((stW B z q v9).1) = true := c6
            refine r_aload_n C (dx dX3_readInto 16 rfl) rfl ?_
            refine g_X3_19 (x := nI ((stW B z q v9).2.1.1)) C (dx dX3_readInto 17 rfl) sh5.2.1 ?_
            refine r_iconst (v := nI 3) C (dx dX3_readInto 18 rfl) rfl ?_
            refine rn_ne (a := (stW B z q v9).2.1.1) (b := 3) (tgt := 38) C (by omega) (by omega) (dx dX3_readInto 19 rfl) (by decide) (fun c7 => ?_) (fun c7 => ?_)
            · first
              | (omega; done)
              | (
                  have c7 : ¬ (stW B z q v9).2.1.1 = 3 := c7
                  refine r_aload_n C (dx dX3_readInto 22 rfl) rfl ?_
                  refine g_X3_19 (x := nI ((stW B z q v9).2.1.1)) C (dx dX3_readInto 23 rfl) sh5.2.1 ?_
                  refine r_iconst (v := nI 2) C (dx dX3_readInto 24 rfl) rfl ?_
                  refine rn_eq (a := (stW B z q v9).2.1.1) (b := 2) (tgt := 48) C (by omega) (by omega) (dx dX3_readInto 25 rfl) (by decide) (fun c8 => ?_) (fun c8 => ?_)
                  · first
                    | (omega; done)
                  · first
                    | (omega; done)
                    | (
                        have c8 : ¬ (stW B z q v9).2.1.1 = 2 := c8
                        refine r_iconst (v := -1) C (dx dX3_readInto 26 rfl) rfl ?_
                        have e9 : riS B z 250 1 (stp B z 0) v = (-1, (stW B z q v9).2.1, (stW B z q v9).2.2) := by rw [hI]; rfl
                        exact F.1 _ _ _ _ .int rfl rfl (dx dX3_readInto 27 rfl) kh5 (show some (vi (-1)) = some (vi (riS B z 250 1 (stp B z 0) v).1) ∧ RiAt h h5 k kv B z (riS B z 250 1 (stp B z 0) v) from by rw [e9]; exact ⟨rfl, sh5, wh5, fh5⟩)))
            · first
              | (omega; done)
              | (
                  have c7 : (stW B z q v9).2.1.1 = 3 := c7
                  refine r_iload_n C (dx dX3_readInto 20 rfl) rfl ?_
                  have e9 : riS B z 250 1 (stp B z 0) v = (nI 251, (stW B z q v9).2.1, (stW B z q v9).2.2) := by rw [hI]; rfl
                  exact F.1 _ _ _ _ .int rfl rfl (dx dX3_readInto 21 rfl) kh5 (show some (vi (nI 251)) = some (vi (riS B z 250 1 (stp B z 0) v).1) ∧ RiAt h h5 k kv B z (riS B z 250 1 (stp B z 0) v) from by rw [e9]; exact ⟨rfl, sh5, wh5, fh5⟩))
          ·
            have c6 : ((stW B z q v9).1) = false := c6
            refine r_iconst (v := -1) C (dx dX3_readInto 14 rfl) rfl ?_
            have e9 : riS B z 250 1 (stp B z 0) v = (-1, (stW B z q v9).2.1, (stW B z q v9).2.2) := by rw [hI]; rfl
            exact F.1 _ _ _ _ .int rfl rfl (dx dX3_readInto 15 rfl) kh5 (show some (vi (-1)) = some (vi (riS B z 250 1 (stp B z 0) v).1) ∧ RiAt h h5 k kv B z (riS B z 250 1 (stp B z 0) v) from by rw [e9]; exact ⟨rfl, sh5, wh5, fh5⟩))
  ·
    intro p hp ih h10 q v9 sh10 oh10 wh10 fh10 kh10 hI
    refine r_iload_n C (dx dX3_readInto 7 rfl) rfl ?_
    refine r_sipush (v := nI 250) C (dx dX3_readInto 8 rfl) rfl ?_
    refine rn_gt (a := p) (b := 250) (tgt := 58) C (by omega) (by omega) (dx dX3_readInto 9 rfl) (by decide) (fun c11 => ?_) (fun c11 => ?_)
    · first
      | (omega; done)
      | (
          have c11 : 250 < p := c11
          refine r_iconst (v := -1) C (dx dX3_readInto 32 rfl) rfl ?_
          have e9 : riS B z 250 1 (stp B z 0) v = (-1, q, v9) := by skip
          exact F.1 _ _ _ _ .int rfl rfl (dx dX3_readInto 33 rfl) kh10 (show some (vi (-1)) = some (vi (riS B z 250 1 (stp B z 0) v).1) ∧ RiAt h h10 k kv B z (riS B z 250 1 (stp B z 0) v) from by rw [e9]; exact ⟨rfl, sh10, wh10, fh10⟩))
    · first
      | (omega; done)
      | (
          have c11 : p ≤ 250 := c11
          refine r_aload_n C (dx dX3_readInto 10 rfl) rfl ?_
          refine r_aload_n C (dx dX3_readInto 11 rfl) rfl ?_
          refine r_cv (as := [vr 5 kv]) (st := []) C X I_X3_readStatement l_X3_31 (c_X3_readStatement sh10 oh10.2.2 wh10 hd oh10.1 oh10.2.1) (by decide) (Nat.le_of_ble_eq_true rfl) List.prefix_rfl (pfx_eq kh10) rfl rfl (Nat.le_of_ble_eq_true rfl) rfl (dx dX3_readInto 12 rfl) ?_
          intro rh12 h12 hph12 kkh12
          obtain ⟨rfl, sh12, wh12, gh12⟩ := hph12
          replace sh12 : TkAt h12 k B z (stW B z q v9).2.1.1 (stW B z q v9).2.1.2.1 (stW B z q v9).2.1.2.2 := sh12
          replace wh12 : VilAt h12 kv (stW B z q v9).2.2 := wh12
          have fh12 : Fs (RT k kv) h h12 := fh10.tr gh12
          have kh12 : xK h12 = xK h := kkh12.trans kh10
          have oh12 : Tok z (stW B z q v9).2.1 := stW_tok oh10
          have ah12 : (stW B z q v9).2.1.1 < 5 := oh12.1
          have lh12 : (stW B z q v9).2.1.2.1 ≤ (stW B z q v9).2.1.2.2 ∧ (stW B z q v9).2.1.2.2 ≤ z := oh12.2
          refine rb_ne (b := (stW B z q v9).1) (tgt := 28) C (dx dX3_readInto 13 rfl) (by decide) (fun c13 => ?_) (fun c13 => ?_)
          ·
            have c13 : ((stW B z q v9).1) = true := c13
            refine r_aload_n C (dx dX3_readInto 16 rfl) rfl ?_
            refine g_X3_19 (x := nI ((stW B z q v9).2.1.1)) C (dx dX3_readInto 17 rfl) sh12.2.1 ?_
            refine r_iconst (v := nI 3) C (dx dX3_readInto 18 rfl) rfl ?_
            refine rn_ne (a := (stW B z q v9).2.1.1) (b := 3) (tgt := 38) C (by omega) (by omega) (dx dX3_readInto 19 rfl) (by decide) (fun c14 => ?_) (fun c14 => ?_)
            · first
              | (omega; done)
              | (
                  have c14 : ¬ (stW B z q v9).2.1.1 = 3 := c14
                  refine r_aload_n C (dx dX3_readInto 22 rfl) rfl ?_
                  refine g_X3_19 (x := nI ((stW B z q v9).2.1.1)) C (dx dX3_readInto 23 rfl) sh12.2.1 ?_
                  refine r_iconst (v := nI 2) C (dx dX3_readInto 24 rfl) rfl ?_
                  refine rn_eq (a := (stW B z q v9).2.1.1) (b := 2) (tgt := 48) C (by omega) (by omega) (dx dX3_readInto 25 rfl) (by decide) (fun c15 => ?_) (fun c15 => ?_)
                  · first
                    | (omega; done)
                    | (
                        have c15 : (stW B z q v9).2.1.1 = 2 := c15
                        refine r_aload_n C (dx dX3_readInto 28 rfl) rfl ?_
                        refine r_cv (as := []) (st := []) C X I_X3_step l_X3_28 (c_X3_step sh12 lh12.2) (by decide) (Nat.le_of_ble_eq_true rfl) List.prefix_rfl (pfx_eq kh12) rfl rfl (Nat.le_of_ble_eq_true rfl) rfl (dx dX3_readInto 29 rfl) ?_
                        intro rh16 h16 hph16 kkh16
                        obtain ⟨rfl, sh16, gh16⟩ := hph16
                        have wh16 : VilAt h16 kv ((stW B z q v9).2.2) := wh12.fr gh16 (by omega)
                        have fh16 : Fs (RT k kv) h h16 := fh12.tr (Fs.of gh16 (fun b h1 h2 => Or.inl (by omega)))
                        have kh16 : xK h16 = xK h := kkh16.trans kh12
                        have lh16 := stp_le (B := B) lh12.2
                        refine rn_iinc (a := p) (k := 1) (ls' := [(0, vr 3 k), (1, vr 5 kv), (2, vi (nI (p + 1)))]) C (dx dX3_readInto 30 rfl) rfl rfl (by decide) [1, 2, 0] rfl ?_
                        refine r_goto (tgt := 11) C (dx dX3_readInto 31 rfl) (by decide) ?_
                        exact ih _ _ _ sh16 ⟨stp_5, lh16⟩ wh16 fh16 kh16 (by rw [show 251 - (p + 1) = 250 - p by omega]; rw [hI, show 251 - p = (250 - p) + 1 by omega]; simp only [riS]; rw [if_neg (by simp [c13]), if_neg c14, if_pos c15]))
                  · first
                    | (omega; done)
                    | (
                        have c15 : ¬ (stW B z q v9).2.1.1 = 2 := c15
                        refine r_iconst (v := -1) C (dx dX3_readInto 26 rfl) rfl ?_
                        have e9 : riS B z 250 1 (stp B z 0) v = (-1, (stW B z q v9).2.1, (stW B z q v9).2.2) := by rw [hI, show 251 - p = (250 - p) + 1 by omega]; simp only [riS]; rw [if_neg (by simp [c13]), if_neg c14, if_neg c15]
                        exact F.1 _ _ _ _ .int rfl rfl (dx dX3_readInto 27 rfl) kh12 (show some (vi (-1)) = some (vi (riS B z 250 1 (stp B z 0) v).1) ∧ RiAt h h12 k kv B z (riS B z 250 1 (stp B z 0) v) from by rw [e9]; exact ⟨rfl, sh12, wh12, fh12⟩)))
            · first
              | (omega; done)
              | (
                  have c14 : (stW B z q v9).2.1.1 = 3 := c14
                  refine r_iload_n C (dx dX3_readInto 20 rfl) rfl ?_
                  have e9 : riS B z 250 1 (stp B z 0) v = (nI p, (stW B z q v9).2.1, (stW B z q v9).2.2) := by rw [hI, show 251 - p = (250 - p) + 1 by omega]; simp only [riS]; rw [if_neg (by simp [c13]), if_pos c14]
                  exact F.1 _ _ _ _ .int rfl rfl (dx dX3_readInto 21 rfl) kh12 (show some (vi (nI p)) = some (vi (riS B z 250 1 (stp B z 0) v).1) ∧ RiAt h h12 k kv B z (riS B z 250 1 (stp B z 0) v) from by rw [e9]; exact ⟨rfl, sh12, wh12, fh12⟩))
          ·
            have c13 : ((stW B z q v9).1) = false := c13
            refine r_iconst (v := -1) C (dx dX3_readInto 14 rfl) rfl ?_
            have e9 : riS B z 250 1 (stp B z 0) v = (-1, (stW B z q v9).2.1, (stW B z q v9).2.2) := by rw [hI, show 251 - p = (250 - p) + 1 by omega]; simp only [riS]; rw [if_pos c13]
            exact F.1 _ _ _ _ .int rfl rfl (dx dX3_readInto 15 rfl) kh12 (show some (vi (-1)) = some (vi (riS B z 250 1 (stp B z 0) v).1) ∧ RiAt h h12 k kv B z (riS B z 250 1 (stp B z 0) v) from by rw [e9]; exact ⟨rfl, sh12, wh12, fh12⟩))
theorem TkAt.ap {h : Hp} {k z t s e i : Nat} {x : Int32} {B : Nat → Int32} (a : TkAt h k B z t s e) : TkAt (sI h (k + 1) i x) k (sf B i x) z t s e :=
  ⟨⟨fun q hq => by rw [sI_at, a.1.1 q hq]; rfl, by rw [sI_ne (by omega)]; exact a.1.2.1, a.1.2.2⟩, by rw [sI_ne (by omega)]; exact a.2.1, by rw [sI_ne (by omega)]; exact a.2.2.1, by rw [sI_ne (by omega)]; exact a.2.2.2⟩
theorem TkAt.zz {h : Hp} {k z z' t s e : Nat} {B : Nat → Int32} (a : TkAt h k B z t s e) (hz : z' ≤ 250) : TkAt (sI h k 1 (nI z')) k B z' t s e :=
  ⟨tp_z a.1 hz, by rw [sI_at]; exact a.2.1, by rw [sI_at]; exact a.2.2.1, by rw [sI_at]; exact a.2.2.2⟩
set_option maxHeartbeats 4000000 in
theorem c_X3_append {l : Launch} {h : Hp} {k : Nat} {B : Nat → Int32} {z t s e : Nat} (hk : TkAt h k B z t s e) (hz : z < 250) (x : Int32) : Ms l yX3_append cX3_append 2 none 1 [vr 3 k, vi x] h (xK h) (fun r0 h' => r0 = none ∧ TkAt h' k (sf B z (vp_nar .byte (x.toInt8.toInt32))) (z + 1) t s e ∧ Fr k (k + 2) h h') := by
  refine Ms.of (by decide) (Nat.le_of_ble_eq_true rfl) (fun G C X F => ?_)
  have C : Cx G cX3_append 2 RX3 := C
  show Rr G 0 [(0, vr 3 k), (1, vi x)] [] h
  have bz := hk.1.2.2
  refine r_aload_n C (dx dX3_append 0 rfl) rfl ?_
  refine g_X3_15 (x := nI z) C (dx dX3_append 1 rfl) hk.1.2.1 ?_
  refine r_sipush (v := nI 250) C (dx dX3_append 2 rfl) rfl ?_
  refine rn_ge (a := z) (b := 250) (tgt := 31) C (by omega) (by omega) (dx dX3_append 3 rfl) (by decide) (fun c1 => ?_) (fun c1 => ?_)
  · first
    | (omega; done)
    | (
        have c1 : 250 ≤ z := c1
        exact F.2.2.1 _ _ _ rfl (dx dX3_append 17 rfl) rfl ⟨rfl, hk, Fr.rf⟩)
  · first
    | (omega; done)
    | (
        have c1 : z < 250 := c1
        refine r_aload_n C (dx dX3_append 4 rfl) rfl ?_
        refine g_X3_9 C (dx dX3_append 5 rfl) ?_
        refine r_aload_n C (dx dX3_append 6 rfl) rfl ?_
        refine g_X3_15 (x := nI z) C (dx dX3_append 7 rfl) hk.1.2.1 ?_
        refine r_iload_n C (dx dX3_append 8 rfl) rfl ?_
        refine r_i2b C (dx dX3_append 9 rfl) ?_
        refine r_bast (j := z) C rfl rfl (by decide) rfl (by omega) (dx dX3_append 10 rfl) ?_
        have sh2 : TkAt (sI h (k + 1) z (vp_nar .byte x.toInt8.toInt32)) k (sf B z (vp_nar .byte (x.toInt8.toInt32))) z t s e := hk.ap
        have fh2 : Fr k (k + 2) h (sI h (k + 1) z (vp_nar .byte x.toInt8.toInt32)) := (Fr.sI (by omega) (by omega))
        have kh2 : xK (sI h (k + 1) z (vp_nar .byte x.toInt8.toInt32)) = xK h := rfl
        generalize sI h (k + 1) z (vp_nar .byte x.toInt8.toInt32) = h2 at sh2 fh2 kh2 ⊢
        refine r_aload_n C (dx dX3_append 11 rfl) rfl ?_
        refine r_dupR C (dx dX3_append 12 rfl) ?_
        refine g_X3_15 (x := nI z) C (dx dX3_append 13 rfl) sh2.1.2.1 ?_
        refine r_iconst (v := nI 1) C (dx dX3_append 14 rfl) rfl ?_
        refine rn_iadd (a := z) (b := 1) C (dx dX3_append 15 rfl) ?_
        refine p_X3_15 C (dx dX3_append 16 rfl) rfl rfl ?_
        have sh3 : TkAt (sI h2 k 1 (nI (z + 1))) k (sf B z (vp_nar .byte (x.toInt8.toInt32))) (z + 1) t s e := sh2.zz (by omega)
        have fh3 : Fr k (k + 2) h (sI h2 k 1 (nI (z + 1))) := fh2.tr (Fr.sI (by omega) (by omega))
        have kh3 : xK (sI h2 k 1 (nI (z + 1))) = xK h := kh2
        generalize sI h2 k 1 (nI (z + 1)) = h3 at sh3 fh3 kh3 ⊢
        exact F.2.2.1 _ _ _ rfl (dx dX3_append 17 rfl) kh3 ⟨rfl, sh3, fh3⟩)
end
section
/-! PART 21: the class: what its cells hold; its small methods -/
theorem Fr.fs {lo hi : Nat} {h h1 : Hp} (f : Fr lo hi h h1) : Fs (fun b => lo ≤ b ∧ b < hi) h h1 := Fs.of f (fun b h1 h2 => ⟨h1, h2⟩)
theorem Fs.to {A : Nat → Prop} {lo hi : Nat} {h h1 : Hp} (a : Fs A h h1) (q : ∀ b, A b → lo ≤ b ∧ b < hi) : Fr lo hi h h1 := fun b hb => a b (fun z => by have := q b z; omega)
def un (P : Nat → Prop) (lo hi : Nat) : Prop := ∀ b, lo ≤ b → b < hi → ¬ P b
theorem VilAt.ag {h h1 : Hp} {k : Nat} {v : Vg} {P : Nat → Prop} (a : VilAt h k v) (f : Fs P h h1) (q : un P k (k + 9)) : VilAt h1 k v := by
  have e : ∀ j, j < 9 → xI h1 (k + j) = xI h (k + j) := fun j hj => (f _ (q _ (by omega) (by omega))).1
  unfold VilAt at *
  rw [show xI h1 k = xI h k from e 0 (by omega), e 1 (by omega), e 2 (by omega), e 3 (by omega), e 4 (by omega), e 5 (by omega), e 6 (by omega), e 7 (by omega), e 8 (by omega)]
  exact a
theorem SInv.ag {h h1 : Hp} {k : Nat} {P : Nat → Prop} (a : SInv h k) (f : Fs P h h1) (q : un P (k + 5) (k + 12)) : SInv h1 k := fun q1 h1' m hm => by
  rw [(f _ (q _ (by omega) (by omega))).1]; exact a q1 h1' m hm
theorem TapAt.ag {h h1 : Hp} {k z : Nat} {B : Nat → Int32} {P : Nat → Prop} (a : TapAt h k B z) (f : Fs P h h1) (q : un P k (k + 2)) : TapAt h1 k B z :=
  ⟨fun i hi => by rw [(f _ (q _ (by omega) (by omega))).1]; exact a.1 i hi, by rw [(f _ (q _ (by omega) (by omega))).1]; exact a.2.1, a.2.2⟩
theorem ShAt.ag {h h1 : Hp} {k : Nat} {g : Sg} {P : Nat → Prop} (a : ShAt h k g) (f : Fs P h h1) (q : un P (k + 1) (k + 13)) : ShAt h1 k g :=
  ⟨fun s hs => by rw [(f _ (q _ (by omega) (by omega))).1]; exact a.1 s hs, fun s hs => by rw [(f _ (q _ (by omega) (by omega))).1]; exact a.2.1 s hs, fun s hs => by rw [(f _ (q _ (by omega) (by omega))).1]; exact a.2.2.1 s hs, fun s hs i hi => by rw [(f _ (q _ (by omega) (by omega))).2.1]; exact a.2.2.2 s hs i hi⟩
theorem nI_ex (x : Int32) : ∃ j, x = nI j := ⟨x.toBitVec.toNat, by
  apply Int32.toBitVec_inj.mp
  show x.toBitVec = BitVec.ofNat 32 x.toBitVec.toNat
  rw [BitVec.ofNat_toNat, BitVec.setWidth_eq]⟩
theorem tk_ex {h : Hp} {k z : Nat} {B : Nat → Int32} (a : TapAt h k B z) : ∃ t s e, TkAt h k B z t s e := by
  obtain ⟨t, ht⟩ := nI_ex (xI h k 2)
  obtain ⟨s, hs⟩ := nI_ex (xI h k 3)
  obtain ⟨e, he⟩ := nI_ex (xI h k 4)
  exact ⟨t, s, e, a, ht, hs, he⟩
/-- the class: the village that is, that is tried, that is kept; orders; the search; the tape; the shelves; whether one is kept -/
def Ow (h : Hp) (v u w : Vg) (g : Sg) (B : Nat → Int32) (z : Nat) (κ : Int32) : Prop :=
  VilAt h 1 v ∧ VilAt h 10 u ∧ VilAt h 19 w ∧ (∀ i, i < 8 → xI h 31 i = nI (fct i)) ∧ SInv h 34 ∧ TapAt h 47 B z ∧ ShAt h 49 g ∧ xI h 0 3 = κ
section OW
variable {h h1 : Hp} {v u w v' u' w' : Vg} {g g' : Sg} {B B' : Nat → Int32} {z z' : Nat} {κ κ' : Int32} {P : Nat → Prop}
theorem Ow.pv (o : Ow h v u w g B z κ) : VilAt h 1 v := o.1
theorem Ow.pu (o : Ow h v u w g B z κ) : VilAt h 10 u := o.2.1
theorem Ow.pw (o : Ow h v u w g B z κ) : VilAt h 19 w := o.2.2.1
theorem Ow.po (o : Ow h v u w g B z κ) : ∀ i, i < 8 → xI h (28 + 3) i = nI (fct i) := o.2.2.2.1
theorem Ow.ps (o : Ow h v u w g B z κ) : SInv h 34 := o.2.2.2.2.1
theorem Ow.pt (o : Ow h v u w g B z κ) : TapAt h 47 B z := o.2.2.2.2.2.1
theorem Ow.pg (o : Ow h v u w g B z κ) : ShAt h 49 g := o.2.2.2.2.2.2.1
theorem Ow.pk (o : Ow h v u w g B z κ) : xI h 0 3 = κ := o.2.2.2.2.2.2.2
theorem Ow.mv (o : Ow h v u w g B z κ) (f : Fs P h h1) (c1 : VilAt h1 1 v' ∨ v' = v ∧ un P 1 10) (c2 : VilAt h1 10 u' ∨ u' = u ∧ un P 10 19) (c3 : VilAt h1 19 w' ∨ w' = w ∧ un P 19 28) (c4 : un P 31 32) (c5 : SInv h1 34 ∨ un P 34 47)
    (c6 : TapAt h1 47 B' z' ∨ (B' = B ∧ z' = z) ∧ un P 47 49) (c7 : ShAt h1 49 g' ∨ g' = g ∧ un P 49 62) (c8 : xI h1 0 3 = κ' ∨ κ' = κ ∧ ¬ P 0) : Ow h1 v' u' w' g' B' z' κ' := by
  refine ⟨?_, ?_, ?_, ?_, ?_, ?_, ?_, ?_⟩
  · rcases c1 with c | ⟨rfl, c⟩
    · exact c
    · exact o.pv.ag f c
  · rcases c2 with c | ⟨rfl, c⟩
    · exact c
    · exact o.pu.ag f c
  · rcases c3 with c | ⟨rfl, c⟩
    · exact c
    · exact o.pw.ag f c
  · intro i hi; rw [(f _ (c4 _ (by omega) (by omega))).1]; exact o.po i hi
  · rcases c5 with c | c
    · exact c
    · exact o.ps.ag f (fun b h1 h2 => c b (by omega) (by omega))
  · rcases c6 with c | ⟨⟨rfl, rfl⟩, c⟩
    · exact c
    · exact o.pt.ag f c
  · rcases c7 with c | ⟨rfl, c⟩
    · exact c
    · exact o.pg.ag f (fun b h1 h2 => c b (by omega) (by omega))
  · rcases c8 with c | ⟨rfl, c⟩
    · exact c
    · rw [(f _ c).1]; exact o.pk
theorem Ow.now (o : Ow h v u w g B z κ) (a : VilAt h1 1 v') (f : Fr 1 10 h h1) : Ow h1 v' u w g B z κ :=
  o.mv f.fs (Or.inl a) (Or.inr ⟨rfl, fun b _ _ q => by omega⟩) (Or.inr ⟨rfl, fun b _ _ q => by omega⟩) (fun b _ _ q => by omega) (Or.inr (fun b _ _ q => by omega)) (Or.inr ⟨⟨rfl, rfl⟩, fun b _ _ q => by omega⟩) (Or.inr ⟨rfl, fun b _ _ q => by omega⟩) (Or.inr ⟨rfl, fun q => by omega⟩)
theorem Ow.tri (o : Ow h v u w g B z κ) (a : VilAt h1 10 u') (f : Fr 10 19 h h1) : Ow h1 v u' w g B z κ :=
  o.mv f.fs (Or.inr ⟨rfl, fun b _ _ q => by omega⟩) (Or.inl a) (Or.inr ⟨rfl, fun b _ _ q => by omega⟩) (fun b _ _ q => by omega) (Or.inr (fun b _ _ q => by omega)) (Or.inr ⟨⟨rfl, rfl⟩, fun b _ _ q => by omega⟩) (Or.inr ⟨rfl, fun b _ _ q => by omega⟩) (Or.inr ⟨rfl, fun q => by omega⟩)
theorem Ow.kep (o : Ow h v u w g B z κ) (a : VilAt h1 19 w') (f : Fr 19 28 h h1) : Ow h1 v u w' g B z κ :=
  o.mv f.fs (Or.inr ⟨rfl, fun b _ _ q => by omega⟩) (Or.inr ⟨rfl, fun b _ _ q => by omega⟩) (Or.inl a) (fun b _ _ q => by omega) (Or.inr (fun b _ _ q => by omega)) (Or.inr ⟨⟨rfl, rfl⟩, fun b _ _ q => by omega⟩) (Or.inr ⟨rfl, fun b _ _ q => by omega⟩) (Or.inr ⟨rfl, fun q => by omega⟩)
theorem Ow.tm (o : Ow h v u w g B z κ) (f : Fr 29 31 h h1) : Ow h1 v u w g B z κ :=
  o.mv f.fs (Or.inr ⟨rfl, fun b _ _ q => by omega⟩) (Or.inr ⟨rfl, fun b _ _ q => by omega⟩) (Or.inr ⟨rfl, fun b _ _ q => by omega⟩) (fun b _ _ q => by omega) (Or.inr (fun b _ _ q => by omega)) (Or.inr ⟨⟨rfl, rfl⟩, fun b _ _ q => by omega⟩) (Or.inr ⟨rfl, fun b _ _ q => by omega⟩) (Or.inr ⟨rfl, fun q => by omega⟩)
theorem Ow.ref (o : Ow h v u w g B z κ) (f : Fr 62 63 h h1) : Ow h1 v u w g B z κ :=
  o.mv f.fs (Or.inr ⟨rfl, fun b _ _ q => by omega⟩) (Or.inr ⟨rfl, fun b _ _ q => by omega⟩) (Or.inr ⟨rfl, fun b _ _ q => by omega⟩) (fun b _ _ q => by omega) (Or.inr (fun b _ _ q => by omega)) (Or.inr ⟨⟨rfl, rfl⟩, fun b _ _ q => by omega⟩) (Or.inr ⟨rfl, fun b _ _ q => by omega⟩) (Or.inr ⟨rfl, fun q => by omega⟩)
theorem Ow.sea (o : Ow h v u w g B z κ) (a : SInv h1 34) (f : Fr 34 47 h h1) : Ow h1 v u w g B z κ :=
  o.mv f.fs (Or.inr ⟨rfl, fun b _ _ q => by omega⟩) (Or.inr ⟨rfl, fun b _ _ q => by omega⟩) (Or.inr ⟨rfl, fun b _ _ q => by omega⟩) (fun b _ _ q => by omega) (Or.inl a) (Or.inr ⟨⟨rfl, rfl⟩, fun b _ _ q => by omega⟩) (Or.inr ⟨rfl, fun b _ _ q => by omega⟩) (Or.inr ⟨rfl, fun q => by omega⟩)
theorem Ow.tap (o : Ow h v u w g B z κ) (a : TapAt h1 47 B' z') (f : Fr 47 49 h h1) : Ow h1 v u w g B' z' κ :=
  o.mv f.fs (Or.inr ⟨rfl, fun b _ _ q => by omega⟩) (Or.inr ⟨rfl, fun b _ _ q => by omega⟩) (Or.inr ⟨rfl, fun b _ _ q => by omega⟩) (fun b _ _ q => by omega) (Or.inr (fun b _ _ q => by omega)) (Or.inl a) (Or.inr ⟨rfl, fun b _ _ q => by omega⟩) (Or.inr ⟨rfl, fun q => by omega⟩)
theorem Ow.she (o : Ow h v u w g B z κ) (a : ShAt h1 49 g') (f : Fr 50 62 h h1) : Ow h1 v u w g' B z κ :=
  o.mv f.fs (Or.inr ⟨rfl, fun b _ _ q => by omega⟩) (Or.inr ⟨rfl, fun b _ _ q => by omega⟩) (Or.inr ⟨rfl, fun b _ _ q => by omega⟩) (fun b _ _ q => by omega) (Or.inr (fun b _ _ q => by omega)) (Or.inr ⟨⟨rfl, rfl⟩, fun b _ _ q => by omega⟩) (Or.inl a) (Or.inr ⟨rfl, fun q => by omega⟩)
theorem Ow.self (o : Ow h v u w g B z κ) (a : xI h1 0 3 = κ') (f : Fr 0 1 h h1) : Ow h1 v u w g B z κ' :=
  o.mv f.fs (Or.inr ⟨rfl, fun b _ _ q => by omega⟩) (Or.inr ⟨rfl, fun b _ _ q => by omega⟩) (Or.inr ⟨rfl, fun b _ _ q => by omega⟩) (fun b _ _ q => by omega) (Or.inr (fun b _ _ q => by omega)) (Or.inr ⟨⟨rfl, rfl⟩, fun b _ _ q => by omega⟩) (Or.inr ⟨rfl, fun b _ _ q => by omega⟩) (Or.inl a)
theorem Ow.rul (o : Ow h v u w g B z κ) (a : VilAt h1 10 u') (f : Fs (RA 32 10) h h1) : Ow h1 v u' w g B z κ :=
  o.mv f (Or.inr ⟨rfl, fun b _ _ q => by unfold RA at q; omega⟩) (Or.inl a) (Or.inr ⟨rfl, fun b _ _ q => by unfold RA at q; omega⟩) (fun b _ _ q => by unfold RA at q; omega) (Or.inr (fun b _ _ q => by unfold RA at q; omega)) (Or.inr ⟨⟨rfl, rfl⟩, fun b _ _ q => by unfold RA at q; omega⟩) (Or.inr ⟨rfl, fun b _ _ q => by unfold RA at q; omega⟩) (Or.inr ⟨rfl, fun q => by unfold RA at q; omega⟩)
theorem Ow.rul1 (o : Ow h v u w g B z κ) (a : VilAt h1 1 v') (f : Fs (RA 32 1) h h1) : Ow h1 v' u w g B z κ :=
  o.mv f (Or.inl a) (Or.inr ⟨rfl, fun b _ _ q => by unfold RA at q; omega⟩) (Or.inr ⟨rfl, fun b _ _ q => by unfold RA at q; omega⟩) (fun b _ _ q => by unfold RA at q; omega) (Or.inr (fun b _ _ q => by unfold RA at q; omega)) (Or.inr ⟨⟨rfl, rfl⟩, fun b _ _ q => by unfold RA at q; omega⟩) (Or.inr ⟨rfl, fun b _ _ q => by unfold RA at q; omega⟩) (Or.inr ⟨rfl, fun q => by unfold RA at q; omega⟩)
theorem Ow.rea (o : Ow h v u w g B z κ) (a : VilAt h1 10 u') (b : TapAt h1 47 B' z') (f : Fs (RT 47 10) h h1) : Ow h1 v u' w g B' z' κ :=
  o.mv f (Or.inr ⟨rfl, fun b _ _ q => by unfold RT at q; omega⟩) (Or.inl a) (Or.inr ⟨rfl, fun b _ _ q => by unfold RT at q; omega⟩) (fun b _ _ q => by unfold RT at q; omega) (Or.inr (fun b _ _ q => by unfold RT at q; omega)) (Or.inl b) (Or.inr ⟨rfl, fun b _ _ q => by unfold RT at q; omega⟩) (Or.inr ⟨rfl, fun q => by unfold RT at q; omega⟩)
end OW
theorem RA.lo {b : Nat} (q : RA 32 10 b) : 0 ≤ b ∧ b < 63 := by unfold RA at q; omega
theorem RA.lo1 {b : Nat} (q : RA 32 1 b) : 0 ≤ b ∧ b < 63 := by unfold RA at q; omega
theorem RT.lo {b : Nat} (q : RT 47 10 b) : 0 ≤ b ∧ b < 63 := by unfold RT at q; omega
/-- what shelves may hold -/
def GOk (g : Sg) : Prop := SzOk g ∧ ∀ s, s < 8 → gT g s = -1 ∨ (∃ t, t < 5 ∧ gT g s = nI t) ∨ (∃ κ b, 1 ≤ κ ∧ κ ≤ 5 ∧ b < 100 ∧ gT g s = nI (10 + κ) ∧ gY g s = nI b)
theorem hold_nI {g : Sg} {x : Int32} (h : holdB g x = true) : ∃ s, s < 8 ∧ x = nI s ∧ ¬ gT g s < nI 10 := by
  have q := hold_in h
  obtain ⟨e, l⟩ := inR_at (by omega) q
  refine ⟨_, l, e, ?_⟩
  unfold holdB tOn at h
  rw [if_pos q] at h
  exact of_decide_eq_true h
theorem GOk.hold {g : Sg} {x : Int32} (a : GOk g) (h : holdB g x = true) : ∃ κ b, 1 ≤ κ ∧ κ ≤ 5 ∧ b < 100 ∧ kdV g x = nI κ ∧ byV g x = nI b := by
  obtain ⟨s, hs, rfl, hn⟩ := hold_nI h
  have c : (nI s).toNatClampNeg = s := nI_clamp (by omega)
  rcases a.2 s hs with q | ⟨t, ht, q⟩ | ⟨κ, b, h1, h2, h3, q, q2⟩
  · rw [q] at hn; exact absurd (by decide) hn
  · rw [q] at hn; exact absurd ((nI_ltI (by omega) (by omega)).mpr (by omega)) hn
  · refine ⟨κ, b, h1, h2, h3, ?_, ?_⟩
    · unfold kdV; rw [if_pos h, c, q, show 10 + κ = κ + 10 by omega, ← nI_add]; simp
    · unfold byV; rw [if_pos h, c, q2]
theorem inR_ex {x : Int32} {n : Nat} (hn : n < 2 ^ 31) (h : inR x n = true) : ∃ j, j < n ∧ x = nI j := ⟨_, (inR_at hn h).2, (inR_at hn h).1⟩
theorem inR_gt {x : Int32} {n : Nat} (hn : n < 2 ^ 30) (h : nI n < x) : inR x (n + 1) = false := by
  rw [Int32.lt_iff_toInt_lt, nI_toInt (by omega)] at h
  simp only [inR, decide_eq_false_iff_not]; omega
theorem inR_mid {x : Int32} {n : Nat} (hn : n < 2 ^ 30) (h0 : ¬ x < 0) (h : ¬ nI n < x) : inR x (n + 1) = true := by
  rw [Int32.lt_iff_toInt_lt] at h0
  rw [Int32.lt_iff_toInt_lt, nI_toInt (by omega)] at h
  have : (0 : Int32).toInt = 0 := by decide
  simp only [inR, decide_eq_true_eq]; omega
theorem sw_c (n : Nat) (x : Int32) : (∃ j : Nat, j < n ∧ x = nI j) ∨ (x.toInt < 0 ∨ ((n : Int) - 1 < x.toInt)) := by
  by_cases h : x.toInt < 0 ∨ ((n : Int) - 1 < x.toInt)
  · exact Or.inr h
  · have h0 : ¬ x < 0 := by
      rw [Int32.lt_iff_toInt_lt]; have : (0 : Int32).toInt = 0 := by decide
      omega
    obtain ⟨j, hj, rfl⟩ := nI_of h0
    rw [nI_toInt hj] at h
    exact Or.inl ⟨j, by omega, rfl⟩
theorem bc_hi {x : Int32} {n : Nat} (hn : n ≤ 4096) (a : x = -1 ∨ ∃ a, a < n ∧ x = nI a) (h : ¬ x = -1) : ∃ a, a < 4096 ∧ x = nI a := by
  rcases a with a | ⟨q, h1, h2⟩
  · exact absurd a h
  · exact ⟨q, by omega, h2⟩
theorem pcn_12 {a : Nat} (h : a < 4096) : pcn a ≤ 12 := (bc_at h).2.2.2.2.2.2
theorem pcn_h {x : Int32} (q : ∃ a, a < 4096 ∧ x = nI a) : pcn x.toNatClampNeg ≤ 12 := by
  obtain ⟨a, ha, rfl⟩ := q
  rw [nI_clamp (by omega)]; exact pcn_12 ha
theorem c_bcE {l : Launch} {h : Hp} {x : Int32} (q : ∃ a, a < 4096 ∧ x = nI a) : Mp l yJ6_bitCount_0f7a4 cJ6_bitCount_0f7a4 1 (some .int) 1 [vi x] h (vi (nI (pcn x.toNatClampNeg))) := by
  obtain ⟨a, ha, rfl⟩ := q
  rw [nI_clamp (by omega)]
  exact c_J6_bitCount_0f7a4 ha
/-- an answer is an int; a long -/
def PI (r : Option V) : Prop := ∃ x, r = some (vi x)
def PL (r : Option V) : Prop := ∃ x, r = some (vl x)
set_option maxHeartbeats 4000000 in
theorem c_X6_refuse {l : Launch} {h : Hp} (x : Int32) : Ms l yX6_refuse cX6_refuse 3 (some .int) 1 [vr 6 0, vi x] h (xK h) (fun r h' => r = some (vi x) ∧ Fr 62 63 h h') := by
  refine Ms.of (by decide) (Nat.le_of_ble_eq_true rfl) (fun G C X F => ?_)
  have C : Cx G cX6_refuse 3 RX6 := C
  show Rr G 0 [(0, vr 6 0), (1, vi x)] [] h
  refine r_bipush (v := -2) C (dx dX6_refuse 0 rfl) rfl ?_
  refine r_iload_n C (dx dX6_refuse 1 rfl) rfl ?_
  refine r_isub C (dx dX6_refuse 2 rfl) ?_
  refine r_istore_n (ls' := [(0, vr 6 0), (1, vi x), (2, vi ((-2) - x))]) C (dx dX6_refuse 3 rfl) (by decide) [1, 2, 0] rfl ?_
  refine r_iload_n C (dx dX6_refuse 4 rfl) rfl ?_
  refine r_if_lt (tgt := 28) C (dx dX6_refuse 5 rfl) (by decide) (fun c1 => ?_) (fun c1 => ?_)
  ·
    have c1 : (-2) - x < 0 := c1
    refine r_iload_n C (dx dX6_refuse 19 rfl) rfl ?_
    exact F.1 _ _ _ _ _ rfl rfl (dx dX6_refuse 20 rfl) rfl ⟨congrArg (fun x => some (vi x)) rfl, Fr.rf⟩
  ·
    have c1 : ¬ (-2) - x < 0 := c1
    refine r_iload_n C (dx dX6_refuse 6 rfl) rfl ?_
    refine r_aload_n C (dx dX6_refuse 7 rfl) rfl ?_
    refine g_X6_61 C (dx dX6_refuse 8 rfl) ?_
    refine r_alen0 (v := nI 5) C rfl rfl rfl (dx dX6_refuse 9 rfl) ?_
    refine r_icmp_ge (tgt := 28) C (dx dX6_refuse 10 rfl) (by decide) (fun c2 => ?_) (fun c2 => ?_)
    ·
      have c2 : nI 5 ≤ (-2) - x := c2
      refine r_iload_n C (dx dX6_refuse 19 rfl) rfl ?_
      exact F.1 _ _ _ _ _ rfl rfl (dx dX6_refuse 20 rfl) rfl ⟨congrArg (fun x => some (vi x)) rfl, Fr.rf⟩
    ·
      have c2 : ¬ nI 5 ≤ (-2) - x := c2
      refine r_aload_n C (dx dX6_refuse 11 rfl) rfl ?_
      refine g_X6_61 C (dx dX6_refuse 12 rfl) ?_
      refine r_iload_n C (dx dX6_refuse 13 rfl) rfl ?_
      refine r_dup2 C (dx dX6_refuse 14 rfl) ?_
      refine r_iald (j := (-2 - x).toNatClampNeg) (x := xI h 62 ((-2 - x).toNatClampNeg)) C rfl rfl (by decide) (inR_at (by omega) (inR_ok (n := 5) (by omega) c1 c2)).1 (Nat.lt_of_lt_of_le (inR_at (by omega) (inR_ok (n := 5) (by omega) c1 c2)).2 (by omega)) (dx dX6_refuse 15 rfl) rfl ?_
      refine r_iconst (v := nI 1) C (dx dX6_refuse 16 rfl) rfl ?_
      refine r_iadd C (dx dX6_refuse 17 rfl) ?_
      refine r_iast (j := (-2 - x).toNatClampNeg) C rfl rfl (by decide) (inR_at (by omega) (inR_ok (n := 5) (by omega) c1 c2)).1 (Nat.lt_of_lt_of_le (inR_at (by omega) (inR_ok (n := 5) (by omega) c1 c2)).2 (by omega)) (dx dX6_refuse 18 rfl) ?_
      refine r_iload_n C (dx dX6_refuse 19 rfl) rfl ?_
      exact F.1 _ _ _ _ _ rfl rfl (dx dX6_refuse 20 rfl) rfl ⟨congrArg (fun x => some (vi x)) rfl, Fr.sI (by omega) (by omega)⟩
def undV (x y : Int32) : Bool := decide (x = y) || (decide (y = 0) || (if y = nI 1 then decide (x = nI 5) else (decide (y = nI 2) && (decide (x = nI 3) || decide (x = nI 4)))))
def rfV (g : Sg) (x : Int32) : Int32 := if holdB g x = true then -3 else if bareB g x = true then -4 else nI 0
def hfV (g : Sg) (x : Int32) : Int32 := if rowB g x = true then -3 else if bareB g x = true then -4 else nI 0
def tfV (g : Sg) (s n : Int32) : Int32 := if inR s 8 = true ∧ inR n 21 = true then (if rfV g s = 0 then (if n ≤ szV g s then nI 0 else -2) else rfV g s) else -2
def tdP (v : Vg) (g : Sg) (s d : Int32) : Int32 := hasP v ((elV g s d).toInt32 &&& full (vN v) &&& (crs v ^^^ -1))
def bigB (v : Vg) : Bool := decide (4 < vN v) || decide (6 < vP v)
theorem tf_ok {g : Sg} {s n : Int32} (h : tfV g s n = 0) : ∃ j, j < 21 ∧ n = nI j := by
  unfold tfV at h
  split at h
  · next c => exact inR_ex (by omega) c.2
  · exact absurd h (by decide)
theorem c_kdN {l : Launch} {h : Hp} {k j : Nat} {g : Sg} {x : Int32} (hs : ShAt h k g) (e : kdV g x = nI j) : Mp l yX2_kindOn cX2_kindOn 2 (some .int) 4 [vr 2 k, vi x] h (vi (nI j)) := by
  rw [← e]; exact c_X2_kindOn hs x
theorem c_byN {l : Launch} {h : Hp} {k j : Nat} {g : Sg} {x : Int32} (hs : ShAt h k g) (e : byV g x = nI j) : Mp l yX2_byOn cX2_byOn 2 (some .int) 4 [vr 2 k, vi x] h (vi (nI j)) := by
  rw [← e]; exact c_X2_byOn hs x
theorem btw {x : Int32} {a b : Nat} (ha : a < 2 ^ 30) (hb : b < 2 ^ 30) (h0 : ¬ x < nI a) (h1 : ¬ nI b < x) : ∃ j, a ≤ j ∧ j ≤ b ∧ x = nI j := by
  have h2 : ¬ x < 0 := fun q => h0 (by
    rw [Int32.lt_iff_toInt_lt] at q ⊢
    rw [nI_toInt (by omega)]
    have : (0 : Int32).toInt = 0 := by decide
    omega)
  obtain ⟨j, hj, rfl⟩ := nI_of h2
  refine ⟨j, ?_, ?_, rfl⟩
  · exact Nat.le_of_not_lt fun q => h0 ((nI_ltI hj (by omega)).mpr q)
  · exact Nat.le_of_not_lt fun q => h1 ((nI_ltI (by omega) hj).mpr q)
theorem btw0 {x : Int32} {b : Nat} (hb : b < 2 ^ 30) (h0 : ¬ x < 0) (h1 : ¬ nI b < x) : ∃ j, j ≤ b ∧ x = nI j := by
  obtain ⟨j, _, h2, h3⟩ := btw (a := 0) (by omega) hb h0 h1
  exact ⟨j, h2, h3⟩
theorem add_m1 {x : Int32} : x + (-1) = x - nI 1 := by rw [Int32.sub_eq_add_neg]; rfl
theorem loopDn {Φ : Nat → Prop} (h0 : Φ 0) (hs : ∀ j, Φ j → Φ (j + 1)) : ∀ j, Φ j
  | 0 => h0
  | j + 1 => hs j (loopDn h0 hs j)
theorem fit_nb (b : Bool) : fits .boolean (.int (vp_nar .boolean (b2i b))) = true := by cases b <;> rfl
set_option maxHeartbeats 4000000 in
theorem c_X6_isUnder {l : Launch} {h : Hp} (x y : Int32) : Mp l yX6_isUnder cX6_isUnder 2 (some .boolean) 1 [vi x, vi y] h (vi (b2i (undV x y))) := by
  refine Ms.of (by decide) (Nat.le_of_ble_eq_true rfl) (fun G C X F => ?_)
  have C : Cx G cX6_isUnder 2 RX6 := C
  show Rr G 0 [(0, vi x), (1, vi y)] [] h
  refine r_iload_n C (dx dX6_isUnder 0 rfl) rfl ?_
  refine r_iload_n C (dx dX6_isUnder 1 rfl) rfl ?_
  refine r_icmp_eq (tgt := 9) C (dx dX6_isUnder 2 rfl) (by decide) (fun c1 => ?_) (fun c1 => ?_)
  ·
    have c1 : x = y := c1
    refine r_iconst (v := nI 1) C (dx dX6_isUnder 5 rfl) rfl ?_
    exact F.1 _ _ _ _ _ rfl rfl (dx dX6_isUnder 6 rfl) rfl ⟨congrArg (fun x => some (vi x)) (show nI 1 = b2i _ by rw [show (undV x y) = true by simp_all [undV]]; rfl), rfl⟩
  ·
    have c1 : ¬ x = y := c1
    refine r_iload_n C (dx dX6_isUnder 3 rfl) rfl ?_
    refine r_if_ne (tgt := 11) C (dx dX6_isUnder 4 rfl) (by decide) (fun c2 => ?_) (fun c2 => ?_)
    ·
      have c2 : ¬ y = 0 := c2
      refine r_iload_n C (dx dX6_isUnder 7 rfl) rfl ?_
      refine r_iconst (v := nI 1) C (dx dX6_isUnder 8 rfl) rfl ?_
      refine r_icmp_ne (tgt := 27) C (dx dX6_isUnder 9 rfl) (by decide) (fun c3 => ?_) (fun c3 => ?_)
      ·
        have c3 : ¬ y = nI 1 := c3
        refine r_iload_n C (dx dX6_isUnder 17 rfl) rfl ?_
        refine r_iconst (v := nI 2) C (dx dX6_isUnder 18 rfl) rfl ?_
        refine r_icmp_ne (tgt := 46) C (dx dX6_isUnder 19 rfl) (by decide) (fun c4 => ?_) (fun c4 => ?_)
        ·
          have c4 : ¬ y = nI 2 := c4
          refine r_iconst (v := nI 0) C (dx dX6_isUnder 28 rfl) rfl ?_
          exact F.1 _ _ _ _ _ rfl rfl (dx dX6_isUnder 29 rfl) rfl ⟨congrArg (fun x => some (vi x)) (show nI 0 = b2i _ by rw [show (undV x y) = false by simp_all [undV]]; rfl), rfl⟩
        ·
          have c4 : y = nI 2 := c4
          refine r_iload_n C (dx dX6_isUnder 20 rfl) rfl ?_
          refine r_iconst (v := nI 3) C (dx dX6_isUnder 21 rfl) rfl ?_
          refine r_icmp_eq (tgt := 42) C (dx dX6_isUnder 22 rfl) (by decide) (fun c5 => ?_) (fun c5 => ?_)
          ·
            have c5 : x = nI 3 := c5
            refine r_iconst (v := nI 1) C (dx dX6_isUnder 26 rfl) rfl ?_
            refine r_goto (tgt := 47) C (dx dX6_isUnder 27 rfl) (by decide) ?_
            exact F.1 _ _ _ _ _ rfl rfl (dx dX6_isUnder 29 rfl) rfl ⟨congrArg (fun x => some (vi x)) (show nI 1 = b2i _ by rw [show (undV x y) = true by simp_all [undV]]; rfl), rfl⟩
          ·
            have c5 : ¬ x = nI 3 := c5
            refine r_iload_n C (dx dX6_isUnder 23 rfl) rfl ?_
            refine r_iconst (v := nI 4) C (dx dX6_isUnder 24 rfl) rfl ?_
            refine r_icmp_ne (tgt := 46) C (dx dX6_isUnder 25 rfl) (by decide) (fun c6 => ?_) (fun c6 => ?_)
            ·
              have c6 : ¬ x = nI 4 := c6
              refine r_iconst (v := nI 0) C (dx dX6_isUnder 28 rfl) rfl ?_
              exact F.1 _ _ _ _ _ rfl rfl (dx dX6_isUnder 29 rfl) rfl ⟨congrArg (fun x => some (vi x)) (show nI 0 = b2i _ by rw [show (undV x y) = false by simp_all [undV]]; rfl), rfl⟩
            ·
              have c6 : x = nI 4 := c6
              refine r_iconst (v := nI 1) C (dx dX6_isUnder 26 rfl) rfl ?_
              refine r_goto (tgt := 47) C (dx dX6_isUnder 27 rfl) (by decide) ?_
              exact F.1 _ _ _ _ _ rfl rfl (dx dX6_isUnder 29 rfl) rfl ⟨congrArg (fun x => some (vi x)) (show nI 1 = b2i _ by rw [show (undV x y) = true by simp_all [undV]]; rfl), rfl⟩
      ·
        have c3 : y = nI 1 := c3
        refine r_iload_n C (dx dX6_isUnder 10 rfl) rfl ?_
        refine r_iconst (v := nI 5) C (dx dX6_isUnder 11 rfl) rfl ?_
        refine r_icmp_ne (tgt := 25) C (dx dX6_isUnder 12 rfl) (by decide) (fun c7 => ?_) (fun c7 => ?_)
        ·
          have c7 : ¬ x = nI 5 := c7
          refine r_iconst (v := nI 0) C (dx dX6_isUnder 15 rfl) rfl ?_
          exact F.1 _ _ _ _ _ rfl rfl (dx dX6_isUnder 16 rfl) rfl ⟨congrArg (fun x => some (vi x)) (show nI 0 = b2i _ by rw [show (undV x y) = false by simp_all [undV]]; rfl), rfl⟩
        ·
          have c7 : x = nI 5 := c7
          refine r_iconst (v := nI 1) C (dx dX6_isUnder 13 rfl) rfl ?_
          refine r_goto (tgt := 26) C (dx dX6_isUnder 14 rfl) (by decide) ?_
          exact F.1 _ _ _ _ _ rfl rfl (dx dX6_isUnder 16 rfl) rfl ⟨congrArg (fun x => some (vi x)) (show nI 1 = b2i _ by rw [show (undV x y) = true by simp_all [undV]]; rfl), rfl⟩
    ·
      have c2 : y = 0 := c2
      refine r_iconst (v := nI 1) C (dx dX6_isUnder 5 rfl) rfl ?_
      exact F.1 _ _ _ _ _ rfl rfl (dx dX6_isUnder 6 rfl) rfl ⟨congrArg (fun x => some (vi x)) (show nI 1 = b2i _ by rw [show (undV x y) = true by simp_all [undV]]; rfl), rfl⟩
set_option maxHeartbeats 4000000 in
theorem c_X6_toldFault {l : Launch} {h : Hp} {v u w : Vg} {g : Sg} {B : Nat → Int32} {z : Nat} {κ : Int32} (o : Ow h v u w g B z κ) (hg : GOk g) (s n : Int32) : Mp l yX6_toldFault cX6_toldFault 4 (some .int) 15 [vr 6 0, vi s, vi n] h (vi (tfV g s n)) := by
  refine Ms.of (by decide) (Nat.le_of_ble_eq_true rfl) (fun G C X F => ?_)
  have C : Cx G cX6_toldFault 4 RX6 := C
  show Rr G 0 [(0, vr 6 0), (1, vi s), (2, vi n)] [] h
  have bP := o.pv.bP
  have bM := o.pv.bM
  have bN := o.pv.bN
  have bz := o.pt.2.2
  refine r_aload_n C (dx dX6_toldFault 0 rfl) rfl ?_
  refine g_X6_57 C (dx dX6_toldFault 1 rfl) ?_
  refine r_iload_n C (dx dX6_toldFault 2 rfl) rfl ?_
  refine r_cvP (as := [vi s]) (st := []) (v := vi (b2i (inR s 8))) C X I_X2_isShelf l_X6_72 (c_X2_isShelf _) (by decide) (Nat.le_of_ble_eq_true rfl) List.prefix_rfl rfl rfl (Nat.le_of_ble_eq_true rfl) rfl (dx dX6_toldFault 3 rfl) ?_
  refine rb_eq (b := inR s 8) (tgt := 21) C (dx dX6_toldFault 4 rfl) (by decide) (fun c1 => ?_) (fun c1 => ?_)
  ·
    have c1 : (inR s 8) = false := c1
    refine r_bipush (v := -2) C (dx dX6_toldFault 10 rfl) rfl ?_
    exact F.1 _ _ _ _ _ rfl rfl (dx dX6_toldFault 11 rfl) rfl ⟨congrArg (fun x => some (vi x)) (show -2 = tfV g s n by simp [tfV, c1]), rfl⟩
  ·
    have c1 : (inR s 8) = true := c1
    refine r_iload_n C (dx dX6_toldFault 5 rfl) rfl ?_
    refine r_if_lt (tgt := 21) C (dx dX6_toldFault 6 rfl) (by decide) (fun c2 => ?_) (fun c2 => ?_)
    ·
      have c2 : n < 0 := c2
      refine r_bipush (v := -2) C (dx dX6_toldFault 10 rfl) rfl ?_
      exact F.1 _ _ _ _ _ rfl rfl (dx dX6_toldFault 11 rfl) rfl ⟨congrArg (fun x => some (vi x)) (show -2 = tfV g s n by simp [tfV, c1, (fun n9 => inR_neg (n := n9) c2 : ∀ n9, inR n n9 = false), c2]), rfl⟩
    ·
      have c2 : ¬ n < 0 := c2
      refine r_iload_n C (dx dX6_toldFault 7 rfl) rfl ?_
      refine r_bipush (v := nI 20) C (dx dX6_toldFault 8 rfl) rfl ?_
      refine r_icmp_le (tgt := 24) C (dx dX6_toldFault 9 rfl) (by decide) (fun c3 => ?_) (fun c3 => ?_)
      ·
        have c3 : n ≤ nI 20 := c3
        refine r_aload_n C (dx dX6_toldFault 12 rfl) rfl ?_
        refine g_X6_57 C (dx dX6_toldFault 13 rfl) ?_
        refine r_iload_n C (dx dX6_toldFault 14 rfl) rfl ?_
        refine r_cvP (as := [vi s]) (st := []) (v := vi (rfV g s)) C X I_X2_rowFault l_X6_84 (c_X2_rowFault o.pg _) (by decide) (Nat.le_of_ble_eq_true rfl) List.prefix_rfl rfl rfl (Nat.le_of_ble_eq_true rfl) rfl (dx dX6_toldFault 15 rfl) ?_
        refine r_istore_n (ls' := [(0, vr 6 0), (1, vi s), (2, vi n), (3, vi (rfV g s))]) C (dx dX6_toldFault 16 rfl) (by decide) [1, 2, 3, 0] rfl ?_
        refine r_iload_n C (dx dX6_toldFault 17 rfl) rfl ?_
        refine r_if_eq (tgt := 39) C (dx dX6_toldFault 18 rfl) (by decide) (fun c4 => ?_) (fun c4 => ?_)
        ·
          have c4 : rfV g s = 0 := c4
          refine r_aload_n C (dx dX6_toldFault 21 rfl) rfl ?_
          refine g_X6_57 C (dx dX6_toldFault 22 rfl) ?_
          refine r_iload_n C (dx dX6_toldFault 23 rfl) rfl ?_
          refine r_cvP (as := [vi s]) (st := []) (v := vi (szV g s)) C X I_X2_sizeOf l_X6_87 (c_X2_sizeOf o.pg _) (by decide) (Nat.le_of_ble_eq_true rfl) List.prefix_rfl rfl rfl (Nat.le_of_ble_eq_true rfl) rfl (dx dX6_toldFault 24 rfl) ?_
          refine r_iload_n C (dx dX6_toldFault 25 rfl) rfl ?_
          refine r_icmp_ge (tgt := 56) C (dx dX6_toldFault 26 rfl) (by decide) (fun c5 => ?_) (fun c5 => ?_)
          ·
            have c5 : n ≤ szV g s := c5
            refine r_iconst (v := nI 0) C (dx dX6_toldFault 29 rfl) rfl ?_
            exact F.1 _ _ _ _ _ rfl rfl (dx dX6_toldFault 30 rfl) rfl ⟨congrArg (fun x => some (vi x)) (show nI 0 = tfV g s n by simp [tfV, c1, c2, c3, (Int32.not_lt.mpr c3), c4, c5, inR_mid (n := 20) (by omega) c2 (Int32.not_lt.mpr c3)]), rfl⟩
          ·
            have c5 : ¬ n ≤ szV g s := c5
            refine r_bipush (v := -2) C (dx dX6_toldFault 27 rfl) rfl ?_
            refine r_goto (tgt := 57) C (dx dX6_toldFault 28 rfl) (by decide) ?_
            exact F.1 _ _ _ _ _ rfl rfl (dx dX6_toldFault 30 rfl) rfl ⟨congrArg (fun x => some (vi x)) (show -2 = tfV g s n by simp [tfV, c1, c2, c3, (Int32.not_lt.mpr c3), c4, c5, inR_mid (n := 20) (by omega) c2 (Int32.not_lt.mpr c3)]), rfl⟩
        ·
          have c4 : ¬ rfV g s = 0 := c4
          refine r_iload_n C (dx dX6_toldFault 19 rfl) rfl ?_
          exact F.1 _ _ _ _ _ rfl rfl (dx dX6_toldFault 20 rfl) rfl ⟨congrArg (fun x => some (vi x)) (show rfV g s = tfV g s n by simp [tfV, c1, c2, c3, (Int32.not_lt.mpr c3), c4, inR_mid (n := 20) (by omega) c2 (Int32.not_lt.mpr c3)]), rfl⟩
      ·
        have c3 : ¬ n ≤ nI 20 := c3
        refine r_bipush (v := -2) C (dx dX6_toldFault 10 rfl) rfl ?_
        exact F.1 _ _ _ _ _ rfl rfl (dx dX6_toldFault 11 rfl) rfl ⟨congrArg (fun x => some (vi x)) (show -2 = tfV g s n by simp [tfV, c1, c2, c3, (inR_gt (n := 20) (by omega) (Int32.not_le.mp c3) : inR n 21 = false), (Int32.not_le.mp c3)]), rfl⟩
set_option maxHeartbeats 4000000 in
theorem c_X6_partsOnToldDay {l : Launch} {h : Hp} {v u w : Vg} {g : Sg} {B : Nat → Int32} {z : Nat} {κ : Int32} (o : Ow h v u w g B z κ) (hg : GOk g) (s n : Int32) : Mp l yX6_partsOnToldDay cX6_partsOnToldDay 4 (some .int) 15 [vr 6 0, vi s, vi n] h (vi (tdP v g s n)) := by
  refine Ms.of (by decide) (Nat.le_of_ble_eq_true rfl) (fun G C X F => ?_)
  have C : Cx G cX6_partsOnToldDay 4 RX6 := C
  show Rr G 0 [(0, vr 6 0), (1, vi s), (2, vi n)] [] h
  have bP := o.pv.bP
  have bM := o.pv.bM
  have bN := o.pv.bN
  have bz := o.pt.2.2
  refine r_aload_n C (dx dX6_partsOnToldDay 0 rfl) rfl ?_
  refine g_X6_57 C (dx dX6_partsOnToldDay 1 rfl) ?_
  refine r_iload_n C (dx dX6_partsOnToldDay 2 rfl) rfl ?_
  refine r_iload_n C (dx dX6_partsOnToldDay 3 rfl) rfl ?_
  refine r_cvP (as := [vi s, vi n]) (st := []) (v := vl (elV g s n)) C X I_X2_elementAt l_X6_107 (c_X2_elementAt o.pg hg.1 _ _) (by decide) (Nat.le_of_ble_eq_true rfl) List.prefix_rfl rfl rfl (Nat.le_of_ble_eq_true rfl) rfl (dx dX6_partsOnToldDay 4 rfl) ?_
  refine r_l2i C (dx dX6_partsOnToldDay 5 rfl) ?_
  refine r_istore_n (ls' := [(0, vr 6 0), (1, vi s), (2, vi n), (3, vi ((elV g s n).toInt32))]) C (dx dX6_partsOnToldDay 6 rfl) (by decide) [1, 2, 3, 0] rfl ?_
  refine r_aload_n C (dx dX6_partsOnToldDay 7 rfl) rfl ?_
  refine g_X6_10 C (dx dX6_partsOnToldDay 8 rfl) ?_
  refine r_iload_n C (dx dX6_partsOnToldDay 9 rfl) rfl ?_
  refine r_aload_n C (dx dX6_partsOnToldDay 10 rfl) rfl ?_
  refine g_X6_10 C (dx dX6_partsOnToldDay 11 rfl) ?_
  refine r_cvP (as := []) (st := [vi ((elV g s n).toInt32), vr 5 1]) (v := vi (full (vN v))) C X I_X5_allPeople l_X6_282 (c_X5_allPeople o.pv) (by decide) (Nat.le_of_ble_eq_true rfl) List.prefix_rfl rfl rfl (Nat.le_of_ble_eq_true rfl) rfl (dx dX6_partsOnToldDay 12 rfl) ?_
  refine r_iand C (dx dX6_partsOnToldDay 13 rfl) ?_
  refine r_aload_n C (dx dX6_partsOnToldDay 14 rfl) rfl ?_
  refine g_X6_10 C (dx dX6_partsOnToldDay 15 rfl) ?_
  refine r_cvP (as := []) (st := [vi (((elV g s n).toInt32) &&& (full (vN v))), vr 5 1]) (v := vi (crs v)) C X I_X5_crossPeople l_X6_337 (c_X5_crossPeople o.pv) (by decide) (Nat.le_of_ble_eq_true rfl) List.prefix_rfl rfl rfl (Nat.le_of_ble_eq_true rfl) rfl (dx dX6_partsOnToldDay 16 rfl) ?_
  refine r_iconst (v := -1) C (dx dX6_partsOnToldDay 17 rfl) rfl ?_
  refine r_ixor C (dx dX6_partsOnToldDay 18 rfl) ?_
  refine r_iand C (dx dX6_partsOnToldDay 19 rfl) ?_
  refine r_cvP (as := [vi ((((elV g s n).toInt32) &&& (full (vN v))) &&& ((crs v) ^^^ (-1)))]) (st := []) (v := vi (hasP v ((((elV g s n).toInt32) &&& (full (vN v))) &&& ((crs v) ^^^ (-1))))) C X I_X5_partsWith l_X6_223 (c_X5_partsWith o.pv _) (by decide) (Nat.le_of_ble_eq_true rfl) List.prefix_rfl rfl rfl (Nat.le_of_ble_eq_true rfl) rfl (dx dX6_partsOnToldDay 20 rfl) ?_
  exact F.1 _ _ _ _ _ rfl rfl (dx dX6_partsOnToldDay 21 rfl) rfl ⟨congrArg (fun x => some (vi x)) (show hasP v ((((elV g s n).toInt32) &&& (full (vN v))) &&& ((crs v) ^^^ (-1))) = tdP v g s n by rfl), rfl⟩
set_option maxHeartbeats 4000000 in
theorem c_X6_isTooBigForBest {l : Launch} {h : Hp} {v u w : Vg} {g : Sg} {B : Nat → Int32} {z : Nat} {κ : Int32} (o : Ow h v u w g B z κ) (hg : GOk g)  : Mp l yX6_isTooBigForBest cX6_isTooBigForBest 1 (some .boolean) 15 [vr 6 0] h (vi (b2i (bigB v))) := by
  refine Ms.of (by decide) (Nat.le_of_ble_eq_true rfl) (fun G C X F => ?_)
  have C : Cx G cX6_isTooBigForBest 1 RX6 := C
  show Rr G 0 [(0, vr 6 0)] [] h
  have bP := o.pv.bP
  have bM := o.pv.bM
  have bN := o.pv.bN
  have bz := o.pt.2.2
  refine r_aload_n C (dx dX6_isTooBigForBest 0 rfl) rfl ?_
  refine g_X6_10 C (dx dX6_isTooBigForBest 1 rfl) ?_
  refine g_X6_154 (x := nI (vN v)) C (dx dX6_isTooBigForBest 2 rfl) o.pv.eN ?_
  refine r_iconst (v := nI 4) C (dx dX6_isTooBigForBest 3 rfl) rfl ?_
  refine rn_gt (a := vN v) (b := 4) (tgt := 23) C (by omega) (by omega) (dx dX6_isTooBigForBest 4 rfl) (by decide) (fun c1 => ?_) (fun c1 => ?_)
  · first
    | (omega; done)
    | (
        have c1 : 4 < vN v := c1
        refine r_iconst (v := nI 1) C (dx dX6_isTooBigForBest 10 rfl) rfl ?_
        refine r_goto (tgt := 28) C (dx dX6_isTooBigForBest 11 rfl) (by decide) ?_
        exact F.1 _ _ _ _ _ rfl rfl (dx dX6_isTooBigForBest 13 rfl) rfl ⟨congrArg (fun x => some (vi x)) (show nI 1 = b2i _ by rw [show (bigB v) = true by (simp [bigB]; omega)]; rfl), rfl⟩)
  · first
    | (omega; done)
    | (
        have c1 : vN v ≤ 4 := c1
        refine r_aload_n C (dx dX6_isTooBigForBest 5 rfl) rfl ?_
        refine g_X6_10 C (dx dX6_isTooBigForBest 6 rfl) ?_
        refine g_X6_138 (x := nI (vP v)) C (dx dX6_isTooBigForBest 7 rfl) o.pv.eP ?_
        refine r_bipush (v := nI 6) C (dx dX6_isTooBigForBest 8 rfl) rfl ?_
        refine rn_le (a := vP v) (b := 6) (tgt := 27) C (by omega) (by omega) (dx dX6_isTooBigForBest 9 rfl) (by decide) (fun c2 => ?_) (fun c2 => ?_)
        · first
          | (omega; done)
          | (
              have c2 : vP v ≤ 6 := c2
              refine r_iconst (v := nI 0) C (dx dX6_isTooBigForBest 12 rfl) rfl ?_
              exact F.1 _ _ _ _ _ rfl rfl (dx dX6_isTooBigForBest 13 rfl) rfl ⟨congrArg (fun x => some (vi x)) (show nI 0 = b2i _ by rw [show (bigB v) = false by (simp [bigB]; omega)]; rfl), rfl⟩)
        · first
          | (omega; done)
          | (
              have c2 : 6 < vP v := c2
              refine r_iconst (v := nI 1) C (dx dX6_isTooBigForBest 10 rfl) rfl ?_
              refine r_goto (tgt := 28) C (dx dX6_isTooBigForBest 11 rfl) (by decide) ?_
              exact F.1 _ _ _ _ _ rfl rfl (dx dX6_isTooBigForBest 13 rfl) rfl ⟨congrArg (fun x => some (vi x)) (show nI 1 = b2i _ by rw [show (bigB v) = true by (simp [bigB]; omega)]; rfl), rfl⟩))
set_option maxHeartbeats 4000000 in
theorem c_X6_tryHolding {l : Launch} {h : Hp} {v u w : Vg} {g : Sg} {B : Nat → Int32} {z : Nat} {κ : Int32} (o : Ow h v u w g B z κ) (hg : GOk g) {s : Int32} (hh : holdB g s = true) : Ms l yX6_tryHolding cX6_tryHolding 2 none 10 [vr 6 0, vi s] h (xK h) (fun r h' => r = none ∧ (∃ u', Ow h' v u' w g B z κ) ∧ Fr 0 63 h h') := by
  refine Ms.of (by decide) (Nat.le_of_ble_eq_true rfl) (fun G C X F => ?_)
  have C : Cx G cX6_tryHolding 2 RX6 := C
  show Rr G 0 [(0, vr 6 0), (1, vi s)] [] h
  have bP := o.pv.bP
  have bM := o.pv.bM
  have bN := o.pv.bN
  have bz := o.pt.2.2
  obtain ⟨κ1, b1, h1, h2, h3, ek, eb⟩ := hg.hold hh
  refine r_aload_n C (dx dX6_tryHolding 0 rfl) rfl ?_
  refine g_X6_16 C (dx dX6_tryHolding 1 rfl) ?_
  refine r_aload_n C (dx dX6_tryHolding 2 rfl) rfl ?_
  refine g_X6_10 C (dx dX6_tryHolding 3 rfl) ?_
  refine r_cv (as := [vr 5 1]) (st := []) C X I_X5_takeOver l_X6_191 (c_X5_takeOver o.pu o.pv (by omega)) (by decide) (Nat.le_of_ble_eq_true rfl) List.prefix_rfl List.prefix_rfl rfl rfl (Nat.le_of_ble_eq_true rfl) rfl (dx dX6_tryHolding 4 rfl) ?_
  intro rh1 h1 hph1 kkh1
  obtain ⟨rfl, wh1, gh1⟩ := hph1
  have oh1 : Ow h1 v v w g B z (κ) := o.tri wh1 gh1
  have fh1 : Fr 0 63 h h1 := gh1.mono (by omega) (by omega)
  have kh1 : xK h1 = xK h := kkh1
  refine r_aload_n C (dx dX6_tryHolding 5 rfl) rfl ?_
  refine g_X6_36 C (dx dX6_tryHolding 6 rfl) ?_
  refine r_aload_n C (dx dX6_tryHolding 7 rfl) rfl ?_
  refine g_X6_16 C (dx dX6_tryHolding 8 rfl) ?_
  refine r_aload_n C (dx dX6_tryHolding 9 rfl) rfl ?_
  refine g_X6_57 C (dx dX6_tryHolding 10 rfl) ?_
  refine r_iload_n C (dx dX6_tryHolding 11 rfl) rfl ?_
  refine r_cvP (as := [vi s]) (st := [vr 5 10, vr 0 32]) (v := vi (nI (κ1))) C X I_X2_kindOn l_X6_117 (c_kdN oh1.pg ek) (by decide) (Nat.le_of_ble_eq_true rfl) (pfx_eq kh1) rfl rfl (Nat.le_of_ble_eq_true rfl) rfl (dx dX6_tryHolding 12 rfl) ?_
  refine r_aload_n C (dx dX6_tryHolding 13 rfl) rfl ?_
  refine g_X6_57 C (dx dX6_tryHolding 14 rfl) ?_
  refine r_iload_n C (dx dX6_tryHolding 15 rfl) rfl ?_
  refine r_cvP (as := [vi s]) (st := [vi (nI (κ1)), vr 5 10, vr 0 32]) (v := vi (nI b1)) C X I_X2_byOn l_X6_124 (c_byN oh1.pg eb) (by decide) (Nat.le_of_ble_eq_true rfl) (pfx_eq kh1) rfl rfl (Nat.le_of_ble_eq_true rfl) rfl (dx dX6_tryHolding 16 rfl) ?_
  refine r_cv (as := [vr 5 10, vi (nI (κ1)), vi (nI b1)]) (st := []) C X I_X0_tellAnew l_X6_260 (c_X0_tellAnew (r := fun i => xI h1 (32 + 1) i) (κ := κ1) (b := b1) oh1.pu (fun i _ => rfl) (by omega) ⟨by omega, by omega⟩ (by omega)) (by decide) (Nat.le_of_ble_eq_true rfl) List.prefix_rfl (pfx_eq kh1) rfl rfl (Nat.le_of_ble_eq_true rfl) rfl (dx dX6_tryHolding 17 rfl) ?_
  intro rh2 h2 hph2 kkh2
  obtain ⟨rfl, wh2, gh2⟩ := hph2
  obtain ⟨uh2, oh2⟩ : ∃ uh2, Ow h2 v uh2 w g B z (κ) := ⟨_, oh1.rul wh2 gh2⟩
  have fh2 : Fr 0 63 h h2 := fh1.tr (gh2.to (fun b q => RA.lo q))
  have kh2 : xK h2 = xK h := (kkh2).trans kh1
  exact F.2.2.1 _ _ _ rfl (dx dX6_tryHolding 18 rfl) kh2 ⟨rfl, ⟨_, oh2⟩, fh2⟩
end
section
/-! PART 22: the class: what it answers to calls -/
/-- rows, holdings: what is answered, what the shelves hold then -/
def rowB9 (s t n : Int32) : Bool := inR s 8 && (inR t 5 && inR n 41)
def rowA (s t n : Int32) : Int32 := if rowB9 s t n = true then nI 1 else -2
def rowG (g : Sg) (s t n : Int32) : Sg := if rowB9 s t n = true then pRow g s.toNatClampNeg t n.toNatClampNeg else g
def setB (g : Sg) (s i : Int32) : Bool := inR s 8 && (decide (rfV g s = 0) && (decide (¬ i < 0) && decide (i < szV g s)))
def setA (g : Sg) (s i : Int32) : Int32 := if inR s 8 = true then (if rfV g s = 0 then (if setB g s i = true then nI 1 else -2) else rfV g s) else -2
def setG (g : Sg) (s i : Int32) (x : Int64) : Sg := if setB g s i = true then pEl g s.toNatClampNeg i x else g
def hldB (s k a : Int32) : Bool := inR s 8 && (decide (¬ k < nI 1 ∧ ¬ nI 5 < k) && inR a 100)
def hldA (s k a : Int32) : Int32 := if hldB s k a = true then nI 1 else -2
def hldG (g : Sg) (s k a : Int32) : Sg := if hldB s k a = true then pHold g s.toNatClampNeg k.toNatClampNeg a.toNatClampNeg else g
def feedA (z : Nat) (n : Int32) : Int32 := if n < nI 1 then -2 else if nI 4 < n then -2 else if z + n.toNatClampNeg ≤ 250 then nI (z + n.toNatClampNeg) else -6
def feedZ (z : Nat) (n : Int32) : Nat := if n < nI 1 then z else if nI 4 < n then z else if z + n.toNatClampNeg ≤ 250 then z + n.toNatClampNeg else z
theorem clN {j : Nat} (h : j < 2 ^ 31) : (nI j).toNatClampNeg = j := nI_clamp h
theorem inN {j n : Nat} (h : j < 2 ^ 31) (h2 : j < n) : inR (nI j) n = true := by rw [inR_nI h]; exact decide_eq_true h2
theorem pair_ex {v : Vg} {x y : Int32} (h : pairV v x y = true) (hb : vM v ≤ 6 := by assumption) : ∃ m, m < vM v ∧ ∃ n, n < vM v ∧ m ≠ n ∧ x = nI m ∧ y = nI n := by
  unfold pairV at h
  simp only [Bool.and_eq_true, decide_eq_true_eq] at h
  obtain ⟨⟨h1, h2⟩, h3⟩ := h
  obtain ⟨m, hm, rfl⟩ := inR_ex (by omega) h1
  obtain ⟨n, hn, rfl⟩ := inR_ex (by omega) h2
  exact ⟨m, hm, n, hn, fun q => h3 (by rw [q]), rfl, rfl⟩
theorem big_no {v : Vg} (h : bigB v = false) : vN v ≤ 4 ∧ vP v ≤ 6 := by
  unfold bigB at h
  simp only [Bool.or_eq_false_iff, decide_eq_false_iff_not] at h
  omega
theorem hf_hold {g : Sg} {x : Int32} (h : hfV g x = 0) : holdB g x = true := by
  unfold hfV rowB at h
  rcases Bool.eq_false_or_eq_true (holdB g x) with q | q
  · exact q
  · exfalso
    rw [q] at h
    rcases Bool.eq_false_or_eq_true (bareB g x) with p | p
    · rw [p] at h; exact absurd h (by decide)
    · rw [p] at h; exact absurd h (by decide)
theorem sz_nat {g : Sg} (a : GOk g) (x : Int32) : ∃ z, z ≤ 40 ∧ szV g x = nI z := by
  unfold szV
  split
  · next c =>
    obtain ⟨j, hj, e⟩ := inR_ex (by omega) (a.1 _ (inR_at (by omega) (row_in c)).2)
    exact ⟨j, by omega, e⟩
  · exact ⟨0, by omega, rfl⟩
theorem cp_le {x : Int32} {z i n : Nat} (e : x = nI z) (hz : z ≤ 40) (hi : i < 2 ^ 31) (hn : n < 2 ^ 31) (c : nI i ≤ x - nI n) : i + n ≤ z := by
  subst e
  rw [Int32.le_iff_toInt_le, nI_toInt hi] at c
  have e2 : (nI z - nI n).toInt = (z : Int) - n := by
    rw [Int32.toInt_sub, nI_toInt (by omega), nI_toInt hn]
    exact Int.bmod_eq_of_le (by omega) (by omega)
  rw [e2] at c; omega
theorem not_row {g : Sg} {x : Int32} (h1 : bareB g x = false) (h2 : holdB g x = false) : rowB g x = true := by unfold rowB; rw [h1, h2]; rfl
def cpOk (g : Sg) (p q i j n : Int32) : Bool := decide (¬ n < 0) && (decide (¬ i < 0) && (decide (¬ j < 0) && (decide (i ≤ szV g p - n) && decide (j ≤ szV g q - n))))
def copF (g : Sg) (p q i j n : Int32) : Int32 := if (inR p 8 && inR q 8) = true then (if (holdB g p || holdB g q) = true then -3 else if (bareB g p || bareB g q) = true then -4 else if tOn g p = tOn g q then (if cpOk g p q i j n = true then 0 else -2) else -3) else -2
def copA (g : Sg) (p q i j n : Int32) : Int32 := if copF g p q i j n = 0 then n else copF g p q i j n
def copG (g : Sg) (p q i j n : Int32) : Sg := if copF g p q i j n = 0 then pCp g p.toNatClampNeg q.toNatClampNeg i.toNatClampNeg j.toNatClampNeg n.toNatClampNeg else g
def backA (κ : Int32) : Int32 := if κ = 0 then -5 else nI 1
theorem wgt_c {u v : Vg} (h5 : ∀ i, vF u 5 i = vF v 5 i) (h6 : ∀ i, vF u 6 i = vF v 6 i) (s : Nat) : ∀ n, wgt u s n = wgt v s n
  | 0 => rfl
  | n + 1 => by simp only [wgt, wgt_c h5 h6 s n, fac, h5, h6]
theorem c_allPs {l : Launch} {h : Hp} {k S : Nat} {v : Vg} (hv : VilAt h k v) (hS : S = 2 ^ vP v) : Mp l yX5_allParts cX5_allParts 1 (some .int) 1 [vr 5 k] h (vi (nI (S - 1))) := by subst hS; exact c_X5_allParts hv
theorem pow12 {n : Nat} (h : n ≤ 12) : 1 ≤ 2 ^ n ∧ 2 ^ n ≤ 4096 := ⟨Nat.one_le_two_pow, Nat.le_trans (Nat.pow_le_pow_right (by omega) h) (by decide)⟩
end
section
/-! PART 23: the class: spare -/
theorem c_worthOfDayW {l : Launch} {h : Hp} {k kv : Nat} {v : Vg} (hv : VilAt h kv v) (hd : kv + 9 ≤ k ∨ k + 4 ≤ kv)  : Ms l yX4_worthOfDay cX4_worthOfDay 2 (some .long) 4 [vr 4 k, vr 5 kv] h (xK h) (fun r h' => r = some (vl (dayC v)) ∧ (∀ s, s < 2 ^ vN v → xL h' (k + 1) s = wgt v s (vN v)) ∧ Fr (k + 1) (k + 3) h h') := by
  refine Ms.of (by decide) (Nat.le_of_ble_eq_true rfl) (fun G C X F => ?_)
  have C : Cx G cX4_worthOfDay 2 RX4 := C
  show Rr G 0 [(0, vr 4 k), (1, vr 5 kv)] [] h
  have bN := hv.bN
  have p8 := pow8 bN
  refine r_aload_n C (dx dX4_worthOfDay 0 rfl) rfl ?_
  refine r_aload_n C (dx dX4_worthOfDay 1 rfl) rfl ?_
  refine r_cv (as := [vr 5 kv]) (st := []) C X I_X4_weigh l_X4_39 (c_X4_weigh hv hd) (by decide) (Nat.le_of_ble_eq_true rfl) List.prefix_rfl List.prefix_rfl rfl rfl (Nat.le_of_ble_eq_true rfl) rfl (dx dX4_worthOfDay 2 rfl) ?_
  intro rh1 h1 hph1 kkh1
  obtain ⟨rfl, qh1, gh1⟩ := hph1
  have fh1 : Fr (k + 1) (k + 3) h h1 := (gh1.mono (by omega) (by omega))
  have kh1 : xK h1 = xK h := kkh1
  have uh1 : VilAt h1 kv v := hv.fr fh1 (by omega)
  refine r_aload_n C (dx dX4_worthOfDay 3 rfl) rfl ?_
  refine r_aload_n C (dx dX4_worthOfDay 4 rfl) rfl ?_
  refine r_cv (as := [vr 5 kv]) (st := []) C X I_X4_worthAsWeighed l_X4_58 (c_X4_worthAsWeighed uh1 hd qh1) (by decide) (Nat.le_of_ble_eq_true rfl) List.prefix_rfl (pfx_eq kh1) rfl rfl (Nat.le_of_ble_eq_true rfl) rfl (dx dX4_worthOfDay 5 rfl) ?_
  intro rh2 h2 hph2 kkh2
  obtain ⟨rfl, gh2⟩ := hph2
  have fh2 : Fr (k + 1) (k + 3) h h2 := fh1.tr (gh2.mono (by omega) (by omega))
  have kh2 : xK h2 = xK h := kkh2.trans kh1
  exact F.2.1 _ _ _ _ rfl (dx dX4_worthOfDay 6 rfl) kh2 ⟨rfl, fun s hs => (gh2.L (by omega) s).trans (qh1 s hs), fh2⟩
/-- the village tried differs in its pieces alone, and it is weighed -/
def SpI (v u : Vg) (h : Hp) : Prop := vN u = vN v ∧ (∀ i, vF u 5 i = vF v 5 i) ∧ (∀ i, vF u 6 i = vF v 6 i) ∧ ∀ s, s < 2 ^ vN v → xL h (28 + 1) s = wgt v s (vN v)
theorem SpI.st {v u : Vg} {h : Hp} {a c j i : Nat} {x y : Int32} (q : SpI v u h) (hc : c < 2) : SpI v (vset u c i x) (sI h a j y) :=
  ⟨q.1, fun i9 => by rw [← q.2.1 i9]; simp [vset, vF, show ¬ 5 = c by omega], fun i9 => by rw [← q.2.2.1 i9]; simp [vset, vF, show ¬ 6 = c by omega], fun s hs => q.2.2.2 s hs⟩
theorem SpI.fr {v u : Vg} {h h1 : Hp} (q : SpI v u h) (f : Fr (28 + 2) (28 + 3) h h1) : SpI v u h1 := ⟨q.1, q.2.1, q.2.2.1, fun s hs => (f.L (by omega) s).trans (q.2.2.2 s hs)⟩
theorem SpI.w {v u : Vg} {h : Hp} (q : SpI v u h) : ∀ s, s < 2 ^ vN u → xL h (28 + 1) s = wgt u s (vN u) := fun s hs => by
  rw [wgt_c q.2.1 q.2.2.1, q.1]; exact q.2.2.2 s (by rw [← q.1]; exact hs)
end
