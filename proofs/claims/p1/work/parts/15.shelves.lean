/-! PART 15: shelves -/
/-- thing, size, by, elements -/
abbrev Sg : Type := (Nat → Int32) × (Nat → Int32) × (Nat → Int32) × (Nat → Nat → Int64)
abbrev gT (g : Sg) : Nat → Int32 := g.1
abbrev gZ (g : Sg) : Nat → Int32 := g.2.1
abbrev gY (g : Sg) : Nat → Int32 := g.2.2.1
abbrev gE (g : Sg) : Nat → Nat → Int64 := g.2.2.2
def ShAt (h : Hp) (k : Nat) (g : Sg) : Prop := (∀ s, s < 8 → xI h (k + 1) s = gT g s) ∧ (∀ s, s < 8 → xI h (k + 2) s = gZ g s) ∧ (∀ s, s < 8 → xI h (k + 12) s = gY g s) ∧ (∀ s, s < 8 → ∀ i, i < 40 → xL h (k + 4 + s) i = gE g s i)
def tOn (g : Sg) (x : Int32) : Int32 := if inR x 8 = true then gT g x.toNatClampNeg else -1
def bareB (g : Sg) (x : Int32) : Bool := decide (tOn g x = -1)
def holdB (g : Sg) (x : Int32) : Bool := decide (¬ tOn g x < nI 10)
def rowB (g : Sg) (x : Int32) : Bool := !bareB g x && !holdB g x
theorem tOn_no {g : Sg} {x : Int32} (h : inR x 8 = false) : tOn g x = -1 := by simp [tOn, h]
theorem hold_in {g : Sg} {x : Int32} (h : holdB g x = true) : inR x 8 = true := by
  rcases Bool.eq_false_or_eq_true (inR x 8) with q | q
  · exact q
  · exfalso
    unfold holdB at h
    rw [tOn_no q] at h
    exact absurd h (by decide)
theorem row_in {g : Sg} {x : Int32} (h : rowB g x = true) : inR x 8 = true := by
  rcases Bool.eq_false_or_eq_true (inR x 8) with q | q
  · exact q
  · exfalso
    unfold rowB bareB at h
    rw [tOn_no q] at h
    simp at h
def szV (g : Sg) (x : Int32) : Int32 := if rowB g x = true then gZ g x.toNatClampNeg else nI 0
def kdV (g : Sg) (x : Int32) : Int32 := if holdB g x = true then gT g x.toNatClampNeg - nI 10 else nI 0
def byV (g : Sg) (x : Int32) : Int32 := if holdB g x = true then gY g x.toNatClampNeg else nI 0
def elV (g : Sg) (x i : Int32) : Int64 := if i < 0 ∨ szV g x ≤ i then 0 else gE g x.toNatClampNeg i.toNatClampNeg
/-- sizes are at most 40 -/
def SzOk (g : Sg) : Prop := ∀ s, s < 8 → inR (gZ g s) 41 = true
theorem el_in {g : Sg} {x i : Int32} (hz : SzOk g) (h0 : ¬ i < 0) (h1 : ¬ szV g x ≤ i) : inR x 8 = true ∧ inR i 40 = true := by
  rcases Bool.eq_false_or_eq_true (rowB g x) with q | q
  · have q8 := row_in q
    refine ⟨q8, ?_⟩
    rw [szV, if_pos q] at h1
    have z := hz _ (inR_at (by omega) q8).2
    obtain ⟨j, hj, rfl⟩ := nI_of h0
    obtain ⟨e, l⟩ := inR_at (by omega) z
    rw [e] at h1
    have : ¬ (gZ g x.toNatClampNeg).toNatClampNeg ≤ j := fun y => h1 ((nI_leI (by omega) (by omega)).mpr y)
    rw [inR_nI (by omega)]; exact decide_eq_true (by omega)
  · rw [szV, if_neg (by simp [q])] at h1
    obtain ⟨j, hj, rfl⟩ := nI_of h0
    exact absurd ((nI_leI (by omega) hj).mpr (Nat.zero_le j)) h1
set_option maxHeartbeats 4000000 in
theorem c_X2_isShelf {l : Launch} {h : Hp} {k : Nat} (x : Int32) : Mp l yX2_isShelf cX2_isShelf 2 (some .boolean) 1 [vr 2 k, vi x] h (vi (b2i (inR x 8))) := by
  refine Ms.of (by decide) (Nat.le_of_ble_eq_true rfl) (fun G C X F => ?_)
  have C : Cx G cX2_isShelf 2 RX2 := C
  show Rr G 0 [(0, vr 2 k), (1, vi x)] [] h
  refine r_iload_n C (dx dX2_isShelf 0 rfl) rfl ?_
  refine r_if_lt (tgt := 14) C (dx dX2_isShelf 1 rfl) (by decide) (fun c1 => ?_) (fun c1 => ?_)
  ·
    have c1 : x < 0 := c1
    refine r_iconst (v := nI 0) C (dx dX2_isShelf 7 rfl) rfl ?_
    exact F.1 _ _ _ _ _ rfl rfl (dx dX2_isShelf 8 rfl) rfl ⟨congrArg (fun x => some (vi x)) (show nI 0 = b2i _ by rw [show (inR x 8) = false by first | exact inR_neg (by assumption) | exact inR_big (by omega) (by assumption) | exact inR_ok (by omega) (by assumption) (by assumption)]; rfl), rfl⟩
  ·
    have c1 : ¬ x < 0 := c1
    refine r_iload_n C (dx dX2_isShelf 2 rfl) rfl ?_
    refine r_bipush (v := nI 8) C (dx dX2_isShelf 3 rfl) rfl ?_
    refine r_icmp_ge (tgt := 14) C (dx dX2_isShelf 4 rfl) (by decide) (fun c2 => ?_) (fun c2 => ?_)
    ·
      have c2 : nI 8 ≤ x := c2
      refine r_iconst (v := nI 0) C (dx dX2_isShelf 7 rfl) rfl ?_
      exact F.1 _ _ _ _ _ rfl rfl (dx dX2_isShelf 8 rfl) rfl ⟨congrArg (fun x => some (vi x)) (show nI 0 = b2i _ by rw [show (inR x 8) = false by first | exact inR_neg (by assumption) | exact inR_big (by omega) (by assumption) | exact inR_ok (by omega) (by assumption) (by assumption)]; rfl), rfl⟩
    ·
      have c2 : ¬ nI 8 ≤ x := c2
      refine r_iconst (v := nI 1) C (dx dX2_isShelf 5 rfl) rfl ?_
      refine r_goto (tgt := 15) C (dx dX2_isShelf 6 rfl) (by decide) ?_
      exact F.1 _ _ _ _ _ rfl rfl (dx dX2_isShelf 8 rfl) rfl ⟨congrArg (fun x => some (vi x)) (show nI 1 = b2i _ by rw [show (inR x 8) = true by first | exact inR_neg (by assumption) | exact inR_big (by omega) (by assumption) | exact inR_ok (by omega) (by assumption) (by assumption)]; rfl), rfl⟩
set_option maxHeartbeats 4000000 in
theorem c_X2_thingOn {l : Launch} {h : Hp} {k : Nat} {g : Sg} (hs : ShAt h k g) (x : Int32) : Mp l yX2_thingOn cX2_thingOn 2 (some .int) 2 [vr 2 k, vi x] h (vi (tOn g x)) := by
  refine Ms.of (by decide) (Nat.le_of_ble_eq_true rfl) (fun G C X F => ?_)
  have C : Cx G cX2_thingOn 2 RX2 := C
  show Rr G 0 [(0, vr 2 k), (1, vi x)] [] h
  refine r_aload_n C (dx dX2_thingOn 0 rfl) rfl ?_
  refine r_iload_n C (dx dX2_thingOn 1 rfl) rfl ?_
  refine r_cvP (as := [vi x]) (st := []) (v := vi (b2i (inR x 8))) C X I_X2_isShelf l_X2_26 (c_X2_isShelf _) (by decide) (Nat.le_of_ble_eq_true rfl) List.prefix_rfl rfl rfl (Nat.le_of_ble_eq_true rfl) rfl (dx dX2_thingOn 2 rfl) ?_
  refine rb_eq (b := inR x 8) (tgt := 17) C (dx dX2_thingOn 3 rfl) (by decide) (fun c1 => ?_) (fun c1 => ?_)
  ·
    have c1 : (inR x 8) = false := c1
    refine r_iconst (v := -1) C (dx dX2_thingOn 9 rfl) rfl ?_
    exact F.1 _ _ _ _ _ rfl rfl (dx dX2_thingOn 10 rfl) rfl ⟨congrArg (fun x => some (vi x)) (show -1 = tOn g x by simp [tOn, c1]), rfl⟩
  ·
    have c1 : (inR x 8) = true := c1
    refine r_aload_n C (dx dX2_thingOn 4 rfl) rfl ?_
    refine g_X2_9 C (dx dX2_thingOn 5 rfl) ?_
    refine r_iload_n C (dx dX2_thingOn 6 rfl) rfl ?_
    refine r_iald (j := x.toNatClampNeg) (x := gT g x.toNatClampNeg) C rfl rfl (by decide) (inR_at (by omega) c1).1 (inR_at (by omega) c1).2 (dx dX2_thingOn 7 rfl) (hs.1 _ (inR_at (by omega) c1).2) ?_
    refine r_goto (tgt := 18) C (dx dX2_thingOn 8 rfl) (by decide) ?_
    exact F.1 _ _ _ _ _ rfl rfl (dx dX2_thingOn 10 rfl) rfl ⟨congrArg (fun x => some (vi x)) (show gT g x.toNatClampNeg = tOn g x by simp [tOn, c1]), rfl⟩
set_option maxHeartbeats 4000000 in
theorem c_X2_isBare {l : Launch} {h : Hp} {k : Nat} {g : Sg} (hs : ShAt h k g) (x : Int32) : Mp l yX2_isBare cX2_isBare 2 (some .boolean) 3 [vr 2 k, vi x] h (vi (b2i (bareB g x))) := by
  refine Ms.of (by decide) (Nat.le_of_ble_eq_true rfl) (fun G C X F => ?_)
  have C : Cx G cX2_isBare 2 RX2 := C
  show Rr G 0 [(0, vr 2 k), (1, vi x)] [] h
  refine r_aload_n C (dx dX2_isBare 0 rfl) rfl ?_
  refine r_iload_n C (dx dX2_isBare 1 rfl) rfl ?_
  refine r_cvP (as := [vi x]) (st := []) (v := vi (tOn g x)) C X I_X2_thingOn l_X2_30 (c_X2_thingOn hs _) (by decide) (Nat.le_of_ble_eq_true rfl) List.prefix_rfl rfl rfl (Nat.le_of_ble_eq_true rfl) rfl (dx dX2_isBare 2 rfl) ?_
  refine r_iconst (v := -1) C (dx dX2_isBare 3 rfl) rfl ?_
  refine r_icmp_ne (tgt := 13) C (dx dX2_isBare 4 rfl) (by decide) (fun c1 => ?_) (fun c1 => ?_)
  ·
    have c1 : ¬ tOn g x = -1 := c1
    refine r_iconst (v := nI 0) C (dx dX2_isBare 7 rfl) rfl ?_
    exact F.1 _ _ _ _ _ rfl rfl (dx dX2_isBare 8 rfl) rfl ⟨congrArg (fun x => some (vi x)) (show nI 0 = b2i _ by rw [show (bareB g x) = false by simp [bareB, c1]]; rfl), rfl⟩
  ·
    have c1 : tOn g x = -1 := c1
    refine r_iconst (v := nI 1) C (dx dX2_isBare 5 rfl) rfl ?_
    refine r_goto (tgt := 14) C (dx dX2_isBare 6 rfl) (by decide) ?_
    exact F.1 _ _ _ _ _ rfl rfl (dx dX2_isBare 8 rfl) rfl ⟨congrArg (fun x => some (vi x)) (show nI 1 = b2i _ by rw [show (bareB g x) = true by simp [bareB, c1]]; rfl), rfl⟩
set_option maxHeartbeats 4000000 in
theorem c_X2_isOfHolding {l : Launch} {h : Hp} {k : Nat} {g : Sg} (hs : ShAt h k g) (x : Int32) : Mp l yX2_isOfHolding cX2_isOfHolding 2 (some .boolean) 3 [vr 2 k, vi x] h (vi (b2i (holdB g x))) := by
  refine Ms.of (by decide) (Nat.le_of_ble_eq_true rfl) (fun G C X F => ?_)
  have C : Cx G cX2_isOfHolding 2 RX2 := C
  show Rr G 0 [(0, vr 2 k), (1, vi x)] [] h
  refine r_aload_n C (dx dX2_isOfHolding 0 rfl) rfl ?_
  refine r_iload_n C (dx dX2_isOfHolding 1 rfl) rfl ?_
  refine r_cvP (as := [vi x]) (st := []) (v := vi (tOn g x)) C X I_X2_thingOn l_X2_30 (c_X2_thingOn hs _) (by decide) (Nat.le_of_ble_eq_true rfl) List.prefix_rfl rfl rfl (Nat.le_of_ble_eq_true rfl) rfl (dx dX2_isOfHolding 2 rfl) ?_
  refine r_bipush (v := nI 10) C (dx dX2_isOfHolding 3 rfl) rfl ?_
  refine r_icmp_lt (tgt := 14) C (dx dX2_isOfHolding 4 rfl) (by decide) (fun c1 => ?_) (fun c1 => ?_)
  ·
    have c1 : tOn g x < nI 10 := c1
    refine r_iconst (v := nI 0) C (dx dX2_isOfHolding 7 rfl) rfl ?_
    exact F.1 _ _ _ _ _ rfl rfl (dx dX2_isOfHolding 8 rfl) rfl ⟨congrArg (fun x => some (vi x)) (show nI 0 = b2i _ by rw [show (holdB g x) = false by (unfold holdB; first | exact decide_eq_true c1 | exact decide_eq_false (fun z => z c1))]; rfl), rfl⟩
  ·
    have c1 : ¬ tOn g x < nI 10 := c1
    refine r_iconst (v := nI 1) C (dx dX2_isOfHolding 5 rfl) rfl ?_
    refine r_goto (tgt := 15) C (dx dX2_isOfHolding 6 rfl) (by decide) ?_
    exact F.1 _ _ _ _ _ rfl rfl (dx dX2_isOfHolding 8 rfl) rfl ⟨congrArg (fun x => some (vi x)) (show nI 1 = b2i _ by rw [show (holdB g x) = true by (unfold holdB; first | exact decide_eq_true c1 | exact decide_eq_false (fun z => z c1))]; rfl), rfl⟩
set_option maxHeartbeats 4000000 in
theorem c_X2_isOfRow {l : Launch} {h : Hp} {k : Nat} {g : Sg} (hs : ShAt h k g) (x : Int32) : Mp l yX2_isOfRow cX2_isOfRow 2 (some .boolean) 4 [vr 2 k, vi x] h (vi (b2i (rowB g x))) := by
  refine Ms.of (by decide) (Nat.le_of_ble_eq_true rfl) (fun G C X F => ?_)
  have C : Cx G cX2_isOfRow 2 RX2 := C
  show Rr G 0 [(0, vr 2 k), (1, vi x)] [] h
  refine r_aload_n C (dx dX2_isOfRow 0 rfl) rfl ?_
  refine r_iload_n C (dx dX2_isOfRow 1 rfl) rfl ?_
  refine r_cvP (as := [vi x]) (st := []) (v := vi (b2i (bareB g x))) C X I_X2_isBare l_X2_34 (c_X2_isBare hs _) (by decide) (Nat.le_of_ble_eq_true rfl) List.prefix_rfl rfl rfl (Nat.le_of_ble_eq_true rfl) rfl (dx dX2_isOfRow 2 rfl) ?_
  refine rb_ne (b := bareB g x) (tgt := 20) C (dx dX2_isOfRow 3 rfl) (by decide) (fun c1 => ?_) (fun c1 => ?_)
  ·
    have c1 : (bareB g x) = true := c1
    refine r_iconst (v := nI 0) C (dx dX2_isOfRow 10 rfl) rfl ?_
    exact F.1 _ _ _ _ _ rfl rfl (dx dX2_isOfRow 11 rfl) rfl ⟨congrArg (fun x => some (vi x)) (show nI 0 = b2i _ by rw [show (rowB g x) = false by simp [rowB, c1]]; rfl), rfl⟩
  ·
    have c1 : (bareB g x) = false := c1
    refine r_aload_n C (dx dX2_isOfRow 4 rfl) rfl ?_
    refine r_iload_n C (dx dX2_isOfRow 5 rfl) rfl ?_
    refine r_cvP (as := [vi x]) (st := []) (v := vi (b2i (holdB g x))) C X I_X2_isOfHolding l_X2_37 (c_X2_isOfHolding hs _) (by decide) (Nat.le_of_ble_eq_true rfl) List.prefix_rfl rfl rfl (Nat.le_of_ble_eq_true rfl) rfl (dx dX2_isOfRow 6 rfl) ?_
    refine rb_ne (b := holdB g x) (tgt := 20) C (dx dX2_isOfRow 7 rfl) (by decide) (fun c2 => ?_) (fun c2 => ?_)
    ·
      have c2 : (holdB g x) = true := c2
      refine r_iconst (v := nI 0) C (dx dX2_isOfRow 10 rfl) rfl ?_
      exact F.1 _ _ _ _ _ rfl rfl (dx dX2_isOfRow 11 rfl) rfl ⟨congrArg (fun x => some (vi x)) (show nI 0 = b2i _ by rw [show (rowB g x) = false by simp [rowB, c1, c2]]; rfl), rfl⟩
    ·
      have c2 : (holdB g x) = false := c2
      refine r_iconst (v := nI 1) C (dx dX2_isOfRow 8 rfl) rfl ?_
      refine r_goto (tgt := 21) C (dx dX2_isOfRow 9 rfl) (by decide) ?_
      exact F.1 _ _ _ _ _ rfl rfl (dx dX2_isOfRow 11 rfl) rfl ⟨congrArg (fun x => some (vi x)) (show nI 1 = b2i _ by rw [show (rowB g x) = true by simp [rowB, c1, c2]]; rfl), rfl⟩
set_option maxHeartbeats 4000000 in
theorem c_X2_rowFault {l : Launch} {h : Hp} {k : Nat} {g : Sg} (hs : ShAt h k g) (x : Int32) : Mp l yX2_rowFault cX2_rowFault 2 (some .int) 4 [vr 2 k, vi x] h (vi (if holdB g x = true then -3 else if bareB g x = true then -4 else nI 0)) := by
  refine Ms.of (by decide) (Nat.le_of_ble_eq_true rfl) (fun G C X F => ?_)
  have C : Cx G cX2_rowFault 2 RX2 := C
  show Rr G 0 [(0, vr 2 k), (1, vi x)] [] h
  refine r_aload_n C (dx dX2_rowFault 0 rfl) rfl ?_
  refine r_iload_n C (dx dX2_rowFault 1 rfl) rfl ?_
  refine r_cvP (as := [vi x]) (st := []) (v := vi (b2i (holdB g x))) C X I_X2_isOfHolding l_X2_37 (c_X2_isOfHolding hs _) (by decide) (Nat.le_of_ble_eq_true rfl) List.prefix_rfl rfl rfl (Nat.le_of_ble_eq_true rfl) rfl (dx dX2_rowFault 2 rfl) ?_
  refine rb_eq (b := holdB g x) (tgt := 11) C (dx dX2_rowFault 3 rfl) (by decide) (fun c1 => ?_) (fun c1 => ?_)
  ·
    have c1 : (holdB g x) = false := c1
    refine r_aload_n C (dx dX2_rowFault 6 rfl) rfl ?_
    refine r_iload_n C (dx dX2_rowFault 7 rfl) rfl ?_
    refine r_cvP (as := [vi x]) (st := []) (v := vi (b2i (bareB g x))) C X I_X2_isBare l_X2_34 (c_X2_isBare hs _) (by decide) (Nat.le_of_ble_eq_true rfl) List.prefix_rfl rfl rfl (Nat.le_of_ble_eq_true rfl) rfl (dx dX2_rowFault 8 rfl) ?_
    refine rb_eq (b := bareB g x) (tgt := 24) C (dx dX2_rowFault 9 rfl) (by decide) (fun c2 => ?_) (fun c2 => ?_)
    ·
      have c2 : (bareB g x) = false := c2
      refine r_iconst (v := nI 0) C (dx dX2_rowFault 12 rfl) rfl ?_
      exact F.1 _ _ _ _ _ rfl rfl (dx dX2_rowFault 13 rfl) rfl ⟨congrArg (fun x => some (vi x)) (show nI 0 = if holdB g x = true then -3 else if bareB g x = true then -4 else nI 0 by simp [c1, c2]), rfl⟩
    ·
      have c2 : (bareB g x) = true := c2
      refine r_bipush (v := -4) C (dx dX2_rowFault 10 rfl) rfl ?_
      refine r_goto (tgt := 25) C (dx dX2_rowFault 11 rfl) (by decide) ?_
      exact F.1 _ _ _ _ _ rfl rfl (dx dX2_rowFault 13 rfl) rfl ⟨congrArg (fun x => some (vi x)) (show -4 = if holdB g x = true then -3 else if bareB g x = true then -4 else nI 0 by simp [c1, c2]), rfl⟩
  ·
    have c1 : (holdB g x) = true := c1
    refine r_bipush (v := -3) C (dx dX2_rowFault 4 rfl) rfl ?_
    exact F.1 _ _ _ _ _ rfl rfl (dx dX2_rowFault 5 rfl) rfl ⟨congrArg (fun x => some (vi x)) (show -3 = if holdB g x = true then -3 else if bareB g x = true then -4 else nI 0 by simp [c1]), rfl⟩
set_option maxHeartbeats 4000000 in
theorem c_X2_holdingFault {l : Launch} {h : Hp} {k : Nat} {g : Sg} (hs : ShAt h k g) (x : Int32) : Mp l yX2_holdingFault cX2_holdingFault 2 (some .int) 5 [vr 2 k, vi x] h (vi (if rowB g x = true then -3 else if bareB g x = true then -4 else nI 0)) := by
  refine Ms.of (by decide) (Nat.le_of_ble_eq_true rfl) (fun G C X F => ?_)
  have C : Cx G cX2_holdingFault 2 RX2 := C
  show Rr G 0 [(0, vr 2 k), (1, vi x)] [] h
  refine r_aload_n C (dx dX2_holdingFault 0 rfl) rfl ?_
  refine r_iload_n C (dx dX2_holdingFault 1 rfl) rfl ?_
  refine r_cvP (as := [vi x]) (st := []) (v := vi (b2i (rowB g x))) C X I_X2_isOfRow l_X2_40 (c_X2_isOfRow hs _) (by decide) (Nat.le_of_ble_eq_true rfl) List.prefix_rfl rfl rfl (Nat.le_of_ble_eq_true rfl) rfl (dx dX2_holdingFault 2 rfl) ?_
  refine rb_eq (b := rowB g x) (tgt := 11) C (dx dX2_holdingFault 3 rfl) (by decide) (fun c1 => ?_) (fun c1 => ?_)
  ·
    have c1 : (rowB g x) = false := c1
    refine r_aload_n C (dx dX2_holdingFault 6 rfl) rfl ?_
    refine r_iload_n C (dx dX2_holdingFault 7 rfl) rfl ?_
    refine r_cvP (as := [vi x]) (st := []) (v := vi (b2i (bareB g x))) C X I_X2_isBare l_X2_34 (c_X2_isBare hs _) (by decide) (Nat.le_of_ble_eq_true rfl) List.prefix_rfl rfl rfl (Nat.le_of_ble_eq_true rfl) rfl (dx dX2_holdingFault 8 rfl) ?_
    refine rb_eq (b := bareB g x) (tgt := 24) C (dx dX2_holdingFault 9 rfl) (by decide) (fun c2 => ?_) (fun c2 => ?_)
    ·
      have c2 : (bareB g x) = false := c2
      refine r_iconst (v := nI 0) C (dx dX2_holdingFault 12 rfl) rfl ?_
      exact F.1 _ _ _ _ _ rfl rfl (dx dX2_holdingFault 13 rfl) rfl ⟨congrArg (fun x => some (vi x)) (show nI 0 = if rowB g x = true then -3 else if bareB g x = true then -4 else nI 0 by simp [c1, c2]), rfl⟩
    ·
      have c2 : (bareB g x) = true := c2
      refine r_bipush (v := -4) C (dx dX2_holdingFault 10 rfl) rfl ?_
      refine r_goto (tgt := 25) C (dx dX2_holdingFault 11 rfl) (by decide) ?_
      exact F.1 _ _ _ _ _ rfl rfl (dx dX2_holdingFault 13 rfl) rfl ⟨congrArg (fun x => some (vi x)) (show -4 = if rowB g x = true then -3 else if bareB g x = true then -4 else nI 0 by simp [c1, c2]), rfl⟩
  ·
    have c1 : (rowB g x) = true := c1
    refine r_bipush (v := -3) C (dx dX2_holdingFault 4 rfl) rfl ?_
    exact F.1 _ _ _ _ _ rfl rfl (dx dX2_holdingFault 5 rfl) rfl ⟨congrArg (fun x => some (vi x)) (show -3 = if rowB g x = true then -3 else if bareB g x = true then -4 else nI 0 by simp [c1]), rfl⟩
set_option maxHeartbeats 4000000 in
theorem c_X2_kindOn {l : Launch} {h : Hp} {k : Nat} {g : Sg} (hs : ShAt h k g) (x : Int32) : Mp l yX2_kindOn cX2_kindOn 2 (some .int) 4 [vr 2 k, vi x] h (vi (kdV g x)) := by
  refine Ms.of (by decide) (Nat.le_of_ble_eq_true rfl) (fun G C X F => ?_)
  have C : Cx G cX2_kindOn 2 RX2 := C
  show Rr G 0 [(0, vr 2 k), (1, vi x)] [] h
  refine r_aload_n C (dx dX2_kindOn 0 rfl) rfl ?_
  refine r_iload_n C (dx dX2_kindOn 1 rfl) rfl ?_
  refine r_cvP (as := [vi x]) (st := []) (v := vi (b2i (holdB g x))) C X I_X2_isOfHolding l_X2_37 (c_X2_isOfHolding hs _) (by decide) (Nat.le_of_ble_eq_true rfl) List.prefix_rfl rfl rfl (Nat.le_of_ble_eq_true rfl) rfl (dx dX2_kindOn 2 rfl) ?_
  refine rb_eq (b := holdB g x) (tgt := 20) C (dx dX2_kindOn 3 rfl) (by decide) (fun c1 => ?_) (fun c1 => ?_)
  ·
    have c1 : (holdB g x) = false := c1
    refine r_iconst (v := nI 0) C (dx dX2_kindOn 11 rfl) rfl ?_
    exact F.1 _ _ _ _ _ rfl rfl (dx dX2_kindOn 12 rfl) rfl ⟨congrArg (fun x => some (vi x)) (show nI 0 = kdV g x by simp [kdV, c1]), rfl⟩
  ·
    have c1 : (holdB g x) = true := c1
    refine r_aload_n C (dx dX2_kindOn 4 rfl) rfl ?_
    refine g_X2_9 C (dx dX2_kindOn 5 rfl) ?_
    refine r_iload_n C (dx dX2_kindOn 6 rfl) rfl ?_
    refine r_iald (j := x.toNatClampNeg) (x := gT g x.toNatClampNeg) C rfl rfl (by decide) (inR_at (by omega) (hold_in c1)).1 (inR_at (by omega) (hold_in c1)).2 (dx dX2_kindOn 7 rfl) (hs.1 _ (inR_at (by omega) (hold_in c1)).2) ?_
    refine r_bipush (v := nI 10) C (dx dX2_kindOn 8 rfl) rfl ?_
    refine r_isub C (dx dX2_kindOn 9 rfl) ?_
    refine r_goto (tgt := 21) C (dx dX2_kindOn 10 rfl) (by decide) ?_
    exact F.1 _ _ _ _ _ rfl rfl (dx dX2_kindOn 12 rfl) rfl ⟨congrArg (fun x => some (vi x)) (show (gT g x.toNatClampNeg) - (nI 10) = kdV g x by simp [kdV, c1]), rfl⟩
set_option maxHeartbeats 4000000 in
theorem c_X2_byOn {l : Launch} {h : Hp} {k : Nat} {g : Sg} (hs : ShAt h k g) (x : Int32) : Mp l yX2_byOn cX2_byOn 2 (some .int) 4 [vr 2 k, vi x] h (vi (byV g x)) := by
  refine Ms.of (by decide) (Nat.le_of_ble_eq_true rfl) (fun G C X F => ?_)
  have C : Cx G cX2_byOn 2 RX2 := C
  show Rr G 0 [(0, vr 2 k), (1, vi x)] [] h
  refine r_aload_n C (dx dX2_byOn 0 rfl) rfl ?_
  refine r_iload_n C (dx dX2_byOn 1 rfl) rfl ?_
  refine r_cvP (as := [vi x]) (st := []) (v := vi (b2i (holdB g x))) C X I_X2_isOfHolding l_X2_37 (c_X2_isOfHolding hs _) (by decide) (Nat.le_of_ble_eq_true rfl) List.prefix_rfl rfl rfl (Nat.le_of_ble_eq_true rfl) rfl (dx dX2_byOn 2 rfl) ?_
  refine rb_eq (b := holdB g x) (tgt := 17) C (dx dX2_byOn 3 rfl) (by decide) (fun c1 => ?_) (fun c1 => ?_)
  ·
    have c1 : (holdB g x) = false := c1
    refine r_iconst (v := nI 0) C (dx dX2_byOn 9 rfl) rfl ?_
    exact F.1 _ _ _ _ _ rfl rfl (dx dX2_byOn 10 rfl) rfl ⟨congrArg (fun x => some (vi x)) (show nI 0 = byV g x by simp [byV, c1]), rfl⟩
  ·
    have c1 : (holdB g x) = true := c1
    refine r_aload_n C (dx dX2_byOn 4 rfl) rfl ?_
    refine g_X2_23 C (dx dX2_byOn 5 rfl) ?_
    refine r_iload_n C (dx dX2_byOn 6 rfl) rfl ?_
    refine r_iald (j := x.toNatClampNeg) (x := gY g x.toNatClampNeg) C rfl rfl (by decide) (inR_at (by omega) (hold_in c1)).1 (inR_at (by omega) (hold_in c1)).2 (dx dX2_byOn 7 rfl) (hs.2.2.1 _ (inR_at (by omega) (hold_in c1)).2) ?_
    refine r_goto (tgt := 18) C (dx dX2_byOn 8 rfl) (by decide) ?_
    exact F.1 _ _ _ _ _ rfl rfl (dx dX2_byOn 10 rfl) rfl ⟨congrArg (fun x => some (vi x)) (show gY g x.toNatClampNeg = byV g x by simp [byV, c1]), rfl⟩
set_option maxHeartbeats 4000000 in
theorem c_X2_sizeOf {l : Launch} {h : Hp} {k : Nat} {g : Sg} (hs : ShAt h k g) (x : Int32) : Mp l yX2_sizeOf cX2_sizeOf 2 (some .int) 5 [vr 2 k, vi x] h (vi (szV g x)) := by
  refine Ms.of (by decide) (Nat.le_of_ble_eq_true rfl) (fun G C X F => ?_)
  have C : Cx G cX2_sizeOf 2 RX2 := C
  show Rr G 0 [(0, vr 2 k), (1, vi x)] [] h
  refine r_aload_n C (dx dX2_sizeOf 0 rfl) rfl ?_
  refine r_iload_n C (dx dX2_sizeOf 1 rfl) rfl ?_
  refine r_cvP (as := [vi x]) (st := []) (v := vi (b2i (rowB g x))) C X I_X2_isOfRow l_X2_40 (c_X2_isOfRow hs _) (by decide) (Nat.le_of_ble_eq_true rfl) List.prefix_rfl rfl rfl (Nat.le_of_ble_eq_true rfl) rfl (dx dX2_sizeOf 2 rfl) ?_
  refine rb_eq (b := rowB g x) (tgt := 17) C (dx dX2_sizeOf 3 rfl) (by decide) (fun c1 => ?_) (fun c1 => ?_)
  ·
    have c1 : (rowB g x) = false := c1
    refine r_iconst (v := nI 0) C (dx dX2_sizeOf 9 rfl) rfl ?_
    exact F.1 _ _ _ _ _ rfl rfl (dx dX2_sizeOf 10 rfl) rfl ⟨congrArg (fun x => some (vi x)) (show nI 0 = szV g x by simp [szV, c1]), rfl⟩
  ·
    have c1 : (rowB g x) = true := c1
    refine r_aload_n C (dx dX2_sizeOf 4 rfl) rfl ?_
    refine g_X2_15 C (dx dX2_sizeOf 5 rfl) ?_
    refine r_iload_n C (dx dX2_sizeOf 6 rfl) rfl ?_
    refine r_iald (j := x.toNatClampNeg) (x := gZ g x.toNatClampNeg) C rfl rfl (by decide) (inR_at (by omega) (row_in c1)).1 (inR_at (by omega) (row_in c1)).2 (dx dX2_sizeOf 7 rfl) (hs.2.1 _ (inR_at (by omega) (row_in c1)).2) ?_
    refine r_goto (tgt := 18) C (dx dX2_sizeOf 8 rfl) (by decide) ?_
    exact F.1 _ _ _ _ _ rfl rfl (dx dX2_sizeOf 10 rfl) rfl ⟨congrArg (fun x => some (vi x)) (show gZ g x.toNatClampNeg = szV g x by simp [szV, c1]), rfl⟩
set_option maxHeartbeats 4000000 in
theorem c_X2_elementAt {l : Launch} {h : Hp} {k : Nat} {g : Sg} (hs : ShAt h k g) (hz : SzOk g) (x i : Int32) : Mp l yX2_elementAt cX2_elementAt 3 (some .long) 6 [vr 2 k, vi x, vi i] h (vl (elV g x i)) := by
  refine Ms.of (by decide) (Nat.le_of_ble_eq_true rfl) (fun G C X F => ?_)
  have C : Cx G cX2_elementAt 3 RX2 := C
  show Rr G 0 [(0, vr 2 k), (1, vi x), (2, vi i)] [] h
  refine r_iload_n C (dx dX2_elementAt 0 rfl) rfl ?_
  refine r_if_lt (tgt := 24) C (dx dX2_elementAt 1 rfl) (by decide) (fun c1 => ?_) (fun c1 => ?_)
  ·
    have c1 : i < 0 := c1
    refine r_lconst (v := 0) C (dx dX2_elementAt 14 rfl) rfl ?_
    exact F.2.1 _ _ _ _ rfl (dx dX2_elementAt 15 rfl) rfl ⟨congrArg (fun x => some (vl x)) (show 0 = elV g x i by (unfold elV; rw [if_pos (Or.inl c1)])), rfl⟩
  ·
    have c1 : ¬ i < 0 := c1
    refine r_iload_n C (dx dX2_elementAt 2 rfl) rfl ?_
    refine r_aload_n C (dx dX2_elementAt 3 rfl) rfl ?_
    refine r_iload_n C (dx dX2_elementAt 4 rfl) rfl ?_
    refine r_cvP (as := [vi x]) (st := [vi i]) (v := vi (szV g x)) C X I_X2_sizeOf l_X2_49 (c_X2_sizeOf hs _) (by decide) (Nat.le_of_ble_eq_true rfl) List.prefix_rfl rfl rfl (Nat.le_of_ble_eq_true rfl) rfl (dx dX2_elementAt 5 rfl) ?_
    refine r_icmp_ge (tgt := 24) C (dx dX2_elementAt 6 rfl) (by decide) (fun c2 => ?_) (fun c2 => ?_)
    ·
      have c2 : szV g x ≤ i := c2
      refine r_lconst (v := 0) C (dx dX2_elementAt 14 rfl) rfl ?_
      exact F.2.1 _ _ _ _ rfl (dx dX2_elementAt 15 rfl) rfl ⟨congrArg (fun x => some (vl x)) (show 0 = elV g x i by (unfold elV; rw [if_pos (Or.inr c2)])), rfl⟩
    ·
      have c2 : ¬ szV g x ≤ i := c2
      refine r_aload_n C (dx dX2_elementAt 7 rfl) rfl ?_
      refine g_X2_20 C (dx dX2_elementAt 8 rfl) ?_
      refine r_iload_n C (dx dX2_elementAt 9 rfl) rfl ?_
      refine r_aald5 (j := x.toNatClampNeg) C rfl rfl (by decide) (inR_at (by omega) (el_in hz c1 c2).1).1 (inR_at (by omega) (el_in hz c1 c2).1).2 (dx dX2_elementAt 10 rfl) ?_
      refine r_iload_n C (dx dX2_elementAt 11 rfl) rfl ?_
      refine r_lald (j := i.toNatClampNeg) (x := gE g x.toNatClampNeg i.toNatClampNeg) C rfl rfl (by decide) (inR_at (by omega) (el_in hz c1 c2).2).1 (inR_at (by omega) (el_in hz c1 c2).2).2 (dx dX2_elementAt 12 rfl) (hs.2.2.2 _ (inR_at (by omega) (el_in hz c1 c2).1).2 _ (inR_at (by omega) (el_in hz c1 c2).2).2) ?_
      refine r_goto (tgt := 25) C (dx dX2_elementAt 13 rfl) (by decide) ?_
      exact F.2.1 _ _ _ _ rfl (dx dX2_elementAt 15 rfl) rfl ⟨congrArg (fun x => some (vl x)) (show gE g x.toNatClampNeg i.toNatClampNeg = elV g x i by (unfold elV; rw [if_neg (fun z => z.elim c1 c2)])), rfl⟩
def fullS (g : Sg) : Nat → Nat := cnt (fun s => !bareB g (nI s))
set_option maxHeartbeats 4000000 in
theorem c_X2_fullCount {l : Launch} {h : Hp} {k : Nat} {g : Sg} (hs : ShAt h k g)  : Mp l yX2_fullCount cX2_fullCount 3 (some .int) 4 [vr 2 k] h (vi (nI (fullS g 8))) := by
  refine Ms.of (by decide) (Nat.le_of_ble_eq_true rfl) (fun G C X F => ?_)
  have C : Cx G cX2_fullCount 3 RX2 := C
  show Rr G 0 [(0, vr 2 k)] [] h
  refine r_iconst (v := nI 0) C (dx dX2_fullCount 0 rfl) rfl ?_
  refine r_istore_n (ls' := [(0, vr 2 k), (1, vi (nI 0))]) C (dx dX2_fullCount 1 rfl) (by decide) [1, 0] rfl ?_
  refine r_iconst (v := nI 0) C (dx dX2_fullCount 2 rfl) rfl ?_
  refine r_istore_n (ls' := [(0, vr 2 k), (1, vi (nI 0)), (2, vi (nI 0))]) C (dx dX2_fullCount 3 rfl) (by decide) [1, 2, 0] rfl ?_
  refine loopU (Φ := fun p => Rr G 4 [(0, vr 2 k), (1, vi (nI (fullS g p))), (2, vi (nI p))] [] h) (N := 8) ?_ ?_ 0 (Nat.zero_le _)
  ·
    refine r_iload_n C (dx dX2_fullCount 4 rfl) rfl ?_
    refine r_bipush (v := nI 8) C (dx dX2_fullCount 5 rfl) rfl ?_
    refine rn_ge (a := 8) (b := 8) (tgt := 27) C (by omega) (by omega) (dx dX2_fullCount 6 rfl) (by decide) (fun c1 => ?_) (fun c1 => ?_)
    · first
      | (omega; done)
      | (
          have c1 : 8 ≤ 8 := c1
          refine r_iload_n C (dx dX2_fullCount 14 rfl) rfl ?_
          exact F.1 _ _ _ _ _ rfl rfl (dx dX2_fullCount 15 rfl) rfl ⟨congrArg (fun x => some (vi x)) rfl, rfl⟩)
    · first
      | (omega; done)
  ·
    intro p hp ih
    refine r_iload_n C (dx dX2_fullCount 4 rfl) rfl ?_
    refine r_bipush (v := nI 8) C (dx dX2_fullCount 5 rfl) rfl ?_
    refine rn_ge (a := p) (b := 8) (tgt := 27) C (by omega) (by omega) (dx dX2_fullCount 6 rfl) (by decide) (fun c3 => ?_) (fun c3 => ?_)
    · first
      | (omega; done)
      | (
          have c3 : 8 ≤ p := c3
          refine r_iload_n C (dx dX2_fullCount 14 rfl) rfl ?_
          exact F.1 _ _ _ _ _ rfl rfl (dx dX2_fullCount 15 rfl) rfl ⟨congrArg (fun x => some (vi x)) (show nI (fullS g p) = nI (fullS g 8) by rfl), rfl⟩)
    · first
      | (omega; done)
      | (
          have c3 : p < 8 := c3
          refine r_aload_n C (dx dX2_fullCount 7 rfl) rfl ?_
          refine r_iload_n C (dx dX2_fullCount 8 rfl) rfl ?_
          refine r_cvP (as := [vi (nI p)]) (st := []) (v := vi (b2i (bareB g (nI p)))) C X I_X2_isBare l_X2_34 (c_X2_isBare hs _) (by decide) (Nat.le_of_ble_eq_true rfl) List.prefix_rfl rfl rfl (Nat.le_of_ble_eq_true rfl) rfl (dx dX2_fullCount 9 rfl) ?_
          refine rb_ne (b := bareB g (nI p)) (tgt := 21) C (dx dX2_fullCount 10 rfl) (by decide) (fun c4 => ?_) (fun c4 => ?_)
          ·
            have c4 : (bareB g (nI p)) = true := c4
            refine rn_iinc (a := p) (k := 1) (ls' := [(0, vr 2 k), (1, vi (nI (fullS g p))), (2, vi (nI (p + 1)))]) C (dx dX2_fullCount 12 rfl) rfl rfl (by decide) [1, 2, 0] rfl ?_
            refine r_goto (tgt := 4) C (dx dX2_fullCount 13 rfl) (by decide) ?_
            have e9 : (nI (fullS g p)) = (nI (fullS g (p + 1))) := by simp [fullS, cnt, c4]
            rw [e9]
            exact ih
          ·
            have c4 : (bareB g (nI p)) = false := c4
            refine rn_iinc (a := fullS g p) (k := 1) (ls' := [(0, vr 2 k), (1, vi (nI (fullS g p + 1))), (2, vi (nI p))]) C (dx dX2_fullCount 11 rfl) rfl rfl (by decide) [1, 0, 2] rfl ?_
            refine rn_iinc (a := p) (k := 1) (ls' := [(0, vr 2 k), (1, vi (nI (fullS g p + 1))), (2, vi (nI (p + 1)))]) C (dx dX2_fullCount 12 rfl) rfl rfl (by decide) [1, 2, 0] rfl ?_
            refine r_goto (tgt := 4) C (dx dX2_fullCount 13 rfl) (by decide) ?_
            have e9 : (nI (fullS g p + 1)) = (nI (fullS g (p + 1))) := by simp [fullS, cnt, c4]
            rw [e9]
            exact ih)
def lowB (t : Int32) (v : Int64) : Int64 := if t = nI 0 then v.toInt32.toInt8.toInt32.toInt64 else if t = nI 1 then v.toInt32.toInt16.toInt32.toInt64 else if t = nI 2 then v.toInt32.toInt64 else if t = nI 3 then v else if v = 0 then 0 else 1
theorem sw4 (x : Int32) : x = nI 0 ∨ x = nI 1 ∨ x = nI 2 ∨ x = nI 3 ∨ ((x.toInt < 0 ∨ 3 < x.toInt) ∧ ∀ v, lowB x v = if v = 0 then 0 else 1) := by
  by_cases h : x.toInt < 0 ∨ 3 < x.toInt
  · refine Or.inr (Or.inr (Or.inr (Or.inr ⟨h, fun v => ?_⟩)))
    have ne : ∀ j, j < 4 → ¬ x = nI j := fun j hj q => by
      rw [q, nI_toInt (by omega)] at h; omega
    unfold lowB
    rw [if_neg (ne 0 (by omega)), if_neg (ne 1 (by omega)), if_neg (ne 2 (by omega)), if_neg (ne 3 (by omega))]
  · have e : ∀ j : Nat, j < 4 → x.toInt = (j : Int) → x = nI j := fun j hj q => Int32.toInt_inj.mp (by rw [q, nI_toInt (by omega)])
    have : x.toInt = 0 ∨ x.toInt = 1 ∨ x.toInt = 2 ∨ x.toInt = 3 := by omega
    rcases this with q | q | q | q
    · exact Or.inl (e 0 (by omega) q)
    · exact Or.inr (Or.inl (e 1 (by omega) q))
    · exact Or.inr (Or.inr (Or.inl (e 2 (by omega) q)))
    · exact Or.inr (Or.inr (Or.inr (Or.inl (e 3 (by omega) q))))
theorem ShAt.fr {h h1 : Hp} {k lo hi : Nat} {g : Sg} (a : ShAt h k g) (f : Fr lo hi h h1) (hk : k + 13 ≤ lo ∨ hi ≤ k + 1) : ShAt h1 k g :=
  ⟨fun s hs => (f.I (by omega) _).trans (a.1 s hs), fun s hs => (f.I (by omega) _).trans (a.2.1 s hs), fun s hs => (f.I (by omega) _).trans (a.2.2.1 s hs), fun s hs i hi => (f.L (by omega) _).trans (a.2.2.2 s hs i hi)⟩
theorem ShAt.sT {h : Hp} {k s : Nat} {x : Int32} {g : Sg} (a : ShAt h k g) : ShAt (sI h (k + 1) s x) k (sf (gT g) s x, gZ g, gY g, gE g) :=
  ⟨fun q hq => by rw [sI_at, a.1 q hq]; rfl, fun q hq => by rw [sI_ne (by omega)]; exact a.2.1 q hq, fun q hq => by rw [sI_ne (by omega)]; exact a.2.2.1 q hq, fun q hq i hi => a.2.2.2 q hq i hi⟩
theorem ShAt.sZ {h : Hp} {k s : Nat} {x : Int32} {g : Sg} (a : ShAt h k g) : ShAt (sI h (k + 2) s x) k (gT g, sf (gZ g) s x, gY g, gE g) :=
  ⟨fun q hq => by rw [sI_ne (by omega)]; exact a.1 q hq, fun q hq => by rw [sI_at, a.2.1 q hq]; rfl, fun q hq => by rw [sI_ne (by omega)]; exact a.2.2.1 q hq, fun q hq i hi => a.2.2.2 q hq i hi⟩
theorem ShAt.sY {h : Hp} {k s : Nat} {x : Int32} {g : Sg} (a : ShAt h k g) : ShAt (sI h (k + 12) s x) k (gT g, gZ g, sf (gY g) s x, gE g) :=
  ⟨fun q hq => by rw [sI_ne (by omega)]; exact a.1 q hq, fun q hq => by rw [sI_ne (by omega)]; exact a.2.1 q hq, fun q hq => by rw [sI_at, a.2.2.1 q hq]; rfl, fun q hq i hi => a.2.2.2 q hq i hi⟩
/-- one row of elements changed -/
def rowE (E : Nat → Nat → Int64) (s : Nat) (f : Nat → Int64) : Nat → Nat → Int64 := fun s' i => if s' = s then f i else E s' i
theorem ShAt.sE {h h1 : Hp} {k s : Nat} {f : Nat → Int64} {g : Sg} (a : ShAt h k g) (fr : Fr (k + 4 + s) (k + 4 + s + 1) h h1) (hs : s < 8) (e : ∀ i, i < 40 → xL h1 (k + 4 + s) i = f i) : ShAt h1 k (gT g, gZ g, gY g, rowE (gE g) s f) :=
  ⟨fun q hq => (fr.I (by omega) _).trans (a.1 q hq), fun q hq => (fr.I (by omega) _).trans (a.2.1 q hq), fun q hq => (fr.I (by omega) _).trans (a.2.2.1 q hq), fun q hq i hi => by
    show _ = if q = s then f i else gE g q i
    by_cases h9 : q = s
    · subst h9; rw [if_pos rfl]; exact e i hi
    · rw [if_neg h9]; exact (fr.L (by omega) _).trans (a.2.2.2 q hq i hi)⟩
set_option maxHeartbeats 4000000 in
theorem c_X2_lowestBits {l : Launch} {h : Hp} (x : Int32) (v : Int64) : Mp l yX2_lowestBits cX2_lowestBits 3 (some .long) 1 [vi x, vl v] h (vl (lowB x v)) := by
  refine Ms.of (by decide) (Nat.le_of_ble_eq_true rfl) (fun G C X F => ?_)
  have C : Cx G cX2_lowestBits 3 RX2 := C
  show Rr G 0 [(0, vi x), (1, vl v)] [] h
  refine r_iload_n C (dx dX2_lowestBits 0 rfl) rfl ?_
  rcases sw4 x with e9 | e9 | e9 | e9 | ⟨e9, e8⟩
  ·
    subst e9
    refine r_tabIn (off := 31) (tgt := 32) C (dx dX2_lowestBits 1 rfl) (by decide) (by decide) (by decide) (by decide) ?_
    refine r_lload_n C (dx dX2_lowestBits 2 rfl) rfl ?_
    refine r_l2i C (dx dX2_lowestBits 3 rfl) ?_
    refine r_i2b C (dx dX2_lowestBits 4 rfl) ?_
    refine r_i2l C (dx dX2_lowestBits 5 rfl) ?_
    exact F.2.1 _ _ _ _ rfl (dx dX2_lowestBits 6 rfl) rfl ⟨congrArg (fun x => some (vl x)) (show v.toInt32.toInt8.toInt32.toInt64 = lowB (nI 0) v by rfl), rfl⟩
  ·
    subst e9
    refine r_tabIn (off := 36) (tgt := 37) C (dx dX2_lowestBits 1 rfl) (by decide) (by decide) (by decide) (by decide) ?_
    refine r_lload_n C (dx dX2_lowestBits 7 rfl) rfl ?_
    refine r_l2i C (dx dX2_lowestBits 8 rfl) ?_
    refine r_i2s C (dx dX2_lowestBits 9 rfl) ?_
    refine r_i2l C (dx dX2_lowestBits 10 rfl) ?_
    exact F.2.1 _ _ _ _ rfl (dx dX2_lowestBits 11 rfl) rfl ⟨congrArg (fun x => some (vl x)) (show v.toInt32.toInt16.toInt32.toInt64 = lowB (nI 1) v by rfl), rfl⟩
  ·
    subst e9
    refine r_tabIn (off := 41) (tgt := 42) C (dx dX2_lowestBits 1 rfl) (by decide) (by decide) (by decide) (by decide) ?_
    refine r_lload_n C (dx dX2_lowestBits 12 rfl) rfl ?_
    refine r_l2i C (dx dX2_lowestBits 13 rfl) ?_
    refine r_i2l C (dx dX2_lowestBits 14 rfl) ?_
    exact F.2.1 _ _ _ _ rfl (dx dX2_lowestBits 15 rfl) rfl ⟨congrArg (fun x => some (vl x)) (show v.toInt32.toInt64 = lowB (nI 2) v by rfl), rfl⟩
  ·
    subst e9
    refine r_tabIn (off := 45) (tgt := 46) C (dx dX2_lowestBits 1 rfl) (by decide) (by decide) (by decide) (by decide) ?_
    refine r_lload_n C (dx dX2_lowestBits 16 rfl) rfl ?_
    exact F.2.1 _ _ _ _ rfl (dx dX2_lowestBits 17 rfl) rfl ⟨congrArg (fun x => some (vl x)) (show v = lowB (nI 3) v by rfl), rfl⟩
  ·
    refine r_tabOut (tgt := 48) C (dx dX2_lowestBits 1 rfl) e9 (by decide) ?_
    refine r_lload_n C (dx dX2_lowestBits 18 rfl) rfl ?_
    refine r_lconst (v := 0) C (dx dX2_lowestBits 19 rfl) rfl ?_
    refine r_lcmp C (dx dX2_lowestBits 20 rfl) ?_
    refine r_if_eq (tgt := 58) C (dx dX2_lowestBits 21 rfl) (by decide) (fun c1 => ?_) (fun c1 => ?_)
    ·
      have c1 : v = 0 := (lg_cmp_eq _ _).mp c1
      refine r_lconst (v := 0) C (dx dX2_lowestBits 24 rfl) rfl ?_
      exact F.2.1 _ _ _ _ rfl (dx dX2_lowestBits 25 rfl) rfl ⟨congrArg (fun x => some (vl x)) (show 0 = lowB x v by rw [e8]; simp [c1]), rfl⟩
    ·
      have c1 : ¬ (v = 0) := fun q => c1 ((lg_cmp_eq _ _).mpr q)
      refine r_lconst (v := 1) C (dx dX2_lowestBits 22 rfl) rfl ?_
      refine r_goto (tgt := 59) C (dx dX2_lowestBits 23 rfl) (by decide) ?_
      exact F.2.1 _ _ _ _ rfl (dx dX2_lowestBits 25 rfl) rfl ⟨congrArg (fun x => some (vl x)) (show 1 = lowB x v by rw [e8]; simp [c1]), rfl⟩
set_option maxHeartbeats 4000000 in
theorem c_J7_fill_d0a16 {l : Launch} {h : Hp} {a : Nat} (x : Int64) : Ms l yJ7_fill_d0a16 cJ7_fill_d0a16 5 none 1 [vr 31 a, vl x] h (xK h) (fun r0 h' => r0 = none ∧ (∀ i, i < 40 → xL h' a i = x) ∧ Fr a (a + 1) h h') := by
  refine Ms.of (by decide) (Nat.le_of_ble_eq_true rfl) (fun G C X F => ?_)
  have C : Cx G cJ7_fill_d0a16 5 RJ7 := C
  show Rr G 0 [(0, vr 31 a), (1, vl x)] [] h
  refine r_iconst (v := nI 0) C (dx dJ7_fill_d0a16 0 rfl) rfl ?_
  refine r_istore_n (ls' := [(0, vr 31 a), (1, vl x), (3, vi (nI 0))]) C (dx dJ7_fill_d0a16 1 rfl) (by decide) [1, 2, 0] rfl ?_
  refine r_aload_n C (dx dJ7_fill_d0a16 2 rfl) rfl ?_
  refine r_alen1 (v := nI 40) C rfl rfl rfl (dx dJ7_fill_d0a16 3 rfl) ?_
  refine r_istore (ls' := [(0, vr 31 a), (1, vl x), (3, vi (nI 0)), (4, vi (nI 40))]) C (dx dJ7_fill_d0a16 4 rfl) (by decide) [1, 2, 3, 0] rfl ?_
  refine loopU (Φ := fun p => ∀ h9, (∀ i, i < p → xL h9 a i = x) → Fr a (a + 1) h h9 → xK h9 = xK h → Rr G 6 [(0, vr 31 a), (1, vl x), (3, vi (nI p)), (4, vi (nI 40))] [] h9) (N := 40) ?_ ?_ 0 (Nat.zero_le _) _ (fun i hi => absurd hi (by omega)) Fr.rf rfl
  ·
    intro h9 q9 f9 k9
    refine r_iload_n C (dx dJ7_fill_d0a16 5 rfl) rfl ?_
    refine r_iload C (dx dJ7_fill_d0a16 6 rfl) rfl ?_
    refine rn_ge (a := 40) (b := 40) (tgt := 22) C (by omega) (by omega) (dx dJ7_fill_d0a16 7 rfl) (by decide) (fun c1 => ?_) (fun c1 => ?_)
    · first
      | (omega; done)
      | (
          have c1 : 40 ≤ 40 := c1
          exact F.2.2.1 _ _ _ rfl (dx dJ7_fill_d0a16 14 rfl) k9 ⟨rfl, q9, f9⟩)
    · first
      | (omega; done)
  ·
    intro p hp ih h9 q9 f9 k9
    refine r_iload_n C (dx dJ7_fill_d0a16 5 rfl) rfl ?_
    refine r_iload C (dx dJ7_fill_d0a16 6 rfl) rfl ?_
    refine rn_ge (a := p) (b := 40) (tgt := 22) C (by omega) (by omega) (dx dJ7_fill_d0a16 7 rfl) (by decide) (fun c2 => ?_) (fun c2 => ?_)
    · first
      | (omega; done)
      | (
          have c2 : 40 ≤ p := c2
          exact F.2.2.1 _ _ _ rfl (dx dJ7_fill_d0a16 14 rfl) k9 ⟨rfl, q9, f9⟩)
    · first
      | (omega; done)
      | (
          have c2 : p < 40 := c2
          refine r_aload_n C (dx dJ7_fill_d0a16 8 rfl) rfl ?_
          refine r_iload_n C (dx dJ7_fill_d0a16 9 rfl) rfl ?_
          refine r_lload_n C (dx dJ7_fill_d0a16 10 rfl) rfl ?_
          refine r_last (j := p) C rfl rfl (by decide) rfl (by omega) (dx dJ7_fill_d0a16 11 rfl) ?_
          refine rn_iinc (a := p) (k := 1) (ls' := [(0, vr 31 a), (1, vl x), (3, vi (nI (p + 1))), (4, vi (nI 40))]) C (dx dJ7_fill_d0a16 12 rfl) rfl rfl (by decide) [1, 2, 0, 3] rfl ?_
          refine r_goto (tgt := 6) C (dx dJ7_fill_d0a16 13 rfl) (by decide) ?_
          refine ih _ (fun i hi => ?_) (f9.tr (Fr.sL (by omega) (by omega))) k9
          rw [sL_at]; split
          · rfl
          · exact q9 i (by omega))
def pRow (g : Sg) (s : Nat) (t : Int32) (n : Nat) : Sg := (sf (gT g) s t, sf (gZ g) s (nI n), gY g, rowE (gE g) s (fun _ => 0))
def pHold (g : Sg) (s κ b : Nat) : Sg := (sf (gT g) s (nI (10 + κ)), sf (gZ g) s (nI 0), sf (gY g) s (nI b), gE g)
def rowPut (g : Sg) (s i : Nat) (x : Int64) : Sg := (gT g, gZ g, gY g, rowE (gE g) s (fun j => if j = i then x else gE g s j))
theorem ShAt.pE {h : Hp} {k s i : Nat} {x : Int64} {g : Sg} (a : ShAt h k g) (hs : s < 8) : ShAt (sL h (k + 4 + s) i x) k (rowPut g s i x) :=
  a.sE (Fr.sL (by omega) (by omega)) hs (fun j hj => by rw [sL_at, a.2.2.2 s hs j hj])
theorem in8 {s : Nat} (h : s < 8) : inR (nI s) 8 = true := by rw [inR_nI (by omega)]; exact decide_eq_true h
set_option maxHeartbeats 4000000 in
theorem c_X2_putRow {l : Launch} {h : Hp} {k : Nat} {g : Sg} (hs : ShAt h k g) {s n : Nat} (hs8 : s < 8) (hn : n ≤ 40) (t : Int32) : Ms l yX2_putRow cX2_putRow 4 none 2 [vr 2 k, vi (nI s), vi t, vi (nI n)] h (xK h) (fun r0 h' => r0 = none ∧ ShAt h' k (pRow g s t n) ∧ Fr (k + 1) (k + 13) h h') := by
  refine Ms.of (by decide) (Nat.le_of_ble_eq_true rfl) (fun G C X F => ?_)
  have C : Cx G cX2_putRow 4 RX2 := C
  show Rr G 0 [(0, vr 2 k), (1, vi (nI s)), (2, vi t), (3, vi (nI n))] [] h
  refine r_aload_n C (dx dX2_putRow 0 rfl) rfl ?_
  refine r_iload_n C (dx dX2_putRow 1 rfl) rfl ?_
  refine r_cvP (as := [vi (nI s)]) (st := []) (v := vi (b2i (inR (nI s) 8))) C X I_X2_isShelf l_X2_26 (c_X2_isShelf _) (by decide) (Nat.le_of_ble_eq_true rfl) List.prefix_rfl rfl rfl (Nat.le_of_ble_eq_true rfl) rfl (dx dX2_putRow 2 rfl) ?_
  refine rb_eq (b := inR (nI s) 8) (tgt := 42) C (dx dX2_putRow 3 rfl) (by decide) (fun c1 => ?_) (fun c1 => ?_)
  · (rw [in8 hs8] at c1; cases c1)
  ·
    have c1 : (inR (nI s) 8) = true := c1
    refine r_iload_n C (dx dX2_putRow 4 rfl) rfl ?_
    refine r_if_lt (tgt := 42) C (dx dX2_putRow 5 rfl) (by decide) (fun c2 => ?_) (fun c2 => ?_)
    · exact absurd c2 (nI_pos (by omega))
    ·
      have c2 : ¬ nI n < 0 := c2
      refine r_iload_n C (dx dX2_putRow 6 rfl) rfl ?_
      refine r_bipush (v := nI 40) C (dx dX2_putRow 7 rfl) rfl ?_
      refine rn_gt (a := n) (b := 40) (tgt := 42) C (by omega) (by omega) (dx dX2_putRow 8 rfl) (by decide) (fun c3 => ?_) (fun c3 => ?_)
      · first
        | (omega; done)
        | (
            have c3 : 40 < n := c3
            exact F.2.2.1 _ _ _ rfl (dx dX2_putRow 25 rfl) rfl ⟨rfl, hs, Fr.rf⟩)
      · first
        | (omega; done)
        | (
            have c3 : n ≤ 40 := c3
            refine r_aload_n C (dx dX2_putRow 9 rfl) rfl ?_
            refine g_X2_9 C (dx dX2_putRow 10 rfl) ?_
            refine r_iload_n C (dx dX2_putRow 11 rfl) rfl ?_
            refine r_iload_n C (dx dX2_putRow 12 rfl) rfl ?_
            refine r_iast (j := s) C rfl rfl (by decide) rfl (by omega) (dx dX2_putRow 13 rfl) ?_
            have sh4 : ShAt (sI h (k + 1) s t) k ((sf (gT g) s t, gZ g, gY g, gE g)) := hs.sT
            have fh4 : Fr (k + 1) (k + 13) h (sI h (k + 1) s t) := (Fr.sI (by omega) (by omega))
            have kh4 : xK (sI h (k + 1) s t) = xK h := rfl
            generalize sI h (k + 1) s t = h4 at sh4 fh4 kh4 ⊢
            refine r_aload_n C (dx dX2_putRow 14 rfl) rfl ?_
            refine g_X2_15 C (dx dX2_putRow 15 rfl) ?_
            refine r_iload_n C (dx dX2_putRow 16 rfl) rfl ?_
            refine r_iload_n C (dx dX2_putRow 17 rfl) rfl ?_
            refine r_iast (j := s) C rfl rfl (by decide) rfl (by omega) (dx dX2_putRow 18 rfl) ?_
            have sh5 : ShAt (sI h4 (k + 2) s (nI n)) k ((gT (sf (gT g) s t, gZ g, gY g, gE g), sf (gZ (sf (gT g) s t, gZ g, gY g, gE g)) s (nI n), gY (sf (gT g) s t, gZ g, gY g, gE g), gE (sf (gT g) s t, gZ g, gY g, gE g))) := sh4.sZ
            have fh5 : Fr (k + 1) (k + 13) h (sI h4 (k + 2) s (nI n)) := fh4.tr (Fr.sI (by omega) (by omega))
            have kh5 : xK (sI h4 (k + 2) s (nI n)) = xK h := kh4
            generalize sI h4 (k + 2) s (nI n) = h5 at sh5 fh5 kh5 ⊢
            refine r_aload_n C (dx dX2_putRow 19 rfl) rfl ?_
            refine g_X2_20 C (dx dX2_putRow 20 rfl) ?_
            refine r_iload_n C (dx dX2_putRow 21 rfl) rfl ?_
            refine r_aald5 (j := s) C rfl rfl (by decide) rfl (by omega) (dx dX2_putRow 22 rfl) ?_
            refine r_lconst (v := 0) C (dx dX2_putRow 23 rfl) rfl ?_
            refine r_cs (as := [vr 31 (k + 4 + s), vl 0]) (st := []) C X I_J7_fill_d0a16 l_X2_43 (c_J7_fill_d0a16 0) (by decide) (Nat.le_of_ble_eq_true rfl) List.prefix_rfl (pfx_eq kh5) (Nat.le_of_ble_eq_true rfl) rfl (dx dX2_putRow 24 rfl) ?_
            intro rh6 h6 hph6 kkh6
            obtain ⟨rfl, qh6, gh6⟩ := hph6
            have sh6 : ShAt h6 k (gT (gT (sf (gT g) s t, gZ g, gY g, gE g), sf (gZ (sf (gT g) s t, gZ g, gY g, gE g)) s (nI n), gY (sf (gT g) s t, gZ g, gY g, gE g), gE (sf (gT g) s t, gZ g, gY g, gE g)), gZ (gT (sf (gT g) s t, gZ g, gY g, gE g), sf (gZ (sf (gT g) s t, gZ g, gY g, gE g)) s (nI n), gY (sf (gT g) s t, gZ g, gY g, gE g), gE (sf (gT g) s t, gZ g, gY g, gE g)), gY (gT (sf (gT g) s t, gZ g, gY g, gE g), sf (gZ (sf (gT g) s t, gZ g, gY g, gE g)) s (nI n), gY (sf (gT g) s t, gZ g, gY g, gE g), gE (sf (gT g) s t, gZ g, gY g, gE g)), rowE (gE (gT (sf (gT g) s t, gZ g, gY g, gE g), sf (gZ (sf (gT g) s t, gZ g, gY g, gE g)) s (nI n), gY (sf (gT g) s t, gZ g, gY g, gE g), gE (sf (gT g) s t, gZ g, gY g, gE g))) s (fun _ => 0)) := sh5.sE gh6 hs8 qh6
            have fh6 : Fr (k + 1) (k + 13) h h6 := fh5.tr (gh6.mono (by omega) (by omega))
            have kh6 : xK h6 = xK h := kkh6.trans kh5
            exact F.2.2.1 _ _ _ rfl (dx dX2_putRow 25 rfl) kh6 ⟨rfl, sh6, fh6⟩)
set_option maxHeartbeats 4000000 in
theorem c_X2_putHolding {l : Launch} {h : Hp} {k : Nat} {g : Sg} (hs : ShAt h k g) {s κ b : Nat} (hs8 : s < 8) : Ms l yX2_putHolding cX2_putHolding 4 none 2 [vr 2 k, vi (nI s), vi (nI (κ)), vi (nI b)] h (xK h) (fun r0 h' => r0 = none ∧ ShAt h' k (pHold g s κ b) ∧ Fr (k + 1) (k + 13) h h') := by
  refine Ms.of (by decide) (Nat.le_of_ble_eq_true rfl) (fun G C X F => ?_)
  have C : Cx G cX2_putHolding 4 RX2 := C
  show Rr G 0 [(0, vr 2 k), (1, vi (nI s)), (2, vi (nI (κ))), (3, vi (nI b))] [] h
  refine r_aload_n C (dx dX2_putHolding 0 rfl) rfl ?_
  refine r_iload_n C (dx dX2_putHolding 1 rfl) rfl ?_
  refine r_cvP (as := [vi (nI s)]) (st := []) (v := vi (b2i (inR (nI s) 8))) C X I_X2_isShelf l_X2_26 (c_X2_isShelf _) (by decide) (Nat.le_of_ble_eq_true rfl) List.prefix_rfl rfl rfl (Nat.le_of_ble_eq_true rfl) rfl (dx dX2_putHolding 2 rfl) ?_
  refine rb_eq (b := inR (nI s) 8) (tgt := 32) C (dx dX2_putHolding 3 rfl) (by decide) (fun c1 => ?_) (fun c1 => ?_)
  · (rw [in8 hs8] at c1; cases c1)
  ·
    have c1 : (inR (nI s) 8) = true := c1
    refine r_aload_n C (dx dX2_putHolding 4 rfl) rfl ?_
    refine g_X2_9 C (dx dX2_putHolding 5 rfl) ?_
    refine r_iload_n C (dx dX2_putHolding 6 rfl) rfl ?_
    refine r_bipush (v := nI 10) C (dx dX2_putHolding 7 rfl) rfl ?_
    refine r_iload_n C (dx dX2_putHolding 8 rfl) rfl ?_
    refine rn_iadd (a := 10) (b := κ) C (dx dX2_putHolding 9 rfl) ?_
    refine r_iast (j := s) C rfl rfl (by decide) rfl (by omega) (dx dX2_putHolding 10 rfl) ?_
    have sh2 : ShAt (sI h (k + 1) s (nI (10 + (κ)))) k ((sf (gT g) s (nI (10 + (κ))), gZ g, gY g, gE g)) := hs.sT
    have fh2 : Fr (k + 1) (k + 13) h (sI h (k + 1) s (nI (10 + (κ)))) := (Fr.sI (by omega) (by omega))
    have kh2 : xK (sI h (k + 1) s (nI (10 + (κ)))) = xK h := rfl
    generalize sI h (k + 1) s (nI (10 + (κ))) = h2 at sh2 fh2 kh2 ⊢
    refine r_aload_n C (dx dX2_putHolding 11 rfl) rfl ?_
    refine g_X2_15 C (dx dX2_putHolding 12 rfl) ?_
    refine r_iload_n C (dx dX2_putHolding 13 rfl) rfl ?_
    refine r_iconst (v := nI 0) C (dx dX2_putHolding 14 rfl) rfl ?_
    refine r_iast (j := s) C rfl rfl (by decide) rfl (by omega) (dx dX2_putHolding 15 rfl) ?_
    have sh3 : ShAt (sI h2 (k + 2) s (nI 0)) k ((gT (sf (gT g) s (nI (10 + (κ))), gZ g, gY g, gE g), sf (gZ (sf (gT g) s (nI (10 + (κ))), gZ g, gY g, gE g)) s (nI 0), gY (sf (gT g) s (nI (10 + (κ))), gZ g, gY g, gE g), gE (sf (gT g) s (nI (10 + (κ))), gZ g, gY g, gE g))) := sh2.sZ
    have fh3 : Fr (k + 1) (k + 13) h (sI h2 (k + 2) s (nI 0)) := fh2.tr (Fr.sI (by omega) (by omega))
    have kh3 : xK (sI h2 (k + 2) s (nI 0)) = xK h := kh2
    generalize sI h2 (k + 2) s (nI 0) = h3 at sh3 fh3 kh3 ⊢
    refine r_aload_n C (dx dX2_putHolding 16 rfl) rfl ?_
    refine g_X2_23 C (dx dX2_putHolding 17 rfl) ?_
    refine r_iload_n C (dx dX2_putHolding 18 rfl) rfl ?_
    refine r_iload_n C (dx dX2_putHolding 19 rfl) rfl ?_
    refine r_iast (j := s) C rfl rfl (by decide) rfl (by omega) (dx dX2_putHolding 20 rfl) ?_
    have sh4 : ShAt (sI h3 (k + 12) s (nI b)) k ((gT (gT (sf (gT g) s (nI (10 + (κ))), gZ g, gY g, gE g), sf (gZ (sf (gT g) s (nI (10 + (κ))), gZ g, gY g, gE g)) s (nI 0), gY (sf (gT g) s (nI (10 + (κ))), gZ g, gY g, gE g), gE (sf (gT g) s (nI (10 + (κ))), gZ g, gY g, gE g)), gZ (gT (sf (gT g) s (nI (10 + (κ))), gZ g, gY g, gE g), sf (gZ (sf (gT g) s (nI (10 + (κ))), gZ g, gY g, gE g)) s (nI 0), gY (sf (gT g) s (nI (10 + (κ))), gZ g, gY g, gE g), gE (sf (gT g) s (nI (10 + (κ))), gZ g, gY g, gE g)), sf (gY (gT (sf (gT g) s (nI (10 + (κ))), gZ g, gY g, gE g), sf (gZ (sf (gT g) s (nI (10 + (κ))), gZ g, gY g, gE g)) s (nI 0), gY (sf (gT g) s (nI (10 + (κ))), gZ g, gY g, gE g), gE (sf (gT g) s (nI (10 + (κ))), gZ g, gY g, gE g))) s (nI b), gE (gT (sf (gT g) s (nI (10 + (κ))), gZ g, gY g, gE g), sf (gZ (sf (gT g) s (nI (10 + (κ))), gZ g, gY g, gE g)) s (nI 0), gY (sf (gT g) s (nI (10 + (κ))), gZ g, gY g, gE g), gE (sf (gT g) s (nI (10 + (κ))), gZ g, gY g, gE g)))) := sh3.sY
    have fh4 : Fr (k + 1) (k + 13) h (sI h3 (k + 12) s (nI b)) := fh3.tr (Fr.sI (by omega) (by omega))
    have kh4 : xK (sI h3 (k + 12) s (nI b)) = xK h := kh3
    generalize sI h3 (k + 12) s (nI b) = h4 at sh4 fh4 kh4 ⊢
    exact F.2.2.1 _ _ _ rfl (dx dX2_putHolding 21 rfl) kh4 ⟨rfl, sh4, fh4⟩
def pEl (g : Sg) (s : Nat) (i : Int32) (v : Int64) : Sg := if i < 0 ∨ szV g (nI s) ≤ i then g else rowPut g s i.toNatClampNeg (lowB (gT g s) v)
set_option maxHeartbeats 4000000 in
theorem c_X2_putElement {l : Launch} {h : Hp} {k : Nat} {g : Sg} (hs : ShAt h k g) (hz : SzOk g) {s : Nat} (hs8 : s < 8) (i : Int32) (v : Int64) : Ms l yX2_putElement cX2_putElement 5 none 6 [vr 2 k, vi (nI s), vi i, vl v] h (xK h) (fun r0 h' => r0 = none ∧ ShAt h' k (pEl g s i v) ∧ Fr (k + 1) (k + 13) h h') := by
  refine Ms.of (by decide) (Nat.le_of_ble_eq_true rfl) (fun G C X F => ?_)
  have C : Cx G cX2_putElement 5 RX2 := C
  show Rr G 0 [(0, vr 2 k), (1, vi (nI s)), (2, vi i), (3, vl v)] [] h
  refine r_iload_n C (dx dX2_putElement 0 rfl) rfl ?_
  refine r_if_lt (tgt := 31) C (dx dX2_putElement 1 rfl) (by decide) (fun c1 => ?_) (fun c1 => ?_)
  ·
    have c1 : i < 0 := c1
    exact F.2.2.1 _ _ _ rfl (dx dX2_putElement 19 rfl) rfl ⟨rfl, (by unfold pEl; rw [if_pos (Or.inl c1)]; exact hs), Fr.rf⟩
  ·
    have c1 : ¬ i < 0 := c1
    refine r_iload_n C (dx dX2_putElement 2 rfl) rfl ?_
    refine r_aload_n C (dx dX2_putElement 3 rfl) rfl ?_
    refine r_iload_n C (dx dX2_putElement 4 rfl) rfl ?_
    refine r_cvP (as := [vi (nI s)]) (st := [vi i]) (v := vi (szV g (nI s))) C X I_X2_sizeOf l_X2_49 (c_X2_sizeOf hs _) (by decide) (Nat.le_of_ble_eq_true rfl) List.prefix_rfl rfl rfl (Nat.le_of_ble_eq_true rfl) rfl (dx dX2_putElement 5 rfl) ?_
    refine r_icmp_ge (tgt := 31) C (dx dX2_putElement 6 rfl) (by decide) (fun c2 => ?_) (fun c2 => ?_)
    ·
      have c2 : szV g (nI s) ≤ i := c2
      exact F.2.2.1 _ _ _ rfl (dx dX2_putElement 19 rfl) rfl ⟨rfl, (by unfold pEl; rw [if_pos (Or.inr c2)]; exact hs), Fr.rf⟩
    ·
      have c2 : ¬ szV g (nI s) ≤ i := c2
      refine r_aload_n C (dx dX2_putElement 7 rfl) rfl ?_
      refine g_X2_20 C (dx dX2_putElement 8 rfl) ?_
      refine r_iload_n C (dx dX2_putElement 9 rfl) rfl ?_
      refine r_aald5 (j := s) C rfl rfl (by decide) rfl (by omega) (dx dX2_putElement 10 rfl) ?_
      refine r_iload_n C (dx dX2_putElement 11 rfl) rfl ?_
      refine r_aload_n C (dx dX2_putElement 12 rfl) rfl ?_
      refine g_X2_9 C (dx dX2_putElement 13 rfl) ?_
      refine r_iload_n C (dx dX2_putElement 14 rfl) rfl ?_
      refine r_iald (j := s) (x := gT g s) C rfl rfl (by decide) rfl (by omega) (dx dX2_putElement 15 rfl) (hs.1 _ (by omega)) ?_
      refine r_lload_n C (dx dX2_putElement 16 rfl) rfl ?_
      refine r_csP (as := [vi (gT g s), vl v]) (st := [vi i, vr 31 (k + 4 + s)]) (v := vl (lowB (gT g s) v)) C X I_X2_lowestBits l_X2_52 (c_X2_lowestBits (gT g s) v) (by decide) (Nat.le_of_ble_eq_true rfl) List.prefix_rfl (Nat.le_of_ble_eq_true rfl) rfl (dx dX2_putElement 17 rfl) ?_
      refine r_last (j := i.toNatClampNeg) C rfl rfl (by decide) (inR_at (by omega) (el_in hz c1 c2).2).1 (inR_at (by omega) (el_in hz c1 c2).2).2 (dx dX2_putElement 18 rfl) ?_
      have sh3 : ShAt (sL h (k + 4 + s) i.toNatClampNeg (lowB (gT g s) v)) k (rowPut g s i.toNatClampNeg (lowB (gT g s) v)) := hs.pE (by omega)
      have fh3 : Fr (k + 1) (k + 13) h (sL h (k + 4 + s) i.toNatClampNeg (lowB (gT g s) v)) := (Fr.sL (by omega) (by omega))
      have kh3 : xK (sL h (k + 4 + s) i.toNatClampNeg (lowB (gT g s) v)) = xK h := rfl
      generalize sL h (k + 4 + s) i.toNatClampNeg (lowB (gT g s) v) = h3 at sh3 fh3 kh3 ⊢
      exact F.2.2.1 _ _ _ rfl (dx dX2_putElement 19 rfl) kh3 ⟨rfl, (by unfold pEl; rw [if_neg (fun z => z.elim c1 c2)]; exact sh3), fh3⟩
theorem c_szN {l : Launch} {h : Hp} {k z : Nat} {g : Sg} {x : Int32} (hs : ShAt h k g) (e : szV g x = nI z) : Mp l yX2_sizeOf cX2_sizeOf 2 (some .int) 5 [vr 2 k, vi x] h (vi (nI z)) := by
  rw [← e]; exact c_X2_sizeOf hs x
def pCp (g : Sg) (p q i j n : Nat) : Sg := (gT g, gZ g, gY g, rowE (gE g) q (va_cpy (gE g p) (gE g q) i j n))
theorem Fr.cpLL {lo hi a0 a sp dp n : Nat} {h : Hp} (h1 : lo ≤ a) (h2 : a < hi) : Fr lo hi h (cpL h a0 a sp dp n) := fun b hb => by
  have : b ≠ a := by omega
  exact ⟨rfl, by simp [ cpL, xL, this], rfl⟩
theorem ShAt.cp {h : Hp} {k p q i j n : Nat} {g : Sg} (a : ShAt h k g) (hp : p < 8) (hq : q < 8) (hi : i + n ≤ 40) : ShAt (cpL h (k + 4 + p) (k + 4 + q) i j n) k (pCp g p q i j n) :=
  a.sE (Fr.cpLL (by omega) (by omega)) hq (fun t ht => by
    show (if k + 4 + q = k + 4 + q then va_cpy (xL h (k + 4 + p)) (xL h (k + 4 + q)) i j n else xL h (k + 4 + q)) t = _
    rw [if_pos rfl]
    unfold va_cpy
    split
    · rw [a.2.2.2 p hp _ (by omega)]
    · exact a.2.2.2 q hq t ht)
set_option maxHeartbeats 4000000 in
theorem c_X2_copyElements {l : Launch} {h : Hp} {k : Nat} {g : Sg} (hs : ShAt h k g) {p q i j n zp zq : Nat} (hp8 : p < 8) (hq8 : q < 8) (rp : rowB g (nI p) = true) (rq : rowB g (nI q) = true) (ep : szV g (nI p) = nI zp) (eq : szV g (nI q) = nI zq) (lp : zp ≤ 40) (lq : zq ≤ 40) (hi : i + n ≤ zp) (hj : j + n ≤ zq) : Ms l yX2_copyElements cX2_copyElements 7 none 6 [vr 2 k, vi (nI p), vi (nI q), vi (nI i), vi (nI j), vi (nI n)] h (xK h) (fun r0 h' => r0 = none ∧ ShAt h' k (pCp g p q i j n) ∧ Fr (k + 1) (k + 13) h h') := by
  refine Ms.of (by decide) (Nat.le_of_ble_eq_true rfl) (fun G C X F => ?_)
  have C : Cx G cX2_copyElements 7 RX2 := C
  show Rr G 0 [(0, vr 2 k), (1, vi (nI p)), (2, vi (nI q)), (3, vi (nI i)), (4, vi (nI j)), (5, vi (nI n))] [] h
  refine r_iload C (dx dX2_copyElements 0 rfl) rfl ?_
  refine r_if_lt (tgt := 43) C (dx dX2_copyElements 1 rfl) (by decide) (fun c1 => ?_) (fun c1 => ?_)
  · exact absurd c1 (nI_pos (by omega))
  ·
    have c1 : ¬ nI n < 0 := c1
    refine r_iload_n C (dx dX2_copyElements 2 rfl) rfl ?_
    refine r_if_lt (tgt := 43) C (dx dX2_copyElements 3 rfl) (by decide) (fun c2 => ?_) (fun c2 => ?_)
    · exact absurd c2 (nI_pos (by omega))
    ·
      have c2 : ¬ nI i < 0 := c2
      refine r_iload C (dx dX2_copyElements 4 rfl) rfl ?_
      refine r_if_lt (tgt := 43) C (dx dX2_copyElements 5 rfl) (by decide) (fun c3 => ?_) (fun c3 => ?_)
      · exact absurd c3 (nI_pos (by omega))
      ·
        have c3 : ¬ nI j < 0 := c3
        refine r_iload_n C (dx dX2_copyElements 6 rfl) rfl ?_
        refine r_aload_n C (dx dX2_copyElements 7 rfl) rfl ?_
        refine r_iload_n C (dx dX2_copyElements 8 rfl) rfl ?_
        refine r_cvP (as := [vi (nI p)]) (st := [vi (nI i)]) (v := vi (nI zp)) C X I_X2_sizeOf l_X2_49 (c_szN hs ep) (by decide) (Nat.le_of_ble_eq_true rfl) List.prefix_rfl rfl rfl (Nat.le_of_ble_eq_true rfl) rfl (dx dX2_copyElements 9 rfl) ?_
        refine r_iload C (dx dX2_copyElements 10 rfl) rfl ?_
        refine rn_isub (a := zp) (b := n) C (by omega) (dx dX2_copyElements 11 rfl) ?_
        refine rn_gt (a := i) (b := zp - n) (tgt := 43) C (by omega) (by omega) (dx dX2_copyElements 12 rfl) (by decide) (fun c4 => ?_) (fun c4 => ?_)
        · first
          | (omega; done)
          | (
              have c4 : zp - n < i := c4
              refine r_iconst (v := nI 0) C (dx dX2_copyElements 22 rfl) rfl ?_
              refine r_istore (ls' := [(0, vr 2 k), (1, vi (nI p)), (2, vi (nI q)), (3, vi (nI i)), (4, vi (nI j)), (5, vi (nI n)), (6, vi (nI 0))]) C (dx dX2_copyElements 23 rfl) (by decide) [1, 2, 3, 4, 5, 6, 0] rfl ?_
              refine r_iload C (dx dX2_copyElements 24 rfl) rfl ?_
              refine r_if_eq (tgt := 87) C (dx dX2_copyElements 25 rfl) (by decide) (fun _ => ?_) (fun c5 => (show False from by revert c5; decide).elim)
              exact F.2.2.1 _ _ _ rfl (dx dX2_copyElements 46 rfl) rfl ⟨rfl, hs, Fr.rf⟩)
        · first
          | (omega; done)
          | (
              have c4 : i ≤ zp - n := c4
              refine r_iload C (dx dX2_copyElements 13 rfl) rfl ?_
              refine r_aload_n C (dx dX2_copyElements 14 rfl) rfl ?_
              refine r_iload_n C (dx dX2_copyElements 15 rfl) rfl ?_
              refine r_cvP (as := [vi (nI q)]) (st := [vi (nI j)]) (v := vi (nI zq)) C X I_X2_sizeOf l_X2_49 (c_szN hs eq) (by decide) (Nat.le_of_ble_eq_true rfl) List.prefix_rfl rfl rfl (Nat.le_of_ble_eq_true rfl) rfl (dx dX2_copyElements 16 rfl) ?_
              refine r_iload C (dx dX2_copyElements 17 rfl) rfl ?_
              refine rn_isub (a := zq) (b := n) C (by omega) (dx dX2_copyElements 18 rfl) ?_
              refine rn_gt (a := j) (b := zq - n) (tgt := 43) C (by omega) (by omega) (dx dX2_copyElements 19 rfl) (by decide) (fun c6 => ?_) (fun c6 => ?_)
              · first
                | (omega; done)
                | (
                    have c6 : zq - n < j := c6
                    refine r_iconst (v := nI 0) C (dx dX2_copyElements 22 rfl) rfl ?_
                    refine r_istore (ls' := [(0, vr 2 k), (1, vi (nI p)), (2, vi (nI q)), (3, vi (nI i)), (4, vi (nI j)), (5, vi (nI n)), (6, vi (nI 0))]) C (dx dX2_copyElements 23 rfl) (by decide) [1, 2, 3, 4, 5, 6, 0] rfl ?_
                    refine r_iload C (dx dX2_copyElements 24 rfl) rfl ?_
                    refine r_if_eq (tgt := 87) C (dx dX2_copyElements 25 rfl) (by decide) (fun _ => ?_) (fun c7 => (show False from by revert c7; decide).elim)
                    exact F.2.2.1 _ _ _ rfl (dx dX2_copyElements 46 rfl) rfl ⟨rfl, hs, Fr.rf⟩)
              · first
                | (omega; done)
                | (
                    have c6 : j ≤ zq - n := c6
                    refine r_iconst (v := nI 1) C (dx dX2_copyElements 20 rfl) rfl ?_
                    refine r_goto (tgt := 44) C (dx dX2_copyElements 21 rfl) (by decide) ?_
                    refine r_istore (ls' := [(0, vr 2 k), (1, vi (nI p)), (2, vi (nI q)), (3, vi (nI i)), (4, vi (nI j)), (5, vi (nI n)), (6, vi (nI 1))]) C (dx dX2_copyElements 23 rfl) (by decide) [1, 2, 3, 4, 5, 6, 0] rfl ?_
                    refine r_iload C (dx dX2_copyElements 24 rfl) rfl ?_
                    refine r_if_eq (tgt := 87) C (dx dX2_copyElements 25 rfl) (by decide) (fun c8 => (show False from by revert c8; decide).elim) (fun _ => ?_)
                    refine r_aload_n C (dx dX2_copyElements 26 rfl) rfl ?_
                    refine r_iload_n C (dx dX2_copyElements 27 rfl) rfl ?_
                    refine r_cvP (as := [vi (nI p)]) (st := []) (v := vi (b2i (rowB g (nI p)))) C X I_X2_isOfRow l_X2_40 (c_X2_isOfRow hs _) (by decide) (Nat.le_of_ble_eq_true rfl) List.prefix_rfl rfl rfl (Nat.le_of_ble_eq_true rfl) rfl (dx dX2_copyElements 28 rfl) ?_
                    refine rb_eq (b := rowB g (nI p)) (tgt := 87) C (dx dX2_copyElements 29 rfl) (by decide) (fun c9 => ?_) (fun c9 => ?_)
                    · (rw [rp] at c9; cases c9)
                    ·
                      have c9 : (rowB g (nI p)) = true := c9
                      refine r_aload_n C (dx dX2_copyElements 30 rfl) rfl ?_
                      refine r_iload_n C (dx dX2_copyElements 31 rfl) rfl ?_
                      refine r_cvP (as := [vi (nI q)]) (st := []) (v := vi (b2i (rowB g (nI q)))) C X I_X2_isOfRow l_X2_40 (c_X2_isOfRow hs _) (by decide) (Nat.le_of_ble_eq_true rfl) List.prefix_rfl rfl rfl (Nat.le_of_ble_eq_true rfl) rfl (dx dX2_copyElements 32 rfl) ?_
                      refine rb_eq (b := rowB g (nI q)) (tgt := 87) C (dx dX2_copyElements 33 rfl) (by decide) (fun c10 => ?_) (fun c10 => ?_)
                      · (rw [rq] at c10; cases c10)
                      ·
                        have c10 : (rowB g (nI q)) = true := c10
                        refine r_aload_n C (dx dX2_copyElements 34 rfl) rfl ?_
                        refine g_X2_20 C (dx dX2_copyElements 35 rfl) ?_
                        refine r_iload_n C (dx dX2_copyElements 36 rfl) rfl ?_
                        refine r_aald5 (j := p) C rfl rfl (by decide) rfl (by omega) (dx dX2_copyElements 37 rfl) ?_
                        refine r_iload_n C (dx dX2_copyElements 38 rfl) rfl ?_
                        refine r_aload_n C (dx dX2_copyElements 39 rfl) rfl ?_
                        refine g_X2_20 C (dx dX2_copyElements 40 rfl) ?_
                        refine r_iload_n C (dx dX2_copyElements 41 rfl) rfl ?_
                        refine r_aald5 (j := q) C rfl rfl (by decide) rfl (by omega) (dx dX2_copyElements 42 rfl) ?_
                        refine r_iload C (dx dX2_copyElements 43 rfl) rfl ?_
                        refine r_iload C (dx dX2_copyElements 44 rfl) rfl ?_
                        refine r_copyL (sp := i) (dp := j) (n := n) C X (by decide) (Nat.le_of_ble_eq_true rfl) l_X2_56 q_cp rfl rfl rfl rfl rfl rfl rfl (by omega) (by omega) (by omega) (by omega) (by omega) (dx dX2_copyElements 45 rfl) ?_
                        have sh11 : ShAt (cpL h (k + 4 + p) (k + 4 + q) i j n) k (pCp g p q i j n) := hs.cp hp8 hq8 (by omega)
                        have fh11 : Fr (k + 1) (k + 13) h (cpL h (k + 4 + p) (k + 4 + q) i j n) := Fr.cpLL (by omega) (by omega)
                        have kh11 : xK (cpL h (k + 4 + p) (k + 4 + q) i j n) = xK h := rfl
                        generalize cpL h (k + 4 + p) (k + 4 + q) i j n = h11 at sh11 fh11 kh11 ⊢
                        exact F.2.2.1 _ _ _ rfl (dx dX2_copyElements 46 rfl) kh11 ⟨rfl, sh11, fh11⟩))

