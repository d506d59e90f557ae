/-! PART 15: shelves -/
/-- thing, size, by, elements -/
abbrev Sg : Type := (Nat → Int32) × (Nat → Int32) × (Nat → Int32) × (Nat → Nat → Int64)
abbrev gT (g : Sg) : Nat → Int32 := g.1
abbrev gZ (g : Sg) : Nat → Int32 := g.2.1
abbrev gY (g : Sg) : Nat → Int32 := g.2.2.1
abbrev gE (g : Sg) : Nat → Nat → Int64 := g.2.2.2
def ShAt (h : Hp) (k : Nat) (g : Sg) : Prop := (∀ s, s < 8 → xI h (k + 1) s = gT g s) ∧ (∀ s, s < 8 → xI h (k + 2) s = gZ g s) ∧ (∀ s, s < 8 → xI h (k + 12) s = gY g s) ∧ (∀ s, s < 8 → ∀ i, i < 40 → xL h (k + 4 + s) i = gE g s i)
def tOn (g : Sg) (x : Int32) : Int32 := if inR x 8 = true then gT g x.toNatClampNeg else -1
def bareB (g : Sg) (x : Int32) : Bool := decide (tOn g x = -1)
def holdB (g : Sg) (x : Int32) : Bool := decide (¬ tOn g x < nI 10)
def rowB (g : Sg) (x : Int32) : Bool := !bareB g x && !holdB g x
theorem tOn_no {g : Sg} {x : Int32} (h : inR x 8 = false) : tOn g x = -1 := by simp [tOn, h]
theorem hold_in {g : Sg} {x : Int32} (h : holdB g x = true) : inR x 8 = true := by
  rcases Bool.eq_false_or_eq_true (inR x 8) with q | q
  · exact q
  · exfalso
    unfold holdB at h
    rw [tOn_no q] at h
    exact absurd h (by decide)
theorem row_in {g : Sg} {x : Int32} (h : rowB g x = true) : inR x 8 = true := by
  rcases Bool.eq_false_or_eq_true (inR x 8) with q | q
  · exact q
  · exfalso
    unfold rowB bareB at h
    rw [tOn_no q] at h
    simp at h
def szV (g : Sg) (x : Int32) : Int32 := if rowB g x = true then gZ g x.toNatClampNeg else nI 0
def kdV (g : Sg) (x : Int32) : Int32 := if holdB g x = true then gT g x.toNatClampNeg - nI 10 else nI 0
def byV (g : Sg) (x : Int32) : Int32 := if holdB g x = true then gY g x.toNatClampNeg else nI 0
def elV (g : Sg) (x i : Int32) : Int64 := if i < 0 ∨ szV g x ≤ i then 0 else gE g x.toNatClampNeg i.toNatClampNeg
/-- sizes are at most 40 -/
def SzOk (g : Sg) : Prop := ∀ s, s < 8 → inR (gZ g s) 41 = true
theorem el_in {g : Sg} {x i : Int32} (hz : SzOk g) (h0 : ¬ i < 0) (h1 : ¬ szV g x ≤ i) : inR x 8 = true ∧ inR i 40 = true := by
  rcases Bool.eq_false_or_eq_true (rowB g x) with q | q
  · have q8 := row_in q
    refine ⟨q8, ?_⟩
    rw [szV, if_pos q] at h1
    have z := hz _ (inR_at (by omega) q8).2
    obtain ⟨j, hj, rfl⟩ := nI_of h0
    obtain ⟨e, l⟩ := inR_at (by omega) z
    rw [e] at h1
    have : ¬ (gZ g x.toNatClampNeg).toNatClampNeg ≤ j := fun y => h1 ((nI_leI (by omega) (by omega)).mpr y)
    rw [inR_nI (by omega)]; exact decide_eq_true (by omega)
  · rw [szV, if_neg (by simp [q])] at h1
    obtain ⟨j, hj, rfl⟩ := nI_of h0
    exact absurd ((nI_leI (by omega) hj).mpr (Nat.zero_le j)) h1
set_option maxHeartbeats 4000000 in
theorem c_X2_isShelf {l : Launch} {h : Hp} {k : Nat} (x : Int32) : Mp l yX2_isShelf cX2_isShelf 2 (some .boolean) 1 [vr 2 k, vi x] h (vi (b2i (inR x 8))) := by
  refine Ms.of (by decide) (Nat.le_of_ble_eq_true rfl) (fun G C X F => ?_)
  have C : Cx G cX2_isShelf 2 RX2 := C
  show Rr G 0 [(0, vr 2 k), (1, vi x)] [] h
  refine r_iload_n C (dx dX2_isShelf 0 rfl) rfl ?_
  refine r_if_lt (tgt := 14) C (dx dX2_isShelf 1 rfl) (by decide) (fun c1 => ?_) (fun c1 => ?_)
  ·
    have c1 : x < 0 := c1
    refine r_iconst (v := nI 0) C (dx dX2_isShelf 7 rfl) rfl ?_
    exact F.1 _ _ _ _ _ rfl rfl (dx dX2_isShelf 8 rfl) rfl ⟨congrArg (fun x => some (vi x)) (show nI 0 = b2i _ by rw [show (inR x 8) = false by first | exact inR_neg (by assumption) | exact inR_big (by omega) (by assumption) | exact inR_ok (by omega) (by assumption) (by assumption)]; rfl), rfl⟩
  ·
    have c1 : ¬ x < 0 := c1
    refine r_iload_n C (dx dX2_isShelf 2 rfl) rfl ?_
    refine r_bipush (v := nI 8) C (dx dX2_isShelf 3 rfl) rfl ?_
    refine r_icmp_ge (tgt := 14) C (dx dX2_isShelf 4 rfl) (by decide) (fun c2 => ?_) (fun c2 => ?_)
    ·
      have c2 : nI 8 ≤ x := c2
      refine r_iconst (v := nI 0) C (dx dX2_isShelf 7 rfl) rfl ?_
      exact F.1 _ _ _ _ _ rfl rfl (dx dX2_isShelf 8 rfl) rfl ⟨congrArg (fun x => some (vi x)) (show nI 0 = b2i _ by rw [show (inR x 8) = false by first | exact inR_neg (by assumption) | exact inR_big (by omega) (by assumption) | exact inR_ok (by omega) (by assumption) (by assumption)]; rfl), rfl⟩
    ·
      have c2 : ¬ nI 8 ≤ x := c2
      refine r_iconst (v := nI 1) C (dx dX2_isShelf 5 rfl) rfl ?_
      refine r_goto (tgt := 15) C (dx dX2_isShelf 6 rfl) (by decide) ?_
      exact F.1 _ _ _ _ _ rfl rfl (dx dX2_isShelf 8 rfl) rfl ⟨congrArg (fun x => some (vi x)) (show nI 1 = b2i _ by rw [show (inR x 8) = true by first | exact inR_neg (by assumption) | exact inR_big (by omega) (by assumption) | exact inR_ok (by omega) (by assumption) (by assumption)]; rfl), rfl⟩
set_option maxHeartbeats 4000000 in
theorem c_X2_thingOn {l : Launch} {h : Hp} {k : Nat} {g : Sg} (hs : ShAt h k g) (x : Int32) : Mp l yX2_thingOn cX2_thingOn 2 (some .int) 2 [vr 2 k, vi x] h (vi (tOn g x)) := by
  refine Ms.of (by decide) (Nat.le_of_ble_eq_true rfl) (fun G C X F => ?_)
  have C : Cx G cX2_thingOn 2 RX2 := C
  show Rr G 0 [(0, vr 2 k), (1, vi x)] [] h
  refine r_aload_n C (dx dX2_thingOn 0 rfl) rfl ?_
  refine r_iload_n C (dx dX2_thingOn 1 rfl) rfl ?_
  refine r_cvP (as := [vi x]) (st := []) (v := vi (b2i (inR x 8))) C X I_X2_isShelf l_X2_26 (c_X2_isShelf _) (by decide) (Nat.le_of_ble_eq_true rfl) List.prefix_rfl rfl rfl (Nat.le_of_ble_eq_true rfl) rfl (dx dX2_thingOn 2 rfl) ?_
  refine rb_eq (b := inR x 8) (tgt := 17) C (dx dX2_thingOn 3 rfl) (by decide) (fun c1 => ?_) (fun c1 => ?_)
  ·
    have c1 : (inR x 8) = false := c1
    refine r_iconst (v := -1) C (dx dX2_thingOn 9 rfl) rfl ?_
    exact F.1 _ _ _ _ _ rfl rfl (dx dX2_thingOn 10 rfl) rfl ⟨congrArg (fun x => some (vi x)) (show -1 = tOn g x by simp [tOn, c1]), rfl⟩
  ·
    have c1 : (inR x 8) = true := c1
    refine r_aload_n C (dx dX2_thingOn 4 rfl) rfl ?_
    refine g_X2_9 C (dx dX2_thingOn 5 rfl) ?_
    refine r_iload_n C (dx dX2_thingOn 6 rfl) rfl ?_
    refine r_iald (j := x.toNatClampNeg) (x := gT g x.toNatClampNeg) C rfl rfl (by decide) (inR_at (by omega) c1).1 (inR_at (by omega) c1).2 (dx dX2_thingOn 7 rfl) (hs.1 _ (inR_at (by omega) c1).2) ?_
    refine r_goto (tgt := 18) C (dx dX2_thingOn 8 rfl) (by decide) ?_
    exact F.1 _ _ _ _ _ rfl rfl (dx dX2_thingOn 10 rfl) rfl ⟨congrArg (fun x => some (vi x)) (show gT g x.toNatClampNeg = tOn g x by simp [tOn, c1]), rfl⟩
set_option maxHeartbeats 4000000 in
theorem c_X2_isBare {l : Launch} {h : Hp} {k : Nat} {g : Sg} (hs : ShAt h k g) (x : Int32) : Mp l yX2_isBare cX2_isBare 2 (some .boolean) 3 [vr 2 k, vi x] h (vi (b2i (bareB g x))) := by
  refine Ms.of (by decide) (Nat.le_of_ble_eq_true rfl) (fun G C X F => ?_)
  have C : Cx G cX2_isBare 2 RX2 := C
  show Rr G 0 [(0, vr 2 k), (1, vi x)] [] h
  refine r_aload_n C (dx dX2_isBare 0 rfl) rfl ?_
  refine r_iload_n C (dx dX2_isBare 1 rfl) rfl ?_
  refine r_cvP (as := [vi x]) (st := []) (v := vi (tOn g x)) C X I_X2_thingOn l_X2_30 (c_X2_thingOn hs _) (by decide) (Nat.le_of_ble_eq_true rfl) List.prefix_rfl rfl rfl (Nat.le_of_ble_eq_true rfl) rfl (dx dX2_isBare 2 rfl) ?_
  refine r_iconst (v := -1) C (dx dX2_isBare 3 rfl) rfl ?_
  refine r_icmp_ne (tgt := 13) C (dx dX2_isBare 4 rfl) (by decide) (fun c1 => ?_) (fun c1 => ?_)
  ·
    have c1 : ¬ tOn g x = -1 := c1
    refine r_iconst (v := nI 0) C (dx dX2_isBare 7 rfl) rfl ?_
    exact F.1 _ _ _ _ _ rfl rfl (dx dX2_isBare 8 rfl) rfl ⟨congrArg (fun x => some (vi x)) (show nI 0 = b2i _ by rw [show (bareB g x) = false by simp [bareB, c1]]; rfl), rfl⟩
  ·
    have c1 : tOn g x = -1 := c1
    refine r_iconst (v := nI 1) C (dx dX2_isBare 5 rfl) rfl ?_
    refine r_goto (tgt := 14) C (dx dX2_isBare 6 rfl) (by decide) ?_
    exact F.1 _ _ _ _ _ rfl rfl (dx dX2_isBare 8 rfl) rfl ⟨congrArg (fun x => some (vi x)) (show nI 1 = b2i _ by rw [show (bareB g x) = true by simp [bareB, c1]]; rfl), rfl⟩
set_option maxHeartbeats 4000000 in
theorem c_X2_isOfHolding {l : Launch} {h : Hp} {k : Nat} {g : Sg} (hs : ShAt h k g) (x : Int32) : Mp l yX2_isOfHolding cX2_isOfHolding 2 (some .boolean) 3 [vr 2 k, vi x] h (vi (b2i (holdB g x))) := by
  refine Ms.of (by decide) (Nat.le_of_ble_eq_true rfl) (fun G C X F => ?_)
  have C : Cx G cX2_isOfHolding 2 RX2 := C
  show Rr G 0 [(0, vr 2 k), (1, vi x)] [] h
  refine r_aload_n C (dx dX2_isOfHolding 0 rfl) rfl ?_
  refine r_iload_n C (dx dX2_isOfHolding 1 rfl) rfl ?_
  refine r_cvP (as := [vi x]) (st := []) (v := vi (tOn g x)) C X I_X2_thingOn l_X2_30 (c_X2_thingOn hs _) (by decide) (Nat.le_of_ble_eq_true rfl) List.prefix_rfl rfl rfl (Nat.le_of_ble_eq_true rfl) rfl (dx dX2_isOfHolding 2 rfl) ?_
  refine r_bipush (v := nI 10) C (dx dX2_isOfHolding 3 rfl) rfl ?_
  refine r_icmp_lt (tgt := 14) C (dx dX2_isOfHolding 4 rfl) (by decide) (fun c1 => ?_) (fun c1 => ?_)
  ·
    have c1 : tOn g x < nI 10 := c1
    refine r_iconst (v := nI 0) C (dx dX2_isOfHolding 7 rfl) rfl ?_
    exact F.1 _ _ _ _ _ rfl rfl (dx dX2_isOfHolding 8 rfl) rfl ⟨congrArg (fun x => some (vi x)) (show nI 0 = b2i _ by rw [show (holdB g x) = false by (unfold holdB; first | exact decide_eq_true c1 | exact decide_eq_false (fun z => z c1))]; rfl), rfl⟩
  ·
    have c1 : ¬ tOn g x < nI 10 := c1
    refine r_iconst (v := nI 1) C (dx dX2_isOfHolding 5 rfl) rfl ?_
    refine r_goto (tgt := 15) C (dx dX2_isOfHolding 6 rfl) (by decide) ?_
    exact F.1 _ _ _ _ _ rfl rfl (dx dX2_isOfHolding 8 rfl) rfl ⟨congrArg (fun x => some (vi x)) (show nI 1 = b2i _ by rw [show (holdB g x) = true by (unfold holdB; first | exact decide_eq_true c1 | exact decide_eq_false (fun z => z c1))]; rfl), rfl⟩
set_option maxHeartbeats 4000000 in
theorem c_X2_isOfRow {l : Launch} {h : Hp} {k : Nat} {g : Sg} (hs : ShAt h k g) (x : Int32) : Mp l yX2_isOfRow cX2_isOfRow 2 (some .boolean) 4 [vr 2 k, vi x] h (vi (b2i (rowB g x))) := by
  refine Ms.of (by decide) (Nat.le_of_ble_eq_true rfl) (fun G C X F => ?_)
  have C : Cx G cX2_isOfRow 2 RX2 := C
  show Rr G 0 [(0, vr 2 k), (1, vi x)] [] h
  refine r_aload_n C (dx dX2_isOfRow 0 rfl) rfl ?_
  refine r_iload_n C (dx dX2_isOfRow 1 rfl) rfl ?_
  refine r_cvP (as := [vi x]) (st := []) (v := vi (b2i (bareB g x))) C X I_X2_isBare l_X2_34 (c_X2_isBare hs _) (by decide) (Nat.le_of_ble_eq_true rfl) List.prefix_rfl rfl rfl (Nat.le_of_ble_eq_true rfl) rfl (dx dX2_isOfRow 2 rfl) ?_
  refine rb_ne (b := bareB g x) (tgt := 20) C (dx dX2_isOfRow 3 rfl) (by decide) (fun c1 => ?_) (fun c1 => ?_)
  ·
    have c1 : (bareB g x) = true := c1
    refine r_iconst (v := nI 0) C (dx dX2_isOfRow 10 rfl) rfl ?_
    exact F.1 _ _ _ _ _ rfl rfl (dx dX2_isOfRow 11 rfl) rfl ⟨congrArg (fun x => some (vi x)) (show nI 0 = b2i _ by rw [show (rowB g x) = false by simp [rowB, c1]]; rfl), rfl⟩
  ·
    have c1 : (bareB g x) = false := c1
    refine r_aload_n C (dx dX2_isOfRow 4 rfl) rfl ?_
    refine r_iload_n C (dx dX2_isOfRow 5 rfl) rfl ?_
    refine r_cvP (as := [vi x]) (st := []) (v := vi (b2i (holdB g x))) C X I_X2_isOfHolding l_X2_37 (c_X2_isOfHolding hs _) (by decide) (Nat.le_of_ble_eq_true rfl) List.prefix_rfl rfl rfl (Nat.le_of_ble_eq_true rfl) rfl (dx dX2_isOfRow 6 rfl) ?_
    refine rb_ne (b := holdB g x) (tgt := 20) C (dx dX2_isOfRow 7 rfl) (by decide) (fun c2 => ?_) (fun c2 => ?_)
    ·
      have c2 : (holdB g x) = true := c2
      refine r_iconst (v := nI 0) C (dx dX2_isOfRow 10 rfl) rfl ?_
      exact F.1 _ _ _ _ _ rfl rfl (dx dX2_isOfRow 11 rfl) rfl ⟨congrArg (fun x => some (vi x)) (show nI 0 = b2i _ by rw [show (rowB g x) = false by simp [rowB, c1, c2]]; rfl), rfl⟩
    ·
      have c2 : (holdB g x) = false := c2
      refine r_iconst (v := nI 1) C (dx dX2_isOfRow 8 rfl) rfl ?_
      refine r_goto (tgt := 21) C (dx dX2_isOfRow 9 rfl) (by decide) ?_
      exact F.1 _ _ _ _ _ rfl rfl (dx dX2_isOfRow 11 rfl) rfl ⟨congrArg (fun x => some (vi x)) (show nI 1 = b2i _ by rw [show (rowB g x) = true by simp [rowB, c1, c2]]; rfl), rfl⟩
set_option maxHeartbeats 4000000 in
theorem c_X2_rowFault {l : Launch} {h : Hp} {k : Nat} {g : Sg} (hs : ShAt h k g) (x : Int32) : Mp l yX2_rowFault cX2_rowFault 2 (some .int) 4 [vr 2 k, vi x] h (vi (if holdB g x = true then -3 else if bareB g x = true then -4 else nI 0)) := by
  refine Ms.of (by decide) (Nat.le_of_ble_eq_true rfl) (fun G C X F => ?_)
  have C : Cx G cX2_rowFault 2 RX2 := C
  show Rr G 0 [(0, vr 2 k), (1, vi x)] [] h
  refine r_aload_n C (dx dX2_rowFault 0 rfl) rfl ?_
  refine r_iload_n C (dx dX2_rowFault 1 rfl) rfl ?_
  refine r_cvP (as := [vi x]) (st := []) (v := vi (b2i (holdB g x))) C X I_X2_isOfHolding l_X2_37 (c_X2_isOfHolding hs _) (by decide) (Nat.le_of_ble_eq_true rfl) List.prefix_rfl rfl rfl (Nat.le_of_ble_eq_true rfl) rfl (dx dX2_rowFault 2 rfl) ?_
  refine rb_eq (b := holdB g x) (tgt := 11) C (dx dX2_rowFault 3 rfl) (by decide) (fun c1 => ?_) (fun c1 => ?_)
  ·
    have c1 : (holdB g x) = false := c1
    refine r_aload_n C (dx dX2_rowFault 6 rfl) rfl ?_
    refine r_iload_n C (dx dX2_rowFault 7 rfl) rfl ?_
    refine r_cvP (as := [vi x]) (st := []) (v := vi (b2i (bareB g x))) C X I_X2_isBare l_X2_34 (c_X2_isBare hs _) (by decide) (Nat.le_of_ble_eq_true rfl) List.prefix_rfl rfl rfl (Nat.le_of_ble_eq_true rfl) rfl (dx dX2_rowFault 8 rfl) ?_
    refine rb_eq (b := bareB g x) (tgt := 24) C (dx dX2_rowFault 9 rfl) (by decide) (fun c2 => ?_) (fun c2 => ?_)
    ·
      have c2 : (bareB g x) = false := c2
      refine r_iconst (v := nI 0) C (dx dX2_rowFault 12 rfl) rfl ?_
      exact F.1 _ _ _ _ _ rfl rfl (dx dX2_rowFault 13 rfl) rfl ⟨congrArg (fun x => some (vi x)) (show nI 0 = if holdB g x = true then -3 else if bareB g x = true then -4 else nI 0 by simp [c1, c2]), rfl⟩
    ·
      have c2 : (bareB g x) = true := c2
      refine r_bipush (v := -4) C (dx dX2_rowFault 10 rfl) rfl ?_
      refine r_goto (tgt := 25) C (dx dX2_rowFault 11 rfl) (by decide) ?_
      exact F.1 _ _ _ _ _ rfl rfl (dx dX2_rowFault 13 rfl) rfl ⟨congrArg (fun x => some (vi x)) (show -4 = if holdB g x = true then -3 else if bareB g x = true then -4 else nI 0 by simp [c1, c2]), rfl⟩
  ·
    have c1 : (holdB g x) = true := c1
    refine r_bipush (v := -3) C (dx dX2_rowFault 4 rfl) rfl ?_
    exact F.1 _ _ _ _ _ rfl rfl (dx dX2_rowFault 5 rfl) rfl ⟨congrArg (fun x => some (vi x)) (show -3 = if holdB g x = true then -3 else if bareB g x = true then -4 else nI 0 by simp [c1]), rfl⟩
set_option maxHeartbeats 4000000 in
theorem c_X2_holdingFault {l : Launch} {h : Hp} {k : Nat} {g : Sg} (hs : ShAt h k g) (x : Int32) : Mp l yX2_holdingFault cX2_holdingFault 2 (some .int) 5 [vr 2 k, vi x] h (vi (if rowB g x = true then -3 else if bareB g x = true then -4 else nI 0)) := by
  refine Ms.of (by decide) (Nat.le_of_ble_eq_true rfl) (fun G C X F => ?_)
  have C : Cx G cX2_holdingFault 2 RX2 := C
  show Rr G 0 [(0, vr 2 k), (1, vi x)] [] h
  refine r_aload_n C (dx dX2_holdingFault 0 rfl) rfl ?_
  refine r_iload_n C (dx dX2_holdingFault 1 rfl) rfl ?_
  refine r_cvP (as := [vi x]) (st := []) (v := vi (b2i (rowB g x))) C X I_X2_isOfRow l_X2_40 (c_X2_isOfRow hs _) (by decide) (Nat.le_of_ble_eq_true rfl) List.prefix_rfl rfl rfl (Nat.le_of_ble_eq_true rfl) rfl (dx dX2_holdingFault 2 rfl) ?_
  refine rb_eq (b := rowB g x) (tgt := 11) C (dx dX2_holdingFault 3 rfl) (by decide) (fun c1 => ?_) (fun c1 => ?_)
  ·
    have c1 : (rowB g x) = false := c1
    refine r_aload_n C (dx dX2_holdingFault 6 rfl) rfl ?_
    refine r_iload_n C (dx dX2_holdingFault 7 rfl) rfl ?_
    refine r_cvP (as := [vi x]) (st := []) (v := vi (b2i (bareB g x))) C X I_X2_isBare l_X2_34 (c_X2_isBare hs _) (by decide) (Nat.le_of_ble_eq_true rfl) List.prefix_rfl rfl rfl (Nat.le_of_ble_eq_true rfl) rfl (dx dX2_holdingFault 8 rfl) ?_
    refine rb_eq (b := bareB g x) (tgt := 24) C (dx dX2_holdingFault 9 rfl) (by decide) (fun c2 => ?_) (fun c2 => ?_)
    ·
      have c2 : (bareB g x) = false := c2
      refine r_iconst (v := nI 0) C (dx dX2_holdingFault 12 rfl) rfl ?_
      exact F.1 _ _ _ _ _ rfl rfl (dx dX2_holdingFault 13 rfl) rfl ⟨congrArg (fun x => some (vi x)) (show nI 0 = if rowB g x = true then -3 else if bareB g x = true then -4 else nI 0 by simp [c1, c2]), rfl⟩
    ·
      have c2 : (bareB g x) = true := c2
      refine r_bipush (v := -4) C (dx dX2_holdingFault 10 rfl) rfl ?_
      refine r_goto (tgt := 25) C (dx dX2_holdingFault 11 rfl) (by decide) ?_
      exact F.1 _ _ _ _ _ rfl rfl (dx dX2_holdingFault 13 rfl) rfl ⟨congrArg (fun x => some (vi x)) (show -4 = if rowB g x = true then -3 else if bareB g x = true then -4 else nI 0 by simp [c1, c2]), rfl⟩
  ·
    have c1 : (rowB g x) = true := c1
    refine r_bipush (v := -3) C (dx dX2_holdingFault 4 rfl) rfl ?_
    exact F.1 _ _ _ _ _ rfl rfl (dx dX2_holdingFault 5 rfl) rfl ⟨congrArg (fun x => some (vi x)) (show -3 = if rowB g x = true then -3 else if bareB g x = true then -4 else nI 0 by simp [c1]), rfl⟩
set_option maxHeartbeats 4000000 in
theorem c_X2_kindOn {l : Launch} {h : Hp} {k : Nat} {g : Sg} (hs : ShAt h k g) (x : Int32) : Mp l yX2_kindOn cX2_kindOn 2 (some .int) 4 [vr 2 k, vi x] h (vi (kdV g x)) := by
  refine Ms.of (by decide) (Nat.le_of_ble_eq_true rfl) (fun G C X F => ?_)
  have C : Cx G cX2_kindOn 2 RX2 := C
  show Rr G 0 [(0, vr 2 k), (1, vi x)] [] h
  refine r_aload_n C (dx dX2_kindOn 0 rfl) rfl ?_
  refine r_iload_n C (dx dX2_kindOn 1 rfl) rfl ?_
  refine r_cvP (as := [vi x]) (st := []) (v := vi (b2i (holdB g x))) C X I_X2_isOfHolding l_X2_37 (c_X2_isOfHolding hs _) (by decide) (Nat.le_of_ble_eq_true rfl) List.prefix_rfl rfl rfl (Nat.le_of_ble_eq_true rfl) rfl (dx dX2_kindOn 2 rfl) ?_
  refine rb_eq (b := holdB g x) (tgt := 20) C (dx dX2_kindOn 3 rfl) (by decide) (fun c1 => ?_) (fun c1 => ?_)
  ·
    have c1 : (holdB g x) = false := c1
    refine r_iconst (v := nI 0) C (dx dX2_kindOn 11 rfl) rfl ?_
    exact F.1 _ _ _ _ _ rfl rfl (dx dX2_kindOn 12 rfl) rfl ⟨congrArg (fun x => some (vi x)) (show nI 0 = kdV g x by simp [kdV, c1]), rfl⟩
  ·
    have c1 : (holdB g x) = true := c1
    refine r_aload_n C (dx dX2_kindOn 4 rfl) rfl ?_
    refine g_X2_9 C (dx dX2_kindOn 5 rfl) ?_
    refine r_iload_n C (dx dX2_kindOn 6 rfl) rfl ?_
    refine r_iald (j := x.toNatClampNeg) (x := gT g x.toNatClampNeg) C rfl rfl (by decide) (inR_at (by omega) (hold_in c1)).1 (inR_at (by omega) (hold_in c1)).2 (dx dX2_kindOn 7 rfl) (hs.1 _ (inR_at (by omega) (hold_in c1)).2) ?_
    refine r_bipush (v := nI 10) C (dx dX2_kindOn 8 rfl) rfl ?_
    refine r_isub C (dx dX2_kindOn 9 rfl) ?_
    refine r_goto (tgt := 21) C (dx dX2_kindOn 10 rfl) (by decide) ?_
    exact F.1 _ _ _ _ _ rfl rfl (dx dX2_kindOn 12 rfl) rfl ⟨congrArg (fun x => some (vi x)) (show (gT g x.toNatClampNeg) - (nI 10) = kdV g x by simp [kdV, c1]), rfl⟩
set_option maxHeartbeats 4000000 in
theorem c_X2_byOn {l : Launch} {h : Hp} {k : Nat} {g : Sg} (hs : ShAt h k g) (x : Int32) : Mp l yX2_byOn cX2_byOn 2 (some .int) 4 [vr 2 k, vi x] h (vi (byV g x)) := by
  refine Ms.of (by decide) (Nat.le_of_ble_eq_true rfl) (fun G C X F => ?_)
  have C : Cx G cX2_byOn 2 RX2 := C
  show Rr G 0 [(0, vr 2 k), (1, vi x)] [] h
  refine r_aload_n C (dx dX2_byOn 0 rfl) rfl ?_
  refine r_iload_n C (dx dX2_byOn 1 rfl) rfl ?_
  refine r_cvP (as := [vi x]) (st := []) (v := vi (b2i (holdB g x))) C X I_X2_isOfHolding l_X2_37 (c_X2_isOfHolding hs _) (by decide) (Nat.le_of_ble_eq_true rfl) List.prefix_rfl rfl rfl (Nat.le_of_ble_eq_true rfl) rfl (dx dX2_byOn 2 rfl) ?_
  refine rb_eq (b := holdB g x) (tgt := 17) C (dx dX2_byOn 3 rfl) (by decide) (fun c1 => ?_) (fun c1 => ?_)
  ·
    have c1 : (holdB g x) = false := c1
    refine r_iconst (v := nI 0) C (dx dX2_byOn 9 rfl) rfl ?_
    exact F.1 _ _ _ _ _ rfl rfl (dx dX2_byOn 10 rfl) rfl ⟨congrArg (fun x => some (vi x)) (show nI 0 = byV g x by simp [byV, c1]), rfl⟩
  ·
    have c1 : (holdB g x) = true := c1
    refine r_aload_n C (dx dX2_byOn 4 rfl) rfl ?_
    refine g_X2_23 C (dx dX2_byOn 5 rfl) ?_
    refine r_iload_n C (dx dX2_byOn 6 rfl) rfl ?_
    refine r_iald (j := x.toNatClampNeg) (x := gY g x.toNatClampNeg) C rfl rfl (by decide) (inR_at (by omega) (hold_in c1)).1 (inR_at (by omega) (hold_in c1)).2 (dx dX2_byOn 7 rfl) (hs.2.2.1 _ (inR_at (by omega) (hold_in c1)).2) ?_
    refine r_goto (tgt := 18) C (dx dX2_byOn 8 rfl) (by decide) ?_
    exact F.1 _ _ _ _ _ rfl rfl (dx dX2_byOn 10 rfl) rfl ⟨congrArg (fun x => some (vi x)) (show gY g x.toNatClampNeg = byV g x by simp [byV, c1]), rfl⟩
set_option maxHeartbeats 4000000 in
theorem c_X2_sizeOf {l : Launch} {h : Hp} {k : Nat} {g : Sg} (hs : ShAt h k g) (x : Int32) : Mp l yX2_sizeOf cX2_sizeOf 2 (some .int) 5 [vr 2 k, vi x] h (vi (szV g x)) := by
  refine Ms.of (by decide) (Nat.le_of_ble_eq_true rfl) (fun G C X F => ?_)
  have C : Cx G cX2_sizeOf 2 RX2 := C
  show Rr G 0 [(0, vr 2 k), (1, vi x)] [] h
  refine r_aload_n C (dx dX2_sizeOf 0 rfl) rfl ?_
  refine r_iload_n C (dx dX2_sizeOf 1 rfl) rfl ?_
  refine r_cvP (as := [vi x]) (st := []) (v := vi (b2i (rowB g x))) C X I_X2_isOfRow l_X2_40 (c_X2_isOfRow hs _) (by decide) (Nat.le_of_ble_eq_true rfl) List.prefix_rfl rfl rfl (Nat.le_of_ble_eq_true rfl) rfl (dx dX2_sizeOf 2 rfl) ?_
  refine rb_eq (b := rowB g x) (tgt := 17) C (dx dX2_sizeOf 3 rfl) (by decide) (fun c1 => ?_) (fun c1 => ?_)
  ·
    have c1 : (rowB g x) = false := c1
    refine r_iconst (v := nI 0) C (dx dX2_sizeOf 9 rfl) rfl ?_
    exact F.1 _ _ _ _ _ rfl rfl (dx dX2_sizeOf 10 rfl) rfl ⟨congrArg (fun x => some (vi x)) (show nI 0 = szV g x by simp [szV, c1]), rfl⟩
  ·
    have c1 : (rowB g x) = true := c1
    refine r_aload_n C (dx dX2_sizeOf 4 rfl) rfl ?_
    refine g_X2_15 C (dx dX2_sizeOf 5 rfl) ?_
    refine r_iload_n C (dx dX2_sizeOf 6 rfl) rfl ?_
    refine r_iald (j := x.toNatClampNeg) (x := gZ g x.toNatClampNeg) C rfl rfl (by decide) (inR_at (by omega) (row_in c1)).1 (inR_at (by omega) (row_in c1)).2 (dx dX2_sizeOf 7 rfl) (hs.2.1 _ (inR_at (by omega) (row_in c1)).2) ?_
    refine r_goto (tgt := 18) C (dx dX2_sizeOf 8 rfl) (by decide) ?_
    exact F.1 _ _ _ _ _ rfl rfl (dx dX2_sizeOf 10 rfl) rfl ⟨congrArg (fun x => some (vi x)) (show gZ g x.toNatClampNeg = szV g x by simp [szV, c1]), rfl⟩
set_option maxHeartbeats 4000000 in
theorem c_X2_elementAt {l : Launch} {h : Hp} {k : Nat} {g : Sg} (hs : ShAt h k g) (hz : SzOk g) (x i : Int32) : Mp l yX2_elementAt cX2_elementAt 3 (some .long) 6 [vr 2 k, vi x, vi i] h (vl (elV g x i)) := by
  refine Ms.of (by decide) (Nat.le_of_ble_eq_true rfl) (fun G C X F => ?_)
  have C : Cx G cX2_elementAt 3 RX2 := C
  show Rr G 0 [(0, vr 2 k), (1, vi x), (2, vi i)] [] h
  refine r_iload_n C (dx dX2_elementAt 0 rfl) rfl ?_
  refine r_if_lt (tgt := 24) C (dx dX2_elementAt 1 rfl) (by decide) (fun c1 => ?_) (fun c1 => ?_)
  ·
    have c1 : i < 0 := c1
    refine r_lconst (v := 0) C (dx dX2_elementAt 14 rfl) rfl ?_
    exact F.2.1 _ _ _ _ rfl (dx dX2_elementAt 15 rfl) rfl ⟨congrArg (fun x => some (vl x)) (show 0 = elV g x i by (unfold elV; rw [if_pos (Or.inl c1)])), rfl⟩
  ·
    have c1 : ¬ i < 0 := c1
    refine r_iload_n C (dx dX2_elementAt 2 rfl) rfl ?_
    refine r_aload_n C (dx dX2_elementAt 3 rfl) rfl ?_
    refine r_iload_n C (dx dX2_elementAt 4 rfl) rfl ?_
    refine r_cvP (as := [vi x]) (st := [vi i]) (v := vi (szV g x)) C X I_X2_sizeOf l_X2_49 (c_X2_sizeOf hs _) (by decide) (Nat.le_of_ble_eq_true rfl) List.prefix_rfl rfl rfl (Nat.le_of_ble_eq_true rfl) rfl (dx dX2_elementAt 5 rfl) ?_
    refine r_icmp_ge (tgt := 24) C (dx dX2_elementAt 6 rfl) (by decide) (fun c2 => ?_) (fun c2 => ?_)
    ·
      have c2 : szV g x ≤ i := c2
      refine r_lconst (v := 0) C (dx dX2_elementAt 14 rfl) rfl ?_
      exact F.2.1 _ _ _ _ rfl (dx dX2_elementAt 15 rfl) rfl ⟨congrArg (fun x => some (vl x)) (show 0 = elV g x i by (unfold elV; rw [if_pos (Or.inr c2)])), rfl⟩
    ·
      have c2 : ¬ szV g x ≤ i := c2
      refine r_aload_n C (dx dX2_elementAt 7 rfl) rfl ?_
      refine g_X2_20 C (dx dX2_elementAt 8 rfl) ?_
      refine r_iload_n C (dx dX2_elementAt 9 rfl) rfl ?_
      refine r_aald5 (j := x.toNatClampNeg) C rfl rfl (by decide) (inR_at (by omega) (el_in hz c1 c2).1).1 (inR_at (by omega) (el_in hz c1 c2).1).2 (dx dX2_elementAt 10 rfl) ?_
      refine r_iload_n C (dx dX2_elementAt 11 rfl) rfl ?_
      refine r_lald (j := i.toNatClampNeg) (x := gE g x.toNatClampNeg i.toNatClampNeg) C rfl rfl (by decide) (inR_at (by omega) (el_in hz c1 c2).2).1 (inR_at (by omega) (el_in hz c1 c2).2).2 (dx dX2_elementAt 12 rfl) (hs.2.2.2 _ (inR_at (by omega) (el_in hz c1 c2).1).2 _ (inR_at (by omega) (el_in hz c1 c2).2).2) ?_
      refine r_goto (tgt := 25) C (dx dX2_elementAt 13 rfl) (by decide) ?_
      exact F.2.1 _ _ _ _ rfl (dx dX2_elementAt 15 rfl) rfl ⟨congrArg (fun x => some (vl x)) (show gE g x.toNatClampNeg i.toNatClampNeg = elV g x i by (unfold elV; rw [if_neg (fun z => z.elim c1 c2)])), rfl⟩
def fullS (g : Sg) : Nat → Nat := cnt (fun s => !bareB g (nI s))
set_option maxHeartbeats 4000000 in
theorem c_X2_fullCount {l : Launch} {h : Hp} {k : Nat} {g : Sg} (hs : ShAt h k g)  : Mp l yX2_fullCount cX2_fullCount 3 (some .int) 4 [vr 2 k] h (vi (nI (fullS g 8))) := by
  refine Ms.of (by decide) (Nat.le_of_ble_eq_true rfl) (fun G C X F => ?_)
  have C : Cx G cX2_fullCount 3 RX2 := C
  show Rr G 0 [(0, vr 2 k)] [] h
  refine r_iconst (v := nI 0) C (dx dX2_fullCount 0 rfl) rfl ?_
  refine r_istore_n (ls' := [(0, vr 2 k), (1, vi (nI 0))]) C (dx dX2_fullCount 1 rfl) (by decide) [1, 0] rfl ?_
  refine r_iconst (v := nI 0) C (dx dX2_fullCount 2 rfl) rfl ?_
  refine r_istore_n (ls' := [(0, vr 2 k), (1, vi (nI 0)), (2, vi (nI 0))]) C (dx dX2_fullCount 3 rfl) (by decide) [1, 2, 0] rfl ?_
  refine loopU (Φ := fun p => Rr G 4 [(0, vr 2 k), (1, vi (nI (fullS g p))), (2, vi (nI p))] [] h) (N := 8) ?_ ?_ 0 (Nat.zero_le _)
  ·
    refine r_iload_n C (dx dX2_fullCount 4 rfl) rfl ?_
    refine r_bipush (v := nI 8) C (dx dX2_fullCount 5 rfl) rfl ?_
    refine rn_ge (a := 8) (b := 8) (tgt := 27) C (by omega) (by omega) (dx dX2_fullCount 6 rfl) (by decide) (fun c1 => ?_) (fun c1 => ?_)
    · first
      | (omega; done)
      | (
          have c1 : 8 ≤ 8 := c1
          refine r_iload_n C (dx dX2_fullCount 14 rfl) rfl ?_
          exact F.1 _ _ _ _ _ rfl rfl (dx dX2_fullCount 15 rfl) rfl ⟨congrArg (fun x => some (vi x)) rfl, rfl⟩)
    · first
      | (omega; done)
  ·
    intro p hp ih
    refine r_iload_n C (dx dX2_fullCount 4 rfl) rfl ?_
    refine r_bipush (v := nI 8) C (dx dX2_fullCount 5 rfl) rfl ?_
    refine rn_ge (a := p) (b := 8) (tgt := 27) C (by omega) (by omega) (dx dX2_fullCount 6 rfl) (by decide) (fun c3 => ?_) (fun c3 => ?_)
    · first
      | (omega; done)
      | (
          have c3 : 8 ≤ p := c3
          refine r_iload_n C (dx dX2_fullCount 14 rfl) rfl ?_
          exact F.1 _ _ _ _ _ rfl rfl (dx dX2_fullCount 15 rfl) rfl ⟨congrArg (fun x => some (vi x)) (show nI (fullS g p) = nI (fullS g 8) by rfl), rfl⟩)
    · first
      | (omega; done)
      | (
          have c3 : p < 8 := c3
          refine r_aload_n C (dx dX2_fullCount 7 rfl) rfl ?_
          refine r_iload_n C (dx dX2_fullCount 8 rfl) rfl ?_
          refine r_cvP (as := [vi (nI p)]) (st := []) (v := vi (b2i (bareB g (nI p)))) C X I_X2_isBare l_X2_34 (c_X2_isBare hs _) (by decide) (Nat.le_of_ble_eq_true rfl) List.prefix_rfl rfl rfl (Nat.le_of_ble_eq_true rfl) rfl (dx dX2_fullCount 9 rfl) ?_
          refine rb_ne (b := bareB g (nI p)) (tgt := 21) C (dx dX2_fullCount 10 rfl) (by decide) (fun c4 => ?_) (fun c4 => ?_)
          ·
            have c4 : (bareB g (nI p)) = true := c4
            refine rn_iinc (a := p) (k := 1) (ls' := [(0, vr 2 k), (1, vi (nI (fullS g p))), (2, vi (nI (p + 1)))]) C (dx dX2_fullCount 12 rfl) rfl rfl (by decide) [1, 2, 0] rfl ?_
            refine r_goto (tgt := 4) C (dx dX2_fullCount 13 rfl) (by decide) ?_
            have e9 : (nI (fullS g p)) = (nI (fullS g (p + 1))) := by simp [fullS, cnt, c4]
            rw [e9]
            exact ih
          ·
            have c4 : (bareB g (nI p)) = false := c4
            refine rn_iinc (a := fullS g p) (k := 1) (ls' := [(0, vr 2 k), (1, vi (nI (fullS g p + 1))), (2, vi (nI p))]) C (dx dX2_fullCount 11 rfl) rfl rfl (by decide) [1, 0, 2] rfl ?_
            refine rn_iinc (a := p) (k := 1) (ls' := [(0, vr 2 k), (1, vi (nI (fullS g p + 1))), (2, vi (nI (p + 1)))]) C (dx dX2_fullCount 12 rfl) rfl rfl (by decide) [1, 2, 0] rfl ?_
            refine r_goto (tgt := 4) C (dx dX2_fullCount 13 rfl) (by decide) ?_
            have e9 : (nI (fullS g p + 1)) = (nI (fullS g (p + 1))) := by simp [fullS, cnt, c4]
            rw [e9]
            exact ih)
