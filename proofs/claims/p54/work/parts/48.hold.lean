/-! PART 53: the reference, exactly: holdings -/
/-- the first with room; the first with room who has a part of a machine; the next with room, round and round -/
def fwA (v : Vg) (am : Nat) : Int32 := fstF (fun o => hasRm v (nI o)) nI am 0
def fwM (v : Vg) (am m : Nat) : Int32 := fstF (fun o => anyB (ownB v (vF v 2 m) o) (vP v) && hasRm v (nI o)) nI am 0
def nwA (v : Vg) (a : Nat) (y : Int32) : Int32 := fstF (fun i => decide (¬ nI ((a + i) % vN v) = y) && hasRm v (nI ((a + i) % vN v))) (fun i => nI ((a + i) % vN v)) (vN v) 0
def srA (v : Vg) : Nat → Int32
  | 0 => -1
  | o + 1 => if hasRm v (nI o) = true ∧ (srA v o = -1 ∨ vF v 5 o < vF v 5 (srA v o).toNatClampNeg) then nI o else srA v o
theorem any_up {f : Nat → Bool} {q : Nat} (h : anyB f q = true) : ∀ n, q ≤ n → anyB f n = true
  | 0, hn => by rw [show q = 0 by omega] at h; exact h
  | n + 1, hn => by
    simp only [anyB]
    by_cases e : q = n + 1
    · subst e; exact h
    · rw [any_up h n (by omega), Bool.true_or]
theorem sr_ex (v : Vg) : ∀ n, srA v n = -1 ∨ ∃ a, a < n ∧ srA v n = nI a
  | 0 => Or.inl rfl
  | n + 1 => by
    simp only [srA]
    split
    · exact Or.inr ⟨n, by omega, rfl⟩
    · exact (sr_ex v n).imp_right (fun ⟨a, b, c⟩ => ⟨a, by omega, c⟩)
set_option maxHeartbeats 4000000 in
theorem e_fwN {l : Launch} {h : Hp} {k : Nat} {v : Vg} (hm : MilAt h k v) {am : Nat} (ha : am ≤ vN v) : Mp l yX7_firstWithRoom cX7_firstWithRoom 6 (some .int) 4 [vr 7 k, vi (nI am), vi (-1)] h (vi (fwA v am)) := by
  refine Ms.of (by decide) (Nat.le_of_ble_eq_true rfl) (fun G C X F => ?_)
  have C : Cx G cX7_firstWithRoom 6 RX7 := C
  show Rr G 0 [(0, vr 7 k), (1, vi (nI am)), (2, vi (-1))] [] h
  have bP := hm.bP
  have bM := hm.bM
  have bN := hm.bN
  refine r_iconst (v := nI 0) C (dx dX7_firstWithRoom 0 rfl) rfl ?_
  refine r_istore_n (ls' := [(0, vr 7 k), (1, vi (nI am)), (2, vi (-1)), (3, vi (nI 0))]) C (dx dX7_firstWithRoom 1 rfl) (by decide) [1, 2, 3, 0] rfl ?_
  refine loopU (Φ := fun p => fstF (fun o => hasRm v (nI o)) (nI) (am) 0 = fstF (fun o => hasRm v (nI o)) (nI) (am - p) p → Rr G 2 [(0, vr 7 k), (1, vi (nI am)), (2, vi (-1)), (3, vi (nI p))] [] h) (N := am) ?_ ?_ 0 (Nat.zero_le _) rfl
  ·
    intro hI
    refine r_iload_n C (dx dX7_firstWithRoom 2 rfl) rfl ?_
    refine r_iload_n C (dx dX7_firstWithRoom 3 rfl) rfl ?_
    refine rn_ge (a := am) (b := am) (tgt := 95) C (by omega) (by omega) (dx dX7_firstWithRoom 4 rfl) (by decide) (fun c1 => ?_) (fun c1 => ?_)
    · first
      | (omega; done)
      | (
          have c1 : am ≤ am := c1
          refine r_iconst (v := -1) C (dx dX7_firstWithRoom 49 rfl) rfl ?_
          exact F.1 _ _ _ _ _ rfl rfl (dx dX7_firstWithRoom 50 rfl) rfl ⟨congrArg (fun x => some (vi x)) (show -1 = fwA v am by unfold fwA; first | exact (fst_e hI).symm | exact (fst_y hI hp (by simp [*])).symm), rfl⟩)
    · first
      | (omega; done)
      | (
          have c1 : am < am := c1
          refine r_iload_n C (dx dX7_firstWithRoom 5 rfl) rfl ?_
          refine r_iconst (v := -1) C (dx dX7_firstWithRoom 6 rfl) rfl ?_
          refine r_icmp_ne (tgt := 16) C (dx dX7_firstWithRoom 7 rfl) (by decide) (fun c2 => ?_) (fun c2 => ?_)
          · exact (c2 rfl).elim
          ·
            have c2 : (-1 : Int32) = -1 := c2
            refine r_iconst (v := nI 1) C (dx dX7_firstWithRoom 8 rfl) rfl ?_
            refine r_goto (tgt := 17) C (dx dX7_firstWithRoom 9 rfl) (by decide) ?_
            refine r_istore (ls' := [(0, vr 7 k), (1, vi (nI am)), (2, vi (-1)), (3, vi (nI am)), (4, vi (nI 1))]) C (dx dX7_firstWithRoom 11 rfl) (by decide) [1, 2, 3, 4, 0] rfl ?_
            refine r_iconst (v := nI 0) C (dx dX7_firstWithRoom 12 rfl) rfl ?_
            refine r_istore (ls' := [(0, vr 7 k), (1, vi (nI am)), (2, vi (-1)), (3, vi (nI am)), (4, vi (nI 1)), (5, vi (nI 0))]) C (dx dX7_firstWithRoom 13 rfl) (by decide) [1, 2, 3, 4, 5, 0] rfl ?_
            refine r_iload C (dx dX7_firstWithRoom 14 rfl) rfl ?_
            refine r_aload_n C (dx dX7_firstWithRoom 15 rfl) rfl ?_
            refine g_X7_64 (x := nI (vP v)) C (dx dX7_firstWithRoom 16 rfl) hm.eP ?_
            refine rn_ge (a := 0) (b := vP v) (tgt := 74) C (by omega) (by omega) (dx dX7_firstWithRoom 17 rfl) (by decide) (fun c3 => ?_) (fun c3 => ?_)
            · first
              | (omega; done)
            · first
              | (omega; done))
  ·
    intro p hp ih hI
    refine r_iload_n C (dx dX7_firstWithRoom 2 rfl) rfl ?_
    refine r_iload_n C (dx dX7_firstWithRoom 3 rfl) rfl ?_
    refine rn_ge (a := p) (b := am) (tgt := 95) C (by omega) (by omega) (dx dX7_firstWithRoom 4 rfl) (by decide) (fun c9 => ?_) (fun c9 => ?_)
    · first
      | (omega; done)
      | (
          have c9 : am ≤ p := c9
          refine r_iconst (v := -1) C (dx dX7_firstWithRoom 49 rfl) rfl ?_
          exact F.1 _ _ _ _ _ rfl rfl (dx dX7_firstWithRoom 50 rfl) rfl ⟨congrArg (fun x => some (vi x)) (show -1 = fwA v am by unfold fwA; first | exact (fst_e hI).symm | exact (fst_y hI hp (by simp [*])).symm), rfl⟩)
    · first
      | (omega; done)
      | (
          have c9 : p < am := c9
          refine r_iload_n C (dx dX7_firstWithRoom 5 rfl) rfl ?_
          refine r_iconst (v := -1) C (dx dX7_firstWithRoom 6 rfl) rfl ?_
          refine r_icmp_ne (tgt := 16) C (dx dX7_firstWithRoom 7 rfl) (by decide) (fun c10 => ?_) (fun c10 => ?_)
          · exact (c10 rfl).elim
          ·
            have c10 : (-1 : Int32) = -1 := c10
            refine r_iconst (v := nI 1) C (dx dX7_firstWithRoom 8 rfl) rfl ?_
            refine r_goto (tgt := 17) C (dx dX7_firstWithRoom 9 rfl) (by decide) ?_
            refine r_istore (ls' := [(0, vr 7 k), (1, vi (nI am)), (2, vi (-1)), (3, vi (nI p)), (4, vi (nI 1))]) C (dx dX7_firstWithRoom 11 rfl) (by decide) [1, 2, 3, 4, 0] rfl ?_
            refine r_iconst (v := nI 0) C (dx dX7_firstWithRoom 12 rfl) rfl ?_
            refine r_istore (ls' := [(0, vr 7 k), (1, vi (nI am)), (2, vi (-1)), (3, vi (nI p)), (4, vi (nI 1)), (5, vi (nI 0))]) C (dx dX7_firstWithRoom 13 rfl) (by decide) [1, 2, 3, 4, 5, 0] rfl ?_
            refine r_iload C (dx dX7_firstWithRoom 14 rfl) rfl ?_
            refine r_aload_n C (dx dX7_firstWithRoom 15 rfl) rfl ?_
            refine g_X7_64 (x := nI (vP v)) C (dx dX7_firstWithRoom 16 rfl) hm.eP ?_
            refine rn_ge (a := 0) (b := vP v) (tgt := 74) C (by omega) (by omega) (dx dX7_firstWithRoom 17 rfl) (by decide) (fun c11 => ?_) (fun c11 => ?_)
            · first
              | (omega; done)
              | (
                  have c11 : vP v ≤ 0 := c11
                  refine r_iload C (dx dX7_firstWithRoom 39 rfl) rfl ?_
                  refine r_if_eq (tgt := 89) C (dx dX7_firstWithRoom 40 rfl) (by decide) (fun c12 => (show False from by revert c12; decide).elim) (fun _ => ?_)
                  refine r_aload_n C (dx dX7_firstWithRoom 41 rfl) rfl ?_
                  refine r_iload_n C (dx dX7_firstWithRoom 42 rfl) rfl ?_
                  refine r_cvP (as := [vi (nI p)]) (st := []) (v := vi (b2i (hasRm v (nI p)))) C X I_X7_hasRoom l_X7_135 (e_hasRoom hm (j := p) (by omega)) (by decide) (Nat.le_of_ble_eq_true rfl) List.prefix_rfl rfl rfl (Nat.le_of_ble_eq_true rfl) rfl (dx dX7_firstWithRoom 43 rfl) ?_
                  refine rb_eq (b := hasRm v (nI p)) (tgt := 89) C (dx dX7_firstWithRoom 44 rfl) (by decide) (fun c13 => ?_) (fun c13 => ?_)
                  ·
                    have c13 : (hasRm v (nI p)) = false := c13
                    refine rn_iinc (a := p) (k := 1) (ls' := [(0, vr 7 k), (1, vi (nI am)), (2, vi (-1)), (3, vi (nI (p + 1))), (4, vi (nI 1)), (5, vi (nI 0))]) C (dx dX7_firstWithRoom 47 rfl) rfl rfl (by decide) [1, 2, 3, 0, 4, 5] rfl ?_
                    refine r_goto (tgt := 2) C (dx dX7_firstWithRoom 48 rfl) (by decide) ?_
                    refine r_weak C [0, 1, 2, 3] rfl ?_
                    exact ih (fst_n hI hp (by simp [*]))
                  ·
                    have c13 : (hasRm v (nI p)) = true := c13
                    refine r_iload_n C (dx dX7_firstWithRoom 45 rfl) rfl ?_
                    exact F.1 _ _ _ _ _ rfl rfl (dx dX7_firstWithRoom 46 rfl) rfl ⟨congrArg (fun x => some (vi x)) (show nI p = fwA v am by unfold fwA; first | exact (fst_e hI).symm | exact (fst_y hI hp (by simp [*])).symm), rfl⟩)
            · first
              | (omega; done)
              | (
                  have c11 : 0 < vP v := c11
                  refine r_iload C (dx dX7_firstWithRoom 18 rfl) rfl ?_
                  refine r_if_ne (tgt := 74) C (dx dX7_firstWithRoom 19 rfl) (by decide) (fun _ => ?_) (fun c14 => (show False from by revert c14; decide).elim)
                  refine r_iload C (dx dX7_firstWithRoom 39 rfl) rfl ?_
                  refine r_if_eq (tgt := 89) C (dx dX7_firstWithRoom 40 rfl) (by decide) (fun c15 => (show False from by revert c15; decide).elim) (fun _ => ?_)
                  refine r_aload_n C (dx dX7_firstWithRoom 41 rfl) rfl ?_
                  refine r_iload_n C (dx dX7_firstWithRoom 42 rfl) rfl ?_
                  refine r_cvP (as := [vi (nI p)]) (st := []) (v := vi (b2i (hasRm v (nI p)))) C X I_X7_hasRoom l_X7_135 (e_hasRoom hm (j := p) (by omega)) (by decide) (Nat.le_of_ble_eq_true rfl) List.prefix_rfl rfl rfl (Nat.le_of_ble_eq_true rfl) rfl (dx dX7_firstWithRoom 43 rfl) ?_
                  refine rb_eq (b := hasRm v (nI p)) (tgt := 89) C (dx dX7_firstWithRoom 44 rfl) (by decide) (fun c16 => ?_) (fun c16 => ?_)
                  ·
                    have c16 : (hasRm v (nI p)) = false := c16
                    refine rn_iinc (a := p) (k := 1) (ls' := [(0, vr 7 k), (1, vi (nI am)), (2, vi (-1)), (3, vi (nI (p + 1))), (4, vi (nI 1)), (5, vi (nI 0))]) C (dx dX7_firstWithRoom 47 rfl) rfl rfl (by decide) [1, 2, 3, 0, 4, 5] rfl ?_
                    refine r_goto (tgt := 2) C (dx dX7_firstWithRoom 48 rfl) (by decide) ?_
                    refine r_weak C [0, 1, 2, 3] rfl ?_
                    exact ih (fst_n hI hp (by simp [*]))
                  ·
                    have c16 : (hasRm v (nI p)) = true := c16
                    refine r_iload_n C (dx dX7_firstWithRoom 45 rfl) rfl ?_
                    exact F.1 _ _ _ _ _ rfl rfl (dx dX7_firstWithRoom 46 rfl) rfl ⟨congrArg (fun x => some (vi x)) (show nI p = fwA v am by unfold fwA; first | exact (fst_e hI).symm | exact (fst_y hI hp (by simp [*])).symm), rfl⟩))
set_option maxHeartbeats 4000000 in
theorem e_fwM {l : Launch} {h : Hp} {k : Nat} {v : Vg} (hm : MilAt h k v) {am m : Nat} (ha : am ≤ vN v) (hj : m < vM v) : Mp l yX7_firstWithRoom cX7_firstWithRoom 6 (some .int) 4 [vr 7 k, vi (nI am), vi (nI m)] h (vi (fwM v am m)) := by
  refine Ms.of (by decide) (Nat.le_of_ble_eq_true rfl) (fun G C X F => ?_)
  have C : Cx G cX7_firstWithRoom 6 RX7 := C
  show Rr G 0 [(0, vr 7 k), (1, vi (nI am)), (2, vi (nI m))] [] h
  have bP := hm.bP
  have bM := hm.bM
  have bN := hm.bN
  refine r_iconst (v := nI 0) C (dx dX7_firstWithRoom 0 rfl) rfl ?_
  refine r_istore_n (ls' := [(0, vr 7 k), (1, vi (nI am)), (2, vi (nI m)), (3, vi (nI 0))]) C (dx dX7_firstWithRoom 1 rfl) (by decide) [1, 2, 3, 0] rfl ?_
  refine loopU (Φ := fun p => fstF (fun o => anyB (ownB v (vF v 2 m) o) (vP v) && hasRm v (nI o)) (nI) (am) 0 = fstF (fun o => anyB (ownB v (vF v 2 m) o) (vP v) && hasRm v (nI o)) (nI) (am - p) p → Rr G 2 [(0, vr 7 k), (1, vi (nI am)), (2, vi (nI m)), (3, vi (nI p))] [] h) (N := am) ?_ ?_ 0 (Nat.zero_le _) rfl
  ·
    intro hI
    refine r_iload_n C (dx dX7_firstWithRoom 2 rfl) rfl ?_
    refine r_iload_n C (dx dX7_firstWithRoom 3 rfl) rfl ?_
    refine rn_ge (a := am) (b := am) (tgt := 95) C (by omega) (by omega) (dx dX7_firstWithRoom 4 rfl) (by decide) (fun c1 => ?_) (fun c1 => ?_)
    · first
      | (omega; done)
      | (
          have c1 : am ≤ am := c1
          refine r_iconst (v := -1) C (dx dX7_firstWithRoom 49 rfl) rfl ?_
          exact F.1 _ _ _ _ _ rfl rfl (dx dX7_firstWithRoom 50 rfl) rfl ⟨congrArg (fun x => some (vi x)) (show -1 = fwM v am m by unfold fwM; first | exact (fst_e hI).symm | exact (fst_y hI hp (by simp [*])).symm), rfl⟩)
    · first
      | (omega; done)
      | (
          have c1 : am < am := c1
          refine r_iload_n C (dx dX7_firstWithRoom 5 rfl) rfl ?_
          refine r_iconst (v := -1) C (dx dX7_firstWithRoom 6 rfl) rfl ?_
          refine r_icmp_ne (tgt := 16) C (dx dX7_firstWithRoom 7 rfl) (by decide) (fun c2 => ?_) (fun c2 => ?_)
          ·
            have c2 : ¬ nI m = -1 := c2
            refine r_iconst (v := nI 0) C (dx dX7_firstWithRoom 10 rfl) rfl ?_
            refine r_istore (ls' := [(0, vr 7 k), (1, vi (nI am)), (2, vi (nI m)), (3, vi (nI am)), (4, vi (nI 0))]) C (dx dX7_firstWithRoom 11 rfl) (by decide) [1, 2, 3, 4, 0] rfl ?_
            refine r_iconst (v := nI 0) C (dx dX7_firstWithRoom 12 rfl) rfl ?_
            refine r_istore (ls' := [(0, vr 7 k), (1, vi (nI am)), (2, vi (nI m)), (3, vi (nI am)), (4, vi (nI 0)), (5, vi (nI 0))]) C (dx dX7_firstWithRoom 13 rfl) (by decide) [1, 2, 3, 4, 5, 0] rfl ?_
            refine loopU (Φ := fun q => Rr G 22 [(0, vr 7 k), (1, vi (nI am)), (2, vi (nI m)), (3, vi (nI am)), (4, vi (b2i (anyB (ownB v (vF v 2 m) p) q))), (5, vi (nI q))] [] h) (N := vP v) ?_ ?_ 0 (Nat.zero_le _)
            ·
              skip
              refine r_iload C (dx dX7_firstWithRoom 14 rfl) rfl ?_
              refine r_aload_n C (dx dX7_firstWithRoom 15 rfl) rfl ?_
              refine g_X7_64 (x := nI (vP v)) C (dx dX7_firstWithRoom 16 rfl) hm.eP ?_
              refine rn_ge (a := vP v) (b := vP v) (tgt := 74) C (by omega) (by omega) (dx dX7_firstWithRoom 17 rfl) (by decide) (fun c3 => ?_) (fun c3 => ?_)
              · first
                | (omega; done)
              · first
                | (omega; done)
            ·
              intro q hq ihq
              refine r_iload C (dx dX7_firstWithRoom 14 rfl) rfl ?_
              refine r_aload_n C (dx dX7_firstWithRoom 15 rfl) rfl ?_
              refine g_X7_64 (x := nI (vP v)) C (dx dX7_firstWithRoom 16 rfl) hm.eP ?_
              refine rn_ge (a := q) (b := vP v) (tgt := 74) C (by omega) (by omega) (dx dX7_firstWithRoom 17 rfl) (by decide) (fun c7 => ?_) (fun c7 => ?_)
              · first
                | (omega; done)
              · first
                | (omega; done)
          · exact absurd c2 (nI_nm1 (by omega)))
  ·
    intro p hp ih hI
    refine r_iload_n C (dx dX7_firstWithRoom 2 rfl) rfl ?_
    refine r_iload_n C (dx dX7_firstWithRoom 3 rfl) rfl ?_
    refine rn_ge (a := p) (b := am) (tgt := 95) C (by omega) (by omega) (dx dX7_firstWithRoom 4 rfl) (by decide) (fun c11 => ?_) (fun c11 => ?_)
    · first
      | (omega; done)
      | (
          have c11 : am ≤ p := c11
          refine r_iconst (v := -1) C (dx dX7_firstWithRoom 49 rfl) rfl ?_
          exact F.1 _ _ _ _ _ rfl rfl (dx dX7_firstWithRoom 50 rfl) rfl ⟨congrArg (fun x => some (vi x)) (show -1 = fwM v am m by unfold fwM; first | exact (fst_e hI).symm | exact (fst_y hI hp (by simp [*])).symm), rfl⟩)
    · first
      | (omega; done)
      | (
          have c11 : p < am := c11
          refine r_iload_n C (dx dX7_firstWithRoom 5 rfl) rfl ?_
          refine r_iconst (v := -1) C (dx dX7_firstWithRoom 6 rfl) rfl ?_
          refine r_icmp_ne (tgt := 16) C (dx dX7_firstWithRoom 7 rfl) (by decide) (fun c12 => ?_) (fun c12 => ?_)
          ·
            have c12 : ¬ nI m = -1 := c12
            refine r_iconst (v := nI 0) C (dx dX7_firstWithRoom 10 rfl) rfl ?_
            refine r_istore (ls' := [(0, vr 7 k), (1, vi (nI am)), (2, vi (nI m)), (3, vi (nI p)), (4, vi (nI 0))]) C (dx dX7_firstWithRoom 11 rfl) (by decide) [1, 2, 3, 4, 0] rfl ?_
            refine r_iconst (v := nI 0) C (dx dX7_firstWithRoom 12 rfl) rfl ?_
            refine r_istore (ls' := [(0, vr 7 k), (1, vi (nI am)), (2, vi (nI m)), (3, vi (nI p)), (4, vi (nI 0)), (5, vi (nI 0))]) C (dx dX7_firstWithRoom 13 rfl) (by decide) [1, 2, 3, 4, 5, 0] rfl ?_
            refine loopU (Φ := fun q => Rr G 22 [(0, vr 7 k), (1, vi (nI am)), (2, vi (nI m)), (3, vi (nI p)), (4, vi (b2i (anyB (ownB v (vF v 2 m) p) q))), (5, vi (nI q))] [] h) (N := vP v) ?_ ?_ 0 (Nat.zero_le _)
            ·
              skip
              refine r_iload C (dx dX7_firstWithRoom 14 rfl) rfl ?_
              refine r_aload_n C (dx dX7_firstWithRoom 15 rfl) rfl ?_
              refine g_X7_64 (x := nI (vP v)) C (dx dX7_firstWithRoom 16 rfl) hm.eP ?_
              refine rn_ge (a := vP v) (b := vP v) (tgt := 74) C (by omega) (by omega) (dx dX7_firstWithRoom 17 rfl) (by decide) (fun c13 => ?_) (fun c13 => ?_)
              · first
                | (omega; done)
                | (
                    have c13 : vP v ≤ vP v := c13
                    refine r_iload C (dx dX7_firstWithRoom 39 rfl) rfl ?_
                    refine rb_eq (b := anyB (ownB v (vF v 2 m) p) (vP v)) (tgt := 89) C (dx dX7_firstWithRoom 40 rfl) (by decide) (fun c14 => ?_) (fun c14 => ?_)
                    ·
                      have c14 : (anyB (ownB v (vF v 2 m) p) (vP v)) = false := c14
                      refine rn_iinc (a := p) (k := 1) (ls' := [(0, vr 7 k), (1, vi (nI am)), (2, vi (nI m)), (3, vi (nI (p + 1))), (4, vi (b2i (anyB (ownB v (vF v 2 m) p) (vP v)))), (5, vi (nI (vP v)))]) C (dx dX7_firstWithRoom 47 rfl) rfl rfl (by decide) [1, 2, 3, 0, 4, 5] rfl ?_
                      refine r_goto (tgt := 2) C (dx dX7_firstWithRoom 48 rfl) (by decide) ?_
                      refine r_weak C [0, 1, 2, 3] rfl ?_
                      exact ih (fst_n hI hp (by first | (simp [*]; done) | simp_all))
                    ·
                      have c14 : (anyB (ownB v (vF v 2 m) p) (vP v)) = true := c14
                      refine r_aload_n C (dx dX7_firstWithRoom 41 rfl) rfl ?_
                      refine r_iload_n C (dx dX7_firstWithRoom 42 rfl) rfl ?_
                      refine r_cvP (as := [vi (nI p)]) (st := []) (v := vi (b2i (hasRm v (nI p)))) C X I_X7_hasRoom l_X7_135 (e_hasRoom hm (j := p) (by omega)) (by decide) (Nat.le_of_ble_eq_true rfl) List.prefix_rfl rfl rfl (Nat.le_of_ble_eq_true rfl) rfl (dx dX7_firstWithRoom 43 rfl) ?_
                      refine rb_eq (b := hasRm v (nI p)) (tgt := 89) C (dx dX7_firstWithRoom 44 rfl) (by decide) (fun c15 => ?_) (fun c15 => ?_)
                      ·
                        have c15 : (hasRm v (nI p)) = false := c15
                        refine rn_iinc (a := p) (k := 1) (ls' := [(0, vr 7 k), (1, vi (nI am)), (2, vi (nI m)), (3, vi (nI (p + 1))), (4, vi (b2i (anyB (ownB v (vF v 2 m) p) (vP v)))), (5, vi (nI (vP v)))]) C (dx dX7_firstWithRoom 47 rfl) rfl rfl (by decide) [1, 2, 3, 0, 4, 5] rfl ?_
                        refine r_goto (tgt := 2) C (dx dX7_firstWithRoom 48 rfl) (by decide) ?_
                        refine r_weak C [0, 1, 2, 3] rfl ?_
                        exact ih (fst_n hI hp (by first | (simp [*]; done) | simp_all))
                      ·
                        have c15 : (hasRm v (nI p)) = true := c15
                        refine r_iload_n C (dx dX7_firstWithRoom 45 rfl) rfl ?_
                        exact F.1 _ _ _ _ _ rfl rfl (dx dX7_firstWithRoom 46 rfl) rfl ⟨congrArg (fun x => some (vi x)) (show nI p = fwM v am m by unfold fwM; first | exact (fst_e hI).symm | exact (fst_y hI hp (by simp [*])).symm), rfl⟩)
              · first
                | (omega; done)
            ·
              intro q hq ihq
              refine r_iload C (dx dX7_firstWithRoom 14 rfl) rfl ?_
              refine r_aload_n C (dx dX7_firstWithRoom 15 rfl) rfl ?_
              refine g_X7_64 (x := nI (vP v)) C (dx dX7_firstWithRoom 16 rfl) hm.eP ?_
              refine rn_ge (a := q) (b := vP v) (tgt := 74) C (by omega) (by omega) (dx dX7_firstWithRoom 17 rfl) (by decide) (fun c20 => ?_) (fun c20 => ?_)
              · first
                | (omega; done)
                | (
                    have c20 : vP v ≤ q := c20
                    refine r_iload C (dx dX7_firstWithRoom 39 rfl) rfl ?_
                    refine rb_eq (b := anyB (ownB v (vF v 2 m) p) (vP v)) (tgt := 89) C (dx dX7_firstWithRoom 40 rfl) (by decide) (fun c21 => ?_) (fun c21 => ?_)
                    ·
                      have c21 : (anyB (ownB v (vF v 2 m) p) (vP v)) = false := c21
                      refine rn_iinc (a := p) (k := 1) (ls' := [(0, vr 7 k), (1, vi (nI am)), (2, vi (nI m)), (3, vi (nI (p + 1))), (4, vi (b2i (anyB (ownB v (vF v 2 m) p) (vP v)))), (5, vi (nI q))]) C (dx dX7_firstWithRoom 47 rfl) rfl rfl (by decide) [1, 2, 3, 0, 4, 5] rfl ?_
                      refine r_goto (tgt := 2) C (dx dX7_firstWithRoom 48 rfl) (by decide) ?_
                      refine r_weak C [0, 1, 2, 3] rfl ?_
                      exact ih (fst_n hI hp (by first | (simp [*]; done) | simp_all))
                    ·
                      have c21 : (anyB (ownB v (vF v 2 m) p) (vP v)) = true := c21
                      refine r_aload_n C (dx dX7_firstWithRoom 41 rfl) rfl ?_
                      refine r_iload_n C (dx dX7_firstWithRoom 42 rfl) rfl ?_
                      refine r_cvP (as := [vi (nI p)]) (st := []) (v := vi (b2i (hasRm v (nI p)))) C X I_X7_hasRoom l_X7_135 (e_hasRoom hm (j := p) (by omega)) (by decide) (Nat.le_of_ble_eq_true rfl) List.prefix_rfl rfl rfl (Nat.le_of_ble_eq_true rfl) rfl (dx dX7_firstWithRoom 43 rfl) ?_
                      refine rb_eq (b := hasRm v (nI p)) (tgt := 89) C (dx dX7_firstWithRoom 44 rfl) (by decide) (fun c22 => ?_) (fun c22 => ?_)
                      ·
                        have c22 : (hasRm v (nI p)) = false := c22
                        refine rn_iinc (a := p) (k := 1) (ls' := [(0, vr 7 k), (1, vi (nI am)), (2, vi (nI m)), (3, vi (nI (p + 1))), (4, vi (b2i (anyB (ownB v (vF v 2 m) p) (vP v)))), (5, vi (nI q))]) C (dx dX7_firstWithRoom 47 rfl) rfl rfl (by decide) [1, 2, 3, 0, 4, 5] rfl ?_
                        refine r_goto (tgt := 2) C (dx dX7_firstWithRoom 48 rfl) (by decide) ?_
                        refine r_weak C [0, 1, 2, 3] rfl ?_
                        exact ih (fst_n hI hp (by first | (simp [*]; done) | simp_all))
                      ·
                        have c22 : (hasRm v (nI p)) = true := c22
                        refine r_iload_n C (dx dX7_firstWithRoom 45 rfl) rfl ?_
                        exact F.1 _ _ _ _ _ rfl rfl (dx dX7_firstWithRoom 46 rfl) rfl ⟨congrArg (fun x => some (vi x)) (show nI p = fwM v am m by unfold fwM; first | exact (fst_e hI).symm | exact (fst_y hI hp (by simp [*])).symm), rfl⟩)
              · first
                | (omega; done)
                | (
                    have c20 : q < vP v := c20
                    refine r_iload C (dx dX7_firstWithRoom 18 rfl) rfl ?_
                    refine rb_ne (b := anyB (ownB v (vF v 2 m) p) q) (tgt := 74) C (dx dX7_firstWithRoom 19 rfl) (by decide) (fun c23 => ?_) (fun c23 => ?_)
                    ·
                      have c23 : (anyB (ownB v (vF v 2 m) p) q) = true := c23
                      have cA := any_up c23 (vP v) (by omega)
                      rw [c23, ← cA]
                      refine r_iload C (dx dX7_firstWithRoom 39 rfl) rfl ?_
                      refine rb_eq (b := anyB (ownB v (vF v 2 m) p) (vP v)) (tgt := 89) C (dx dX7_firstWithRoom 40 rfl) (by decide) (fun c24 => ?_) (fun c24 => ?_)
                      ·
                        have c24 : (anyB (ownB v (vF v 2 m) p) (vP v)) = false := c24
                        refine rn_iinc (a := p) (k := 1) (ls' := [(0, vr 7 k), (1, vi (nI am)), (2, vi (nI m)), (3, vi (nI (p + 1))), (4, vi (b2i (anyB (ownB v (vF v 2 m) p) (vP v)))), (5, vi (nI q))]) C (dx dX7_firstWithRoom 47 rfl) rfl rfl (by decide) [1, 2, 3, 0, 4, 5] rfl ?_
                        refine r_goto (tgt := 2) C (dx dX7_firstWithRoom 48 rfl) (by decide) ?_
                        refine r_weak C [0, 1, 2, 3] rfl ?_
                        exact ih (fst_n hI hp (by first | (simp [*]; done) | simp_all))
                      ·
                        have c24 : (anyB (ownB v (vF v 2 m) p) (vP v)) = true := c24
                        refine r_aload_n C (dx dX7_firstWithRoom 41 rfl) rfl ?_
                        refine r_iload_n C (dx dX7_firstWithRoom 42 rfl) rfl ?_
                        refine r_cvP (as := [vi (nI p)]) (st := []) (v := vi (b2i (hasRm v (nI p)))) C X I_X7_hasRoom l_X7_135 (e_hasRoom hm (j := p) (by omega)) (by decide) (Nat.le_of_ble_eq_true rfl) List.prefix_rfl rfl rfl (Nat.le_of_ble_eq_true rfl) rfl (dx dX7_firstWithRoom 43 rfl) ?_
                        refine rb_eq (b := hasRm v (nI p)) (tgt := 89) C (dx dX7_firstWithRoom 44 rfl) (by decide) (fun c25 => ?_) (fun c25 => ?_)
                        ·
                          have c25 : (hasRm v (nI p)) = false := c25
                          refine rn_iinc (a := p) (k := 1) (ls' := [(0, vr 7 k), (1, vi (nI am)), (2, vi (nI m)), (3, vi (nI (p + 1))), (4, vi (b2i (anyB (ownB v (vF v 2 m) p) (vP v)))), (5, vi (nI q))]) C (dx dX7_firstWithRoom 47 rfl) rfl rfl (by decide) [1, 2, 3, 0, 4, 5] rfl ?_
                          refine r_goto (tgt := 2) C (dx dX7_firstWithRoom 48 rfl) (by decide) ?_
                          refine r_weak C [0, 1, 2, 3] rfl ?_
                          exact ih (fst_n hI hp (by first | (simp [*]; done) | simp_all))
                        ·
                          have c25 : (hasRm v (nI p)) = true := c25
                          refine r_iload_n C (dx dX7_firstWithRoom 45 rfl) rfl ?_
                          exact F.1 _ _ _ _ _ rfl rfl (dx dX7_firstWithRoom 46 rfl) rfl ⟨congrArg (fun x => some (vi x)) (show nI p = fwM v am m by unfold fwM; first | exact (fst_e hI).symm | exact (fst_y hI hp (by simp [*])).symm), rfl⟩
                    ·
                      have c23 : (anyB (ownB v (vF v 2 m) p) q) = false := c23
                      refine r_aload_n C (dx dX7_firstWithRoom 20 rfl) rfl ?_
                      refine g_X7_46 C (dx dX7_firstWithRoom 21 rfl) ?_
                      refine r_iload_n C (dx dX7_firstWithRoom 22 rfl) rfl ?_
                      refine r_iald (j := m) (x := vF v 2 m) C rfl rfl (by decide) rfl (by omega) (dx dX7_firstWithRoom 23 rfl) (hm.e2 (by omega)) ?_
                      refine r_iload C (dx dX7_firstWithRoom 24 rfl) rfl ?_
                      refine r_csP (as := [vi (vF v 2 m), vi (nI q)]) (st := []) (v := vi (b2i (inB (vF v 2 m) (nI q)))) C X I_X7_isIn l_X7_244 (e_isIn _ _) (by decide) (Nat.le_of_ble_eq_true rfl) List.prefix_rfl (Nat.le_of_ble_eq_true rfl) rfl (dx dX7_firstWithRoom 25 rfl) ?_
                      refine rb_eq (b := inB (vF v 2 m) (nI q)) (tgt := 65) C (dx dX7_firstWithRoom 26 rfl) (by decide) (fun c26 => ?_) (fun c26 => ?_)
                      ·
                        have c26 : (inB (vF v 2 m) (nI q)) = false := c26
                        refine r_iconst (v := nI 0) C (dx dX7_firstWithRoom 35 rfl) rfl ?_
                        refine r_istore (ls' := [(0, vr 7 k), (1, vi (nI am)), (2, vi (nI m)), (3, vi (nI p)), (4, vi (nI 0)), (5, vi (nI q))]) C (dx dX7_firstWithRoom 36 rfl) (by decide) [1, 2, 3, 4, 0, 5] rfl ?_
                        refine rn_iinc (a := q) (k := 1) (ls' := [(0, vr 7 k), (1, vi (nI am)), (2, vi (nI m)), (3, vi (nI p)), (4, vi (nI 0)), (5, vi (nI (q + 1)))]) C (dx dX7_firstWithRoom 37 rfl) rfl rfl (by decide) [1, 2, 3, 4, 5, 0] rfl ?_
                        refine r_goto (tgt := 22) C (dx dX7_firstWithRoom 38 rfl) (by decide) ?_
                        have eq9 : (nI 0) = b2i (anyB (ownB v (vF v 2 m) p) (q + 1)) := by (simp only [anyB, ownB]; simp [b2i, c11, c12, c20, c23, c26] <;> rfl)
                        rw [eq9]
                        exact ihq
                      ·
                        have c26 : (inB (vF v 2 m) (nI q)) = true := c26
                        refine r_aload_n C (dx dX7_firstWithRoom 27 rfl) rfl ?_
                        refine g_X7_40 C (dx dX7_firstWithRoom 28 rfl) ?_
                        refine r_iload C (dx dX7_firstWithRoom 29 rfl) rfl ?_
                        refine r_iald (j := q) (x := vF v 0 q) C rfl rfl (by decide) rfl (by omega) (dx dX7_firstWithRoom 30 rfl) (hm.e0 (by omega)) ?_
                        refine r_iload_n C (dx dX7_firstWithRoom 31 rfl) rfl ?_
                        refine r_icmp_ne (tgt := 65) C (dx dX7_firstWithRoom 32 rfl) (by decide) (fun c27 => ?_) (fun c27 => ?_)
                        ·
                          have c27 : ¬ vF v 0 q = nI p := c27
                          refine r_iconst (v := nI 0) C (dx dX7_firstWithRoom 35 rfl) rfl ?_
                          refine r_istore (ls' := [(0, vr 7 k), (1, vi (nI am)), (2, vi (nI m)), (3, vi (nI p)), (4, vi (nI 0)), (5, vi (nI q))]) C (dx dX7_firstWithRoom 36 rfl) (by decide) [1, 2, 3, 4, 0, 5] rfl ?_
                          refine rn_iinc (a := q) (k := 1) (ls' := [(0, vr 7 k), (1, vi (nI am)), (2, vi (nI m)), (3, vi (nI p)), (4, vi (nI 0)), (5, vi (nI (q + 1)))]) C (dx dX7_firstWithRoom 37 rfl) rfl rfl (by decide) [1, 2, 3, 4, 5, 0] rfl ?_
                          refine r_goto (tgt := 22) C (dx dX7_firstWithRoom 38 rfl) (by decide) ?_
                          have eq9 : (nI 0) = b2i (anyB (ownB v (vF v 2 m) p) (q + 1)) := by (simp only [anyB, ownB]; simp [b2i, c11, c12, c20, c23, c26, c27] <;> rfl)
                          rw [eq9]
                          exact ihq
                        ·
                          have c27 : vF v 0 q = nI p := c27
                          refine r_iconst (v := nI 1) C (dx dX7_firstWithRoom 33 rfl) rfl ?_
                          refine r_goto (tgt := 66) C (dx dX7_firstWithRoom 34 rfl) (by decide) ?_
                          refine r_istore (ls' := [(0, vr 7 k), (1, vi (nI am)), (2, vi (nI m)), (3, vi (nI p)), (4, vi (nI 1)), (5, vi (nI q))]) C (dx dX7_firstWithRoom 36 rfl) (by decide) [1, 2, 3, 4, 0, 5] rfl ?_
                          refine rn_iinc (a := q) (k := 1) (ls' := [(0, vr 7 k), (1, vi (nI am)), (2, vi (nI m)), (3, vi (nI p)), (4, vi (nI 1)), (5, vi (nI (q + 1)))]) C (dx dX7_firstWithRoom 37 rfl) rfl rfl (by decide) [1, 2, 3, 4, 5, 0] rfl ?_
                          refine r_goto (tgt := 22) C (dx dX7_firstWithRoom 38 rfl) (by decide) ?_
                          have eq9 : (nI 1) = b2i (anyB (ownB v (vF v 2 m) p) (q + 1)) := by (simp only [anyB, ownB]; simp [b2i, c11, c12, c20, c23, c26, c27] <;> rfl)
                          rw [eq9]
                          exact ihq)
          · exact absurd c12 (nI_nm1 (by omega)))
set_option maxHeartbeats 4000000 in
theorem e_nw {l : Launch} {h : Hp} {k : Nat} {v : Vg} (hm : MilAt h k v) {a : Nat} (ha : a < 1000) (y : Int32) : Mp l yX7_nextWithRoom cX7_nextWithRoom 5 (some .int) 4 [vr 7 k, vi (nI a), vi y] h (vi (nwA v a y)) := by
  refine Ms.of (by decide) (Nat.le_of_ble_eq_true rfl) (fun G C X F => ?_)
  have C : Cx G cX7_nextWithRoom 5 RX7 := C
  show Rr G 0 [(0, vr 7 k), (1, vi (nI a)), (2, vi y)] [] h
  have bP := hm.bP
  have bM := hm.bM
  have bN := hm.bN
  refine r_iconst (v := nI 0) C (dx dX7_nextWithRoom 0 rfl) rfl ?_
  refine r_istore_n (ls' := [(0, vr 7 k), (1, vi (nI a)), (2, vi y), (3, vi (nI 0))]) C (dx dX7_nextWithRoom 1 rfl) (by decide) [1, 2, 3, 0] rfl ?_
  refine loopU (Φ := fun p => fstF (fun i => decide (¬ nI ((a + i) % vN v) = y) && hasRm v (nI ((a + i) % vN v))) (fun i => nI ((a + i) % vN v)) (vN v) 0 = fstF (fun i => decide (¬ nI ((a + i) % vN v) = y) && hasRm v (nI ((a + i) % vN v))) (fun i => nI ((a + i) % vN v)) (vN v - p) p → Rr G 2 [(0, vr 7 k), (1, vi (nI a)), (2, vi y), (3, vi (nI p))] [] h) (N := vN v) ?_ ?_ 0 (Nat.zero_le _) rfl
  ·
    intro hI
    refine r_iload_n C (dx dX7_nextWithRoom 2 rfl) rfl ?_
    refine r_aload_n C (dx dX7_nextWithRoom 3 rfl) rfl ?_
    refine g_X7_74 (x := nI (vN v)) C (dx dX7_nextWithRoom 4 rfl) hm.eN ?_
    refine rn_ge (a := vN v) (b := vN v) (tgt := 44) C (by omega) (by omega) (dx dX7_nextWithRoom 5 rfl) (by decide) (fun c1 => ?_) (fun c1 => ?_)
    · first
      | (omega; done)
      | (
          have c1 : vN v ≤ vN v := c1
          refine r_iconst (v := -1) C (dx dX7_nextWithRoom 24 rfl) rfl ?_
          exact F.1 _ _ _ _ _ rfl rfl (dx dX7_nextWithRoom 25 rfl) rfl ⟨congrArg (fun x => some (vi x)) (show -1 = nwA v a y by unfold nwA; first | exact (fst_e hI).symm | exact (fst_y hI hp (by simp [*])).symm), rfl⟩)
    · first
      | (omega; done)
  ·
    intro p hp ih hI
    refine r_iload_n C (dx dX7_nextWithRoom 2 rfl) rfl ?_
    refine r_aload_n C (dx dX7_nextWithRoom 3 rfl) rfl ?_
    refine g_X7_74 (x := nI (vN v)) C (dx dX7_nextWithRoom 4 rfl) hm.eN ?_
    refine rn_ge (a := p) (b := vN v) (tgt := 44) C (by omega) (by omega) (dx dX7_nextWithRoom 5 rfl) (by decide) (fun c3 => ?_) (fun c3 => ?_)
    · first
      | (omega; done)
      | (
          have c3 : vN v ≤ p := c3
          refine r_iconst (v := -1) C (dx dX7_nextWithRoom 24 rfl) rfl ?_
          exact F.1 _ _ _ _ _ rfl rfl (dx dX7_nextWithRoom 25 rfl) rfl ⟨congrArg (fun x => some (vi x)) (show -1 = nwA v a y by unfold nwA; first | exact (fst_e hI).symm | exact (fst_y hI hp (by simp [*])).symm), rfl⟩)
    · first
      | (omega; done)
      | (
          have c3 : p < vN v := c3
          refine r_iload_n C (dx dX7_nextWithRoom 6 rfl) rfl ?_
          refine r_iload_n C (dx dX7_nextWithRoom 7 rfl) rfl ?_
          refine rn_iadd (a := a) (b := p) C (dx dX7_nextWithRoom 8 rfl) ?_
          refine r_aload_n C (dx dX7_nextWithRoom 9 rfl) rfl ?_
          refine g_X7_74 (x := nI (vN v)) C (dx dX7_nextWithRoom 10 rfl) hm.eN ?_
          refine r_irem C (dx dX7_nextWithRoom 11 rfl) (fun z => by have := congrArg Int32.toInt z; rw [nI_toInt (by omega)] at this; have e0 : (0 : Int32).toInt = 0 := (by decide); omega) ?_
          rw [pmod (by omega) (by omega) (by omega)]
          have hmod : (a + p) % (vN v) < vN v := Nat.mod_lt _ (by omega)
          refine r_istore (ls' := [(0, vr 7 k), (1, vi (nI a)), (2, vi y), (3, vi (nI p)), (4, vi (nI ((a + p) % (vN v))))]) C (dx dX7_nextWithRoom 12 rfl) (by decide) [1, 2, 3, 4, 0] rfl ?_
          refine r_iload C (dx dX7_nextWithRoom 13 rfl) rfl ?_
          refine r_iload_n C (dx dX7_nextWithRoom 14 rfl) rfl ?_
          refine r_icmp_eq (tgt := 38) C (dx dX7_nextWithRoom 15 rfl) (by decide) (fun c4 => ?_) (fun c4 => ?_)
          ·
            have c4 : nI ((a + p) % (vN v)) = y := c4
            refine rn_iinc (a := p) (k := 1) (ls' := [(0, vr 7 k), (1, vi (nI a)), (2, vi y), (3, vi (nI (p + 1))), (4, vi (nI ((a + p) % (vN v))))]) C (dx dX7_nextWithRoom 22 rfl) rfl rfl (by decide) [1, 2, 3, 0, 4] rfl ?_
            refine r_goto (tgt := 2) C (dx dX7_nextWithRoom 23 rfl) (by decide) ?_
            refine r_weak C [0, 1, 2, 3] rfl ?_
            exact ih (fst_n hI hp (by simp [*]))
          ·
            have c4 : ¬ nI ((a + p) % (vN v)) = y := c4
            refine r_aload_n C (dx dX7_nextWithRoom 16 rfl) rfl ?_
            refine r_iload C (dx dX7_nextWithRoom 17 rfl) rfl ?_
            refine r_cvP (as := [vi (nI ((a + p) % (vN v)))]) (st := []) (v := vi (b2i (hasRm v (nI ((a + p) % (vN v)))))) C X I_X7_hasRoom l_X7_135 (e_hasRoom hm (j := (a + p) % (vN v)) (by omega)) (by decide) (Nat.le_of_ble_eq_true rfl) List.prefix_rfl rfl rfl (Nat.le_of_ble_eq_true rfl) rfl (dx dX7_nextWithRoom 18 rfl) ?_
            refine rb_eq (b := hasRm v (nI ((a + p) % (vN v)))) (tgt := 38) C (dx dX7_nextWithRoom 19 rfl) (by decide) (fun c5 => ?_) (fun c5 => ?_)
            ·
              have c5 : (hasRm v (nI ((a + p) % (vN v)))) = false := c5
              refine rn_iinc (a := p) (k := 1) (ls' := [(0, vr 7 k), (1, vi (nI a)), (2, vi y), (3, vi (nI (p + 1))), (4, vi (nI ((a + p) % (vN v))))]) C (dx dX7_nextWithRoom 22 rfl) rfl rfl (by decide) [1, 2, 3, 0, 4] rfl ?_
              refine r_goto (tgt := 2) C (dx dX7_nextWithRoom 23 rfl) (by decide) ?_
              refine r_weak C [0, 1, 2, 3] rfl ?_
              exact ih (fst_n hI hp (by simp [*]))
            ·
              have c5 : (hasRm v (nI ((a + p) % (vN v)))) = true := c5
              refine r_iload C (dx dX7_nextWithRoom 20 rfl) rfl ?_
              exact F.1 _ _ _ _ _ rfl rfl (dx dX7_nextWithRoom 21 rfl) rfl ⟨congrArg (fun x => some (vi x)) (show nI ((a + p) % (vN v)) = nwA v a y by unfold nwA; first | exact (fst_e hI).symm | exact (fst_y hI hp (by simp [*])).symm), rfl⟩)
set_option maxHeartbeats 4000000 in
theorem e_sr {l : Launch} {h : Hp} {k : Nat} {v : Vg} (hm : MilAt h k v)  : Mp l yX7_surest cX7_surest 3 (some .int) 4 [vr 7 k] h (vi (srA v (vN v))) := by
  refine Ms.of (by decide) (Nat.le_of_ble_eq_true rfl) (fun G C X F => ?_)
  have C : Cx G cX7_surest 3 RX7 := C
  show Rr G 0 [(0, vr 7 k)] [] h
  have bP := hm.bP
  have bM := hm.bM
  have bN := hm.bN
  refine r_iconst (v := -1) C (dx dX7_surest 0 rfl) rfl ?_
  refine r_istore_n (ls' := [(0, vr 7 k), (1, vi (-1))]) C (dx dX7_surest 1 rfl) (by decide) [1, 0] rfl ?_
  refine r_iconst (v := nI 0) C (dx dX7_surest 2 rfl) rfl ?_
  refine r_istore_n (ls' := [(0, vr 7 k), (1, vi (-1)), (2, vi (nI 0))]) C (dx dX7_surest 3 rfl) (by decide) [1, 2, 0] rfl ?_
  refine loopU (Φ := fun p => Rr G 4 [(0, vr 7 k), (1, vi (srA v p)), (2, vi (nI p))] [] h) (N := vN v) ?_ ?_ 0 (Nat.zero_le _)
  ·
    refine r_iload_n C (dx dX7_surest 4 rfl) rfl ?_
    refine r_aload_n C (dx dX7_surest 5 rfl) rfl ?_
    refine g_X7_74 (x := nI (vN v)) C (dx dX7_surest 6 rfl) hm.eN ?_
    refine rn_ge (a := vN v) (b := vN v) (tgt := 56) C (by omega) (by omega) (dx dX7_surest 7 rfl) (by decide) (fun c1 => ?_) (fun c1 => ?_)
    · first
      | (omega; done)
      | (
          have c1 : vN v ≤ vN v := c1
          refine r_iload_n C (dx dX7_surest 34 rfl) rfl ?_
          exact F.1 _ _ _ _ _ rfl rfl (dx dX7_surest 35 rfl) rfl ⟨congrArg (fun x => some (vi x)) rfl, rfl⟩)
    · first
      | (omega; done)
  ·
    intro p hp ih
    refine r_iload_n C (dx dX7_surest 4 rfl) rfl ?_
    refine r_aload_n C (dx dX7_surest 5 rfl) rfl ?_
    refine g_X7_74 (x := nI (vN v)) C (dx dX7_surest 6 rfl) hm.eN ?_
    refine rn_ge (a := p) (b := vN v) (tgt := 56) C (by omega) (by omega) (dx dX7_surest 7 rfl) (by decide) (fun c3 => ?_) (fun c3 => ?_)
    · first
      | (omega; done)
      | (
          have c3 : vN v ≤ p := c3
          refine r_iload_n C (dx dX7_surest 34 rfl) rfl ?_
          exact F.1 _ _ _ _ _ rfl rfl (dx dX7_surest 35 rfl) rfl ⟨congrArg (fun x => some (vi x)) (show srA v p = srA v (vN v) by simp), rfl⟩)
    · first
      | (omega; done)
      | (
          have c3 : p < vN v := c3
          refine r_aload_n C (dx dX7_surest 8 rfl) rfl ?_
          refine r_iload_n C (dx dX7_surest 9 rfl) rfl ?_
          refine r_cvP (as := [vi (nI p)]) (st := []) (v := vi (b2i (hasRm v (nI p)))) C X I_X7_hasRoom l_X7_135 (e_hasRoom hm (j := p) (by omega)) (by decide) (Nat.le_of_ble_eq_true rfl) List.prefix_rfl rfl rfl (Nat.le_of_ble_eq_true rfl) rfl (dx dX7_surest 10 rfl) ?_
          refine rb_eq (b := hasRm v (nI p)) (tgt := 48) C (dx dX7_surest 11 rfl) (by decide) (fun c4 => ?_) (fun c4 => ?_)
          ·
            have c4 : (hasRm v (nI p)) = false := c4
            refine r_iload_n C (dx dX7_surest 30 rfl) rfl ?_
            refine r_istore_n (ls' := [(0, vr 7 k), (1, vi (srA v p)), (2, vi (nI p))]) C (dx dX7_surest 31 rfl) (by decide) [1, 0, 2] rfl ?_
            refine rn_iinc (a := p) (k := 1) (ls' := [(0, vr 7 k), (1, vi (srA v p)), (2, vi (nI (p + 1)))]) C (dx dX7_surest 32 rfl) rfl rfl (by decide) [1, 2, 0] rfl ?_
            refine r_goto (tgt := 4) C (dx dX7_surest 33 rfl) (by decide) ?_
            have e9 : (srA v p) = (srA v (p + 1)) := by (simp only [srA]; simp [c4])
            rw [e9]
            exact ih
          ·
            have c4 : (hasRm v (nI p)) = true := c4
            refine r_iload_n C (dx dX7_surest 12 rfl) rfl ?_
            refine r_iconst (v := -1) C (dx dX7_surest 13 rfl) rfl ?_
            refine r_icmp_eq (tgt := 44) C (dx dX7_surest 14 rfl) (by decide) (fun c5 => ?_) (fun c5 => ?_)
            ·
              have c5 : srA v p = -1 := c5
              refine r_iload_n C (dx dX7_surest 28 rfl) rfl ?_
              refine r_goto (tgt := 49) C (dx dX7_surest 29 rfl) (by decide) ?_
              refine r_istore_n (ls' := [(0, vr 7 k), (1, vi (nI p)), (2, vi (nI p))]) C (dx dX7_surest 31 rfl) (by decide) [1, 0, 2] rfl ?_
              refine rn_iinc (a := p) (k := 1) (ls' := [(0, vr 7 k), (1, vi (nI p)), (2, vi (nI (p + 1)))]) C (dx dX7_surest 32 rfl) rfl rfl (by decide) [1, 2, 0] rfl ?_
              refine r_goto (tgt := 4) C (dx dX7_surest 33 rfl) (by decide) ?_
              have e9 : (nI p) = (srA v (p + 1)) := by (simp only [srA]; simp [c4, c5])
              rw [e9]
              exact ih
            ·
              have c5 : ¬ srA v p = -1 := c5
              obtain ⟨a9, ha9, ea9⟩ := (sr_ex v p).resolve_left c5
              have ca9 : vF v 5 (srA v p).toNatClampNeg = vF v 5 a9 := by rw [ea9, clN (by omega)]
              rw [ea9]
              refine r_aload_n C (dx dX7_surest 15 rfl) rfl ?_
              refine g_X7_54 C (dx dX7_surest 16 rfl) ?_
              refine r_iload_n C (dx dX7_surest 17 rfl) rfl ?_
              refine r_aald4 (j := p) C rfl rfl (by decide) rfl (by omega) (dx dX7_surest 18 rfl) ?_
              refine r_iconst (v := nI 1) C (dx dX7_surest 19 rfl) rfl ?_
              refine r_iald (j := 1) (x := vF v 5 p) C rfl rfl (by decide) rfl (by omega) (dx dX7_surest 20 rfl) (hm.eo (by omega) (by omega)) ?_
              refine r_aload_n C (dx dX7_surest 21 rfl) rfl ?_
              refine g_X7_54 C (dx dX7_surest 22 rfl) ?_
              refine r_iload_n C (dx dX7_surest 23 rfl) rfl ?_
              refine r_aald4 (j := a9) C rfl rfl (by decide) rfl (by omega) (dx dX7_surest 24 rfl) ?_
              refine r_iconst (v := nI 1) C (dx dX7_surest 25 rfl) rfl ?_
              refine r_iald (j := 1) (x := vF v 5 a9) C rfl rfl (by decide) rfl (by omega) (dx dX7_surest 26 rfl) (hm.eo (by omega) (by omega)) ?_
              refine r_icmp_ge (tgt := 48) C (dx dX7_surest 27 rfl) (by decide) (fun c6 => ?_) (fun c6 => ?_)
              ·
                have c6 : vF v 5 a9 ≤ vF v 5 p := c6
                refine r_iload_n C (dx dX7_surest 30 rfl) rfl ?_
                refine r_istore_n (ls' := [(0, vr 7 k), (1, vi (nI a9)), (2, vi (nI p))]) C (dx dX7_surest 31 rfl) (by decide) [1, 0, 2] rfl ?_
                refine rn_iinc (a := p) (k := 1) (ls' := [(0, vr 7 k), (1, vi (nI a9)), (2, vi (nI (p + 1)))]) C (dx dX7_surest 32 rfl) rfl rfl (by decide) [1, 2, 0] rfl ?_
                refine r_goto (tgt := 4) C (dx dX7_surest 33 rfl) (by decide) ?_
                have e9 : (nI a9) = (srA v (p + 1)) := by (simp only [srA]; rw [if_neg (fun z => z.2.elim c5 (fun y => Int32.not_lt.mpr c6 (ca9 ▸ y))), ea9])
                rw [e9]
                exact ih
              ·
                have c6 : ¬ vF v 5 a9 ≤ vF v 5 p := c6
                refine r_iload_n C (dx dX7_surest 28 rfl) rfl ?_
                refine r_goto (tgt := 49) C (dx dX7_surest 29 rfl) (by decide) ?_
                refine r_istore_n (ls' := [(0, vr 7 k), (1, vi (nI p)), (2, vi (nI p))]) C (dx dX7_surest 31 rfl) (by decide) [1, 0, 2] rfl ?_
                refine rn_iinc (a := p) (k := 1) (ls' := [(0, vr 7 k), (1, vi (nI p)), (2, vi (nI (p + 1)))]) C (dx dX7_surest 32 rfl) rfl rfl (by decide) [1, 2, 0] rfl ?_
                refine r_goto (tgt := 4) C (dx dX7_surest 33 rfl) (by decide) ?_
                have e9 : (nI p) = (srA v (p + 1)) := by (simp only [srA]; rw [if_pos ⟨c4, Or.inr (by rw [ca9]; exact Int32.not_le.mp c6)⟩])
                rw [e9]
                exact ih)
/-- the machine of the greatest worth, not done, of the first q -/
def bsF (v : Vg) (D : Int32) : Nat → Int32
  | 0 => -1
  | q + 1 => if inB D (nI q) = false ∧ (bsF v D q = -1 ∨ vF v 3 (bsF v D q).toNatClampNeg < vF v 3 q) then nI q else bsF v D q
theorem bs_ex (v : Vg) (D : Int32) : ∀ n, n ≤ 12 → (bsF v D n = -1 ∧ ∀ i, i < n → bt D i = true) ∨ ∃ a, a < n ∧ bsF v D n = nI a
  | 0, _ => Or.inl ⟨rfl, fun i hi => absurd hi (by omega)⟩
  | n + 1, hn => by
    simp only [bsF]
    split
    · exact Or.inr ⟨n, by omega, rfl⟩
    · next c =>
      rcases bs_ex v D n (by omega) with ⟨a, b⟩ | ⟨a, b, e⟩
      · refine Or.inl ⟨a, fun i hi => ?_⟩
        by_cases q : i = n
        · subst q
          cases x : bt D i
          · exfalso
            apply c
            refine ⟨?_, Or.inl a⟩
            unfold inB
            rw [show decide (¬ D &&& (nI 1 <<< (nI i &&& 31)) = 0) = false from decide_eq_false (not_not_intro ((pow_0 D (by omega)).mpr x)), Bool.and_false]
          · rfl
        · exact b i (by omega)
      · exact Or.inr ⟨a, by omega, e⟩
/-- a piece of a part of a machine, to whom -/
def pkR (v : Vg) (am b : Nat) (f : Nat → Int32) : Int32 := if fwM (vcol v 0 f) am b = -1 then fwA (vcol v 0 f) am else fwM (vcol v 0 f) am b
/-- a machine's parts given, the first p of them -/
def hnF (v : Vg) (am b : Nat) (f : Nat → Int32) (gn : Int32) : Nat → (Nat → Int32) × Int32
  | 0 => (f, gn)
  | p + 1 => if inB (vF v 2 b) (nI p) = true ∧ inB (hnF v am b f gn p).2 (nI p) = false then
      (sf (hnF v am b f gn p).1 p (pkR v am b (hnF v am b f gn p).1), (hnF v am b f gn p).2 ||| (nI 1 <<< (nI p &&& 31)))
    else hnF v am b f gn p
/-- machine by machine: the holders, what is done, what is given -/
def hwF (v : Vg) (am : Nat) (f : Nat → Int32) : Nat → (Nat → Int32) × Int32 × Int32
  | 0 => (f, nI 0, nI 0)
  | t + 1 => ((hnF v am (bsF v (hwF v am f t).2.1 (vM v)).toNatClampNeg (hwF v am f t).1 (hwF v am f t).2.2 (vP v)).1, (hwF v am f t).2.1 ||| (nI 1 <<< (bsF v (hwF v am f t).2.1 (vM v) &&& 31)),
      (hnF v am (bsF v (hwF v am f t).2.1 (vM v)).toNatClampNeg (hwF v am f t).1 (hwF v am f t).2.2 (vP v)).2)
/-- what is left, part by part -/
def hfF (v : Vg) (am : Nat) (gn : Int32) (f : Nat → Int32) : Nat → Nat → Int32
  | 0 => f
  | p + 1 => sf (hfF v am gn f p) p (if inB gn (nI p) = true then hfF v am gn f p p else fwA (vcol v 0 (hfF v am gn f p)) am)
def hWR (v : Vg) (am : Nat) (f : Nat → Int32) : Nat → Int32 := hfF v am (hwF v am f (vM v)).2.2 (hwF v am f (vM v)).1 (vP v)
theorem hw_cnt (v : Vg) (am : Nat) (f : Nat → Int32) (hM : vM v ≤ 6) : ∀ t, t ≤ vM v → cnt (bt (hwF v am f t).2.1) (vM v) ≤ t
  | 0, _ => by show cnt (bt (nI 0)) (vM v) ≤ 0; rw [cnt_0]; exact Nat.le_refl _
  | t + 1, ht => by
    have ih := hw_cnt v am f hM t (by omega)
    obtain ⟨a, ha, e⟩ := hw_best ih (by omega) (bs_ex v (hwF v am f t).2.1 (vM v) (by omega))
    show cnt (bt ((hwF v am f t).2.1 ||| (nI 1 <<< (bsF v (hwF v am f t).2.1 (vM v) &&& 31)))) (vM v) ≤ t + 1
    rw [e]
    exact cnt_or (by omega) (by omega) ih
theorem vc_0 (v : Vg) : vcol v 0 (vF v 0) = v := vcol_id
theorem hn_y {v : Vg} {am b p : Nat} {f : Nat → Int32} {gn x : Int32} (c1 : inB (vF v 2 b) (nI p) = true) (c2 : inB (hnF v am b f gn p).2 (nI p) = false) (e : x = pkR v am b (hnF v am b f gn p).1) : vset (vcol v 0 (hnF v am b f gn p).1) 0 p x = vcol v 0 (hnF v am b f gn (p + 1)).1 ∧ (hnF v am b f gn p).2 ||| (nI 1 <<< (nI p &&& 31)) = (hnF v am b f gn (p + 1)).2 := by
  simp only [hnF]
  rw [if_pos ⟨c1, c2⟩, vset_col, e]
  exact ⟨rfl, rfl⟩
theorem hn_n {v : Vg} {am b p : Nat} {f : Nat → Int32} {gn : Int32} (c : ¬ (inB (vF v 2 b) (nI p) = true ∧ inB (hnF v am b f gn p).2 (nI p) = false)) : hnF v am b f gn (p + 1) = hnF v am b f gn p := by simp only [hnF]; rw [if_neg c]
theorem bs_keep {v : Vg} {D : Int32} {q : Nat} (c : ¬ (inB D (nI q) = false ∧ (bsF v D q = -1 ∨ vF v 3 (bsF v D q).toNatClampNeg < vF v 3 q))) : bsF v D (q + 1) = bsF v D q := by simp only [bsF]; rw [if_neg c]
theorem bs_take {v : Vg} {D : Int32} {q : Nat} (c : inB D (nI q) = false ∧ (bsF v D q = -1 ∨ vF v 3 (bsF v D q).toNatClampNeg < vF v 3 q)) : bsF v D (q + 1) = nI q := by simp only [bsF]; rw [if_pos c]
set_option maxHeartbeats 4000000 in
theorem e_holdWhole {l : Launch} {h : Hp} {k : Nat} {v : Vg} (hm : MilAt h k v) {am : Nat} (ha : am ≤ vN v) : Ms l yX7_holdWhole cX7_holdWhole 8 none 6 [vr 7 k, vi (nI am)] h (xK h) (fun r h' => r = none ∧ MilAt h' k (vcol v 0 (hWR v am (vF v 0))) ∧ Kp k h h') := by
  refine Ms.of (by decide) (Nat.le_of_ble_eq_true rfl) (fun G C X F => ?_)
  have C : Cx G cX7_holdWhole 8 RX7 := C
  show Rr G 0 [(0, vr 7 k), (1, vi (nI am))] [] h
  have bP := hm.bP
  have bM := hm.bM
  have bN := hm.bN
  refine r_iconst (v := nI 0) C (dx dX7_holdWhole 0 rfl) rfl ?_
  refine r_istore_n (ls' := [(0, vr 7 k), (1, vi (nI am)), (2, vi (nI 0))]) C (dx dX7_holdWhole 1 rfl) (by decide) [1, 2, 0] rfl ?_
  refine r_iconst (v := nI 0) C (dx dX7_holdWhole 2 rfl) rfl ?_
  refine r_istore_n (ls' := [(0, vr 7 k), (1, vi (nI am)), (2, vi (nI 0)), (3, vi (nI 0))]) C (dx dX7_holdWhole 3 rfl) (by decide) [1, 2, 3, 0] rfl ?_
  refine r_iconst (v := nI 0) C (dx dX7_holdWhole 4 rfl) rfl ?_
  refine r_istore (ls' := [(0, vr 7 k), (1, vi (nI am)), (2, vi (nI 0)), (3, vi (nI 0)), (4, vi (nI 0))]) C (dx dX7_holdWhole 5 rfl) (by decide) [1, 2, 3, 4, 0] rfl ?_
  refine loopU (Φ := fun p => ∀ g9p, MilAt g9p k (vcol v 0 (hwF v am (vF v 0) p).1) → Kp k h g9p → xK g9p = xK h → Rr G 7 [(0, vr 7 k), (1, vi (nI am)), (2, vi ((hwF v am (vF v 0) p).2.1)), (3, vi ((hwF v am (vF v 0) p).2.2)), (4, vi (nI p))] [] g9p) (N := vM v) ?_ ?_ 0 (Nat.zero_le _) h (by show MilAt h k (vcol v 0 (vF v 0)); rw [vc_0]; exact hm) Kp.rf rfl
  ·
    intro g9p mg9p pg9p kg9p
    refine r_iload C (dx dX7_holdWhole 6 rfl) rfl ?_
    refine r_aload_n C (dx dX7_holdWhole 7 rfl) rfl ?_
    refine g_X7_71 (x := nI (vM v)) C (dx dX7_holdWhole 8 rfl) mg9p.eM ?_
    refine rn_ge (a := vM v) (b := vM v) (tgt := 173) C (by omega) (by omega) (dx dX7_holdWhole 9 rfl) (by decide) (fun c1 => ?_) (fun c1 => ?_)
    · first
      | (omega; done)
      | (
          have c1 : vM v ≤ vM v := c1
          refine r_iconst (v := nI 0) C (dx dX7_holdWhole 91 rfl) rfl ?_
          refine r_istore (ls' := [(0, vr 7 k), (1, vi (nI am)), (2, vi ((hwF v am (vF v 0) (vM v)).2.1)), (3, vi ((hwF v am (vF v 0) (vM v)).2.2)), (4, vi (nI 0))]) C (dx dX7_holdWhole 92 rfl) (by decide) [1, 2, 3, 4, 0] rfl ?_
          refine loopU (Φ := fun z => ∀ g9z, MilAt g9z k (vcol v 0 (hfF v am (hwF v am (vF v 0) (vM v)).2.2 (hwF v am (vF v 0) (vM v)).1 z)) → Kp k h g9z → xK g9z = xK h → Rr G 176 [(0, vr 7 k), (1, vi (nI am)), (2, vi ((hwF v am (vF v 0) (vM v)).2.1)), (3, vi ((hwF v am (vF v 0) (vM v)).2.2)), (4, vi (nI z))] [] g9z) (N := vP v) ?_ ?_ 0 (Nat.zero_le _) g9p mg9p pg9p kg9p
          ·
            intro g9z mg9z pg9z kg9z
            refine r_iload C (dx dX7_holdWhole 93 rfl) rfl ?_
            refine r_aload_n C (dx dX7_holdWhole 94 rfl) rfl ?_
            refine g_X7_64 (x := nI (vP v)) C (dx dX7_holdWhole 95 rfl) mg9z.eP ?_
            refine rn_ge (a := vP v) (b := vP v) (tgt := 223) C (by omega) (by omega) (dx dX7_holdWhole 96 rfl) (by decide) (fun c2 => ?_) (fun c2 => ?_)
            · first
              | (omega; done)
              | (
                  have c2 : vP v ≤ vP v := c2
                  have eV : vcol v 0 (hWR v am (vF v 0)) = vcol v 0 (hfF v am (hwF v am (vF v 0) (vM v)).2.2 (hwF v am (vF v 0) (vM v)).1 (vP v)) := by rfl
                  exact F.2.2.1 _ _ _ rfl (dx dX7_holdWhole 116 rfl) kg9z ⟨rfl, by rw [eV]; exact mg9z, pg9z⟩)
            · first
              | (omega; done)
          ·
            intro z hz ihz g9z mg9z pg9z kg9z
            refine r_iload C (dx dX7_holdWhole 93 rfl) rfl ?_
            refine r_aload_n C (dx dX7_holdWhole 94 rfl) rfl ?_
            refine g_X7_64 (x := nI (vP v)) C (dx dX7_holdWhole 95 rfl) mg9z.eP ?_
            refine rn_ge (a := z) (b := vP v) (tgt := 223) C (by omega) (by omega) (dx dX7_holdWhole 96 rfl) (by decide) (fun c5 => ?_) (fun c5 => ?_)
            · first
              | (omega; done)
              | (
                  have c5 : vP v ≤ z := c5
                  have eV : vcol v 0 (hWR v am (vF v 0)) = vcol v 0 (hfF v am (hwF v am (vF v 0) (vM v)).2.2 (hwF v am (vF v 0) (vM v)).1 z) := by rfl
                  exact F.2.2.1 _ _ _ rfl (dx dX7_holdWhole 116 rfl) kg9z ⟨rfl, by rw [eV]; exact mg9z, pg9z⟩)
            · first
              | (omega; done)
              | (
                  have c5 : z < vP v := c5
                  refine r_aload_n C (dx dX7_holdWhole 97 rfl) rfl ?_
                  refine g_X7_40 C (dx dX7_holdWhole 98 rfl) ?_
                  refine r_iload C (dx dX7_holdWhole 99 rfl) rfl ?_
                  refine r_iload_n C (dx dX7_holdWhole 100 rfl) rfl ?_
                  refine r_iload C (dx dX7_holdWhole 101 rfl) rfl ?_
                  refine r_csP (as := [vi ((hwF v am (vF v 0) (vM v)).2.2), vi (nI z)]) (st := [vi (nI z), vr 20 (k + 18)]) (v := vi (b2i (inB ((hwF v am (vF v 0) (vM v)).2.2) (nI z)))) C X I_X7_isIn l_X7_244 (e_isIn _ _) (by decide) (Nat.le_of_ble_eq_true rfl) (pfx_eq kg9z) (Nat.le_of_ble_eq_true rfl) rfl (dx dX7_holdWhole 102 rfl) ?_
                  refine rb_eq (b := inB ((hwF v am (vF v 0) (vM v)).2.2) (nI z)) (tgt := 210) C (dx dX7_holdWhole 103 rfl) (by decide) (fun c6 => ?_) (fun c6 => ?_)
                  ·
                    have c6 : (inB ((hwF v am (vF v 0) (vM v)).2.2) (nI z)) = false := c6
                    refine r_aload_n C (dx dX7_holdWhole 109 rfl) rfl ?_
                    refine r_iload_n C (dx dX7_holdWhole 110 rfl) rfl ?_
                    refine r_iconst (v := -1) C (dx dX7_holdWhole 111 rfl) rfl ?_
                    refine r_cvP (as := [vi (nI am), vi (-1)]) (st := [vi (nI z), vr 20 (k + 18)]) (v := vi (fwA (vcol v 0 (hfF v am (hwF v am (vF v 0) (vM v)).2.2 (hwF v am (vF v 0) (vM v)).1 z)) am)) C X I_X7_firstWithRoom l_X7_279 (e_fwN mg9z (am := am) (show am ≤ vN v by omega)) (by decide) (Nat.le_of_ble_eq_true rfl) (pfx_eq kg9z) rfl rfl (Nat.le_of_ble_eq_true rfl) rfl (dx dX7_holdWhole 112 rfl) ?_
                    refine r_iast (j := z) C rfl rfl (by decide) rfl (by omega) (dx dX7_holdWhole 113 rfl) ?_
                    have mh7 : MilAt (sI g9z (k + 18) z (fwA (vcol v 0 (hfF v am (hwF v am (vF v 0) (vM v)).2.2 (hwF v am (vF v 0) (vM v)).1 z)) am)) k (vset (vcol v 0 (hfF v am (hwF v am (vF v 0) (vM v)).2.2 (hwF v am (vF v 0) (vM v)).1 z)) 0 z (fwA (vcol v 0 (hfF v am (hwF v am (vF v 0) (vM v)).2.2 (hwF v am (vF v 0) (vM v)).1 z)) am)) := mg9z.s0
                    have ph7 : Kp k h (sI g9z (k + 18) z (fwA (vcol v 0 (hfF v am (hwF v am (vF v 0) (vM v)).2.2 (hwF v am (vF v 0) (vM v)).1 z)) am)) := pg9z.tr (Kp.c (by omega) (by omega))
                    have kh7 : xK (sI g9z (k + 18) z (fwA (vcol v 0 (hfF v am (hwF v am (vF v 0) (vM v)).2.2 (hwF v am (vF v 0) (vM v)).1 z)) am)) = xK h := kg9z
                    generalize sI g9z (k + 18) z (fwA (vcol v 0 (hfF v am (hwF v am (vF v 0) (vM v)).2.2 (hwF v am (vF v 0) (vM v)).1 z)) am) = h7 at mh7 ph7 kh7 ⊢
                    refine rn_iinc (a := z) (k := 1) (ls' := [(0, vr 7 k), (1, vi (nI am)), (2, vi ((hwF v am (vF v 0) (vM v)).2.1)), (3, vi ((hwF v am (vF v 0) (vM v)).2.2)), (4, vi (nI (z + 1)))]) C (dx dX7_holdWhole 114 rfl) rfl rfl (by decide) [1, 2, 3, 4, 0] rfl ?_
                    refine r_goto (tgt := 176) C (dx dX7_holdWhole 115 rfl) (by decide) ?_
                    have fz : (vset (vcol v 0 (hfF v am (hwF v am (vF v 0) (vM v)).2.2 (hwF v am (vF v 0) (vM v)).1 z)) 0 z (fwA (vcol v 0 (hfF v am (hwF v am (vF v 0) (vM v)).2.2 (hwF v am (vF v 0) (vM v)).1 z)) am)) = (vcol v 0 (hfF v am (hwF v am (vF v 0) (vM v)).2.2 (hwF v am (vF v 0) (vM v)).1 (z + 1))) := by (rw [vset_col]; simp only [hfF]; rw [if_neg (by rw [c6]; decide)])
                    exact ihz h7 (fz ▸ mh7) ph7 kh7
                  ·
                    have c6 : (inB ((hwF v am (vF v 0) (vM v)).2.2) (nI z)) = true := c6
                    refine r_aload_n C (dx dX7_holdWhole 104 rfl) rfl ?_
                    refine g_X7_40 C (dx dX7_holdWhole 105 rfl) ?_
                    refine r_iload C (dx dX7_holdWhole 106 rfl) rfl ?_
                    refine r_iald (j := z) (x := (hfF v am (hwF v am (vF v 0) (vM v)).2.2 (hwF v am (vF v 0) (vM v)).1 z) z) C rfl rfl (by decide) rfl (by omega) (dx dX7_holdWhole 107 rfl) (mg9z.e0 (by omega)) ?_
                    refine r_goto (tgt := 216) C (dx dX7_holdWhole 108 rfl) (by decide) ?_
                    refine r_iast (j := z) C rfl rfl (by decide) rfl (by omega) (dx dX7_holdWhole 113 rfl) ?_
                    have mh8 : MilAt (sI g9z (k + 18) z ((hfF v am (hwF v am (vF v 0) (vM v)).2.2 (hwF v am (vF v 0) (vM v)).1 z) z)) k (vset (vcol v 0 (hfF v am (hwF v am (vF v 0) (vM v)).2.2 (hwF v am (vF v 0) (vM v)).1 z)) 0 z ((hfF v am (hwF v am (vF v 0) (vM v)).2.2 (hwF v am (vF v 0) (vM v)).1 z) z)) := mg9z.s0
                    have ph8 : Kp k h (sI g9z (k + 18) z ((hfF v am (hwF v am (vF v 0) (vM v)).2.2 (hwF v am (vF v 0) (vM v)).1 z) z)) := pg9z.tr (Kp.c (by omega) (by omega))
                    have kh8 : xK (sI g9z (k + 18) z ((hfF v am (hwF v am (vF v 0) (vM v)).2.2 (hwF v am (vF v 0) (vM v)).1 z) z)) = xK h := kg9z
                    generalize sI g9z (k + 18) z ((hfF v am (hwF v am (vF v 0) (vM v)).2.2 (hwF v am (vF v 0) (vM v)).1 z) z) = h8 at mh8 ph8 kh8 ⊢
                    refine rn_iinc (a := z) (k := 1) (ls' := [(0, vr 7 k), (1, vi (nI am)), (2, vi ((hwF v am (vF v 0) (vM v)).2.1)), (3, vi ((hwF v am (vF v 0) (vM v)).2.2)), (4, vi (nI (z + 1)))]) C (dx dX7_holdWhole 114 rfl) rfl rfl (by decide) [1, 2, 3, 4, 0] rfl ?_
                    refine r_goto (tgt := 176) C (dx dX7_holdWhole 115 rfl) (by decide) ?_
                    have fz : (vset (vcol v 0 (hfF v am (hwF v am (vF v 0) (vM v)).2.2 (hwF v am (vF v 0) (vM v)).1 z)) 0 z ((hfF v am (hwF v am (vF v 0) (vM v)).2.2 (hwF v am (vF v 0) (vM v)).1 z) z)) = (vcol v 0 (hfF v am (hwF v am (vF v 0) (vM v)).2.2 (hwF v am (vF v 0) (vM v)).1 (z + 1))) := by (rw [vset_col]; simp only [hfF]; rw [if_pos c6])
                    exact ihz h8 (fz ▸ mh8) ph8 kh8))
    · first
      | (omega; done)
      | (
          have c1 : vM v < vM v := c1
          refine r_iconst (v := -1) C (dx dX7_holdWhole 10 rfl) rfl ?_
          refine r_istore (ls' := [(0, vr 7 k), (1, vi (nI am)), (2, vi ((hwF v am (vF v 0) (vM v)).2.1)), (3, vi ((hwF v am (vF v 0) (vM v)).2.2)), (4, vi (nI (vM v))), (5, vi (-1))]) C (dx dX7_holdWhole 11 rfl) (by decide) [1, 2, 3, 4, 5, 0] rfl ?_
          refine r_iconst (v := nI 0) C (dx dX7_holdWhole 12 rfl) rfl ?_
          refine r_istore (ls' := [(0, vr 7 k), (1, vi (nI am)), (2, vi ((hwF v am (vF v 0) (vM v)).2.1)), (3, vi ((hwF v am (vF v 0) (vM v)).2.2)), (4, vi (nI (vM v))), (5, vi (-1)), (6, vi (nI 0))]) C (dx dX7_holdWhole 13 rfl) (by decide) [1, 2, 3, 4, 5, 6, 0] rfl ?_
          refine loopU (Φ := fun q => Rr G 22 [(0, vr 7 k), (1, vi (nI am)), (2, vi ((hwF v am (vF v 0) (vM v)).2.1)), (3, vi ((hwF v am (vF v 0) (vM v)).2.2)), (4, vi (nI (vM v))), (5, vi (bsF v (hwF v am (vF v 0) p).2.1 q)), (6, vi (nI q))] [] g9p) (N := vM v) ?_ ?_ 0 (Nat.zero_le _)
          ·
            skip
            refine r_iload C (dx dX7_holdWhole 14 rfl) rfl ?_
            refine r_aload_n C (dx dX7_holdWhole 15 rfl) rfl ?_
            refine g_X7_71 (x := nI (vM v)) C (dx dX7_holdWhole 16 rfl) mg9p.eM ?_
            refine rn_ge (a := vM v) (b := vM v) (tgt := 78) C (by omega) (by omega) (dx dX7_holdWhole 17 rfl) (by decide) (fun c9 => ?_) (fun c9 => ?_)
            · first
              | (omega; done)
              | (
                  have c9 : vM v ≤ vM v := c9
                  obtain ⟨β, hβ, eβ⟩ := hw_best (hw_cnt v am (vF v 0) bM p (by omega)) (by omega) (bs_ex v (hwF v am (vF v 0) p).2.1 (vM v) (by omega))
                  rw [eβ]
                  refine r_iload_n C (dx dX7_holdWhole 40 rfl) rfl ?_
                  refine r_iconst (v := nI 1) C (dx dX7_holdWhole 41 rfl) rfl ?_
                  refine r_iload C (dx dX7_holdWhole 42 rfl) rfl ?_
                  refine r_ishl C (dx dX7_holdWhole 43 rfl) ?_
                  refine r_ior C (dx dX7_holdWhole 44 rfl) ?_
                  refine r_istore_n (ls' := [(0, vr 7 k), (1, vi (nI am)), (2, vi (((hwF v am (vF v 0) (vM v)).2.1) ||| ((nI 1) <<< ((nI β) &&& 31)))), (3, vi ((hwF v am (vF v 0) (vM v)).2.2)), (4, vi (nI (vM v))), (5, vi (nI β)), (6, vi (nI (vM v)))]) C (dx dX7_holdWhole 45 rfl) (by decide) [1, 2, 0, 3, 4, 5, 6] rfl ?_
                  refine r_iconst (v := nI 0) C (dx dX7_holdWhole 46 rfl) rfl ?_
                  refine r_istore (ls' := [(0, vr 7 k), (1, vi (nI am)), (2, vi (((hwF v am (vF v 0) (vM v)).2.1) ||| ((nI 1) <<< ((nI β) &&& 31)))), (3, vi ((hwF v am (vF v 0) (vM v)).2.2)), (4, vi (nI (vM v))), (5, vi (nI β)), (6, vi (nI 0))]) C (dx dX7_holdWhole 47 rfl) (by decide) [1, 2, 3, 4, 5, 6, 0] rfl ?_
                  refine loopU (Φ := fun q => ∀ g9q, MilAt g9q k (vcol v 0 (hnF v am β (hwF v am (vF v 0) p).1 (hwF v am (vF v 0) p).2.2 q).1) → Kp k h g9q → xK g9q = xK h → Rr G 88 [(0, vr 7 k), (1, vi (nI am)), (2, vi (((hwF v am (vF v 0) (vM v)).2.1) ||| ((nI 1) <<< ((nI β) &&& 31)))), (3, vi ((hnF v am β (hwF v am (vF v 0) p).1 (hwF v am (vF v 0) p).2.2 q).2)), (4, vi (nI (vM v))), (5, vi (nI β)), (6, vi (nI q))] [] g9q) (N := vP v) ?_ ?_ 0 (Nat.zero_le _) g9p mg9p pg9p kg9p
                  ·
                    intro g9q mg9q pg9q kg9q
                    refine r_iload C (dx dX7_holdWhole 48 rfl) rfl ?_
                    refine r_aload_n C (dx dX7_holdWhole 49 rfl) rfl ?_
                    refine g_X7_64 (x := nI (vP v)) C (dx dX7_holdWhole 50 rfl) mg9q.eP ?_
                    refine rn_ge (a := vP v) (b := vP v) (tgt := 167) C (by omega) (by omega) (dx dX7_holdWhole 51 rfl) (by decide) (fun c10 => ?_) (fun c10 => ?_)
                    · first
                      | (omega; done)
                    · first
                      | (omega; done)
                  ·
                    intro q hq ihq g9q mg9q pg9q kg9q
                    refine r_iload C (dx dX7_holdWhole 48 rfl) rfl ?_
                    refine r_aload_n C (dx dX7_holdWhole 49 rfl) rfl ?_
                    refine g_X7_64 (x := nI (vP v)) C (dx dX7_holdWhole 50 rfl) mg9q.eP ?_
                    refine rn_ge (a := q) (b := vP v) (tgt := 167) C (by omega) (by omega) (dx dX7_holdWhole 51 rfl) (by decide) (fun c12 => ?_) (fun c12 => ?_)
                    · first
                      | (omega; done)
                    · first
                      | (omega; done)
                      | (
                          have c12 : q < vP v := c12
                          refine r_aload_n C (dx dX7_holdWhole 52 rfl) rfl ?_
                          refine g_X7_46 C (dx dX7_holdWhole 53 rfl) ?_
                          refine r_iload C (dx dX7_holdWhole 54 rfl) rfl ?_
                          refine r_iald (j := β) (x := vF v 2 β) C rfl rfl (by decide) rfl (by omega) (dx dX7_holdWhole 55 rfl) (mg9q.e2 (by omega)) ?_
                          refine r_iload C (dx dX7_holdWhole 56 rfl) rfl ?_
                          refine r_csP (as := [vi (vF v 2 β), vi (nI q)]) (st := []) (v := vi (b2i (inB (vF v 2 β) (nI q)))) C X I_X7_isIn l_X7_244 (e_isIn _ _) (by decide) (Nat.le_of_ble_eq_true rfl) (pfx_eq kg9q) (Nat.le_of_ble_eq_true rfl) rfl (dx dX7_holdWhole 57 rfl) ?_
                          refine rb_eq (b := inB (vF v 2 β) (nI q)) (tgt := 161) C (dx dX7_holdWhole 58 rfl) (by decide) (fun c13 => ?_) (fun c13 => ?_)
                          ·
                            have c13 : (inB (vF v 2 β) (nI q)) = false := c13
                            refine rn_iinc (a := q) (k := 1) (ls' := [(0, vr 7 k), (1, vi (nI am)), (2, vi (((hwF v am (vF v 0) (vM v)).2.1) ||| ((nI 1) <<< ((nI β) &&& 31)))), (3, vi ((hnF v am β (hwF v am (vF v 0) p).1 (hwF v am (vF v 0) p).2.2 q).2)), (4, vi (nI (vM v))), (5, vi (nI β)), (6, vi (nI (q + 1)))]) C (dx dX7_holdWhole 87 rfl) rfl rfl (by decide) [1, 2, 3, 4, 5, 6, 0] rfl ?_
                            refine r_goto (tgt := 88) C (dx dX7_holdWhole 88 rfl) (by decide) ?_
                            have eq3 : ((hnF v am β (hwF v am (vF v 0) p).1 (hwF v am (vF v 0) p).2.2 q).2) = ((hnF v am β (hwF v am (vF v 0) p).1 (hwF v am (vF v 0) p).2.2 (q + 1)).2) := by rw [(hn_n (fun z => absurd (z.1.symm.trans c13) (by decide)))]
                            rw [eq3]
                            have fq : (vcol v 0 (hnF v am β (hwF v am (vF v 0) p).1 (hwF v am (vF v 0) p).2.2 q).1) = (vcol v 0 (hnF v am β (hwF v am (vF v 0) p).1 (hwF v am (vF v 0) p).2.2 (q + 1)).1) := by rw [(hn_n (fun z => absurd (z.1.symm.trans c13) (by decide)))]
                            exact ihq g9q (fq ▸ mg9q) pg9q kg9q
                          ·
                            have c13 : (inB (vF v 2 β) (nI q)) = true := c13
                            refine r_iload_n C (dx dX7_holdWhole 59 rfl) rfl ?_
                            refine r_iload C (dx dX7_holdWhole 60 rfl) rfl ?_
                            refine r_csP (as := [vi ((hnF v am β (hwF v am (vF v 0) p).1 (hwF v am (vF v 0) p).2.2 q).2), vi (nI q)]) (st := []) (v := vi (b2i (inB ((hnF v am β (hwF v am (vF v 0) p).1 (hwF v am (vF v 0) p).2.2 q).2) (nI q)))) C X I_X7_isIn l_X7_244 (e_isIn _ _) (by decide) (Nat.le_of_ble_eq_true rfl) (pfx_eq kg9q) (Nat.le_of_ble_eq_true rfl) rfl (dx dX7_holdWhole 61 rfl) ?_
                            refine rb_ne (b := inB ((hnF v am β (hwF v am (vF v 0) p).1 (hwF v am (vF v 0) p).2.2 q).2) (nI q)) (tgt := 161) C (dx dX7_holdWhole 62 rfl) (by decide) (fun c14 => ?_) (fun c14 => ?_)
                            ·
                              have c14 : (inB ((hnF v am β (hwF v am (vF v 0) p).1 (hwF v am (vF v 0) p).2.2 q).2) (nI q)) = true := c14
                              refine rn_iinc (a := q) (k := 1) (ls' := [(0, vr 7 k), (1, vi (nI am)), (2, vi (((hwF v am (vF v 0) (vM v)).2.1) ||| ((nI 1) <<< ((nI β) &&& 31)))), (3, vi ((hnF v am β (hwF v am (vF v 0) p).1 (hwF v am (vF v 0) p).2.2 q).2)), (4, vi (nI (vM v))), (5, vi (nI β)), (6, vi (nI (q + 1)))]) C (dx dX7_holdWhole 87 rfl) rfl rfl (by decide) [1, 2, 3, 4, 5, 6, 0] rfl ?_
                              refine r_goto (tgt := 88) C (dx dX7_holdWhole 88 rfl) (by decide) ?_
                              have eq3 : ((hnF v am β (hwF v am (vF v 0) p).1 (hwF v am (vF v 0) p).2.2 q).2) = ((hnF v am β (hwF v am (vF v 0) p).1 (hwF v am (vF v 0) p).2.2 (q + 1)).2) := by rw [(hn_n (fun z => absurd (z.2.symm.trans c14) (by decide)))]
                              rw [eq3]
                              have fq : (vcol v 0 (hnF v am β (hwF v am (vF v 0) p).1 (hwF v am (vF v 0) p).2.2 q).1) = (vcol v 0 (hnF v am β (hwF v am (vF v 0) p).1 (hwF v am (vF v 0) p).2.2 (q + 1)).1) := by rw [(hn_n (fun z => absurd (z.2.symm.trans c14) (by decide)))]
                              exact ihq g9q (fq ▸ mg9q) pg9q kg9q
                            ·
                              have c14 : (inB ((hnF v am β (hwF v am (vF v 0) p).1 (hwF v am (vF v 0) p).2.2 q).2) (nI q)) = false := c14
                              refine r_aload_n C (dx dX7_holdWhole 63 rfl) rfl ?_
                              refine r_iload_n C (dx dX7_holdWhole 64 rfl) rfl ?_
                              refine r_iload C (dx dX7_holdWhole 65 rfl) rfl ?_
                              refine r_cvP (as := [vi (nI am), vi (nI β)]) (st := []) (v := vi (fwM (vcol v 0 (hnF v am β (hwF v am (vF v 0) p).1 (hwF v am (vF v 0) p).2.2 q).1) am β)) C X I_X7_firstWithRoom l_X7_279 (e_fwM mg9q (am := am) (m := β) (show am ≤ vN v by omega) (show β < vM v by omega)) (by decide) (Nat.le_of_ble_eq_true rfl) (pfx_eq kg9q) rfl rfl (Nat.le_of_ble_eq_true rfl) rfl (dx dX7_holdWhole 66 rfl) ?_
                              refine r_istore (ls' := [(0, vr 7 k), (1, vi (nI am)), (2, vi (((hwF v am (vF v 0) (vM v)).2.1) ||| ((nI 1) <<< ((nI β) &&& 31)))), (3, vi ((hnF v am β (hwF v am (vF v 0) p).1 (hwF v am (vF v 0) p).2.2 q).2)), (4, vi (nI (vM v))), (5, vi (nI β)), (6, vi (nI q)), (7, vi (fwM (vcol v 0 (hnF v am β (hwF v am (vF v 0) p).1 (hwF v am (vF v 0) p).2.2 q).1) am β))]) C (dx dX7_holdWhole 67 rfl) (by decide) [1, 2, 3, 4, 5, 6, 7, 0] rfl ?_
                              refine r_aload_n C (dx dX7_holdWhole 68 rfl) rfl ?_
                              refine g_X7_40 C (dx dX7_holdWhole 69 rfl) ?_
                              refine r_iload C (dx dX7_holdWhole 70 rfl) rfl ?_
                              refine r_iload C (dx dX7_holdWhole 71 rfl) rfl ?_
                              refine r_iconst (v := -1) C (dx dX7_holdWhole 72 rfl) rfl ?_
                              refine r_icmp_ne (tgt := 151) C (dx dX7_holdWhole 73 rfl) (by decide) (fun c15 => ?_) (fun c15 => ?_)
                              ·
                                have c15 : ¬ fwM (vcol v 0 (hnF v am β (hwF v am (vF v 0) p).1 (hwF v am (vF v 0) p).2.2 q).1) am β = -1 := c15
                                refine r_iload C (dx dX7_holdWhole 79 rfl) rfl ?_
                                refine r_iast (j := q) C rfl rfl (by decide) rfl (by omega) (dx dX7_holdWhole 80 rfl) ?_
                                have mh16 : MilAt (sI g9q (k + 18) q (fwM (vcol v 0 (hnF v am β (hwF v am (vF v 0) p).1 (hwF v am (vF v 0) p).2.2 q).1) am β)) k (vset (vcol v 0 (hnF v am β (hwF v am (vF v 0) p).1 (hwF v am (vF v 0) p).2.2 q).1) 0 q (fwM (vcol v 0 (hnF v am β (hwF v am (vF v 0) p).1 (hwF v am (vF v 0) p).2.2 q).1) am β)) := mg9q.s0
                                have ph16 : Kp k h (sI g9q (k + 18) q (fwM (vcol v 0 (hnF v am β (hwF v am (vF v 0) p).1 (hwF v am (vF v 0) p).2.2 q).1) am β)) := pg9q.tr (Kp.c (by omega) (by omega))
                                have kh16 : xK (sI g9q (k + 18) q (fwM (vcol v 0 (hnF v am β (hwF v am (vF v 0) p).1 (hwF v am (vF v 0) p).2.2 q).1) am β)) = xK h := kg9q
                                generalize sI g9q (k + 18) q (fwM (vcol v 0 (hnF v am β (hwF v am (vF v 0) p).1 (hwF v am (vF v 0) p).2.2 q).1) am β) = h16 at mh16 ph16 kh16 ⊢
                                refine r_iload_n C (dx dX7_holdWhole 81 rfl) rfl ?_
                                refine r_iconst (v := nI 1) C (dx dX7_holdWhole 82 rfl) rfl ?_
                                refine r_iload C (dx dX7_holdWhole 83 rfl) rfl ?_
                                refine r_ishl C (dx dX7_holdWhole 84 rfl) ?_
                                refine r_ior C (dx dX7_holdWhole 85 rfl) ?_
                                refine r_istore_n (ls' := [(0, vr 7 k), (1, vi (nI am)), (2, vi (((hwF v am (vF v 0) (vM v)).2.1) ||| ((nI 1) <<< ((nI β) &&& 31)))), (3, vi (((hnF v am β (hwF v am (vF v 0) p).1 (hwF v am (vF v 0) p).2.2 q).2) ||| ((nI 1) <<< ((nI q) &&& 31)))), (4, vi (nI (vM v))), (5, vi (nI β)), (6, vi (nI q)), (7, vi (fwM (vcol v 0 (hnF v am β (hwF v am (vF v 0) p).1 (hwF v am (vF v 0) p).2.2 q).1) am β))]) C (dx dX7_holdWhole 86 rfl) (by decide) [1, 2, 3, 0, 4, 5, 6, 7] rfl ?_
                                refine rn_iinc (a := q) (k := 1) (ls' := [(0, vr 7 k), (1, vi (nI am)), (2, vi (((hwF v am (vF v 0) (vM v)).2.1) ||| ((nI 1) <<< ((nI β) &&& 31)))), (3, vi (((hnF v am β (hwF v am (vF v 0) p).1 (hwF v am (vF v 0) p).2.2 q).2) ||| ((nI 1) <<< ((nI q) &&& 31)))), (4, vi (nI (vM v))), (5, vi (nI β)), (6, vi (nI (q + 1))), (7, vi (fwM (vcol v 0 (hnF v am β (hwF v am (vF v 0) p).1 (hwF v am (vF v 0) p).2.2 q).1) am β))]) C (dx dX7_holdWhole 87 rfl) rfl rfl (by decide) [1, 2, 3, 4, 5, 6, 0, 7] rfl ?_
                                refine r_goto (tgt := 88) C (dx dX7_holdWhole 88 rfl) (by decide) ?_
                                have eq3 : (((hnF v am β (hwF v am (vF v 0) p).1 (hwF v am (vF v 0) p).2.2 q).2) ||| ((nI 1) <<< ((nI q) &&& 31))) = ((hnF v am β (hwF v am (vF v 0) p).1 (hwF v am (vF v 0) p).2.2 (q + 1)).2) := by exact (hn_y c13 c14 (by unfold pkR; rw [if_neg c15])).2
                                rw [eq3]
                                refine r_weak C [0, 1, 2, 3, 4, 5, 6] rfl ?_
                                have fq : (vset (vcol v 0 (hnF v am β (hwF v am (vF v 0) p).1 (hwF v am (vF v 0) p).2.2 q).1) 0 q (fwM (vcol v 0 (hnF v am β (hwF v am (vF v 0) p).1 (hwF v am (vF v 0) p).2.2 q).1) am β)) = (vcol v 0 (hnF v am β (hwF v am (vF v 0) p).1 (hwF v am (vF v 0) p).2.2 (q + 1)).1) := by exact (hn_y c13 c14 (by unfold pkR; rw [if_neg c15])).1
                                exact ihq h16 (fq ▸ mh16) ph16 kh16
                              ·
                                have c15 : fwM (vcol v 0 (hnF v am β (hwF v am (vF v 0) p).1 (hwF v am (vF v 0) p).2.2 q).1) am β = -1 := c15
                                refine r_aload_n C (dx dX7_holdWhole 74 rfl) rfl ?_
                                refine r_iload_n C (dx dX7_holdWhole 75 rfl) rfl ?_
                                refine r_iconst (v := -1) C (dx dX7_holdWhole 76 rfl) rfl ?_
                                refine r_cvP (as := [vi (nI am), vi (-1)]) (st := [vi (nI q), vr 20 (k + 18)]) (v := vi (fwA (vcol v 0 (hnF v am β (hwF v am (vF v 0) p).1 (hwF v am (vF v 0) p).2.2 q).1) am)) C X I_X7_firstWithRoom l_X7_279 (e_fwN mg9q (am := am) (show am ≤ vN v by omega)) (by decide) (Nat.le_of_ble_eq_true rfl) (pfx_eq kg9q) rfl rfl (Nat.le_of_ble_eq_true rfl) rfl (dx dX7_holdWhole 77 rfl) ?_
                                refine r_goto (tgt := 153) C (dx dX7_holdWhole 78 rfl) (by decide) ?_
                                refine r_iast (j := q) C rfl rfl (by decide) rfl (by omega) (dx dX7_holdWhole 80 rfl) ?_
                                have mh17 : MilAt (sI g9q (k + 18) q (fwA (vcol v 0 (hnF v am β (hwF v am (vF v 0) p).1 (hwF v am (vF v 0) p).2.2 q).1) am)) k (vset (vcol v 0 (hnF v am β (hwF v am (vF v 0) p).1 (hwF v am (vF v 0) p).2.2 q).1) 0 q (fwA (vcol v 0 (hnF v am β (hwF v am (vF v 0) p).1 (hwF v am (vF v 0) p).2.2 q).1) am)) := mg9q.s0
                                have ph17 : Kp k h (sI g9q (k + 18) q (fwA (vcol v 0 (hnF v am β (hwF v am (vF v 0) p).1 (hwF v am (vF v 0) p).2.2 q).1) am)) := pg9q.tr (Kp.c (by omega) (by omega))
                                have kh17 : xK (sI g9q (k + 18) q (fwA (vcol v 0 (hnF v am β (hwF v am (vF v 0) p).1 (hwF v am (vF v 0) p).2.2 q).1) am)) = xK h := kg9q
                                generalize sI g9q (k + 18) q (fwA (vcol v 0 (hnF v am β (hwF v am (vF v 0) p).1 (hwF v am (vF v 0) p).2.2 q).1) am) = h17 at mh17 ph17 kh17 ⊢
                                refine r_iload_n C (dx dX7_holdWhole 81 rfl) rfl ?_
                                refine r_iconst (v := nI 1) C (dx dX7_holdWhole 82 rfl) rfl ?_
                                refine r_iload C (dx dX7_holdWhole 83 rfl) rfl ?_
                                refine r_ishl C (dx dX7_holdWhole 84 rfl) ?_
                                refine r_ior C (dx dX7_holdWhole 85 rfl) ?_
                                refine r_istore_n (ls' := [(0, vr 7 k), (1, vi (nI am)), (2, vi (((hwF v am (vF v 0) (vM v)).2.1) ||| ((nI 1) <<< ((nI β) &&& 31)))), (3, vi (((hnF v am β (hwF v am (vF v 0) p).1 (hwF v am (vF v 0) p).2.2 q).2) ||| ((nI 1) <<< ((nI q) &&& 31)))), (4, vi (nI (vM v))), (5, vi (nI β)), (6, vi (nI q)), (7, vi (fwM (vcol v 0 (hnF v am β (hwF v am (vF v 0) p).1 (hwF v am (vF v 0) p).2.2 q).1) am β))]) C (dx dX7_holdWhole 86 rfl) (by decide) [1, 2, 3, 0, 4, 5, 6, 7] rfl ?_
                                refine rn_iinc (a := q) (k := 1) (ls' := [(0, vr 7 k), (1, vi (nI am)), (2, vi (((hwF v am (vF v 0) (vM v)).2.1) ||| ((nI 1) <<< ((nI β) &&& 31)))), (3, vi (((hnF v am β (hwF v am (vF v 0) p).1 (hwF v am (vF v 0) p).2.2 q).2) ||| ((nI 1) <<< ((nI q) &&& 31)))), (4, vi (nI (vM v))), (5, vi (nI β)), (6, vi (nI (q + 1))), (7, vi (fwM (vcol v 0 (hnF v am β (hwF v am (vF v 0) p).1 (hwF v am (vF v 0) p).2.2 q).1) am β))]) C (dx dX7_holdWhole 87 rfl) rfl rfl (by decide) [1, 2, 3, 4, 5, 6, 0, 7] rfl ?_
                                refine r_goto (tgt := 88) C (dx dX7_holdWhole 88 rfl) (by decide) ?_
                                have eq3 : (((hnF v am β (hwF v am (vF v 0) p).1 (hwF v am (vF v 0) p).2.2 q).2) ||| ((nI 1) <<< ((nI q) &&& 31))) = ((hnF v am β (hwF v am (vF v 0) p).1 (hwF v am (vF v 0) p).2.2 (q + 1)).2) := by exact (hn_y c13 c14 (by unfold pkR; rw [if_pos c15])).2
                                rw [eq3]
                                refine r_weak C [0, 1, 2, 3, 4, 5, 6] rfl ?_
                                have fq : (vset (vcol v 0 (hnF v am β (hwF v am (vF v 0) p).1 (hwF v am (vF v 0) p).2.2 q).1) 0 q (fwA (vcol v 0 (hnF v am β (hwF v am (vF v 0) p).1 (hwF v am (vF v 0) p).2.2 q).1) am)) = (vcol v 0 (hnF v am β (hwF v am (vF v 0) p).1 (hwF v am (vF v 0) p).2.2 (q + 1)).1) := by exact (hn_y c13 c14 (by unfold pkR; rw [if_pos c15])).1
                                exact ihq h17 (fq ▸ mh17) ph17 kh17))
            · first
              | (omega; done)
          ·
            intro q hq ihq
            refine r_iload C (dx dX7_holdWhole 14 rfl) rfl ?_
            refine r_aload_n C (dx dX7_holdWhole 15 rfl) rfl ?_
            refine g_X7_71 (x := nI (vM v)) C (dx dX7_holdWhole 16 rfl) mg9p.eM ?_
            refine rn_ge (a := q) (b := vM v) (tgt := 78) C (by omega) (by omega) (dx dX7_holdWhole 17 rfl) (by decide) (fun c19 => ?_) (fun c19 => ?_)
            · first
              | (omega; done)
              | (
                  have c19 : vM v ≤ q := c19
                  obtain ⟨β, hβ, eβ⟩ := hw_best (hw_cnt v am (vF v 0) bM p (by omega)) (by omega) (bs_ex v (hwF v am (vF v 0) p).2.1 (vM v) (by omega))
                  rw [eβ]
                  refine r_iload_n C (dx dX7_holdWhole 40 rfl) rfl ?_
                  refine r_iconst (v := nI 1) C (dx dX7_holdWhole 41 rfl) rfl ?_
                  refine r_iload C (dx dX7_holdWhole 42 rfl) rfl ?_
                  refine r_ishl C (dx dX7_holdWhole 43 rfl) ?_
                  refine r_ior C (dx dX7_holdWhole 44 rfl) ?_
                  refine r_istore_n (ls' := [(0, vr 7 k), (1, vi (nI am)), (2, vi (((hwF v am (vF v 0) (vM v)).2.1) ||| ((nI 1) <<< ((nI β) &&& 31)))), (3, vi ((hwF v am (vF v 0) (vM v)).2.2)), (4, vi (nI (vM v))), (5, vi (nI β)), (6, vi (nI q))]) C (dx dX7_holdWhole 45 rfl) (by decide) [1, 2, 0, 3, 4, 5, 6] rfl ?_
                  refine r_iconst (v := nI 0) C (dx dX7_holdWhole 46 rfl) rfl ?_
                  refine r_istore (ls' := [(0, vr 7 k), (1, vi (nI am)), (2, vi (((hwF v am (vF v 0) (vM v)).2.1) ||| ((nI 1) <<< ((nI β) &&& 31)))), (3, vi ((hwF v am (vF v 0) (vM v)).2.2)), (4, vi (nI (vM v))), (5, vi (nI β)), (6, vi (nI 0))]) C (dx dX7_holdWhole 47 rfl) (by decide) [1, 2, 3, 4, 5, 6, 0] rfl ?_
                  refine loopU (Φ := fun q => ∀ g9q, MilAt g9q k (vcol v 0 (hnF v am β (hwF v am (vF v 0) p).1 (hwF v am (vF v 0) p).2.2 q).1) → Kp k h g9q → xK g9q = xK h → Rr G 88 [(0, vr 7 k), (1, vi (nI am)), (2, vi (((hwF v am (vF v 0) (vM v)).2.1) ||| ((nI 1) <<< ((nI β) &&& 31)))), (3, vi ((hnF v am β (hwF v am (vF v 0) p).1 (hwF v am (vF v 0) p).2.2 q).2)), (4, vi (nI (vM v))), (5, vi (nI β)), (6, vi (nI q))] [] g9q) (N := vP v) ?_ ?_ 0 (Nat.zero_le _) g9p mg9p pg9p kg9p
                  ·
                    intro g9q mg9q pg9q kg9q
                    refine r_iload C (dx dX7_holdWhole 48 rfl) rfl ?_
                    refine r_aload_n C (dx dX7_holdWhole 49 rfl) rfl ?_
                    refine g_X7_64 (x := nI (vP v)) C (dx dX7_holdWhole 50 rfl) mg9q.eP ?_
                    refine rn_ge (a := vP v) (b := vP v) (tgt := 167) C (by omega) (by omega) (dx dX7_holdWhole 51 rfl) (by decide) (fun c20 => ?_) (fun c20 => ?_)
                    · first
                      | (omega; done)
                    · first
                      | (omega; done)
                  ·
                    intro q hq ihq g9q mg9q pg9q kg9q
                    refine r_iload C (dx dX7_holdWhole 48 rfl) rfl ?_
                    refine r_aload_n C (dx dX7_holdWhole 49 rfl) rfl ?_
                    refine g_X7_64 (x := nI (vP v)) C (dx dX7_holdWhole 50 rfl) mg9q.eP ?_
                    refine rn_ge (a := q) (b := vP v) (tgt := 167) C (by omega) (by omega) (dx dX7_holdWhole 51 rfl) (by decide) (fun c22 => ?_) (fun c22 => ?_)
                    · first
                      | (omega; done)
                    · first
                      | (omega; done)
                      | (
                          have c22 : q < vP v := c22
                          refine r_aload_n C (dx dX7_holdWhole 52 rfl) rfl ?_
                          refine g_X7_46 C (dx dX7_holdWhole 53 rfl) ?_
                          refine r_iload C (dx dX7_holdWhole 54 rfl) rfl ?_
                          refine r_iald (j := β) (x := vF v 2 β) C rfl rfl (by decide) rfl (by omega) (dx dX7_holdWhole 55 rfl) (mg9q.e2 (by omega)) ?_
                          refine r_iload C (dx dX7_holdWhole 56 rfl) rfl ?_
                          refine r_csP (as := [vi (vF v 2 β), vi (nI q)]) (st := []) (v := vi (b2i (inB (vF v 2 β) (nI q)))) C X I_X7_isIn l_X7_244 (e_isIn _ _) (by decide) (Nat.le_of_ble_eq_true rfl) (pfx_eq kg9q) (Nat.le_of_ble_eq_true rfl) rfl (dx dX7_holdWhole 57 rfl) ?_
                          refine rb_eq (b := inB (vF v 2 β) (nI q)) (tgt := 161) C (dx dX7_holdWhole 58 rfl) (by decide) (fun c23 => ?_) (fun c23 => ?_)
                          ·
                            have c23 : (inB (vF v 2 β) (nI q)) = false := c23
                            refine rn_iinc (a := q) (k := 1) (ls' := [(0, vr 7 k), (1, vi (nI am)), (2, vi (((hwF v am (vF v 0) (vM v)).2.1) ||| ((nI 1) <<< ((nI β) &&& 31)))), (3, vi ((hnF v am β (hwF v am (vF v 0) p).1 (hwF v am (vF v 0) p).2.2 q).2)), (4, vi (nI (vM v))), (5, vi (nI β)), (6, vi (nI (q + 1)))]) C (dx dX7_holdWhole 87 rfl) rfl rfl (by decide) [1, 2, 3, 4, 5, 6, 0] rfl ?_
                            refine r_goto (tgt := 88) C (dx dX7_holdWhole 88 rfl) (by decide) ?_
                            have eq3 : ((hnF v am β (hwF v am (vF v 0) p).1 (hwF v am (vF v 0) p).2.2 q).2) = ((hnF v am β (hwF v am (vF v 0) p).1 (hwF v am (vF v 0) p).2.2 (q + 1)).2) := by rw [(hn_n (fun z => absurd (z.1.symm.trans c23) (by decide)))]
                            rw [eq3]
                            have fq : (vcol v 0 (hnF v am β (hwF v am (vF v 0) p).1 (hwF v am (vF v 0) p).2.2 q).1) = (vcol v 0 (hnF v am β (hwF v am (vF v 0) p).1 (hwF v am (vF v 0) p).2.2 (q + 1)).1) := by rw [(hn_n (fun z => absurd (z.1.symm.trans c23) (by decide)))]
                            exact ihq g9q (fq ▸ mg9q) pg9q kg9q
                          ·
                            have c23 : (inB (vF v 2 β) (nI q)) = true := c23
                            refine r_iload_n C (dx dX7_holdWhole 59 rfl) rfl ?_
                            refine r_iload C (dx dX7_holdWhole 60 rfl) rfl ?_
                            refine r_csP (as := [vi ((hnF v am β (hwF v am (vF v 0) p).1 (hwF v am (vF v 0) p).2.2 q).2), vi (nI q)]) (st := []) (v := vi (b2i (inB ((hnF v am β (hwF v am (vF v 0) p).1 (hwF v am (vF v 0) p).2.2 q).2) (nI q)))) C X I_X7_isIn l_X7_244 (e_isIn _ _) (by decide) (Nat.le_of_ble_eq_true rfl) (pfx_eq kg9q) (Nat.le_of_ble_eq_true rfl) rfl (dx dX7_holdWhole 61 rfl) ?_
                            refine rb_ne (b := inB ((hnF v am β (hwF v am (vF v 0) p).1 (hwF v am (vF v 0) p).2.2 q).2) (nI q)) (tgt := 161) C (dx dX7_holdWhole 62 rfl) (by decide) (fun c24 => ?_) (fun c24 => ?_)
                            ·
                              have c24 : (inB ((hnF v am β (hwF v am (vF v 0) p).1 (hwF v am (vF v 0) p).2.2 q).2) (nI q)) = true := c24
                              refine rn_iinc (a := q) (k := 1) (ls' := [(0, vr 7 k), (1, vi (nI am)), (2, vi (((hwF v am (vF v 0) (vM v)).2.1) ||| ((nI 1) <<< ((nI β) &&& 31)))), (3, vi ((hnF v am β (hwF v am (vF v 0) p).1 (hwF v am (vF v 0) p).2.2 q).2)), (4, vi (nI (vM v))), (5, vi (nI β)), (6, vi (nI (q + 1)))]) C (dx dX7_holdWhole 87 rfl) rfl rfl (by decide) [1, 2, 3, 4, 5, 6, 0] rfl ?_
                              refine r_goto (tgt := 88) C (dx dX7_holdWhole 88 rfl) (by decide) ?_
                              have eq3 : ((hnF v am β (hwF v am (vF v 0) p).1 (hwF v am (vF v 0) p).2.2 q).2) = ((hnF v am β (hwF v am (vF v 0) p).1 (hwF v am (vF v 0) p).2.2 (q + 1)).2) := by rw [(hn_n (fun z => absurd (z.2.symm.trans c24) (by decide)))]
                              rw [eq3]
                              have fq : (vcol v 0 (hnF v am β (hwF v am (vF v 0) p).1 (hwF v am (vF v 0) p).2.2 q).1) = (vcol v 0 (hnF v am β (hwF v am (vF v 0) p).1 (hwF v am (vF v 0) p).2.2 (q + 1)).1) := by rw [(hn_n (fun z => absurd (z.2.symm.trans c24) (by decide)))]
                              exact ihq g9q (fq ▸ mg9q) pg9q kg9q
                            ·
                              have c24 : (inB ((hnF v am β (hwF v am (vF v 0) p).1 (hwF v am (vF v 0) p).2.2 q).2) (nI q)) = false := c24
                              refine r_aload_n C (dx dX7_holdWhole 63 rfl) rfl ?_
                              refine r_iload_n C (dx dX7_holdWhole 64 rfl) rfl ?_
                              refine r_iload C (dx dX7_holdWhole 65 rfl) rfl ?_
                              refine r_cvP (as := [vi (nI am), vi (nI β)]) (st := []) (v := vi (fwM (vcol v 0 (hnF v am β (hwF v am (vF v 0) p).1 (hwF v am (vF v 0) p).2.2 q).1) am β)) C X I_X7_firstWithRoom l_X7_279 (e_fwM mg9q (am := am) (m := β) (show am ≤ vN v by omega) (show β < vM v by omega)) (by decide) (Nat.le_of_ble_eq_true rfl) (pfx_eq kg9q) rfl rfl (Nat.le_of_ble_eq_true rfl) rfl (dx dX7_holdWhole 66 rfl) ?_
                              refine r_istore (ls' := [(0, vr 7 k), (1, vi (nI am)), (2, vi (((hwF v am (vF v 0) (vM v)).2.1) ||| ((nI 1) <<< ((nI β) &&& 31)))), (3, vi ((hnF v am β (hwF v am (vF v 0) p).1 (hwF v am (vF v 0) p).2.2 q).2)), (4, vi (nI (vM v))), (5, vi (nI β)), (6, vi (nI q)), (7, vi (fwM (vcol v 0 (hnF v am β (hwF v am (vF v 0) p).1 (hwF v am (vF v 0) p).2.2 q).1) am β))]) C (dx dX7_holdWhole 67 rfl) (by decide) [1, 2, 3, 4, 5, 6, 7, 0] rfl ?_
                              refine r_aload_n C (dx dX7_holdWhole 68 rfl) rfl ?_
                              refine g_X7_40 C (dx dX7_holdWhole 69 rfl) ?_
                              refine r_iload C (dx dX7_holdWhole 70 rfl) rfl ?_
                              refine r_iload C (dx dX7_holdWhole 71 rfl) rfl ?_
                              refine r_iconst (v := -1) C (dx dX7_holdWhole 72 rfl) rfl ?_
                              refine r_icmp_ne (tgt := 151) C (dx dX7_holdWhole 73 rfl) (by decide) (fun c25 => ?_) (fun c25 => ?_)
                              ·
                                have c25 : ¬ fwM (vcol v 0 (hnF v am β (hwF v am (vF v 0) p).1 (hwF v am (vF v 0) p).2.2 q).1) am β = -1 := c25
                                refine r_iload C (dx dX7_holdWhole 79 rfl) rfl ?_
                                refine r_iast (j := q) C rfl rfl (by decide) rfl (by omega) (dx dX7_holdWhole 80 rfl) ?_
                                have mh26 : MilAt (sI g9q (k + 18) q (fwM (vcol v 0 (hnF v am β (hwF v am (vF v 0) p).1 (hwF v am (vF v 0) p).2.2 q).1) am β)) k (vset (vcol v 0 (hnF v am β (hwF v am (vF v 0) p).1 (hwF v am (vF v 0) p).2.2 q).1) 0 q (fwM (vcol v 0 (hnF v am β (hwF v am (vF v 0) p).1 (hwF v am (vF v 0) p).2.2 q).1) am β)) := mg9q.s0
                                have ph26 : Kp k h (sI g9q (k + 18) q (fwM (vcol v 0 (hnF v am β (hwF v am (vF v 0) p).1 (hwF v am (vF v 0) p).2.2 q).1) am β)) := pg9q.tr (Kp.c (by omega) (by omega))
                                have kh26 : xK (sI g9q (k + 18) q (fwM (vcol v 0 (hnF v am β (hwF v am (vF v 0) p).1 (hwF v am (vF v 0) p).2.2 q).1) am β)) = xK h := kg9q
                                generalize sI g9q (k + 18) q (fwM (vcol v 0 (hnF v am β (hwF v am (vF v 0) p).1 (hwF v am (vF v 0) p).2.2 q).1) am β) = h26 at mh26 ph26 kh26 ⊢
                                refine r_iload_n C (dx dX7_holdWhole 81 rfl) rfl ?_
                                refine r_iconst (v := nI 1) C (dx dX7_holdWhole 82 rfl) rfl ?_
                                refine r_iload C (dx dX7_holdWhole 83 rfl) rfl ?_
                                refine r_ishl C (dx dX7_holdWhole 84 rfl) ?_
                                refine r_ior C (dx dX7_holdWhole 85 rfl) ?_
                                refine r_istore_n (ls' := [(0, vr 7 k), (1, vi (nI am)), (2, vi (((hwF v am (vF v 0) (vM v)).2.1) ||| ((nI 1) <<< ((nI β) &&& 31)))), (3, vi (((hnF v am β (hwF v am (vF v 0) p).1 (hwF v am (vF v 0) p).2.2 q).2) ||| ((nI 1) <<< ((nI q) &&& 31)))), (4, vi (nI (vM v))), (5, vi (nI β)), (6, vi (nI q)), (7, vi (fwM (vcol v 0 (hnF v am β (hwF v am (vF v 0) p).1 (hwF v am (vF v 0) p).2.2 q).1) am β))]) C (dx dX7_holdWhole 86 rfl) (by decide) [1, 2, 3, 0, 4, 5, 6, 7] rfl ?_
                                refine rn_iinc (a := q) (k := 1) (ls' := [(0, vr 7 k), (1, vi (nI am)), (2, vi (((hwF v am (vF v 0) (vM v)).2.1) ||| ((nI 1) <<< ((nI β) &&& 31)))), (3, vi (((hnF v am β (hwF v am (vF v 0) p).1 (hwF v am (vF v 0) p).2.2 q).2) ||| ((nI 1) <<< ((nI q) &&& 31)))), (4, vi (nI (vM v))), (5, vi (nI β)), (6, vi (nI (q + 1))), (7, vi (fwM (vcol v 0 (hnF v am β (hwF v am (vF v 0) p).1 (hwF v am (vF v 0) p).2.2 q).1) am β))]) C (dx dX7_holdWhole 87 rfl) rfl rfl (by decide) [1, 2, 3, 4, 5, 6, 0, 7] rfl ?_
                                refine r_goto (tgt := 88) C (dx dX7_holdWhole 88 rfl) (by decide) ?_
                                have eq3 : (((hnF v am β (hwF v am (vF v 0) p).1 (hwF v am (vF v 0) p).2.2 q).2) ||| ((nI 1) <<< ((nI q) &&& 31))) = ((hnF v am β (hwF v am (vF v 0) p).1 (hwF v am (vF v 0) p).2.2 (q + 1)).2) := by exact (hn_y c23 c24 (by unfold pkR; rw [if_neg c25])).2
                                rw [eq3]
                                refine r_weak C [0, 1, 2, 3, 4, 5, 6] rfl ?_
                                have fq : (vset (vcol v 0 (hnF v am β (hwF v am (vF v 0) p).1 (hwF v am (vF v 0) p).2.2 q).1) 0 q (fwM (vcol v 0 (hnF v am β (hwF v am (vF v 0) p).1 (hwF v am (vF v 0) p).2.2 q).1) am β)) = (vcol v 0 (hnF v am β (hwF v am (vF v 0) p).1 (hwF v am (vF v 0) p).2.2 (q + 1)).1) := by exact (hn_y c23 c24 (by unfold pkR; rw [if_neg c25])).1
                                exact ihq h26 (fq ▸ mh26) ph26 kh26
                              ·
                                have c25 : fwM (vcol v 0 (hnF v am β (hwF v am (vF v 0) p).1 (hwF v am (vF v 0) p).2.2 q).1) am β = -1 := c25
                                refine r_aload_n C (dx dX7_holdWhole 74 rfl) rfl ?_
                                refine r_iload_n C (dx dX7_holdWhole 75 rfl) rfl ?_
                                refine r_iconst (v := -1) C (dx dX7_holdWhole 76 rfl) rfl ?_
                                refine r_cvP (as := [vi (nI am), vi (-1)]) (st := [vi (nI q), vr 20 (k + 18)]) (v := vi (fwA (vcol v 0 (hnF v am β (hwF v am (vF v 0) p).1 (hwF v am (vF v 0) p).2.2 q).1) am)) C X I_X7_firstWithRoom l_X7_279 (e_fwN mg9q (am := am) (show am ≤ vN v by omega)) (by decide) (Nat.le_of_ble_eq_true rfl) (pfx_eq kg9q) rfl rfl (Nat.le_of_ble_eq_true rfl) rfl (dx dX7_holdWhole 77 rfl) ?_
                                refine r_goto (tgt := 153) C (dx dX7_holdWhole 78 rfl) (by decide) ?_
                                refine r_iast (j := q) C rfl rfl (by decide) rfl (by omega) (dx dX7_holdWhole 80 rfl) ?_
                                have mh27 : MilAt (sI g9q (k + 18) q (fwA (vcol v 0 (hnF v am β (hwF v am (vF v 0) p).1 (hwF v am (vF v 0) p).2.2 q).1) am)) k (vset (vcol v 0 (hnF v am β (hwF v am (vF v 0) p).1 (hwF v am (vF v 0) p).2.2 q).1) 0 q (fwA (vcol v 0 (hnF v am β (hwF v am (vF v 0) p).1 (hwF v am (vF v 0) p).2.2 q).1) am)) := mg9q.s0
                                have ph27 : Kp k h (sI g9q (k + 18) q (fwA (vcol v 0 (hnF v am β (hwF v am (vF v 0) p).1 (hwF v am (vF v 0) p).2.2 q).1) am)) := pg9q.tr (Kp.c (by omega) (by omega))
                                have kh27 : xK (sI g9q (k + 18) q (fwA (vcol v 0 (hnF v am β (hwF v am (vF v 0) p).1 (hwF v am (vF v 0) p).2.2 q).1) am)) = xK h := kg9q
                                generalize sI g9q (k + 18) q (fwA (vcol v 0 (hnF v am β (hwF v am (vF v 0) p).1 (hwF v am (vF v 0) p).2.2 q).1) am) = h27 at mh27 ph27 kh27 ⊢
                                refine r_iload_n C (dx dX7_holdWhole 81 rfl) rfl ?_
                                refine r_iconst (v := nI 1) C (dx dX7_holdWhole 82 rfl) rfl ?_
                                refine r_iload C (dx dX7_holdWhole 83 rfl) rfl ?_
                                refine r_ishl C (dx dX7_holdWhole 84 rfl) ?_
                                refine r_ior C (dx dX7_holdWhole 85 rfl) ?_
                                refine r_istore_n (ls' := [(0, vr 7 k), (1, vi (nI am)), (2, vi (((hwF v am (vF v 0) (vM v)).2.1) ||| ((nI 1) <<< ((nI β) &&& 31)))), (3, vi (((hnF v am β (hwF v am (vF v 0) p).1 (hwF v am (vF v 0) p).2.2 q).2) ||| ((nI 1) <<< ((nI q) &&& 31)))), (4, vi (nI (vM v))), (5, vi (nI β)), (6, vi (nI q)), (7, vi (fwM (vcol v 0 (hnF v am β (hwF v am (vF v 0) p).1 (hwF v am (vF v 0) p).2.2 q).1) am β))]) C (dx dX7_holdWhole 86 rfl) (by decide) [1, 2, 3, 0, 4, 5, 6, 7] rfl ?_
                                refine rn_iinc (a := q) (k := 1) (ls' := [(0, vr 7 k), (1, vi (nI am)), (2, vi (((hwF v am (vF v 0) (vM v)).2.1) ||| ((nI 1) <<< ((nI β) &&& 31)))), (3, vi (((hnF v am β (hwF v am (vF v 0) p).1 (hwF v am (vF v 0) p).2.2 q).2) ||| ((nI 1) <<< ((nI q) &&& 31)))), (4, vi (nI (vM v))), (5, vi (nI β)), (6, vi (nI (q + 1))), (7, vi (fwM (vcol v 0 (hnF v am β (hwF v am (vF v 0) p).1 (hwF v am (vF v 0) p).2.2 q).1) am β))]) C (dx dX7_holdWhole 87 rfl) rfl rfl (by decide) [1, 2, 3, 4, 5, 6, 0, 7] rfl ?_
                                refine r_goto (tgt := 88) C (dx dX7_holdWhole 88 rfl) (by decide) ?_
                                have eq3 : (((hnF v am β (hwF v am (vF v 0) p).1 (hwF v am (vF v 0) p).2.2 q).2) ||| ((nI 1) <<< ((nI q) &&& 31))) = ((hnF v am β (hwF v am (vF v 0) p).1 (hwF v am (vF v 0) p).2.2 (q + 1)).2) := by exact (hn_y c23 c24 (by unfold pkR; rw [if_pos c25])).2
                                rw [eq3]
                                refine r_weak C [0, 1, 2, 3, 4, 5, 6] rfl ?_
                                have fq : (vset (vcol v 0 (hnF v am β (hwF v am (vF v 0) p).1 (hwF v am (vF v 0) p).2.2 q).1) 0 q (fwA (vcol v 0 (hnF v am β (hwF v am (vF v 0) p).1 (hwF v am (vF v 0) p).2.2 q).1) am)) = (vcol v 0 (hnF v am β (hwF v am (vF v 0) p).1 (hwF v am (vF v 0) p).2.2 (q + 1)).1) := by exact (hn_y c23 c24 (by unfold pkR; rw [if_pos c25])).1
                                exact ihq h27 (fq ▸ mh27) ph27 kh27))
            · first
              | (omega; done)
              | (
                  have c19 : q < vM v := c19
                  refine r_iload_n C (dx dX7_holdWhole 18 rfl) rfl ?_
                  refine r_iload C (dx dX7_holdWhole 19 rfl) rfl ?_
                  refine r_csP (as := [vi ((hwF v am (vF v 0) (vM v)).2.1), vi (nI q)]) (st := []) (v := vi (b2i (inB ((hwF v am (vF v 0) (vM v)).2.1) (nI q)))) C X I_X7_isIn l_X7_244 (e_isIn _ _) (by decide) (Nat.le_of_ble_eq_true rfl) (pfx_eq kg9p) (Nat.le_of_ble_eq_true rfl) rfl (dx dX7_holdWhole 20 rfl) ?_
                  refine rb_ne (b := inB ((hwF v am (vF v 0) (vM v)).2.1) (nI q)) (tgt := 68) C (dx dX7_holdWhole 21 rfl) (by decide) (fun c28 => ?_) (fun c28 => ?_)
                  ·
                    have c28 : (inB ((hwF v am (vF v 0) (vM v)).2.1) (nI q)) = true := c28
                    refine r_iload C (dx dX7_holdWhole 36 rfl) rfl ?_
                    refine r_istore (ls' := [(0, vr 7 k), (1, vi (nI am)), (2, vi ((hwF v am (vF v 0) (vM v)).2.1)), (3, vi ((hwF v am (vF v 0) (vM v)).2.2)), (4, vi (nI (vM v))), (5, vi (bsF v (hwF v am (vF v 0) p).2.1 q)), (6, vi (nI q))]) C (dx dX7_holdWhole 37 rfl) (by decide) [1, 2, 3, 4, 5, 0, 6] rfl ?_
                    refine rn_iinc (a := q) (k := 1) (ls' := [(0, vr 7 k), (1, vi (nI am)), (2, vi ((hwF v am (vF v 0) (vM v)).2.1)), (3, vi ((hwF v am (vF v 0) (vM v)).2.2)), (4, vi (nI (vM v))), (5, vi (bsF v (hwF v am (vF v 0) p).2.1 q)), (6, vi (nI (q + 1)))]) C (dx dX7_holdWhole 38 rfl) rfl rfl (by decide) [1, 2, 3, 4, 5, 6, 0] rfl ?_
                    refine r_goto (tgt := 22) C (dx dX7_holdWhole 39 rfl) (by decide) ?_
                    have eq9 : bsF v (hwF v am (vF v 0) p).2.1 q = bsF v (hwF v am (vF v 0) p).2.1 (q + 1) := (bs_keep (fun z => absurd (z.1.symm.trans c28) (by decide))).symm
                    rw [eq9]
                    exact ihq
                  ·
                    have c28 : (inB ((hwF v am (vF v 0) (vM v)).2.1) (nI q)) = false := c28
                    refine r_iload C (dx dX7_holdWhole 22 rfl) rfl ?_
                    refine r_iconst (v := -1) C (dx dX7_holdWhole 23 rfl) rfl ?_
                    refine r_icmp_eq (tgt := 63) C (dx dX7_holdWhole 24 rfl) (by decide) (fun c29 => ?_) (fun c29 => ?_)
                    ·
                      have c29 : bsF v (hwF v am (vF v 0) p).2.1 q = -1 := c29
                      refine r_iload C (dx dX7_holdWhole 34 rfl) rfl ?_
                      refine r_goto (tgt := 70) C (dx dX7_holdWhole 35 rfl) (by decide) ?_
                      refine r_istore (ls' := [(0, vr 7 k), (1, vi (nI am)), (2, vi ((hwF v am (vF v 0) (vM v)).2.1)), (3, vi ((hwF v am (vF v 0) (vM v)).2.2)), (4, vi (nI (vM v))), (5, vi (nI q)), (6, vi (nI q))]) C (dx dX7_holdWhole 37 rfl) (by decide) [1, 2, 3, 4, 5, 0, 6] rfl ?_
                      refine rn_iinc (a := q) (k := 1) (ls' := [(0, vr 7 k), (1, vi (nI am)), (2, vi ((hwF v am (vF v 0) (vM v)).2.1)), (3, vi ((hwF v am (vF v 0) (vM v)).2.2)), (4, vi (nI (vM v))), (5, vi (nI q)), (6, vi (nI (q + 1)))]) C (dx dX7_holdWhole 38 rfl) rfl rfl (by decide) [1, 2, 3, 4, 5, 6, 0] rfl ?_
                      refine r_goto (tgt := 22) C (dx dX7_holdWhole 39 rfl) (by decide) ?_
                      have eq9 : nI q = bsF v (hwF v am (vF v 0) p).2.1 (q + 1) := (bs_take ⟨c28, Or.inl c29⟩).symm
                      rw [eq9]
                      exact ihq
                    ·
                      have c29 : ¬ bsF v (hwF v am (vF v 0) p).2.1 q = -1 := c29
                      obtain ⟨a9, ha9, ea9⟩ : ∃ a9, a9 < q ∧ bsF v (hwF v am (vF v 0) p).2.1 q = nI a9 := (bs_ex v (hwF v am (vF v 0) p).2.1 q (by omega)).elim (fun z => absurd z.1 c29) id
                      have ca9 : vF v 3 (bsF v (hwF v am (vF v 0) p).2.1 q).toNatClampNeg = vF v 3 a9 := by rw [ea9, clN (by omega)]
                      rw [ea9]
                      refine r_aload_n C (dx dX7_holdWhole 25 rfl) rfl ?_
                      refine g_X7_49 C (dx dX7_holdWhole 26 rfl) ?_
                      refine r_iload C (dx dX7_holdWhole 27 rfl) rfl ?_
                      refine r_iald (j := q) (x := vF v 3 q) C rfl rfl (by decide) rfl (by omega) (dx dX7_holdWhole 28 rfl) (mg9p.e3 (by omega)) ?_
                      refine r_aload_n C (dx dX7_holdWhole 29 rfl) rfl ?_
                      refine g_X7_49 C (dx dX7_holdWhole 30 rfl) ?_
                      refine r_iload C (dx dX7_holdWhole 31 rfl) rfl ?_
                      refine r_iald (j := a9) (x := vF v 3 a9) C rfl rfl (by decide) rfl (by omega) (dx dX7_holdWhole 32 rfl) (mg9p.e3 (by omega)) ?_
                      refine r_icmp_le (tgt := 68) C (dx dX7_holdWhole 33 rfl) (by decide) (fun c30 => ?_) (fun c30 => ?_)
                      ·
                        have c30 : vF v 3 q ≤ vF v 3 a9 := c30
                        refine r_iload C (dx dX7_holdWhole 36 rfl) rfl ?_
                        refine r_istore (ls' := [(0, vr 7 k), (1, vi (nI am)), (2, vi ((hwF v am (vF v 0) (vM v)).2.1)), (3, vi ((hwF v am (vF v 0) (vM v)).2.2)), (4, vi (nI (vM v))), (5, vi (nI a9)), (6, vi (nI q))]) C (dx dX7_holdWhole 37 rfl) (by decide) [1, 2, 3, 4, 5, 0, 6] rfl ?_
                        refine rn_iinc (a := q) (k := 1) (ls' := [(0, vr 7 k), (1, vi (nI am)), (2, vi ((hwF v am (vF v 0) (vM v)).2.1)), (3, vi ((hwF v am (vF v 0) (vM v)).2.2)), (4, vi (nI (vM v))), (5, vi (nI a9)), (6, vi (nI (q + 1)))]) C (dx dX7_holdWhole 38 rfl) rfl rfl (by decide) [1, 2, 3, 4, 5, 6, 0] rfl ?_
                        refine r_goto (tgt := 22) C (dx dX7_holdWhole 39 rfl) (by decide) ?_
                        have eq9 : nI a9 = bsF v (hwF v am (vF v 0) p).2.1 (q + 1) := ((bs_keep (fun z => z.2.elim c29 (fun y => Int32.not_lt.mpr c30 (ca9 ▸ y)))).trans ea9).symm
                        rw [eq9]
                        exact ihq
                      ·
                        have c30 : ¬ vF v 3 q ≤ vF v 3 a9 := c30
                        refine r_iload C (dx dX7_holdWhole 34 rfl) rfl ?_
                        refine r_goto (tgt := 70) C (dx dX7_holdWhole 35 rfl) (by decide) ?_
                        refine r_istore (ls' := [(0, vr 7 k), (1, vi (nI am)), (2, vi ((hwF v am (vF v 0) (vM v)).2.1)), (3, vi ((hwF v am (vF v 0) (vM v)).2.2)), (4, vi (nI (vM v))), (5, vi (nI q)), (6, vi (nI q))]) C (dx dX7_holdWhole 37 rfl) (by decide) [1, 2, 3, 4, 5, 0, 6] rfl ?_
                        refine rn_iinc (a := q) (k := 1) (ls' := [(0, vr 7 k), (1, vi (nI am)), (2, vi ((hwF v am (vF v 0) (vM v)).2.1)), (3, vi ((hwF v am (vF v 0) (vM v)).2.2)), (4, vi (nI (vM v))), (5, vi (nI q)), (6, vi (nI (q + 1)))]) C (dx dX7_holdWhole 38 rfl) rfl rfl (by decide) [1, 2, 3, 4, 5, 6, 0] rfl ?_
                        refine r_goto (tgt := 22) C (dx dX7_holdWhole 39 rfl) (by decide) ?_
                        have eq9 : nI q = bsF v (hwF v am (vF v 0) p).2.1 (q + 1) := (bs_take ⟨c28, Or.inr (by rw [ca9]; exact Int32.not_le.mp c30)⟩).symm
                        rw [eq9]
                        exact ihq))
  ·
    intro p hp ihp g9p mg9p pg9p kg9p
    refine r_iload C (dx dX7_holdWhole 6 rfl) rfl ?_
    refine r_aload_n C (dx dX7_holdWhole 7 rfl) rfl ?_
    refine g_X7_71 (x := nI (vM v)) C (dx dX7_holdWhole 8 rfl) mg9p.eM ?_
    refine rn_ge (a := p) (b := vM v) (tgt := 173) C (by omega) (by omega) (dx dX7_holdWhole 9 rfl) (by decide) (fun c31 => ?_) (fun c31 => ?_)
    · first
      | (omega; done)
      | (
          have c31 : vM v ≤ p := c31
          refine r_iconst (v := nI 0) C (dx dX7_holdWhole 91 rfl) rfl ?_
          refine r_istore (ls' := [(0, vr 7 k), (1, vi (nI am)), (2, vi ((hwF v am (vF v 0) p).2.1)), (3, vi ((hwF v am (vF v 0) p).2.2)), (4, vi (nI 0))]) C (dx dX7_holdWhole 92 rfl) (by decide) [1, 2, 3, 4, 0] rfl ?_
          refine loopU (Φ := fun z => ∀ g9z, MilAt g9z k (vcol v 0 (hfF v am (hwF v am (vF v 0) (vM v)).2.2 (hwF v am (vF v 0) (vM v)).1 z)) → Kp k h g9z → xK g9z = xK h → Rr G 176 [(0, vr 7 k), (1, vi (nI am)), (2, vi ((hwF v am (vF v 0) p).2.1)), (3, vi ((hwF v am (vF v 0) p).2.2)), (4, vi (nI z))] [] g9z) (N := vP v) ?_ ?_ 0 (Nat.zero_le _) g9p mg9p pg9p kg9p
          ·
            intro g9z mg9z pg9z kg9z
            refine r_iload C (dx dX7_holdWhole 93 rfl) rfl ?_
            refine r_aload_n C (dx dX7_holdWhole 94 rfl) rfl ?_
            refine g_X7_64 (x := nI (vP v)) C (dx dX7_holdWhole 95 rfl) mg9z.eP ?_
            refine rn_ge (a := vP v) (b := vP v) (tgt := 223) C (by omega) (by omega) (dx dX7_holdWhole 96 rfl) (by decide) (fun c32 => ?_) (fun c32 => ?_)
            · first
              | (omega; done)
              | (
                  have c32 : vP v ≤ vP v := c32
                  have eV : vcol v 0 (hWR v am (vF v 0)) = vcol v 0 (hfF v am (hwF v am (vF v 0) (vM v)).2.2 (hwF v am (vF v 0) (vM v)).1 (vP v)) := by rfl
                  exact F.2.2.1 _ _ _ rfl (dx dX7_holdWhole 116 rfl) kg9z ⟨rfl, by rw [eV]; exact mg9z, pg9z⟩)
            · first
              | (omega; done)
          ·
            intro z hz ihz g9z mg9z pg9z kg9z
            refine r_iload C (dx dX7_holdWhole 93 rfl) rfl ?_
            refine r_aload_n C (dx dX7_holdWhole 94 rfl) rfl ?_
            refine g_X7_64 (x := nI (vP v)) C (dx dX7_holdWhole 95 rfl) mg9z.eP ?_
            refine rn_ge (a := z) (b := vP v) (tgt := 223) C (by omega) (by omega) (dx dX7_holdWhole 96 rfl) (by decide) (fun c35 => ?_) (fun c35 => ?_)
            · first
              | (omega; done)
              | (
                  have c35 : vP v ≤ z := c35
                  have eV : vcol v 0 (hWR v am (vF v 0)) = vcol v 0 (hfF v am (hwF v am (vF v 0) (vM v)).2.2 (hwF v am (vF v 0) (vM v)).1 z) := by rfl
                  exact F.2.2.1 _ _ _ rfl (dx dX7_holdWhole 116 rfl) kg9z ⟨rfl, by rw [eV]; exact mg9z, pg9z⟩)
            · first
              | (omega; done)
              | (
                  have c35 : z < vP v := c35
                  refine r_aload_n C (dx dX7_holdWhole 97 rfl) rfl ?_
                  refine g_X7_40 C (dx dX7_holdWhole 98 rfl) ?_
                  refine r_iload C (dx dX7_holdWhole 99 rfl) rfl ?_
                  refine r_iload_n C (dx dX7_holdWhole 100 rfl) rfl ?_
                  refine r_iload C (dx dX7_holdWhole 101 rfl) rfl ?_
                  refine r_csP (as := [vi ((hwF v am (vF v 0) p).2.2), vi (nI z)]) (st := [vi (nI z), vr 20 (k + 18)]) (v := vi (b2i (inB ((hwF v am (vF v 0) p).2.2) (nI z)))) C X I_X7_isIn l_X7_244 (e_isIn _ _) (by decide) (Nat.le_of_ble_eq_true rfl) (pfx_eq kg9z) (Nat.le_of_ble_eq_true rfl) rfl (dx dX7_holdWhole 102 rfl) ?_
                  refine rb_eq (b := inB ((hwF v am (vF v 0) p).2.2) (nI z)) (tgt := 210) C (dx dX7_holdWhole 103 rfl) (by decide) (fun c36 => ?_) (fun c36 => ?_)
                  ·
                    have c36 : (inB ((hwF v am (vF v 0) p).2.2) (nI z)) = false := c36
                    refine r_aload_n C (dx dX7_holdWhole 109 rfl) rfl ?_
                    refine r_iload_n C (dx dX7_holdWhole 110 rfl) rfl ?_
                    refine r_iconst (v := -1) C (dx dX7_holdWhole 111 rfl) rfl ?_
                    refine r_cvP (as := [vi (nI am), vi (-1)]) (st := [vi (nI z), vr 20 (k + 18)]) (v := vi (fwA (vcol v 0 (hfF v am (hwF v am (vF v 0) (vM v)).2.2 (hwF v am (vF v 0) (vM v)).1 z)) am)) C X I_X7_firstWithRoom l_X7_279 (e_fwN mg9z (am := am) (show am ≤ vN v by omega)) (by decide) (Nat.le_of_ble_eq_true rfl) (pfx_eq kg9z) rfl rfl (Nat.le_of_ble_eq_true rfl) rfl (dx dX7_holdWhole 112 rfl) ?_
                    refine r_iast (j := z) C rfl rfl (by decide) rfl (by omega) (dx dX7_holdWhole 113 rfl) ?_
                    have mh37 : MilAt (sI g9z (k + 18) z (fwA (vcol v 0 (hfF v am (hwF v am (vF v 0) (vM v)).2.2 (hwF v am (vF v 0) (vM v)).1 z)) am)) k (vset (vcol v 0 (hfF v am (hwF v am (vF v 0) (vM v)).2.2 (hwF v am (vF v 0) (vM v)).1 z)) 0 z (fwA (vcol v 0 (hfF v am (hwF v am (vF v 0) (vM v)).2.2 (hwF v am (vF v 0) (vM v)).1 z)) am)) := mg9z.s0
                    have ph37 : Kp k h (sI g9z (k + 18) z (fwA (vcol v 0 (hfF v am (hwF v am (vF v 0) (vM v)).2.2 (hwF v am (vF v 0) (vM v)).1 z)) am)) := pg9z.tr (Kp.c (by omega) (by omega))
                    have kh37 : xK (sI g9z (k + 18) z (fwA (vcol v 0 (hfF v am (hwF v am (vF v 0) (vM v)).2.2 (hwF v am (vF v 0) (vM v)).1 z)) am)) = xK h := kg9z
                    generalize sI g9z (k + 18) z (fwA (vcol v 0 (hfF v am (hwF v am (vF v 0) (vM v)).2.2 (hwF v am (vF v 0) (vM v)).1 z)) am) = h37 at mh37 ph37 kh37 ⊢
                    refine rn_iinc (a := z) (k := 1) (ls' := [(0, vr 7 k), (1, vi (nI am)), (2, vi ((hwF v am (vF v 0) p).2.1)), (3, vi ((hwF v am (vF v 0) p).2.2)), (4, vi (nI (z + 1)))]) C (dx dX7_holdWhole 114 rfl) rfl rfl (by decide) [1, 2, 3, 4, 0] rfl ?_
                    refine r_goto (tgt := 176) C (dx dX7_holdWhole 115 rfl) (by decide) ?_
                    have fz : (vset (vcol v 0 (hfF v am (hwF v am (vF v 0) (vM v)).2.2 (hwF v am (vF v 0) (vM v)).1 z)) 0 z (fwA (vcol v 0 (hfF v am (hwF v am (vF v 0) (vM v)).2.2 (hwF v am (vF v 0) (vM v)).1 z)) am)) = (vcol v 0 (hfF v am (hwF v am (vF v 0) (vM v)).2.2 (hwF v am (vF v 0) (vM v)).1 (z + 1))) := by (rw [vset_col]; simp only [hfF]; rw [if_neg (by rw [c36]; decide)])
                    exact ihz h37 (fz ▸ mh37) ph37 kh37
                  ·
                    have c36 : (inB ((hwF v am (vF v 0) p).2.2) (nI z)) = true := c36
                    refine r_aload_n C (dx dX7_holdWhole 104 rfl) rfl ?_
                    refine g_X7_40 C (dx dX7_holdWhole 105 rfl) ?_
                    refine r_iload C (dx dX7_holdWhole 106 rfl) rfl ?_
                    refine r_iald (j := z) (x := (hfF v am (hwF v am (vF v 0) (vM v)).2.2 (hwF v am (vF v 0) (vM v)).1 z) z) C rfl rfl (by decide) rfl (by omega) (dx dX7_holdWhole 107 rfl) (mg9z.e0 (by omega)) ?_
                    refine r_goto (tgt := 216) C (dx dX7_holdWhole 108 rfl) (by decide) ?_
                    refine r_iast (j := z) C rfl rfl (by decide) rfl (by omega) (dx dX7_holdWhole 113 rfl) ?_
                    have mh38 : MilAt (sI g9z (k + 18) z ((hfF v am (hwF v am (vF v 0) (vM v)).2.2 (hwF v am (vF v 0) (vM v)).1 z) z)) k (vset (vcol v 0 (hfF v am (hwF v am (vF v 0) (vM v)).2.2 (hwF v am (vF v 0) (vM v)).1 z)) 0 z ((hfF v am (hwF v am (vF v 0) (vM v)).2.2 (hwF v am (vF v 0) (vM v)).1 z) z)) := mg9z.s0
                    have ph38 : Kp k h (sI g9z (k + 18) z ((hfF v am (hwF v am (vF v 0) (vM v)).2.2 (hwF v am (vF v 0) (vM v)).1 z) z)) := pg9z.tr (Kp.c (by omega) (by omega))
                    have kh38 : xK (sI g9z (k + 18) z ((hfF v am (hwF v am (vF v 0) (vM v)).2.2 (hwF v am (vF v 0) (vM v)).1 z) z)) = xK h := kg9z
                    generalize sI g9z (k + 18) z ((hfF v am (hwF v am (vF v 0) (vM v)).2.2 (hwF v am (vF v 0) (vM v)).1 z) z) = h38 at mh38 ph38 kh38 ⊢
                    refine rn_iinc (a := z) (k := 1) (ls' := [(0, vr 7 k), (1, vi (nI am)), (2, vi ((hwF v am (vF v 0) p).2.1)), (3, vi ((hwF v am (vF v 0) p).2.2)), (4, vi (nI (z + 1)))]) C (dx dX7_holdWhole 114 rfl) rfl rfl (by decide) [1, 2, 3, 4, 0] rfl ?_
                    refine r_goto (tgt := 176) C (dx dX7_holdWhole 115 rfl) (by decide) ?_
                    have fz : (vset (vcol v 0 (hfF v am (hwF v am (vF v 0) (vM v)).2.2 (hwF v am (vF v 0) (vM v)).1 z)) 0 z ((hfF v am (hwF v am (vF v 0) (vM v)).2.2 (hwF v am (vF v 0) (vM v)).1 z) z)) = (vcol v 0 (hfF v am (hwF v am (vF v 0) (vM v)).2.2 (hwF v am (vF v 0) (vM v)).1 (z + 1))) := by (rw [vset_col]; simp only [hfF]; rw [if_pos c36])
                    exact ihz h38 (fz ▸ mh38) ph38 kh38))
    · first
      | (omega; done)
      | (
          have c31 : p < vM v := c31
          refine r_iconst (v := -1) C (dx dX7_holdWhole 10 rfl) rfl ?_
          refine r_istore (ls' := [(0, vr 7 k), (1, vi (nI am)), (2, vi ((hwF v am (vF v 0) p).2.1)), (3, vi ((hwF v am (vF v 0) p).2.2)), (4, vi (nI p)), (5, vi (-1))]) C (dx dX7_holdWhole 11 rfl) (by decide) [1, 2, 3, 4, 5, 0] rfl ?_
          refine r_iconst (v := nI 0) C (dx dX7_holdWhole 12 rfl) rfl ?_
          refine r_istore (ls' := [(0, vr 7 k), (1, vi (nI am)), (2, vi ((hwF v am (vF v 0) p).2.1)), (3, vi ((hwF v am (vF v 0) p).2.2)), (4, vi (nI p)), (5, vi (-1)), (6, vi (nI 0))]) C (dx dX7_holdWhole 13 rfl) (by decide) [1, 2, 3, 4, 5, 6, 0] rfl ?_
          refine loopU (Φ := fun q => Rr G 22 [(0, vr 7 k), (1, vi (nI am)), (2, vi ((hwF v am (vF v 0) p).2.1)), (3, vi ((hwF v am (vF v 0) p).2.2)), (4, vi (nI p)), (5, vi (bsF v (hwF v am (vF v 0) p).2.1 q)), (6, vi (nI q))] [] g9p) (N := vM v) ?_ ?_ 0 (Nat.zero_le _)
          ·
            skip
            refine r_iload C (dx dX7_holdWhole 14 rfl) rfl ?_
            refine r_aload_n C (dx dX7_holdWhole 15 rfl) rfl ?_
            refine g_X7_71 (x := nI (vM v)) C (dx dX7_holdWhole 16 rfl) mg9p.eM ?_
            refine rn_ge (a := vM v) (b := vM v) (tgt := 78) C (by omega) (by omega) (dx dX7_holdWhole 17 rfl) (by decide) (fun c39 => ?_) (fun c39 => ?_)
            · first
              | (omega; done)
              | (
                  have c39 : vM v ≤ vM v := c39
                  obtain ⟨β, hβ, eβ⟩ := hw_best (hw_cnt v am (vF v 0) bM p (by omega)) (by omega) (bs_ex v (hwF v am (vF v 0) p).2.1 (vM v) (by omega))
                  rw [eβ]
                  refine r_iload_n C (dx dX7_holdWhole 40 rfl) rfl ?_
                  refine r_iconst (v := nI 1) C (dx dX7_holdWhole 41 rfl) rfl ?_
                  refine r_iload C (dx dX7_holdWhole 42 rfl) rfl ?_
                  refine r_ishl C (dx dX7_holdWhole 43 rfl) ?_
                  refine r_ior C (dx dX7_holdWhole 44 rfl) ?_
                  refine r_istore_n (ls' := [(0, vr 7 k), (1, vi (nI am)), (2, vi (((hwF v am (vF v 0) p).2.1) ||| ((nI 1) <<< ((nI β) &&& 31)))), (3, vi ((hwF v am (vF v 0) p).2.2)), (4, vi (nI p)), (5, vi (nI β)), (6, vi (nI (vM v)))]) C (dx dX7_holdWhole 45 rfl) (by decide) [1, 2, 0, 3, 4, 5, 6] rfl ?_
                  refine r_iconst (v := nI 0) C (dx dX7_holdWhole 46 rfl) rfl ?_
                  refine r_istore (ls' := [(0, vr 7 k), (1, vi (nI am)), (2, vi (((hwF v am (vF v 0) p).2.1) ||| ((nI 1) <<< ((nI β) &&& 31)))), (3, vi ((hwF v am (vF v 0) p).2.2)), (4, vi (nI p)), (5, vi (nI β)), (6, vi (nI 0))]) C (dx dX7_holdWhole 47 rfl) (by decide) [1, 2, 3, 4, 5, 6, 0] rfl ?_
                  refine loopU (Φ := fun q => ∀ g9q, MilAt g9q k (vcol v 0 (hnF v am β (hwF v am (vF v 0) p).1 (hwF v am (vF v 0) p).2.2 q).1) → Kp k h g9q → xK g9q = xK h → Rr G 88 [(0, vr 7 k), (1, vi (nI am)), (2, vi (((hwF v am (vF v 0) p).2.1) ||| ((nI 1) <<< ((nI β) &&& 31)))), (3, vi ((hnF v am β (hwF v am (vF v 0) p).1 (hwF v am (vF v 0) p).2.2 q).2)), (4, vi (nI p)), (5, vi (nI β)), (6, vi (nI q))] [] g9q) (N := vP v) ?_ ?_ 0 (Nat.zero_le _) g9p mg9p pg9p kg9p
                  ·
                    intro g9q mg9q pg9q kg9q
                    refine r_iload C (dx dX7_holdWhole 48 rfl) rfl ?_
                    refine r_aload_n C (dx dX7_holdWhole 49 rfl) rfl ?_
                    refine g_X7_64 (x := nI (vP v)) C (dx dX7_holdWhole 50 rfl) mg9q.eP ?_
                    refine rn_ge (a := vP v) (b := vP v) (tgt := 167) C (by omega) (by omega) (dx dX7_holdWhole 51 rfl) (by decide) (fun c40 => ?_) (fun c40 => ?_)
                    · first
                      | (omega; done)
                      | (
                          have c40 : vP v ≤ vP v := c40
                          refine rn_iinc (a := p) (k := 1) (ls' := [(0, vr 7 k), (1, vi (nI am)), (2, vi (((hwF v am (vF v 0) p).2.1) ||| ((nI 1) <<< ((nI β) &&& 31)))), (3, vi ((hnF v am β (hwF v am (vF v 0) p).1 (hwF v am (vF v 0) p).2.2 (vP v)).2)), (4, vi (nI (p + 1))), (5, vi (nI β)), (6, vi (nI (vP v)))]) C (dx dX7_holdWhole 89 rfl) rfl rfl (by decide) [1, 2, 3, 4, 0, 5, 6] rfl ?_
                          refine r_goto (tgt := 7) C (dx dX7_holdWhole 90 rfl) (by decide) ?_
                          have ep2 : (((hwF v am (vF v 0) p).2.1) ||| ((nI 1) <<< ((nI β) &&& 31))) = ((hwF v am (vF v 0) (p + 1)).2.1) := by (show _ = (hwF v am (vF v 0) p).2.1 ||| (nI 1 <<< (bsF v (hwF v am (vF v 0) p).2.1 (vM v) &&& 31)); rw [eβ])
                          rw [ep2]
                          have ep3 : ((hnF v am β (hwF v am (vF v 0) p).1 (hwF v am (vF v 0) p).2.2 (vP v)).2) = ((hwF v am (vF v 0) (p + 1)).2.2) := by (show _ = (hnF v am (bsF v (hwF v am (vF v 0) p).2.1 (vM v)).toNatClampNeg (hwF v am (vF v 0) p).1 (hwF v am (vF v 0) p).2.2 (vP v)).2; rw [eβ, clN (by omega)])
                          rw [ep3]
                          refine r_weak C [0, 1, 2, 3, 4] rfl ?_
                          have fp : (vcol v 0 (hnF v am β (hwF v am (vF v 0) p).1 (hwF v am (vF v 0) p).2.2 (vP v)).1) = (vcol v 0 (hwF v am (vF v 0) (p + 1)).1) := by (show _ = vcol v 0 (hnF v am (bsF v (hwF v am (vF v 0) p).2.1 (vM v)).toNatClampNeg (hwF v am (vF v 0) p).1 (hwF v am (vF v 0) p).2.2 (vP v)).1; rw [eβ, clN (by omega)])
                          exact ihp g9q (fp ▸ mg9q) pg9q kg9q)
                    · first
                      | (omega; done)
                  ·
                    intro q hq ihq g9q mg9q pg9q kg9q
                    refine r_iload C (dx dX7_holdWhole 48 rfl) rfl ?_
                    refine r_aload_n C (dx dX7_holdWhole 49 rfl) rfl ?_
                    refine g_X7_64 (x := nI (vP v)) C (dx dX7_holdWhole 50 rfl) mg9q.eP ?_
                    refine rn_ge (a := q) (b := vP v) (tgt := 167) C (by omega) (by omega) (dx dX7_holdWhole 51 rfl) (by decide) (fun c42 => ?_) (fun c42 => ?_)
                    · first
                      | (omega; done)
                      | (
                          have c42 : vP v ≤ q := c42
                          refine rn_iinc (a := p) (k := 1) (ls' := [(0, vr 7 k), (1, vi (nI am)), (2, vi (((hwF v am (vF v 0) p).2.1) ||| ((nI 1) <<< ((nI β) &&& 31)))), (3, vi ((hnF v am β (hwF v am (vF v 0) p).1 (hwF v am (vF v 0) p).2.2 q).2)), (4, vi (nI (p + 1))), (5, vi (nI β)), (6, vi (nI q))]) C (dx dX7_holdWhole 89 rfl) rfl rfl (by decide) [1, 2, 3, 4, 0, 5, 6] rfl ?_
                          refine r_goto (tgt := 7) C (dx dX7_holdWhole 90 rfl) (by decide) ?_
                          have ep2 : (((hwF v am (vF v 0) p).2.1) ||| ((nI 1) <<< ((nI β) &&& 31))) = ((hwF v am (vF v 0) (p + 1)).2.1) := by (show _ = (hwF v am (vF v 0) p).2.1 ||| (nI 1 <<< (bsF v (hwF v am (vF v 0) p).2.1 (vM v) &&& 31)); rw [eβ])
                          rw [ep2]
                          have ep3 : ((hnF v am β (hwF v am (vF v 0) p).1 (hwF v am (vF v 0) p).2.2 q).2) = ((hwF v am (vF v 0) (p + 1)).2.2) := by (show _ = (hnF v am (bsF v (hwF v am (vF v 0) p).2.1 (vM v)).toNatClampNeg (hwF v am (vF v 0) p).1 (hwF v am (vF v 0) p).2.2 (vP v)).2; rw [eβ, clN (by omega)])
                          rw [ep3]
                          refine r_weak C [0, 1, 2, 3, 4] rfl ?_
                          have fp : (vcol v 0 (hnF v am β (hwF v am (vF v 0) p).1 (hwF v am (vF v 0) p).2.2 q).1) = (vcol v 0 (hwF v am (vF v 0) (p + 1)).1) := by (show _ = vcol v 0 (hnF v am (bsF v (hwF v am (vF v 0) p).2.1 (vM v)).toNatClampNeg (hwF v am (vF v 0) p).1 (hwF v am (vF v 0) p).2.2 (vP v)).1; rw [eβ, clN (by omega)])
                          exact ihp g9q (fp ▸ mg9q) pg9q kg9q)
                    · first
                      | (omega; done)
                      | (
                          have c42 : q < vP v := c42
                          refine r_aload_n C (dx dX7_holdWhole 52 rfl) rfl ?_
                          refine g_X7_46 C (dx dX7_holdWhole 53 rfl) ?_
                          refine r_iload C (dx dX7_holdWhole 54 rfl) rfl ?_
                          refine r_iald (j := β) (x := vF v 2 β) C rfl rfl (by decide) rfl (by omega) (dx dX7_holdWhole 55 rfl) (mg9q.e2 (by omega)) ?_
                          refine r_iload C (dx dX7_holdWhole 56 rfl) rfl ?_
                          refine r_csP (as := [vi (vF v 2 β), vi (nI q)]) (st := []) (v := vi (b2i (inB (vF v 2 β) (nI q)))) C X I_X7_isIn l_X7_244 (e_isIn _ _) (by decide) (Nat.le_of_ble_eq_true rfl) (pfx_eq kg9q) (Nat.le_of_ble_eq_true rfl) rfl (dx dX7_holdWhole 57 rfl) ?_
                          refine rb_eq (b := inB (vF v 2 β) (nI q)) (tgt := 161) C (dx dX7_holdWhole 58 rfl) (by decide) (fun c43 => ?_) (fun c43 => ?_)
                          ·
                            have c43 : (inB (vF v 2 β) (nI q)) = false := c43
                            refine rn_iinc (a := q) (k := 1) (ls' := [(0, vr 7 k), (1, vi (nI am)), (2, vi (((hwF v am (vF v 0) p).2.1) ||| ((nI 1) <<< ((nI β) &&& 31)))), (3, vi ((hnF v am β (hwF v am (vF v 0) p).1 (hwF v am (vF v 0) p).2.2 q).2)), (4, vi (nI p)), (5, vi (nI β)), (6, vi (nI (q + 1)))]) C (dx dX7_holdWhole 87 rfl) rfl rfl (by decide) [1, 2, 3, 4, 5, 6, 0] rfl ?_
                            refine r_goto (tgt := 88) C (dx dX7_holdWhole 88 rfl) (by decide) ?_
                            have eq3 : ((hnF v am β (hwF v am (vF v 0) p).1 (hwF v am (vF v 0) p).2.2 q).2) = ((hnF v am β (hwF v am (vF v 0) p).1 (hwF v am (vF v 0) p).2.2 (q + 1)).2) := by rw [(hn_n (fun z => absurd (z.1.symm.trans c43) (by decide)))]
                            rw [eq3]
                            have fq : (vcol v 0 (hnF v am β (hwF v am (vF v 0) p).1 (hwF v am (vF v 0) p).2.2 q).1) = (vcol v 0 (hnF v am β (hwF v am (vF v 0) p).1 (hwF v am (vF v 0) p).2.2 (q + 1)).1) := by rw [(hn_n (fun z => absurd (z.1.symm.trans c43) (by decide)))]
                            exact ihq g9q (fq ▸ mg9q) pg9q kg9q
                          ·
                            have c43 : (inB (vF v 2 β) (nI q)) = true := c43
                            refine r_iload_n C (dx dX7_holdWhole 59 rfl) rfl ?_
                            refine r_iload C (dx dX7_holdWhole 60 rfl) rfl ?_
                            refine r_csP (as := [vi ((hnF v am β (hwF v am (vF v 0) p).1 (hwF v am (vF v 0) p).2.2 q).2), vi (nI q)]) (st := []) (v := vi (b2i (inB ((hnF v am β (hwF v am (vF v 0) p).1 (hwF v am (vF v 0) p).2.2 q).2) (nI q)))) C X I_X7_isIn l_X7_244 (e_isIn _ _) (by decide) (Nat.le_of_ble_eq_true rfl) (pfx_eq kg9q) (Nat.le_of_ble_eq_true rfl) rfl (dx dX7_holdWhole 61 rfl) ?_
                            refine rb_ne (b := inB ((hnF v am β (hwF v am (vF v 0) p).1 (hwF v am (vF v 0) p).2.2 q).2) (nI q)) (tgt := 161) C (dx dX7_holdWhole 62 rfl) (by decide) (fun c44 => ?_) (fun c44 => ?_)
                            ·
                              have c44 : (inB ((hnF v am β (hwF v am (vF v 0) p).1 (hwF v am (vF v 0) p).2.2 q).2) (nI q)) = true := c44
                              refine rn_iinc (a := q) (k := 1) (ls' := [(0, vr 7 k), (1, vi (nI am)), (2, vi (((hwF v am (vF v 0) p).2.1) ||| ((nI 1) <<< ((nI β) &&& 31)))), (3, vi ((hnF v am β (hwF v am (vF v 0) p).1 (hwF v am (vF v 0) p).2.2 q).2)), (4, vi (nI p)), (5, vi (nI β)), (6, vi (nI (q + 1)))]) C (dx dX7_holdWhole 87 rfl) rfl rfl (by decide) [1, 2, 3, 4, 5, 6, 0] rfl ?_
                              refine r_goto (tgt := 88) C (dx dX7_holdWhole 88 rfl) (by decide) ?_
                              have eq3 : ((hnF v am β (hwF v am (vF v 0) p).1 (hwF v am (vF v 0) p).2.2 q).2) = ((hnF v am β (hwF v am (vF v 0) p).1 (hwF v am (vF v 0) p).2.2 (q + 1)).2) := by rw [(hn_n (fun z => absurd (z.2.symm.trans c44) (by decide)))]
                              rw [eq3]
                              have fq : (vcol v 0 (hnF v am β (hwF v am (vF v 0) p).1 (hwF v am (vF v 0) p).2.2 q).1) = (vcol v 0 (hnF v am β (hwF v am (vF v 0) p).1 (hwF v am (vF v 0) p).2.2 (q + 1)).1) := by rw [(hn_n (fun z => absurd (z.2.symm.trans c44) (by decide)))]
                              exact ihq g9q (fq ▸ mg9q) pg9q kg9q
                            ·
                              have c44 : (inB ((hnF v am β (hwF v am (vF v 0) p).1 (hwF v am (vF v 0) p).2.2 q).2) (nI q)) = false := c44
                              refine r_aload_n C (dx dX7_holdWhole 63 rfl) rfl ?_
                              refine r_iload_n C (dx dX7_holdWhole 64 rfl) rfl ?_
                              refine r_iload C (dx dX7_holdWhole 65 rfl) rfl ?_
                              refine r_cvP (as := [vi (nI am), vi (nI β)]) (st := []) (v := vi (fwM (vcol v 0 (hnF v am β (hwF v am (vF v 0) p).1 (hwF v am (vF v 0) p).2.2 q).1) am β)) C X I_X7_firstWithRoom l_X7_279 (e_fwM mg9q (am := am) (m := β) (show am ≤ vN v by omega) (show β < vM v by omega)) (by decide) (Nat.le_of_ble_eq_true rfl) (pfx_eq kg9q) rfl rfl (Nat.le_of_ble_eq_true rfl) rfl (dx dX7_holdWhole 66 rfl) ?_
                              refine r_istore (ls' := [(0, vr 7 k), (1, vi (nI am)), (2, vi (((hwF v am (vF v 0) p).2.1) ||| ((nI 1) <<< ((nI β) &&& 31)))), (3, vi ((hnF v am β (hwF v am (vF v 0) p).1 (hwF v am (vF v 0) p).2.2 q).2)), (4, vi (nI p)), (5, vi (nI β)), (6, vi (nI q)), (7, vi (fwM (vcol v 0 (hnF v am β (hwF v am (vF v 0) p).1 (hwF v am (vF v 0) p).2.2 q).1) am β))]) C (dx dX7_holdWhole 67 rfl) (by decide) [1, 2, 3, 4, 5, 6, 7, 0] rfl ?_
                              refine r_aload_n C (dx dX7_holdWhole 68 rfl) rfl ?_
                              refine g_X7_40 C (dx dX7_holdWhole 69 rfl) ?_
                              refine r_iload C (dx dX7_holdWhole 70 rfl) rfl ?_
                              refine r_iload C (dx dX7_holdWhole 71 rfl) rfl ?_
                              refine r_iconst (v := -1) C (dx dX7_holdWhole 72 rfl) rfl ?_
                              refine r_icmp_ne (tgt := 151) C (dx dX7_holdWhole 73 rfl) (by decide) (fun c45 => ?_) (fun c45 => ?_)
                              ·
                                have c45 : ¬ fwM (vcol v 0 (hnF v am β (hwF v am (vF v 0) p).1 (hwF v am (vF v 0) p).2.2 q).1) am β = -1 := c45
                                refine r_iload C (dx dX7_holdWhole 79 rfl) rfl ?_
                                refine r_iast (j := q) C rfl rfl (by decide) rfl (by omega) (dx dX7_holdWhole 80 rfl) ?_
                                have mh46 : MilAt (sI g9q (k + 18) q (fwM (vcol v 0 (hnF v am β (hwF v am (vF v 0) p).1 (hwF v am (vF v 0) p).2.2 q).1) am β)) k (vset (vcol v 0 (hnF v am β (hwF v am (vF v 0) p).1 (hwF v am (vF v 0) p).2.2 q).1) 0 q (fwM (vcol v 0 (hnF v am β (hwF v am (vF v 0) p).1 (hwF v am (vF v 0) p).2.2 q).1) am β)) := mg9q.s0
                                have ph46 : Kp k h (sI g9q (k + 18) q (fwM (vcol v 0 (hnF v am β (hwF v am (vF v 0) p).1 (hwF v am (vF v 0) p).2.2 q).1) am β)) := pg9q.tr (Kp.c (by omega) (by omega))
                                have kh46 : xK (sI g9q (k + 18) q (fwM (vcol v 0 (hnF v am β (hwF v am (vF v 0) p).1 (hwF v am (vF v 0) p).2.2 q).1) am β)) = xK h := kg9q
                                generalize sI g9q (k + 18) q (fwM (vcol v 0 (hnF v am β (hwF v am (vF v 0) p).1 (hwF v am (vF v 0) p).2.2 q).1) am β) = h46 at mh46 ph46 kh46 ⊢
                                refine r_iload_n C (dx dX7_holdWhole 81 rfl) rfl ?_
                                refine r_iconst (v := nI 1) C (dx dX7_holdWhole 82 rfl) rfl ?_
                                refine r_iload C (dx dX7_holdWhole 83 rfl) rfl ?_
                                refine r_ishl C (dx dX7_holdWhole 84 rfl) ?_
                                refine r_ior C (dx dX7_holdWhole 85 rfl) ?_
                                refine r_istore_n (ls' := [(0, vr 7 k), (1, vi (nI am)), (2, vi (((hwF v am (vF v 0) p).2.1) ||| ((nI 1) <<< ((nI β) &&& 31)))), (3, vi (((hnF v am β (hwF v am (vF v 0) p).1 (hwF v am (vF v 0) p).2.2 q).2) ||| ((nI 1) <<< ((nI q) &&& 31)))), (4, vi (nI p)), (5, vi (nI β)), (6, vi (nI q)), (7, vi (fwM (vcol v 0 (hnF v am β (hwF v am (vF v 0) p).1 (hwF v am (vF v 0) p).2.2 q).1) am β))]) C (dx dX7_holdWhole 86 rfl) (by decide) [1, 2, 3, 0, 4, 5, 6, 7] rfl ?_
                                refine rn_iinc (a := q) (k := 1) (ls' := [(0, vr 7 k), (1, vi (nI am)), (2, vi (((hwF v am (vF v 0) p).2.1) ||| ((nI 1) <<< ((nI β) &&& 31)))), (3, vi (((hnF v am β (hwF v am (vF v 0) p).1 (hwF v am (vF v 0) p).2.2 q).2) ||| ((nI 1) <<< ((nI q) &&& 31)))), (4, vi (nI p)), (5, vi (nI β)), (6, vi (nI (q + 1))), (7, vi (fwM (vcol v 0 (hnF v am β (hwF v am (vF v 0) p).1 (hwF v am (vF v 0) p).2.2 q).1) am β))]) C (dx dX7_holdWhole 87 rfl) rfl rfl (by decide) [1, 2, 3, 4, 5, 6, 0, 7] rfl ?_
                                refine r_goto (tgt := 88) C (dx dX7_holdWhole 88 rfl) (by decide) ?_
                                have eq3 : (((hnF v am β (hwF v am (vF v 0) p).1 (hwF v am (vF v 0) p).2.2 q).2) ||| ((nI 1) <<< ((nI q) &&& 31))) = ((hnF v am β (hwF v am (vF v 0) p).1 (hwF v am (vF v 0) p).2.2 (q + 1)).2) := by exact (hn_y c43 c44 (by unfold pkR; rw [if_neg c45])).2
                                rw [eq3]
                                refine r_weak C [0, 1, 2, 3, 4, 5, 6] rfl ?_
                                have fq : (vset (vcol v 0 (hnF v am β (hwF v am (vF v 0) p).1 (hwF v am (vF v 0) p).2.2 q).1) 0 q (fwM (vcol v 0 (hnF v am β (hwF v am (vF v 0) p).1 (hwF v am (vF v 0) p).2.2 q).1) am β)) = (vcol v 0 (hnF v am β (hwF v am (vF v 0) p).1 (hwF v am (vF v 0) p).2.2 (q + 1)).1) := by exact (hn_y c43 c44 (by unfold pkR; rw [if_neg c45])).1
                                exact ihq h46 (fq ▸ mh46) ph46 kh46
                              ·
                                have c45 : fwM (vcol v 0 (hnF v am β (hwF v am (vF v 0) p).1 (hwF v am (vF v 0) p).2.2 q).1) am β = -1 := c45
                                refine r_aload_n C (dx dX7_holdWhole 74 rfl) rfl ?_
                                refine r_iload_n C (dx dX7_holdWhole 75 rfl) rfl ?_
                                refine r_iconst (v := -1) C (dx dX7_holdWhole 76 rfl) rfl ?_
                                refine r_cvP (as := [vi (nI am), vi (-1)]) (st := [vi (nI q), vr 20 (k + 18)]) (v := vi (fwA (vcol v 0 (hnF v am β (hwF v am (vF v 0) p).1 (hwF v am (vF v 0) p).2.2 q).1) am)) C X I_X7_firstWithRoom l_X7_279 (e_fwN mg9q (am := am) (show am ≤ vN v by omega)) (by decide) (Nat.le_of_ble_eq_true rfl) (pfx_eq kg9q) rfl rfl (Nat.le_of_ble_eq_true rfl) rfl (dx dX7_holdWhole 77 rfl) ?_
                                refine r_goto (tgt := 153) C (dx dX7_holdWhole 78 rfl) (by decide) ?_
                                refine r_iast (j := q) C rfl rfl (by decide) rfl (by omega) (dx dX7_holdWhole 80 rfl) ?_
                                have mh47 : MilAt (sI g9q (k + 18) q (fwA (vcol v 0 (hnF v am β (hwF v am (vF v 0) p).1 (hwF v am (vF v 0) p).2.2 q).1) am)) k (vset (vcol v 0 (hnF v am β (hwF v am (vF v 0) p).1 (hwF v am (vF v 0) p).2.2 q).1) 0 q (fwA (vcol v 0 (hnF v am β (hwF v am (vF v 0) p).1 (hwF v am (vF v 0) p).2.2 q).1) am)) := mg9q.s0
                                have ph47 : Kp k h (sI g9q (k + 18) q (fwA (vcol v 0 (hnF v am β (hwF v am (vF v 0) p).1 (hwF v am (vF v 0) p).2.2 q).1) am)) := pg9q.tr (Kp.c (by omega) (by omega))
                                have kh47 : xK (sI g9q (k + 18) q (fwA (vcol v 0 (hnF v am β (hwF v am (vF v 0) p).1 (hwF v am (vF v 0) p).2.2 q).1) am)) = xK h := kg9q
                                generalize sI g9q (k + 18) q (fwA (vcol v 0 (hnF v am β (hwF v am (vF v 0) p).1 (hwF v am (vF v 0) p).2.2 q).1) am) = h47 at mh47 ph47 kh47 ⊢
                                refine r_iload_n C (dx dX7_holdWhole 81 rfl) rfl ?_
                                refine r_iconst (v := nI 1) C (dx dX7_holdWhole 82 rfl) rfl ?_
                                refine r_iload C (dx dX7_holdWhole 83 rfl) rfl ?_
                                refine r_ishl C (dx dX7_holdWhole 84 rfl) ?_
                                refine r_ior C (dx dX7_holdWhole 85 rfl) ?_
                                refine r_istore_n (ls' := [(0, vr 7 k), (1, vi (nI am)), (2, vi (((hwF v am (vF v 0) p).2.1) ||| ((nI 1) <<< ((nI β) &&& 31)))), (3, vi (((hnF v am β (hwF v am (vF v 0) p).1 (hwF v am (vF v 0) p).2.2 q).2) ||| ((nI 1) <<< ((nI q) &&& 31)))), (4, vi (nI p)), (5, vi (nI β)), (6, vi (nI q)), (7, vi (fwM (vcol v 0 (hnF v am β (hwF v am (vF v 0) p).1 (hwF v am (vF v 0) p).2.2 q).1) am β))]) C (dx dX7_holdWhole 86 rfl) (by decide) [1, 2, 3, 0, 4, 5, 6, 7] rfl ?_
                                refine rn_iinc (a := q) (k := 1) (ls' := [(0, vr 7 k), (1, vi (nI am)), (2, vi (((hwF v am (vF v 0) p).2.1) ||| ((nI 1) <<< ((nI β) &&& 31)))), (3, vi (((hnF v am β (hwF v am (vF v 0) p).1 (hwF v am (vF v 0) p).2.2 q).2) ||| ((nI 1) <<< ((nI q) &&& 31)))), (4, vi (nI p)), (5, vi (nI β)), (6, vi (nI (q + 1))), (7, vi (fwM (vcol v 0 (hnF v am β (hwF v am (vF v 0) p).1 (hwF v am (vF v 0) p).2.2 q).1) am β))]) C (dx dX7_holdWhole 87 rfl) rfl rfl (by decide) [1, 2, 3, 4, 5, 6, 0, 7] rfl ?_
                                refine r_goto (tgt := 88) C (dx dX7_holdWhole 88 rfl) (by decide) ?_
                                have eq3 : (((hnF v am β (hwF v am (vF v 0) p).1 (hwF v am (vF v 0) p).2.2 q).2) ||| ((nI 1) <<< ((nI q) &&& 31))) = ((hnF v am β (hwF v am (vF v 0) p).1 (hwF v am (vF v 0) p).2.2 (q + 1)).2) := by exact (hn_y c43 c44 (by unfold pkR; rw [if_pos c45])).2
                                rw [eq3]
                                refine r_weak C [0, 1, 2, 3, 4, 5, 6] rfl ?_
                                have fq : (vset (vcol v 0 (hnF v am β (hwF v am (vF v 0) p).1 (hwF v am (vF v 0) p).2.2 q).1) 0 q (fwA (vcol v 0 (hnF v am β (hwF v am (vF v 0) p).1 (hwF v am (vF v 0) p).2.2 q).1) am)) = (vcol v 0 (hnF v am β (hwF v am (vF v 0) p).1 (hwF v am (vF v 0) p).2.2 (q + 1)).1) := by exact (hn_y c43 c44 (by unfold pkR; rw [if_pos c45])).1
                                exact ihq h47 (fq ▸ mh47) ph47 kh47))
            · first
              | (omega; done)
          ·
            intro q hq ihq
            refine r_iload C (dx dX7_holdWhole 14 rfl) rfl ?_
            refine r_aload_n C (dx dX7_holdWhole 15 rfl) rfl ?_
            refine g_X7_71 (x := nI (vM v)) C (dx dX7_holdWhole 16 rfl) mg9p.eM ?_
            refine rn_ge (a := q) (b := vM v) (tgt := 78) C (by omega) (by omega) (dx dX7_holdWhole 17 rfl) (by decide) (fun c49 => ?_) (fun c49 => ?_)
            · first
              | (omega; done)
              | (
                  have c49 : vM v ≤ q := c49
                  obtain ⟨β, hβ, eβ⟩ := hw_best (hw_cnt v am (vF v 0) bM p (by omega)) (by omega) (bs_ex v (hwF v am (vF v 0) p).2.1 (vM v) (by omega))
                  rw [eβ]
                  refine r_iload_n C (dx dX7_holdWhole 40 rfl) rfl ?_
                  refine r_iconst (v := nI 1) C (dx dX7_holdWhole 41 rfl) rfl ?_
                  refine r_iload C (dx dX7_holdWhole 42 rfl) rfl ?_
                  refine r_ishl C (dx dX7_holdWhole 43 rfl) ?_
                  refine r_ior C (dx dX7_holdWhole 44 rfl) ?_
                  refine r_istore_n (ls' := [(0, vr 7 k), (1, vi (nI am)), (2, vi (((hwF v am (vF v 0) p).2.1) ||| ((nI 1) <<< ((nI β) &&& 31)))), (3, vi ((hwF v am (vF v 0) p).2.2)), (4, vi (nI p)), (5, vi (nI β)), (6, vi (nI q))]) C (dx dX7_holdWhole 45 rfl) (by decide) [1, 2, 0, 3, 4, 5, 6] rfl ?_
                  refine r_iconst (v := nI 0) C (dx dX7_holdWhole 46 rfl) rfl ?_
                  refine r_istore (ls' := [(0, vr 7 k), (1, vi (nI am)), (2, vi (((hwF v am (vF v 0) p).2.1) ||| ((nI 1) <<< ((nI β) &&& 31)))), (3, vi ((hwF v am (vF v 0) p).2.2)), (4, vi (nI p)), (5, vi (nI β)), (6, vi (nI 0))]) C (dx dX7_holdWhole 47 rfl) (by decide) [1, 2, 3, 4, 5, 6, 0] rfl ?_
                  refine loopU (Φ := fun q => ∀ g9q, MilAt g9q k (vcol v 0 (hnF v am β (hwF v am (vF v 0) p).1 (hwF v am (vF v 0) p).2.2 q).1) → Kp k h g9q → xK g9q = xK h → Rr G 88 [(0, vr 7 k), (1, vi (nI am)), (2, vi (((hwF v am (vF v 0) p).2.1) ||| ((nI 1) <<< ((nI β) &&& 31)))), (3, vi ((hnF v am β (hwF v am (vF v 0) p).1 (hwF v am (vF v 0) p).2.2 q).2)), (4, vi (nI p)), (5, vi (nI β)), (6, vi (nI q))] [] g9q) (N := vP v) ?_ ?_ 0 (Nat.zero_le _) g9p mg9p pg9p kg9p
                  ·
                    intro g9q mg9q pg9q kg9q
                    refine r_iload C (dx dX7_holdWhole 48 rfl) rfl ?_
                    refine r_aload_n C (dx dX7_holdWhole 49 rfl) rfl ?_
                    refine g_X7_64 (x := nI (vP v)) C (dx dX7_holdWhole 50 rfl) mg9q.eP ?_
                    refine rn_ge (a := vP v) (b := vP v) (tgt := 167) C (by omega) (by omega) (dx dX7_holdWhole 51 rfl) (by decide) (fun c50 => ?_) (fun c50 => ?_)
                    · first
                      | (omega; done)
                      | (
                          have c50 : vP v ≤ vP v := c50
                          refine rn_iinc (a := p) (k := 1) (ls' := [(0, vr 7 k), (1, vi (nI am)), (2, vi (((hwF v am (vF v 0) p).2.1) ||| ((nI 1) <<< ((nI β) &&& 31)))), (3, vi ((hnF v am β (hwF v am (vF v 0) p).1 (hwF v am (vF v 0) p).2.2 (vP v)).2)), (4, vi (nI (p + 1))), (5, vi (nI β)), (6, vi (nI (vP v)))]) C (dx dX7_holdWhole 89 rfl) rfl rfl (by decide) [1, 2, 3, 4, 0, 5, 6] rfl ?_
                          refine r_goto (tgt := 7) C (dx dX7_holdWhole 90 rfl) (by decide) ?_
                          have ep2 : (((hwF v am (vF v 0) p).2.1) ||| ((nI 1) <<< ((nI β) &&& 31))) = ((hwF v am (vF v 0) (p + 1)).2.1) := by (show _ = (hwF v am (vF v 0) p).2.1 ||| (nI 1 <<< (bsF v (hwF v am (vF v 0) p).2.1 (vM v) &&& 31)); rw [eβ])
                          rw [ep2]
                          have ep3 : ((hnF v am β (hwF v am (vF v 0) p).1 (hwF v am (vF v 0) p).2.2 (vP v)).2) = ((hwF v am (vF v 0) (p + 1)).2.2) := by (show _ = (hnF v am (bsF v (hwF v am (vF v 0) p).2.1 (vM v)).toNatClampNeg (hwF v am (vF v 0) p).1 (hwF v am (vF v 0) p).2.2 (vP v)).2; rw [eβ, clN (by omega)])
                          rw [ep3]
                          refine r_weak C [0, 1, 2, 3, 4] rfl ?_
                          have fp : (vcol v 0 (hnF v am β (hwF v am (vF v 0) p).1 (hwF v am (vF v 0) p).2.2 (vP v)).1) = (vcol v 0 (hwF v am (vF v 0) (p + 1)).1) := by (show _ = vcol v 0 (hnF v am (bsF v (hwF v am (vF v 0) p).2.1 (vM v)).toNatClampNeg (hwF v am (vF v 0) p).1 (hwF v am (vF v 0) p).2.2 (vP v)).1; rw [eβ, clN (by omega)])
                          exact ihp g9q (fp ▸ mg9q) pg9q kg9q)
                    · first
                      | (omega; done)
                  ·
                    intro q hq ihq g9q mg9q pg9q kg9q
                    refine r_iload C (dx dX7_holdWhole 48 rfl) rfl ?_
                    refine r_aload_n C (dx dX7_holdWhole 49 rfl) rfl ?_
                    refine g_X7_64 (x := nI (vP v)) C (dx dX7_holdWhole 50 rfl) mg9q.eP ?_
                    refine rn_ge (a := q) (b := vP v) (tgt := 167) C (by omega) (by omega) (dx dX7_holdWhole 51 rfl) (by decide) (fun c52 => ?_) (fun c52 => ?_)
                    · first
                      | (omega; done)
                      | (
                          have c52 : vP v ≤ q := c52
                          refine rn_iinc (a := p) (k := 1) (ls' := [(0, vr 7 k), (1, vi (nI am)), (2, vi (((hwF v am (vF v 0) p).2.1) ||| ((nI 1) <<< ((nI β) &&& 31)))), (3, vi ((hnF v am β (hwF v am (vF v 0) p).1 (hwF v am (vF v 0) p).2.2 q).2)), (4, vi (nI (p + 1))), (5, vi (nI β)), (6, vi (nI q))]) C (dx dX7_holdWhole 89 rfl) rfl rfl (by decide) [1, 2, 3, 4, 0, 5, 6] rfl ?_
                          refine r_goto (tgt := 7) C (dx dX7_holdWhole 90 rfl) (by decide) ?_
                          have ep2 : (((hwF v am (vF v 0) p).2.1) ||| ((nI 1) <<< ((nI β) &&& 31))) = ((hwF v am (vF v 0) (p + 1)).2.1) := by (show _ = (hwF v am (vF v 0) p).2.1 ||| (nI 1 <<< (bsF v (hwF v am (vF v 0) p).2.1 (vM v) &&& 31)); rw [eβ])
                          rw [ep2]
                          have ep3 : ((hnF v am β (hwF v am (vF v 0) p).1 (hwF v am (vF v 0) p).2.2 q).2) = ((hwF v am (vF v 0) (p + 1)).2.2) := by (show _ = (hnF v am (bsF v (hwF v am (vF v 0) p).2.1 (vM v)).toNatClampNeg (hwF v am (vF v 0) p).1 (hwF v am (vF v 0) p).2.2 (vP v)).2; rw [eβ, clN (by omega)])
                          rw [ep3]
                          refine r_weak C [0, 1, 2, 3, 4] rfl ?_
                          have fp : (vcol v 0 (hnF v am β (hwF v am (vF v 0) p).1 (hwF v am (vF v 0) p).2.2 q).1) = (vcol v 0 (hwF v am (vF v 0) (p + 1)).1) := by (show _ = vcol v 0 (hnF v am (bsF v (hwF v am (vF v 0) p).2.1 (vM v)).toNatClampNeg (hwF v am (vF v 0) p).1 (hwF v am (vF v 0) p).2.2 (vP v)).1; rw [eβ, clN (by omega)])
                          exact ihp g9q (fp ▸ mg9q) pg9q kg9q)
                    · first
                      | (omega; done)
                      | (
                          have c52 : q < vP v := c52
                          refine r_aload_n C (dx dX7_holdWhole 52 rfl) rfl ?_
                          refine g_X7_46 C (dx dX7_holdWhole 53 rfl) ?_
                          refine r_iload C (dx dX7_holdWhole 54 rfl) rfl ?_
                          refine r_iald (j := β) (x := vF v 2 β) C rfl rfl (by decide) rfl (by omega) (dx dX7_holdWhole 55 rfl) (mg9q.e2 (by omega)) ?_
                          refine r_iload C (dx dX7_holdWhole 56 rfl) rfl ?_
                          refine r_csP (as := [vi (vF v 2 β), vi (nI q)]) (st := []) (v := vi (b2i (inB (vF v 2 β) (nI q)))) C X I_X7_isIn l_X7_244 (e_isIn _ _) (by decide) (Nat.le_of_ble_eq_true rfl) (pfx_eq kg9q) (Nat.le_of_ble_eq_true rfl) rfl (dx dX7_holdWhole 57 rfl) ?_
                          refine rb_eq (b := inB (vF v 2 β) (nI q)) (tgt := 161) C (dx dX7_holdWhole 58 rfl) (by decide) (fun c53 => ?_) (fun c53 => ?_)
                          ·
                            have c53 : (inB (vF v 2 β) (nI q)) = false := c53
                            refine rn_iinc (a := q) (k := 1) (ls' := [(0, vr 7 k), (1, vi (nI am)), (2, vi (((hwF v am (vF v 0) p).2.1) ||| ((nI 1) <<< ((nI β) &&& 31)))), (3, vi ((hnF v am β (hwF v am (vF v 0) p).1 (hwF v am (vF v 0) p).2.2 q).2)), (4, vi (nI p)), (5, vi (nI β)), (6, vi (nI (q + 1)))]) C (dx dX7_holdWhole 87 rfl) rfl rfl (by decide) [1, 2, 3, 4, 5, 6, 0] rfl ?_
                            refine r_goto (tgt := 88) C (dx dX7_holdWhole 88 rfl) (by decide) ?_
                            have eq3 : ((hnF v am β (hwF v am (vF v 0) p).1 (hwF v am (vF v 0) p).2.2 q).2) = ((hnF v am β (hwF v am (vF v 0) p).1 (hwF v am (vF v 0) p).2.2 (q + 1)).2) := by rw [(hn_n (fun z => absurd (z.1.symm.trans c53) (by decide)))]
                            rw [eq3]
                            have fq : (vcol v 0 (hnF v am β (hwF v am (vF v 0) p).1 (hwF v am (vF v 0) p).2.2 q).1) = (vcol v 0 (hnF v am β (hwF v am (vF v 0) p).1 (hwF v am (vF v 0) p).2.2 (q + 1)).1) := by rw [(hn_n (fun z => absurd (z.1.symm.trans c53) (by decide)))]
                            exact ihq g9q (fq ▸ mg9q) pg9q kg9q
                          ·
                            have c53 : (inB (vF v 2 β) (nI q)) = true := c53
                            refine r_iload_n C (dx dX7_holdWhole 59 rfl) rfl ?_
                            refine r_iload C (dx dX7_holdWhole 60 rfl) rfl ?_
                            refine r_csP (as := [vi ((hnF v am β (hwF v am (vF v 0) p).1 (hwF v am (vF v 0) p).2.2 q).2), vi (nI q)]) (st := []) (v := vi (b2i (inB ((hnF v am β (hwF v am (vF v 0) p).1 (hwF v am (vF v 0) p).2.2 q).2) (nI q)))) C X I_X7_isIn l_X7_244 (e_isIn _ _) (by decide) (Nat.le_of_ble_eq_true rfl) (pfx_eq kg9q) (Nat.le_of_ble_eq_true rfl) rfl (dx dX7_holdWhole 61 rfl) ?_
                            refine rb_ne (b := inB ((hnF v am β (hwF v am (vF v 0) p).1 (hwF v am (vF v 0) p).2.2 q).2) (nI q)) (tgt := 161) C (dx dX7_holdWhole 62 rfl) (by decide) (fun c54 => ?_) (fun c54 => ?_)
                            ·
                              have c54 : (inB ((hnF v am β (hwF v am (vF v 0) p).1 (hwF v am (vF v 0) p).2.2 q).2) (nI q)) = true := c54
                              refine rn_iinc (a := q) (k := 1) (ls' := [(0, vr 7 k), (1, vi (nI am)), (2, vi (((hwF v am (vF v 0) p).2.1) ||| ((nI 1) <<< ((nI β) &&& 31)))), (3, vi ((hnF v am β (hwF v am (vF v 0) p).1 (hwF v am (vF v 0) p).2.2 q).2)), (4, vi (nI p)), (5, vi (nI β)), (6, vi (nI (q + 1)))]) C (dx dX7_holdWhole 87 rfl) rfl rfl (by decide) [1, 2, 3, 4, 5, 6, 0] rfl ?_
                              refine r_goto (tgt := 88) C (dx dX7_holdWhole 88 rfl) (by decide) ?_
                              have eq3 : ((hnF v am β (hwF v am (vF v 0) p).1 (hwF v am (vF v 0) p).2.2 q).2) = ((hnF v am β (hwF v am (vF v 0) p).1 (hwF v am (vF v 0) p).2.2 (q + 1)).2) := by rw [(hn_n (fun z => absurd (z.2.symm.trans c54) (by decide)))]
                              rw [eq3]
                              have fq : (vcol v 0 (hnF v am β (hwF v am (vF v 0) p).1 (hwF v am (vF v 0) p).2.2 q).1) = (vcol v 0 (hnF v am β (hwF v am (vF v 0) p).1 (hwF v am (vF v 0) p).2.2 (q + 1)).1) := by rw [(hn_n (fun z => absurd (z.2.symm.trans c54) (by decide)))]
                              exact ihq g9q (fq ▸ mg9q) pg9q kg9q
                            ·
                              have c54 : (inB ((hnF v am β (hwF v am (vF v 0) p).1 (hwF v am (vF v 0) p).2.2 q).2) (nI q)) = false := c54
                              refine r_aload_n C (dx dX7_holdWhole 63 rfl) rfl ?_
                              refine r_iload_n C (dx dX7_holdWhole 64 rfl) rfl ?_
                              refine r_iload C (dx dX7_holdWhole 65 rfl) rfl ?_
                              refine r_cvP (as := [vi (nI am), vi (nI β)]) (st := []) (v := vi (fwM (vcol v 0 (hnF v am β (hwF v am (vF v 0) p).1 (hwF v am (vF v 0) p).2.2 q).1) am β)) C X I_X7_firstWithRoom l_X7_279 (e_fwM mg9q (am := am) (m := β) (show am ≤ vN v by omega) (show β < vM v by omega)) (by decide) (Nat.le_of_ble_eq_true rfl) (pfx_eq kg9q) rfl rfl (Nat.le_of_ble_eq_true rfl) rfl (dx dX7_holdWhole 66 rfl) ?_
                              refine r_istore (ls' := [(0, vr 7 k), (1, vi (nI am)), (2, vi (((hwF v am (vF v 0) p).2.1) ||| ((nI 1) <<< ((nI β) &&& 31)))), (3, vi ((hnF v am β (hwF v am (vF v 0) p).1 (hwF v am (vF v 0) p).2.2 q).2)), (4, vi (nI p)), (5, vi (nI β)), (6, vi (nI q)), (7, vi (fwM (vcol v 0 (hnF v am β (hwF v am (vF v 0) p).1 (hwF v am (vF v 0) p).2.2 q).1) am β))]) C (dx dX7_holdWhole 67 rfl) (by decide) [1, 2, 3, 4, 5, 6, 7, 0] rfl ?_
                              refine r_aload_n C (dx dX7_holdWhole 68 rfl) rfl ?_
                              refine g_X7_40 C (dx dX7_holdWhole 69 rfl) ?_
                              refine r_iload C (dx dX7_holdWhole 70 rfl) rfl ?_
                              refine r_iload C (dx dX7_holdWhole 71 rfl) rfl ?_
                              refine r_iconst (v := -1) C (dx dX7_holdWhole 72 rfl) rfl ?_
                              refine r_icmp_ne (tgt := 151) C (dx dX7_holdWhole 73 rfl) (by decide) (fun c55 => ?_) (fun c55 => ?_)
                              ·
                                have c55 : ¬ fwM (vcol v 0 (hnF v am β (hwF v am (vF v 0) p).1 (hwF v am (vF v 0) p).2.2 q).1) am β = -1 := c55
                                refine r_iload C (dx dX7_holdWhole 79 rfl) rfl ?_
                                refine r_iast (j := q) C rfl rfl (by decide) rfl (by omega) (dx dX7_holdWhole 80 rfl) ?_
                                have mh56 : MilAt (sI g9q (k + 18) q (fwM (vcol v 0 (hnF v am β (hwF v am (vF v 0) p).1 (hwF v am (vF v 0) p).2.2 q).1) am β)) k (vset (vcol v 0 (hnF v am β (hwF v am (vF v 0) p).1 (hwF v am (vF v 0) p).2.2 q).1) 0 q (fwM (vcol v 0 (hnF v am β (hwF v am (vF v 0) p).1 (hwF v am (vF v 0) p).2.2 q).1) am β)) := mg9q.s0
                                have ph56 : Kp k h (sI g9q (k + 18) q (fwM (vcol v 0 (hnF v am β (hwF v am (vF v 0) p).1 (hwF v am (vF v 0) p).2.2 q).1) am β)) := pg9q.tr (Kp.c (by omega) (by omega))
                                have kh56 : xK (sI g9q (k + 18) q (fwM (vcol v 0 (hnF v am β (hwF v am (vF v 0) p).1 (hwF v am (vF v 0) p).2.2 q).1) am β)) = xK h := kg9q
                                generalize sI g9q (k + 18) q (fwM (vcol v 0 (hnF v am β (hwF v am (vF v 0) p).1 (hwF v am (vF v 0) p).2.2 q).1) am β) = h56 at mh56 ph56 kh56 ⊢
                                refine r_iload_n C (dx dX7_holdWhole 81 rfl) rfl ?_
                                refine r_iconst (v := nI 1) C (dx dX7_holdWhole 82 rfl) rfl ?_
                                refine r_iload C (dx dX7_holdWhole 83 rfl) rfl ?_
                                refine r_ishl C (dx dX7_holdWhole 84 rfl) ?_
                                refine r_ior C (dx dX7_holdWhole 85 rfl) ?_
                                refine r_istore_n (ls' := [(0, vr 7 k), (1, vi (nI am)), (2, vi (((hwF v am (vF v 0) p).2.1) ||| ((nI 1) <<< ((nI β) &&& 31)))), (3, vi (((hnF v am β (hwF v am (vF v 0) p).1 (hwF v am (vF v 0) p).2.2 q).2) ||| ((nI 1) <<< ((nI q) &&& 31)))), (4, vi (nI p)), (5, vi (nI β)), (6, vi (nI q)), (7, vi (fwM (vcol v 0 (hnF v am β (hwF v am (vF v 0) p).1 (hwF v am (vF v 0) p).2.2 q).1) am β))]) C (dx dX7_holdWhole 86 rfl) (by decide) [1, 2, 3, 0, 4, 5, 6, 7] rfl ?_
                                refine rn_iinc (a := q) (k := 1) (ls' := [(0, vr 7 k), (1, vi (nI am)), (2, vi (((hwF v am (vF v 0) p).2.1) ||| ((nI 1) <<< ((nI β) &&& 31)))), (3, vi (((hnF v am β (hwF v am (vF v 0) p).1 (hwF v am (vF v 0) p).2.2 q).2) ||| ((nI 1) <<< ((nI q) &&& 31)))), (4, vi (nI p)), (5, vi (nI β)), (6, vi (nI (q + 1))), (7, vi (fwM (vcol v 0 (hnF v am β (hwF v am (vF v 0) p).1 (hwF v am (vF v 0) p).2.2 q).1) am β))]) C (dx dX7_holdWhole 87 rfl) rfl rfl (by decide) [1, 2, 3, 4, 5, 6, 0, 7] rfl ?_
                                refine r_goto (tgt := 88) C (dx dX7_holdWhole 88 rfl) (by decide) ?_
                                have eq3 : (((hnF v am β (hwF v am (vF v 0) p).1 (hwF v am (vF v 0) p).2.2 q).2) ||| ((nI 1) <<< ((nI q) &&& 31))) = ((hnF v am β (hwF v am (vF v 0) p).1 (hwF v am (vF v 0) p).2.2 (q + 1)).2) := by exact (hn_y c53 c54 (by unfold pkR; rw [if_neg c55])).2
                                rw [eq3]
                                refine r_weak C [0, 1, 2, 3, 4, 5, 6] rfl ?_
                                have fq : (vset (vcol v 0 (hnF v am β (hwF v am (vF v 0) p).1 (hwF v am (vF v 0) p).2.2 q).1) 0 q (fwM (vcol v 0 (hnF v am β (hwF v am (vF v 0) p).1 (hwF v am (vF v 0) p).2.2 q).1) am β)) = (vcol v 0 (hnF v am β (hwF v am (vF v 0) p).1 (hwF v am (vF v 0) p).2.2 (q + 1)).1) := by exact (hn_y c53 c54 (by unfold pkR; rw [if_neg c55])).1
                                exact ihq h56 (fq ▸ mh56) ph56 kh56
                              ·
                                have c55 : fwM (vcol v 0 (hnF v am β (hwF v am (vF v 0) p).1 (hwF v am (vF v 0) p).2.2 q).1) am β = -1 := c55
                                refine r_aload_n C (dx dX7_holdWhole 74 rfl) rfl ?_
                                refine r_iload_n C (dx dX7_holdWhole 75 rfl) rfl ?_
                                refine r_iconst (v := -1) C (dx dX7_holdWhole 76 rfl) rfl ?_
                                refine r_cvP (as := [vi (nI am), vi (-1)]) (st := [vi (nI q), vr 20 (k + 18)]) (v := vi (fwA (vcol v 0 (hnF v am β (hwF v am (vF v 0) p).1 (hwF v am (vF v 0) p).2.2 q).1) am)) C X I_X7_firstWithRoom l_X7_279 (e_fwN mg9q (am := am) (show am ≤ vN v by omega)) (by decide) (Nat.le_of_ble_eq_true rfl) (pfx_eq kg9q) rfl rfl (Nat.le_of_ble_eq_true rfl) rfl (dx dX7_holdWhole 77 rfl) ?_
                                refine r_goto (tgt := 153) C (dx dX7_holdWhole 78 rfl) (by decide) ?_
                                refine r_iast (j := q) C rfl rfl (by decide) rfl (by omega) (dx dX7_holdWhole 80 rfl) ?_
                                have mh57 : MilAt (sI g9q (k + 18) q (fwA (vcol v 0 (hnF v am β (hwF v am (vF v 0) p).1 (hwF v am (vF v 0) p).2.2 q).1) am)) k (vset (vcol v 0 (hnF v am β (hwF v am (vF v 0) p).1 (hwF v am (vF v 0) p).2.2 q).1) 0 q (fwA (vcol v 0 (hnF v am β (hwF v am (vF v 0) p).1 (hwF v am (vF v 0) p).2.2 q).1) am)) := mg9q.s0
                                have ph57 : Kp k h (sI g9q (k + 18) q (fwA (vcol v 0 (hnF v am β (hwF v am (vF v 0) p).1 (hwF v am (vF v 0) p).2.2 q).1) am)) := pg9q.tr (Kp.c (by omega) (by omega))
                                have kh57 : xK (sI g9q (k + 18) q (fwA (vcol v 0 (hnF v am β (hwF v am (vF v 0) p).1 (hwF v am (vF v 0) p).2.2 q).1) am)) = xK h := kg9q
                                generalize sI g9q (k + 18) q (fwA (vcol v 0 (hnF v am β (hwF v am (vF v 0) p).1 (hwF v am (vF v 0) p).2.2 q).1) am) = h57 at mh57 ph57 kh57 ⊢
                                refine r_iload_n C (dx dX7_holdWhole 81 rfl) rfl ?_
                                refine r_iconst (v := nI 1) C (dx dX7_holdWhole 82 rfl) rfl ?_
                                refine r_iload C (dx dX7_holdWhole 83 rfl) rfl ?_
                                refine r_ishl C (dx dX7_holdWhole 84 rfl) ?_
                                refine r_ior C (dx dX7_holdWhole 85 rfl) ?_
                                refine r_istore_n (ls' := [(0, vr 7 k), (1, vi (nI am)), (2, vi (((hwF v am (vF v 0) p).2.1) ||| ((nI 1) <<< ((nI β) &&& 31)))), (3, vi (((hnF v am β (hwF v am (vF v 0) p).1 (hwF v am (vF v 0) p).2.2 q).2) ||| ((nI 1) <<< ((nI q) &&& 31)))), (4, vi (nI p)), (5, vi (nI β)), (6, vi (nI q)), (7, vi (fwM (vcol v 0 (hnF v am β (hwF v am (vF v 0) p).1 (hwF v am (vF v 0) p).2.2 q).1) am β))]) C (dx dX7_holdWhole 86 rfl) (by decide) [1, 2, 3, 0, 4, 5, 6, 7] rfl ?_
                                refine rn_iinc (a := q) (k := 1) (ls' := [(0, vr 7 k), (1, vi (nI am)), (2, vi (((hwF v am (vF v 0) p).2.1) ||| ((nI 1) <<< ((nI β) &&& 31)))), (3, vi (((hnF v am β (hwF v am (vF v 0) p).1 (hwF v am (vF v 0) p).2.2 q).2) ||| ((nI 1) <<< ((nI q) &&& 31)))), (4, vi (nI p)), (5, vi (nI β)), (6, vi (nI (q + 1))), (7, vi (fwM (vcol v 0 (hnF v am β (hwF v am (vF v 0) p).1 (hwF v am (vF v 0) p).2.2 q).1) am β))]) C (dx dX7_holdWhole 87 rfl) rfl rfl (by decide) [1, 2, 3, 4, 5, 6, 0, 7] rfl ?_
                                refine r_goto (tgt := 88) C (dx dX7_holdWhole 88 rfl) (by decide) ?_
                                have eq3 : (((hnF v am β (hwF v am (vF v 0) p).1 (hwF v am (vF v 0) p).2.2 q).2) ||| ((nI 1) <<< ((nI q) &&& 31))) = ((hnF v am β (hwF v am (vF v 0) p).1 (hwF v am (vF v 0) p).2.2 (q + 1)).2) := by exact (hn_y c53 c54 (by unfold pkR; rw [if_pos c55])).2
                                rw [eq3]
                                refine r_weak C [0, 1, 2, 3, 4, 5, 6] rfl ?_
                                have fq : (vset (vcol v 0 (hnF v am β (hwF v am (vF v 0) p).1 (hwF v am (vF v 0) p).2.2 q).1) 0 q (fwA (vcol v 0 (hnF v am β (hwF v am (vF v 0) p).1 (hwF v am (vF v 0) p).2.2 q).1) am)) = (vcol v 0 (hnF v am β (hwF v am (vF v 0) p).1 (hwF v am (vF v 0) p).2.2 (q + 1)).1) := by exact (hn_y c53 c54 (by unfold pkR; rw [if_pos c55])).1
                                exact ihq h57 (fq ▸ mh57) ph57 kh57))
            · first
              | (omega; done)
              | (
                  have c49 : q < vM v := c49
                  refine r_iload_n C (dx dX7_holdWhole 18 rfl) rfl ?_
                  refine r_iload C (dx dX7_holdWhole 19 rfl) rfl ?_
                  refine r_csP (as := [vi ((hwF v am (vF v 0) p).2.1), vi (nI q)]) (st := []) (v := vi (b2i (inB ((hwF v am (vF v 0) p).2.1) (nI q)))) C X I_X7_isIn l_X7_244 (e_isIn _ _) (by decide) (Nat.le_of_ble_eq_true rfl) (pfx_eq kg9p) (Nat.le_of_ble_eq_true rfl) rfl (dx dX7_holdWhole 20 rfl) ?_
                  refine rb_ne (b := inB ((hwF v am (vF v 0) p).2.1) (nI q)) (tgt := 68) C (dx dX7_holdWhole 21 rfl) (by decide) (fun c58 => ?_) (fun c58 => ?_)
                  ·
                    have c58 : (inB ((hwF v am (vF v 0) p).2.1) (nI q)) = true := c58
                    refine r_iload C (dx dX7_holdWhole 36 rfl) rfl ?_
                    refine r_istore (ls' := [(0, vr 7 k), (1, vi (nI am)), (2, vi ((hwF v am (vF v 0) p).2.1)), (3, vi ((hwF v am (vF v 0) p).2.2)), (4, vi (nI p)), (5, vi (bsF v (hwF v am (vF v 0) p).2.1 q)), (6, vi (nI q))]) C (dx dX7_holdWhole 37 rfl) (by decide) [1, 2, 3, 4, 5, 0, 6] rfl ?_
                    refine rn_iinc (a := q) (k := 1) (ls' := [(0, vr 7 k), (1, vi (nI am)), (2, vi ((hwF v am (vF v 0) p).2.1)), (3, vi ((hwF v am (vF v 0) p).2.2)), (4, vi (nI p)), (5, vi (bsF v (hwF v am (vF v 0) p).2.1 q)), (6, vi (nI (q + 1)))]) C (dx dX7_holdWhole 38 rfl) rfl rfl (by decide) [1, 2, 3, 4, 5, 6, 0] rfl ?_
                    refine r_goto (tgt := 22) C (dx dX7_holdWhole 39 rfl) (by decide) ?_
                    have eq9 : bsF v (hwF v am (vF v 0) p).2.1 q = bsF v (hwF v am (vF v 0) p).2.1 (q + 1) := (bs_keep (fun z => absurd (z.1.symm.trans c58) (by decide))).symm
                    rw [eq9]
                    exact ihq
                  ·
                    have c58 : (inB ((hwF v am (vF v 0) p).2.1) (nI q)) = false := c58
                    refine r_iload C (dx dX7_holdWhole 22 rfl) rfl ?_
                    refine r_iconst (v := -1) C (dx dX7_holdWhole 23 rfl) rfl ?_
                    refine r_icmp_eq (tgt := 63) C (dx dX7_holdWhole 24 rfl) (by decide) (fun c59 => ?_) (fun c59 => ?_)
                    ·
                      have c59 : bsF v (hwF v am (vF v 0) p).2.1 q = -1 := c59
                      refine r_iload C (dx dX7_holdWhole 34 rfl) rfl ?_
                      refine r_goto (tgt := 70) C (dx dX7_holdWhole 35 rfl) (by decide) ?_
                      refine r_istore (ls' := [(0, vr 7 k), (1, vi (nI am)), (2, vi ((hwF v am (vF v 0) p).2.1)), (3, vi ((hwF v am (vF v 0) p).2.2)), (4, vi (nI p)), (5, vi (nI q)), (6, vi (nI q))]) C (dx dX7_holdWhole 37 rfl) (by decide) [1, 2, 3, 4, 5, 0, 6] rfl ?_
                      refine rn_iinc (a := q) (k := 1) (ls' := [(0, vr 7 k), (1, vi (nI am)), (2, vi ((hwF v am (vF v 0) p).2.1)), (3, vi ((hwF v am (vF v 0) p).2.2)), (4, vi (nI p)), (5, vi (nI q)), (6, vi (nI (q + 1)))]) C (dx dX7_holdWhole 38 rfl) rfl rfl (by decide) [1, 2, 3, 4, 5, 6, 0] rfl ?_
                      refine r_goto (tgt := 22) C (dx dX7_holdWhole 39 rfl) (by decide) ?_
                      have eq9 : nI q = bsF v (hwF v am (vF v 0) p).2.1 (q + 1) := (bs_take ⟨c58, Or.inl c59⟩).symm
                      rw [eq9]
                      exact ihq
                    ·
                      have c59 : ¬ bsF v (hwF v am (vF v 0) p).2.1 q = -1 := c59
                      obtain ⟨a9, ha9, ea9⟩ : ∃ a9, a9 < q ∧ bsF v (hwF v am (vF v 0) p).2.1 q = nI a9 := (bs_ex v (hwF v am (vF v 0) p).2.1 q (by omega)).elim (fun z => absurd z.1 c59) id
                      have ca9 : vF v 3 (bsF v (hwF v am (vF v 0) p).2.1 q).toNatClampNeg = vF v 3 a9 := by rw [ea9, clN (by omega)]
                      rw [ea9]
                      refine r_aload_n C (dx dX7_holdWhole 25 rfl) rfl ?_
                      refine g_X7_49 C (dx dX7_holdWhole 26 rfl) ?_
                      refine r_iload C (dx dX7_holdWhole 27 rfl) rfl ?_
                      refine r_iald (j := q) (x := vF v 3 q) C rfl rfl (by decide) rfl (by omega) (dx dX7_holdWhole 28 rfl) (mg9p.e3 (by omega)) ?_
                      refine r_aload_n C (dx dX7_holdWhole 29 rfl) rfl ?_
                      refine g_X7_49 C (dx dX7_holdWhole 30 rfl) ?_
                      refine r_iload C (dx dX7_holdWhole 31 rfl) rfl ?_
                      refine r_iald (j := a9) (x := vF v 3 a9) C rfl rfl (by decide) rfl (by omega) (dx dX7_holdWhole 32 rfl) (mg9p.e3 (by omega)) ?_
                      refine r_icmp_le (tgt := 68) C (dx dX7_holdWhole 33 rfl) (by decide) (fun c60 => ?_) (fun c60 => ?_)
                      ·
                        have c60 : vF v 3 q ≤ vF v 3 a9 := c60
                        refine r_iload C (dx dX7_holdWhole 36 rfl) rfl ?_
                        refine r_istore (ls' := [(0, vr 7 k), (1, vi (nI am)), (2, vi ((hwF v am (vF v 0) p).2.1)), (3, vi ((hwF v am (vF v 0) p).2.2)), (4, vi (nI p)), (5, vi (nI a9)), (6, vi (nI q))]) C (dx dX7_holdWhole 37 rfl) (by decide) [1, 2, 3, 4, 5, 0, 6] rfl ?_
                        refine rn_iinc (a := q) (k := 1) (ls' := [(0, vr 7 k), (1, vi (nI am)), (2, vi ((hwF v am (vF v 0) p).2.1)), (3, vi ((hwF v am (vF v 0) p).2.2)), (4, vi (nI p)), (5, vi (nI a9)), (6, vi (nI (q + 1)))]) C (dx dX7_holdWhole 38 rfl) rfl rfl (by decide) [1, 2, 3, 4, 5, 6, 0] rfl ?_
                        refine r_goto (tgt := 22) C (dx dX7_holdWhole 39 rfl) (by decide) ?_
                        have eq9 : nI a9 = bsF v (hwF v am (vF v 0) p).2.1 (q + 1) := ((bs_keep (fun z => z.2.elim c59 (fun y => Int32.not_lt.mpr c60 (ca9 ▸ y)))).trans ea9).symm
                        rw [eq9]
                        exact ihq
                      ·
                        have c60 : ¬ vF v 3 q ≤ vF v 3 a9 := c60
                        refine r_iload C (dx dX7_holdWhole 34 rfl) rfl ?_
                        refine r_goto (tgt := 70) C (dx dX7_holdWhole 35 rfl) (by decide) ?_
                        refine r_istore (ls' := [(0, vr 7 k), (1, vi (nI am)), (2, vi ((hwF v am (vF v 0) p).2.1)), (3, vi ((hwF v am (vF v 0) p).2.2)), (4, vi (nI p)), (5, vi (nI q)), (6, vi (nI q))]) C (dx dX7_holdWhole 37 rfl) (by decide) [1, 2, 3, 4, 5, 0, 6] rfl ?_
                        refine rn_iinc (a := q) (k := 1) (ls' := [(0, vr 7 k), (1, vi (nI am)), (2, vi ((hwF v am (vF v 0) p).2.1)), (3, vi ((hwF v am (vF v 0) p).2.2)), (4, vi (nI p)), (5, vi (nI q)), (6, vi (nI (q + 1)))]) C (dx dX7_holdWhole 38 rfl) rfl rfl (by decide) [1, 2, 3, 4, 5, 6, 0] rfl ?_
                        refine r_goto (tgt := 22) C (dx dX7_holdWhole 39 rfl) (by decide) ?_
                        have eq9 : nI q = bsF v (hwF v am (vF v 0) p).2.1 (q + 1) := (bs_take ⟨c58, Or.inr (by rw [ca9]; exact Int32.not_le.mp c60)⟩).symm
                        rw [eq9]
                        exact ihq))
theorem nI_zz {n : Nat} (h : nI n = 0) (hn : n < 2 ^ 30 := by omega) : n = 0 := by have := congrArg Int32.toInt h; rw [nI_toInt (by omega), show (0 : Int32).toInt = 0 by decide] at this; omega
theorem nI_le0 {n : Nat} (hn : n < 2 ^ 30) (h : nI n ≤ 0) : n = 0 := by rw [Int32.le_iff_toInt_le, nI_toInt (by omega), show (0 : Int32).toInt = 0 by decide] at h; omega
theorem nI_gt0 {n : Nat} (hn : n < 2 ^ 30) (h : ¬ nI n ≤ 0) : 0 < n := by rw [Int32.le_iff_toInt_le, nI_toInt (by omega), show (0 : Int32).toInt = 0 by decide] at h; omega
/-- to the next, part by part: the holders, the place -/
def rnF (v : Vg) (su : Bool) (f : Nat → Int32) (a : Nat) : Nat → (Nat → Int32) × Nat
  | 0 => (f, a)
  | p + 1 => (sf (rnF v su f a p).1 p (if su = true then srA (vcol v 0 (rnF v su f a p).1) (vN v) else nwA (vcol v 0 (rnF v su f a p).1) (rnF v su f a p).2 (-1)),
      if (if su = true then srA (vcol v 0 (rnF v su f a p).1) (vN v) else nwA (vcol v 0 (rnF v su f a p).1) (rnF v su f a p).2 (-1)) = -1 then (rnF v su f a p).2 else (if su = true then srA (vcol v 0 (rnF v su f a p).1) (vN v) else nwA (vcol v 0 (rnF v su f a p).1) (rnF v su f a p).2 (-1)).toNatClampNeg + 1)
/-- second pieces -/
def rsF (v : Vg) (f : Nat → Int32) (a : Nat) : Nat → (Nat → Int32) × Nat
  | 0 => (f, a)
  | p + 1 => (sf (rsF v f a p).1 p (nwA (vcol v 1 (rsF v f a p).1) (rsF v f a p).2 (vF v 0 p)),
      if nwA (vcol v 1 (rsF v f a p).1) (rsF v f a p).2 (vF v 0 p) = -1 then (rsF v f a p).2 else (nwA (vcol v 1 (rsF v f a p).1) (rsF v f a p).2 (vF v 0 p)).toNatClampNeg + 1)
def plc (v : Vg) (b : Nat) : Nat := if vN v = 0 then 0 else b % vN v
/-- all held anew -/
def hAR (v : Vg) (κ b : Nat) : Vg :=
  if κ = 1 ∨ κ = 5 then vcol (clr v (vP v)) 0 (hWR (clr v (vP v)) (if κ = 5 ∧ 0 < b ∧ b < vN v then b else vN v) (vF (clr v (vP v)) 0))
  else if κ = 3 then vcol (vcol (clr v (vP v)) 0 (rnF (clr v (vP v)) false (vF (clr v (vP v)) 0) (plc v b) (vP v)).1) 1 (rsF (vcol (clr v (vP v)) 0 (rnF (clr v (vP v)) false (vF (clr v (vP v)) 0) (plc v b) (vP v)).1) (vF (clr v (vP v)) 1) (rnF (clr v (vP v)) false (vF (clr v (vP v)) 0) (plc v b) (vP v)).2 (vP v)).1
  else vcol (clr v (vP v)) 0 (rnF (clr v (vP v)) (decide (κ = 4)) (vF (clr v (vP v)) 0) (plc v b) (vP v)).1
theorem nw_ex (v : Vg) (a : Nat) (y : Int32) (hN : 0 < vN v) : nwA v a y = -1 ∨ ∃ o, o < vN v ∧ nwA v a y = nI o := by
  unfold nwA
  have key : ∀ n i, fstF (fun i => decide (¬ nI ((a + i) % vN v) = y) && hasRm v (nI ((a + i) % vN v))) (fun i => nI ((a + i) % vN v)) n i = -1 ∨ ∃ o, o < vN v ∧ fstF (fun i => decide (¬ nI ((a + i) % vN v) = y) && hasRm v (nI ((a + i) % vN v))) (fun i => nI ((a + i) % vN v)) n i = nI o := by
    intro n
    induction n with
    | zero => intro i; exact Or.inl rfl
    | succ n ih =>
      intro i
      simp only [fstF]
      split
      · exact Or.inr ⟨_, Nat.mod_lt _ hN, rfl⟩
      · exact ih (i + 1)
  exact key _ _
theorem nw_ex2 (v : Vg) (a : Nat) (y : Int32) : nwA v a y = -1 ∨ ∃ o, o < vN v ∧ nwA v a y = nI o := by
  by_cases h : 0 < vN v
  · exact nw_ex v a y h
  · refine Or.inl ?_
    unfold nwA
    rw [show vN v = 0 by omega]; rfl
theorem rsF_lt (v : Vg) (f : Nat → Int32) (a : Nat) (ha : a < 200) (hN : vN v ≤ 8) : ∀ p, (rsF v f a p).2 < 200
  | 0 => ha
  | p + 1 => by
    have ih := rsF_lt v f a ha hN p
    simp only [rsF]
    split
    · exact ih
    · next c =>
      rcases nw_ex2 (vcol v 1 (rsF v f a p).1) (rsF v f a p).2 (vF v 0 p) with e | ⟨o, ho, e⟩
      · exact absurd e c
      · have : o < vN v := ho
        rw [e, clN (by omega)]; omega
theorem pl_s {x : Int32} {n : Nat} (h : x = -1 ∨ ∃ o, o < n ∧ x = nI o) (c : ¬ x = -1) (hn : n ≤ 8) : x + nI 1 = nI (x.toNatClampNeg + 1) := by
  obtain ⟨o, ho, e⟩ := h.resolve_left c
  rw [e, clN (by omega)]; exact nI_add _ _
/-- what is put in a place, and where it goes on -/
theorem rn_s {v : Vg} {su : Bool} {f : Nat → Int32} {a p : Nat} {x : Int32} (e : x = if su = true then srA (vcol v 0 (rnF v su f a p).1) (vN v) else nwA (vcol v 0 (rnF v su f a p).1) (rnF v su f a p).2 (-1)) : vset (vcol v 0 (rnF v su f a p).1) 0 p x = vcol v 0 (rnF v su f a (p + 1)).1 := by rw [vset_col, e]; rfl
theorem rn_p {v : Vg} {su : Bool} {f : Nat → Int32} {a p : Nat} {x : Int32} (e : x = if su = true then srA (vcol v 0 (rnF v su f a p).1) (vN v) else nwA (vcol v 0 (rnF v su f a p).1) (rnF v su f a p).2 (-1)) : (rnF v su f a (p + 1)).2 = if x = -1 then (rnF v su f a p).2 else x.toNatClampNeg + 1 := by rw [e]; rfl
theorem rn_e {v : Vg} {su : Bool} {f : Nat → Int32} {a p : Nat} {x : Int32} (e : x = if su = true then srA (vcol v 0 (rnF v su f a p).1) (vN v) else nwA (vcol v 0 (rnF v su f a p).1) (rnF v su f a p).2 (-1)) : x = -1 ∨ ∃ o, o < vN v ∧ x = nI o := by
  rw [e]
  split
  · exact sr_ex _ _
  · exact nw_ex2 (vcol v 0 (rnF v su f a p).1) _ _
theorem rs_s {v : Vg} {f : Nat → Int32} {a p : Nat} : vset (vcol v 1 (rsF v f a p).1) 1 p (nwA (vcol v 1 (rsF v f a p).1) (rsF v f a p).2 (vF v 0 p)) = vcol v 1 (rsF v f a (p + 1)).1 := by rw [vset_col]; rfl
theorem rnF_lt (v : Vg) (su : Bool) (f : Nat → Int32) (a : Nat) (ha : a < 200) (hN : vN v ≤ 8) : ∀ p, (rnF v su f a p).2 < 200
  | 0 => ha
  | p + 1 => by
    have ih := rnF_lt v su f a ha hN p
    obtain ⟨x, ex⟩ : ∃ x, x = (if su = true then srA (vcol v 0 (rnF v su f a p).1) (vN v) else nwA (vcol v 0 (rnF v su f a p).1) (rnF v su f a p).2 (-1)) := ⟨_, rfl⟩
    rw [rn_p ex]
    split
    · exact ih
    · next c =>
      obtain ⟨o, ho, e⟩ := (rn_e ex).resolve_left c
      rw [e, clN (by omega)]; omega
theorem su_y {v : Vg} {κ a p : Nat} {f : Nat → Int32} (h : κ = 4) : srA (vcol v 0 (rnF v (decide (κ = 4)) f a p).1) (vN v) = if decide (κ = 4) = true then srA (vcol v 0 (rnF v (decide (κ = 4)) f a p).1) (vN v) else nwA (vcol v 0 (rnF v (decide (κ = 4)) f a p).1) (rnF v (decide (κ = 4)) f a p).2 (-1) := (if_pos (decide_eq_true h)).symm
theorem su_n {v : Vg} {κ a p : Nat} {f : Nat → Int32} (h : ¬ κ = 4) : nwA (vcol v 0 (rnF v (decide (κ = 4)) f a p).1) (rnF v (decide (κ = 4)) f a p).2 (-1) = if decide (κ = 4) = true then srA (vcol v 0 (rnF v (decide (κ = 4)) f a p).1) (vN v) else nwA (vcol v 0 (rnF v (decide (κ = 4)) f a p).1) (rnF v (decide (κ = 4)) f a p).2 (-1) := (if_neg (fun z => h (of_decide_eq_true z))).symm
set_option maxHeartbeats 4000000 in
theorem e_holdAll {l : Launch} {h : Hp} {k : Nat} {v : Vg} (hm : MilAt h k v) {κ b : Nat} (hκ : 1 ≤ κ ∧ κ ≤ 5) (hb : b < 100) : Ms l yX7_holdAll cX7_holdAll 5 none 8 [vr 7 k, vi (nI κ), vi (nI b)] h (xK h) (fun r h' => r = none ∧ MilAt h' k (hAR v κ b) ∧ Kp k h h') := by
  refine Ms.of (by decide) (Nat.le_of_ble_eq_true rfl) (fun G C X F => ?_)
  have C : Cx G cX7_holdAll 5 RX7 := C
  show Rr G 0 [(0, vr 7 k), (1, vi (nI κ)), (2, vi (nI b))] [] h
  have bP := hm.bP
  have bM := hm.bM
  have bN := hm.bN
  obtain ⟨hκ1, hκ5⟩ := hκ
  refine r_iconst (v := nI 0) C (dx dX7_holdAll 0 rfl) rfl ?_
  refine r_istore_n (ls' := [(0, vr 7 k), (1, vi (nI κ)), (2, vi (nI b)), (3, vi (nI 0))]) C (dx dX7_holdAll 1 rfl) (by decide) [1, 2, 3, 0] rfl ?_
  refine loopU (Φ := fun p => ∀ g9p, MilAt g9p k (clr v p) → Kp k h g9p → xK g9p = xK h → Rr G 2 [(0, vr 7 k), (1, vi (nI κ)), (2, vi (nI b)), (3, vi (nI p))] [] g9p) (N := vP v) ?_ ?_ 0 (Nat.zero_le _) h (clr_0.symm ▸ hm) Kp.rf rfl
  ·
    intro g9p mg9p pg9p kg9p
    refine r_iload_n C (dx dX7_holdAll 2 rfl) rfl ?_
    refine r_aload_n C (dx dX7_holdAll 3 rfl) rfl ?_
    refine g_X7_64 (x := nI (vP v)) C (dx dX7_holdAll 4 rfl) mg9p.eP ?_
    refine rn_ge (a := vP v) (b := vP v) (tgt := 30) C (by omega) (by omega) (dx dX7_holdAll 5 rfl) (by decide) (fun c1 => ?_) (fun c1 => ?_)
    · first
      | (omega; done)
      | (
          have c1 : vP v ≤ vP v := c1
          refine r_iload_n C (dx dX7_holdAll 18 rfl) rfl ?_
          refine r_iconst (v := nI 1) C (dx dX7_holdAll 19 rfl) rfl ?_
          refine rn_eq (a := κ) (b := 1) (tgt := 40) C (by omega) (by omega) (dx dX7_holdAll 20 rfl) (by decide) (fun c2 => ?_) (fun c2 => ?_)
          · first
            | (omega; done)
            | (
                have c2 : κ = 1 := c2
                refine r_aload_n C (dx dX7_holdAll 24 rfl) rfl ?_
                refine r_iload_n C (dx dX7_holdAll 25 rfl) rfl ?_
                refine r_iconst (v := nI 5) C (dx dX7_holdAll 26 rfl) rfl ?_
                refine rn_ne (a := κ) (b := 5) (tgt := 62) C (by omega) (by omega) (dx dX7_holdAll 27 rfl) (by decide) (fun c3 => ?_) (fun c3 => ?_)
                · first
                  | (omega; done)
                  | (
                      have c3 : ¬ κ = 5 := c3
                      refine r_aload_n C (dx dX7_holdAll 36 rfl) rfl ?_
                      refine g_X7_74 (x := nI (vN v)) C (dx dX7_holdAll 37 rfl) mg9p.eN ?_
                      refine r_cv (as := [vi (nI (vN v))]) (st := []) C X I_X7_holdWhole l_X7_282 (e_holdWhole mg9p (am := vN v) (show vN v ≤ vN v by omega)) (by decide) (Nat.le_of_ble_eq_true rfl) List.prefix_rfl (pfx_eq kg9p) rfl rfl (Nat.le_of_ble_eq_true rfl) rfl (dx dX7_holdAll 38 rfl) ?_
                      rintro _ h4 ⟨rfl, m9h4, qh4⟩ kkh4
                      have mh4 : MilAt h4 k (vcol (clr v (vP v)) 0 (hWR (clr v (vP v)) (vN v) (vF (clr v (vP v)) 0))) := m9h4
                      have ph4 : Kp k h h4 := pg9p.tr (qh4)
                      have kh4 : xK h4 = xK h := (kkh4).trans kg9p
                      have eV : hAR v κ b = vcol (clr v (vP v)) 0 (hWR (clr v (vP v)) (vN v) (vF (clr v (vP v)) 0)) := by (unfold hAR; rw [if_pos (show κ = 1 ∨ κ = 5 by omega), if_neg (show ¬ (κ = 5 ∧ 0 < b ∧ b < vN v) from fun z => by omega)])
                      exact F.2.2.1 _ _ _ rfl (dx dX7_holdAll 39 rfl) kh4 ⟨rfl, by rw [eV]; exact mh4, ph4⟩)
                · first
                  | (omega; done)
                  | (
                      have c3 : κ = 5 := c3
                      refine r_iload_n C (dx dX7_holdAll 28 rfl) rfl ?_
                      refine r_if_le (tgt := 62) C (dx dX7_holdAll 29 rfl) (by decide) (fun c5 => ?_) (fun c5 => ?_)
                      ·
                        have c5 : nI b ≤ 0 := c5
                        have hb0 : b = 0 := nI_le0 (by omega) c5
                        refine r_aload_n C (dx dX7_holdAll 36 rfl) rfl ?_
                        refine g_X7_74 (x := nI (vN v)) C (dx dX7_holdAll 37 rfl) mg9p.eN ?_
                        refine r_cv (as := [vi (nI (vN v))]) (st := []) C X I_X7_holdWhole l_X7_282 (e_holdWhole mg9p (am := vN v) (show vN v ≤ vN v by omega)) (by decide) (Nat.le_of_ble_eq_true rfl) List.prefix_rfl (pfx_eq kg9p) rfl rfl (Nat.le_of_ble_eq_true rfl) rfl (dx dX7_holdAll 38 rfl) ?_
                        rintro _ h6 ⟨rfl, m9h6, qh6⟩ kkh6
                        have mh6 : MilAt h6 k (vcol (clr v (vP v)) 0 (hWR (clr v (vP v)) (vN v) (vF (clr v (vP v)) 0))) := m9h6
                        have ph6 : Kp k h h6 := pg9p.tr (qh6)
                        have kh6 : xK h6 = xK h := (kkh6).trans kg9p
                        have eV : hAR v κ b = vcol (clr v (vP v)) 0 (hWR (clr v (vP v)) (vN v) (vF (clr v (vP v)) 0)) := by (unfold hAR; rw [if_pos (show κ = 1 ∨ κ = 5 by omega), if_neg (show ¬ (κ = 5 ∧ 0 < b ∧ b < vN v) from fun z => by omega)])
                        exact F.2.2.1 _ _ _ rfl (dx dX7_holdAll 39 rfl) kh6 ⟨rfl, by rw [eV]; exact mh6, ph6⟩
                      ·
                        have c5 : ¬ nI b ≤ 0 := c5
                        have hb0 : 0 < b := nI_gt0 (by omega) c5
                        refine r_iload_n C (dx dX7_holdAll 30 rfl) rfl ?_
                        refine r_aload_n C (dx dX7_holdAll 31 rfl) rfl ?_
                        refine g_X7_74 (x := nI (vN v)) C (dx dX7_holdAll 32 rfl) mg9p.eN ?_
                        refine rn_ge (a := b) (b := vN v) (tgt := 62) C (by omega) (by omega) (dx dX7_holdAll 33 rfl) (by decide) (fun c7 => ?_) (fun c7 => ?_)
                        · first
                          | (omega; done)
                          | (
                              have c7 : vN v ≤ b := c7
                              refine r_aload_n C (dx dX7_holdAll 36 rfl) rfl ?_
                              refine g_X7_74 (x := nI (vN v)) C (dx dX7_holdAll 37 rfl) mg9p.eN ?_
                              refine r_cv (as := [vi (nI (vN v))]) (st := []) C X I_X7_holdWhole l_X7_282 (e_holdWhole mg9p (am := vN v) (show vN v ≤ vN v by omega)) (by decide) (Nat.le_of_ble_eq_true rfl) List.prefix_rfl (pfx_eq kg9p) rfl rfl (Nat.le_of_ble_eq_true rfl) rfl (dx dX7_holdAll 38 rfl) ?_
                              rintro _ h8 ⟨rfl, m9h8, qh8⟩ kkh8
                              have mh8 : MilAt h8 k (vcol (clr v (vP v)) 0 (hWR (clr v (vP v)) (vN v) (vF (clr v (vP v)) 0))) := m9h8
                              have ph8 : Kp k h h8 := pg9p.tr (qh8)
                              have kh8 : xK h8 = xK h := (kkh8).trans kg9p
                              have eV : hAR v κ b = vcol (clr v (vP v)) 0 (hWR (clr v (vP v)) (vN v) (vF (clr v (vP v)) 0)) := by (unfold hAR; rw [if_pos (show κ = 1 ∨ κ = 5 by omega), if_neg (show ¬ (κ = 5 ∧ 0 < b ∧ b < vN v) from fun z => by omega)])
                              exact F.2.2.1 _ _ _ rfl (dx dX7_holdAll 39 rfl) kh8 ⟨rfl, by rw [eV]; exact mh8, ph8⟩)
                        · first
                          | (omega; done)
                          | (
                              have c7 : b < vN v := c7
                              refine r_iload_n C (dx dX7_holdAll 34 rfl) rfl ?_
                              refine r_goto (tgt := 66) C (dx dX7_holdAll 35 rfl) (by decide) ?_
                              refine r_cv (as := [vi (nI b)]) (st := []) C X I_X7_holdWhole l_X7_282 (e_holdWhole mg9p (am := b) (show b ≤ vN v by omega)) (by decide) (Nat.le_of_ble_eq_true rfl) List.prefix_rfl (pfx_eq kg9p) rfl rfl (Nat.le_of_ble_eq_true rfl) rfl (dx dX7_holdAll 38 rfl) ?_
                              rintro _ h9 ⟨rfl, m9h9, qh9⟩ kkh9
                              have mh9 : MilAt h9 k (vcol (clr v (vP v)) 0 (hWR (clr v (vP v)) b (vF (clr v (vP v)) 0))) := m9h9
                              have ph9 : Kp k h h9 := pg9p.tr (qh9)
                              have kh9 : xK h9 = xK h := (kkh9).trans kg9p
                              have eV : hAR v κ b = vcol (clr v (vP v)) 0 (hWR (clr v (vP v)) b (vF (clr v (vP v)) 0)) := by (unfold hAR; rw [if_pos (show κ = 1 ∨ κ = 5 by omega), if_pos (show κ = 5 ∧ 0 < b ∧ b < vN v from ⟨by omega, by omega, by omega⟩)])
                              exact F.2.2.1 _ _ _ rfl (dx dX7_holdAll 39 rfl) kh9 ⟨rfl, by rw [eV]; exact mh9, ph9⟩)))
          · first
            | (omega; done)
            | (
                have c2 : ¬ κ = 1 := c2
                refine r_iload_n C (dx dX7_holdAll 21 rfl) rfl ?_
                refine r_iconst (v := nI 5) C (dx dX7_holdAll 22 rfl) rfl ?_
                refine rn_ne (a := κ) (b := 5) (tgt := 70) C (by omega) (by omega) (dx dX7_holdAll 23 rfl) (by decide) (fun c10 => ?_) (fun c10 => ?_)
                · first
                  | (omega; done)
                  | (
                      have c10 : ¬ κ = 5 := c10
                      refine r_aload_n C (dx dX7_holdAll 40 rfl) rfl ?_
                      refine g_X7_74 (x := nI (vN v)) C (dx dX7_holdAll 41 rfl) mg9p.eN ?_
                      refine r_if_ne (tgt := 81) C (dx dX7_holdAll 42 rfl) (by decide) (fun c11 => ?_) (fun c11 => ?_)
                      ·
                        have c11 : ¬ nI (vN v) = 0 := c11
                        have nc11 := nz_pos c11
                        refine r_iload_n C (dx dX7_holdAll 45 rfl) rfl ?_
                        refine r_aload_n C (dx dX7_holdAll 46 rfl) rfl ?_
                        refine g_X7_74 (x := nI (vN v)) C (dx dX7_holdAll 47 rfl) mg9p.eN ?_
                        refine r_irem C (dx dX7_holdAll 48 rfl) (fun z => by have := congrArg Int32.toInt z; rw [nI_toInt (by omega)] at this; have e0 : (0 : Int32).toInt = 0 := (by decide); omega) ?_
                        rw [pmod (by omega) (by omega) (by omega)]
                        have hmod : (b) % (vN v) < vN v := Nat.mod_lt _ (by omega)
                        have hp9 : plc v b < 200 := by unfold plc; split; omega; exact Nat.lt_of_lt_of_le (Nat.mod_lt _ (by omega)) (by omega)
                        have e91 : nI ((b) % (vN v)) = nI (plc v b) := by unfold plc; rw [if_neg (fun z => c11 (by rw [z]; rfl))]
                        rw [e91]
                        refine r_istore_n (ls' := [(0, vr 7 k), (1, vi (nI κ)), (2, vi (nI b)), (3, vi (nI (plc v b)))]) C (dx dX7_holdAll 49 rfl) (by decide) [1, 2, 3, 0] rfl ?_
                        refine r_iconst (v := nI 0) C (dx dX7_holdAll 50 rfl) rfl ?_
                        refine r_istore (ls' := [(0, vr 7 k), (1, vi (nI κ)), (2, vi (nI b)), (3, vi (nI (plc v b))), (4, vi (nI 0))]) C (dx dX7_holdAll 51 rfl) (by decide) [1, 2, 3, 4, 0] rfl ?_
                        refine loopU (Φ := fun q => ∀ g9q, MilAt g9q k (vcol (clr v (vP v)) 0 (rnF (clr v (vP v)) (decide (κ = 4)) (vF (clr v (vP v)) 0) (plc v b) q).1) → Kp k h g9q → xK g9q = xK h → Rr G 91 [(0, vr 7 k), (1, vi (nI κ)), (2, vi (nI b)), (3, vi (nI ((rnF (clr v (vP v)) (decide (κ = 4)) (vF (clr v (vP v)) 0) (plc v b) q).2))), (4, vi (nI q))] [] g9q) (N := vP v) ?_ ?_ 0 (Nat.zero_le _) g9p (by show MilAt _ k (vcol (clr v (vP v)) 0 (vF (clr v (vP v)) 0)); rw [vcol_id]; exact mg9p) pg9p kg9p
                        ·
                          intro g9q mg9q pg9q kg9q
                          refine r_iload C (dx dX7_holdAll 52 rfl) rfl ?_
                          refine r_aload_n C (dx dX7_holdAll 53 rfl) rfl ?_
                          refine g_X7_64 (x := nI (vP v)) C (dx dX7_holdAll 54 rfl) mg9q.eP ?_
                          refine rn_ge (a := vP v) (b := vP v) (tgt := 156) C (by omega) (by omega) (dx dX7_holdAll 55 rfl) (by decide) (fun c12 => ?_) (fun c12 => ?_)
                          · first
                            | (omega; done)
                            | (
                                have c12 : vP v ≤ vP v := c12
                                refine r_iconst (v := nI 0) C (dx dX7_holdAll 87 rfl) rfl ?_
                                refine r_istore (ls' := [(0, vr 7 k), (1, vi (nI κ)), (2, vi (nI b)), (3, vi (nI ((rnF (clr v (vP v)) (decide (κ = 4)) (vF (clr v (vP v)) 0) (plc v b) (vP v)).2))), (4, vi (nI 0))]) C (dx dX7_holdAll 88 rfl) (by decide) [1, 2, 3, 4, 0] rfl ?_
                                by_cases h3 : κ = 3
                                ·
                                  refine loopU (Φ := fun z => ∀ g9z, MilAt g9z k (vcol (vcol (clr v (vP v)) 0 (rnF (clr v (vP v)) (decide (κ = 4)) (vF (clr v (vP v)) 0) (plc v b) (vP v)).1) 1 (rsF (vcol (clr v (vP v)) 0 (rnF (clr v (vP v)) (decide (κ = 4)) (vF (clr v (vP v)) 0) (plc v b) (vP v)).1) (vF (clr v (vP v)) 1) (rnF (clr v (vP v)) (decide (κ = 4)) (vF (clr v (vP v)) 0) (plc v b) (vP v)).2 z).1) → Kp k h g9z → xK g9z = xK h → Rr G 159 [(0, vr 7 k), (1, vi (nI κ)), (2, vi (nI b)), (3, vi (nI ((rsF (vcol (clr v (vP v)) 0 (rnF (clr v (vP v)) (decide (κ = 4)) (vF (clr v (vP v)) 0) (plc v b) (vP v)).1) (vF (clr v (vP v)) 1) (rnF (clr v (vP v)) (decide (κ = 4)) (vF (clr v (vP v)) 0) (plc v b) (vP v)).2 z).2))), (4, vi (nI z))] [] g9z) (N := vP v) ?_ ?_ 0 (Nat.zero_le _) g9q (by show MilAt _ k (vcol (vcol (clr v (vP v)) 0 (rnF (clr v (vP v)) (decide (κ = 4)) (vF (clr v (vP v)) 0) (plc v b) (vP v)).1) 1 (vF (vcol (clr v (vP v)) 0 (rnF (clr v (vP v)) (decide (κ = 4)) (vF (clr v (vP v)) 0) (plc v b) (vP v)).1) 1)); rw [vcol_id]; exact mg9q) pg9q kg9q
                                  ·
                                    intro g9z mg9z pg9z kg9z
                                    refine r_iload C (dx dX7_holdAll 89 rfl) rfl ?_
                                    refine r_aload_n C (dx dX7_holdAll 90 rfl) rfl ?_
                                    refine g_X7_64 (x := nI (vP v)) C (dx dX7_holdAll 91 rfl) mg9z.eP ?_
                                    refine rn_ge (a := vP v) (b := vP v) (tgt := 223) C (by omega) (by omega) (dx dX7_holdAll 92 rfl) (by decide) (fun c13 => ?_) (fun c13 => ?_)
                                    · first
                                      | (omega; done)
                                      | (
                                          have c13 : vP v ≤ vP v := c13
                                          have eV : hAR v κ b = vcol (vcol (clr v (vP v)) 0 (rnF (clr v (vP v)) (decide (κ = 4)) (vF (clr v (vP v)) 0) (plc v b) (vP v)).1) 1 (rsF (vcol (clr v (vP v)) 0 (rnF (clr v (vP v)) (decide (κ = 4)) (vF (clr v (vP v)) 0) (plc v b) (vP v)).1) (vF (clr v (vP v)) 1) (rnF (clr v (vP v)) (decide (κ = 4)) (vF (clr v (vP v)) 0) (plc v b) (vP v)).2 (vP v)).1 := by (unfold hAR; rw [if_neg (show ¬ (κ = 1 ∨ κ = 5) by omega), if_pos h3, show decide (κ = 4) = false from decide_eq_false (by omega)])
                                          exact F.2.2.1 _ _ _ rfl (dx dX7_holdAll 124 rfl) kg9z ⟨rfl, by rw [eV]; exact mg9z, pg9z⟩)
                                    · first
                                      | (omega; done)
                                      | (
                                          have c13 : vP v < vP v := c13
                                          refine r_iload_n C (dx dX7_holdAll 93 rfl) rfl ?_
                                          refine r_iconst (v := nI 3) C (dx dX7_holdAll 94 rfl) rfl ?_
                                          refine rn_ne (a := κ) (b := 3) (tgt := 223) C (by omega) (by omega) (dx dX7_holdAll 95 rfl) (by decide) (fun c14 => ?_) (fun c14 => ?_)
                                          ·
                                            have c14 : ¬ κ = 3 := c14
                                            exact absurd h3 c14
                                          · first
                                            | (omega; done))
                                  ·
                                    intro z hz ihz g9z mg9z pg9z kg9z
                                    refine r_iload C (dx dX7_holdAll 89 rfl) rfl ?_
                                    refine r_aload_n C (dx dX7_holdAll 90 rfl) rfl ?_
                                    refine g_X7_64 (x := nI (vP v)) C (dx dX7_holdAll 91 rfl) mg9z.eP ?_
                                    refine rn_ge (a := z) (b := vP v) (tgt := 223) C (by omega) (by omega) (dx dX7_holdAll 92 rfl) (by decide) (fun c17 => ?_) (fun c17 => ?_)
                                    · first
                                      | (omega; done)
                                      | (
                                          have c17 : vP v ≤ z := c17
                                          have eV : hAR v κ b = vcol (vcol (clr v (vP v)) 0 (rnF (clr v (vP v)) (decide (κ = 4)) (vF (clr v (vP v)) 0) (plc v b) (vP v)).1) 1 (rsF (vcol (clr v (vP v)) 0 (rnF (clr v (vP v)) (decide (κ = 4)) (vF (clr v (vP v)) 0) (plc v b) (vP v)).1) (vF (clr v (vP v)) 1) (rnF (clr v (vP v)) (decide (κ = 4)) (vF (clr v (vP v)) 0) (plc v b) (vP v)).2 z).1 := by (unfold hAR; rw [if_neg (show ¬ (κ = 1 ∨ κ = 5) by omega), if_pos h3, show decide (κ = 4) = false from decide_eq_false (by omega)])
                                          exact F.2.2.1 _ _ _ rfl (dx dX7_holdAll 124 rfl) kg9z ⟨rfl, by rw [eV]; exact mg9z, pg9z⟩)
                                    · first
                                      | (omega; done)
                                      | (
                                          have c17 : z < vP v := c17
                                          refine r_iload_n C (dx dX7_holdAll 93 rfl) rfl ?_
                                          refine r_iconst (v := nI 3) C (dx dX7_holdAll 94 rfl) rfl ?_
                                          refine rn_ne (a := κ) (b := 3) (tgt := 223) C (by omega) (by omega) (dx dX7_holdAll 95 rfl) (by decide) (fun c18 => ?_) (fun c18 => ?_)
                                          ·
                                            have c18 : ¬ κ = 3 := c18
                                            exact absurd h3 c18
                                          · first
                                            | (omega; done)
                                            | (
                                                have c18 : κ = 3 := c18
                                                refine r_aload_n C (dx dX7_holdAll 96 rfl) rfl ?_
                                                refine g_X7_43 C (dx dX7_holdAll 97 rfl) ?_
                                                refine r_iload C (dx dX7_holdAll 98 rfl) rfl ?_
                                                refine r_aload_n C (dx dX7_holdAll 99 rfl) rfl ?_
                                                refine r_iload_n C (dx dX7_holdAll 100 rfl) rfl ?_
                                                refine r_aload_n C (dx dX7_holdAll 101 rfl) rfl ?_
                                                refine g_X7_40 C (dx dX7_holdAll 102 rfl) ?_
                                                refine r_iload C (dx dX7_holdAll 103 rfl) rfl ?_
                                                refine r_iald (j := z) (x := vF (vcol (clr v (vP v)) 0 (rnF (clr v (vP v)) (decide (κ = 4)) (vF (clr v (vP v)) 0) (plc v b) (vP v)).1) 0 z) C rfl rfl (by decide) rfl (by omega) (dx dX7_holdAll 104 rfl) (mg9z.e0 (by omega)) ?_
                                                refine r_cvP (as := [vi (nI ((rsF (vcol (clr v (vP v)) 0 (rnF (clr v (vP v)) (decide (κ = 4)) (vF (clr v (vP v)) 0) (plc v b) (vP v)).1) (vF (clr v (vP v)) 1) (rnF (clr v (vP v)) (decide (κ = 4)) (vF (clr v (vP v)) 0) (plc v b) (vP v)).2 z).2)), vi (vF (vcol (clr v (vP v)) 0 (rnF (clr v (vP v)) (decide (κ = 4)) (vF (clr v (vP v)) 0) (plc v b) (vP v)).1) 0 z)]) (st := [vi (nI z), vr 20 (k + 19)]) (v := vi (nwA (vcol (vcol (clr v (vP v)) 0 (rnF (clr v (vP v)) (decide (κ = 4)) (vF (clr v (vP v)) 0) (plc v b) (vP v)).1) 1 (rsF (vcol (clr v (vP v)) 0 (rnF (clr v (vP v)) (decide (κ = 4)) (vF (clr v (vP v)) 0) (plc v b) (vP v)).1) (vF (clr v (vP v)) 1) (rnF (clr v (vP v)) (decide (κ = 4)) (vF (clr v (vP v)) 0) (plc v b) (vP v)).2 z).1) ((rsF (vcol (clr v (vP v)) 0 (rnF (clr v (vP v)) (decide (κ = 4)) (vF (clr v (vP v)) 0) (plc v b) (vP v)).1) (vF (clr v (vP v)) 1) (rnF (clr v (vP v)) (decide (κ = 4)) (vF (clr v (vP v)) 0) (plc v b) (vP v)).2 z).2) (vF (vcol (clr v (vP v)) 0 (rnF (clr v (vP v)) (decide (κ = 4)) (vF (clr v (vP v)) 0) (plc v b) (vP v)).1) 0 z))) C X I_X7_nextWithRoom l_X7_289 (e_nw mg9z (a := (rsF (vcol (clr v (vP v)) 0 (rnF (clr v (vP v)) (decide (κ = 4)) (vF (clr v (vP v)) 0) (plc v b) (vP v)).1) (vF (clr v (vP v)) 1) (rnF (clr v (vP v)) (decide (κ = 4)) (vF (clr v (vP v)) 0) (plc v b) (vP v)).2 z).2) (Nat.lt_trans (rsF_lt _ _ _ (rnF_lt _ _ _ _ hp9 (show vN (clr v (vP v)) ≤ 8 from bN) _) (show vN (vcol (clr v (vP v)) 0 (rnF (clr v (vP v)) (decide (κ = 4)) (vF (clr v (vP v)) 0) (plc v b) (vP v)).1) ≤ 8 from bN) _) (by decide)) (vF (vcol (clr v (vP v)) 0 (rnF (clr v (vP v)) (decide (κ = 4)) (vF (clr v (vP v)) 0) (plc v b) (vP v)).1) 0 z)) (by decide) (Nat.le_of_ble_eq_true rfl) (pfx_eq kg9z) rfl rfl (Nat.le_of_ble_eq_true rfl) rfl (dx dX7_holdAll 105 rfl) ?_
                                                refine r_iast (j := z) C rfl rfl (by decide) rfl (by omega) (dx dX7_holdAll 106 rfl) ?_
                                                have mh19 : MilAt (sI g9z (k + 19) z (nwA (vcol (vcol (clr v (vP v)) 0 (rnF (clr v (vP v)) (decide (κ = 4)) (vF (clr v (vP v)) 0) (plc v b) (vP v)).1) 1 (rsF (vcol (clr v (vP v)) 0 (rnF (clr v (vP v)) (decide (κ = 4)) (vF (clr v (vP v)) 0) (plc v b) (vP v)).1) (vF (clr v (vP v)) 1) (rnF (clr v (vP v)) (decide (κ = 4)) (vF (clr v (vP v)) 0) (plc v b) (vP v)).2 z).1) ((rsF (vcol (clr v (vP v)) 0 (rnF (clr v (vP v)) (decide (κ = 4)) (vF (clr v (vP v)) 0) (plc v b) (vP v)).1) (vF (clr v (vP v)) 1) (rnF (clr v (vP v)) (decide (κ = 4)) (vF (clr v (vP v)) 0) (plc v b) (vP v)).2 z).2) (vF (vcol (clr v (vP v)) 0 (rnF (clr v (vP v)) (decide (κ = 4)) (vF (clr v (vP v)) 0) (plc v b) (vP v)).1) 0 z))) k (vset (vcol (vcol (clr v (vP v)) 0 (rnF (clr v (vP v)) (decide (κ = 4)) (vF (clr v (vP v)) 0) (plc v b) (vP v)).1) 1 (rsF (vcol (clr v (vP v)) 0 (rnF (clr v (vP v)) (decide (κ = 4)) (vF (clr v (vP v)) 0) (plc v b) (vP v)).1) (vF (clr v (vP v)) 1) (rnF (clr v (vP v)) (decide (κ = 4)) (vF (clr v (vP v)) 0) (plc v b) (vP v)).2 z).1) 1 z (nwA (vcol (vcol (clr v (vP v)) 0 (rnF (clr v (vP v)) (decide (κ = 4)) (vF (clr v (vP v)) 0) (plc v b) (vP v)).1) 1 (rsF (vcol (clr v (vP v)) 0 (rnF (clr v (vP v)) (decide (κ = 4)) (vF (clr v (vP v)) 0) (plc v b) (vP v)).1) (vF (clr v (vP v)) 1) (rnF (clr v (vP v)) (decide (κ = 4)) (vF (clr v (vP v)) 0) (plc v b) (vP v)).2 z).1) ((rsF (vcol (clr v (vP v)) 0 (rnF (clr v (vP v)) (decide (κ = 4)) (vF (clr v (vP v)) 0) (plc v b) (vP v)).1) (vF (clr v (vP v)) 1) (rnF (clr v (vP v)) (decide (κ = 4)) (vF (clr v (vP v)) 0) (plc v b) (vP v)).2 z).2) (vF (vcol (clr v (vP v)) 0 (rnF (clr v (vP v)) (decide (κ = 4)) (vF (clr v (vP v)) 0) (plc v b) (vP v)).1) 0 z))) := mg9z.s1
                                                have ph19 : Kp k h (sI g9z (k + 19) z (nwA (vcol (vcol (clr v (vP v)) 0 (rnF (clr v (vP v)) (decide (κ = 4)) (vF (clr v (vP v)) 0) (plc v b) (vP v)).1) 1 (rsF (vcol (clr v (vP v)) 0 (rnF (clr v (vP v)) (decide (κ = 4)) (vF (clr v (vP v)) 0) (plc v b) (vP v)).1) (vF (clr v (vP v)) 1) (rnF (clr v (vP v)) (decide (κ = 4)) (vF (clr v (vP v)) 0) (plc v b) (vP v)).2 z).1) ((rsF (vcol (clr v (vP v)) 0 (rnF (clr v (vP v)) (decide (κ = 4)) (vF (clr v (vP v)) 0) (plc v b) (vP v)).1) (vF (clr v (vP v)) 1) (rnF (clr v (vP v)) (decide (κ = 4)) (vF (clr v (vP v)) 0) (plc v b) (vP v)).2 z).2) (vF (vcol (clr v (vP v)) 0 (rnF (clr v (vP v)) (decide (κ = 4)) (vF (clr v (vP v)) 0) (plc v b) (vP v)).1) 0 z))) := pg9z.tr (Kp.c (by omega) (by omega))
                                                have kh19 : xK (sI g9z (k + 19) z (nwA (vcol (vcol (clr v (vP v)) 0 (rnF (clr v (vP v)) (decide (κ = 4)) (vF (clr v (vP v)) 0) (plc v b) (vP v)).1) 1 (rsF (vcol (clr v (vP v)) 0 (rnF (clr v (vP v)) (decide (κ = 4)) (vF (clr v (vP v)) 0) (plc v b) (vP v)).1) (vF (clr v (vP v)) 1) (rnF (clr v (vP v)) (decide (κ = 4)) (vF (clr v (vP v)) 0) (plc v b) (vP v)).2 z).1) ((rsF (vcol (clr v (vP v)) 0 (rnF (clr v (vP v)) (decide (κ = 4)) (vF (clr v (vP v)) 0) (plc v b) (vP v)).1) (vF (clr v (vP v)) 1) (rnF (clr v (vP v)) (decide (κ = 4)) (vF (clr v (vP v)) 0) (plc v b) (vP v)).2 z).2) (vF (vcol (clr v (vP v)) 0 (rnF (clr v (vP v)) (decide (κ = 4)) (vF (clr v (vP v)) 0) (plc v b) (vP v)).1) 0 z))) = xK h := kg9z
                                                generalize sI g9z (k + 19) z (nwA (vcol (vcol (clr v (vP v)) 0 (rnF (clr v (vP v)) (decide (κ = 4)) (vF (clr v (vP v)) 0) (plc v b) (vP v)).1) 1 (rsF (vcol (clr v (vP v)) 0 (rnF (clr v (vP v)) (decide (κ = 4)) (vF (clr v (vP v)) 0) (plc v b) (vP v)).1) (vF (clr v (vP v)) 1) (rnF (clr v (vP v)) (decide (κ = 4)) (vF (clr v (vP v)) 0) (plc v b) (vP v)).2 z).1) ((rsF (vcol (clr v (vP v)) 0 (rnF (clr v (vP v)) (decide (κ = 4)) (vF (clr v (vP v)) 0) (plc v b) (vP v)).1) (vF (clr v (vP v)) 1) (rnF (clr v (vP v)) (decide (κ = 4)) (vF (clr v (vP v)) 0) (plc v b) (vP v)).2 z).2) (vF (vcol (clr v (vP v)) 0 (rnF (clr v (vP v)) (decide (κ = 4)) (vF (clr v (vP v)) 0) (plc v b) (vP v)).1) 0 z)) = h19 at mh19 ph19 kh19 ⊢
                                                refine r_aload_n C (dx dX7_holdAll 107 rfl) rfl ?_
                                                refine g_X7_43 C (dx dX7_holdAll 108 rfl) ?_
                                                refine r_iload C (dx dX7_holdAll 109 rfl) rfl ?_
                                                refine r_iald (j := z) (x := nwA (vcol (vcol (clr v (vP v)) 0 (rnF (clr v (vP v)) (decide (κ = 4)) (vF (clr v (vP v)) 0) (plc v b) (vP v)).1) 1 (rsF (vcol (clr v (vP v)) 0 (rnF (clr v (vP v)) (decide (κ = 4)) (vF (clr v (vP v)) 0) (plc v b) (vP v)).1) (vF (clr v (vP v)) 1) (rnF (clr v (vP v)) (decide (κ = 4)) (vF (clr v (vP v)) 0) (plc v b) (vP v)).2 z).1) ((rsF (vcol (clr v (vP v)) 0 (rnF (clr v (vP v)) (decide (κ = 4)) (vF (clr v (vP v)) 0) (plc v b) (vP v)).1) (vF (clr v (vP v)) 1) (rnF (clr v (vP v)) (decide (κ = 4)) (vF (clr v (vP v)) 0) (plc v b) (vP v)).2 z).2) (vF (vcol (clr v (vP v)) 0 (rnF (clr v (vP v)) (decide (κ = 4)) (vF (clr v (vP v)) 0) (plc v b) (vP v)).1) 0 z)) C rfl rfl (by decide) rfl (by omega) (dx dX7_holdAll 110 rfl) ((mh19.e1 (by omega)).trans (by simp [vset, vF])) ?_
                                                refine r_iconst (v := -1) C (dx dX7_holdAll 111 rfl) rfl ?_
                                                refine r_icmp_ne (tgt := 207) C (dx dX7_holdAll 112 rfl) (by decide) (fun c20 => ?_) (fun c20 => ?_)
                                                ·
                                                  have c20 : ¬ nwA (vcol (vcol (clr v (vP v)) 0 (rnF (clr v (vP v)) (decide (κ = 4)) (vF (clr v (vP v)) 0) (plc v b) (vP v)).1) 1 (rsF (vcol (clr v (vP v)) 0 (rnF (clr v (vP v)) (decide (κ = 4)) (vF (clr v (vP v)) 0) (plc v b) (vP v)).1) (vF (clr v (vP v)) 1) (rnF (clr v (vP v)) (decide (κ = 4)) (vF (clr v (vP v)) 0) (plc v b) (vP v)).2 z).1) ((rsF (vcol (clr v (vP v)) 0 (rnF (clr v (vP v)) (decide (κ = 4)) (vF (clr v (vP v)) 0) (plc v b) (vP v)).1) (vF (clr v (vP v)) 1) (rnF (clr v (vP v)) (decide (κ = 4)) (vF (clr v (vP v)) 0) (plc v b) (vP v)).2 z).2) (vF (vcol (clr v (vP v)) 0 (rnF (clr v (vP v)) (decide (κ = 4)) (vF (clr v (vP v)) 0) (plc v b) (vP v)).1) 0 z) = -1 := c20
                                                  refine r_aload_n C (dx dX7_holdAll 115 rfl) rfl ?_
                                                  refine g_X7_43 C (dx dX7_holdAll 116 rfl) ?_
                                                  refine r_iload C (dx dX7_holdAll 117 rfl) rfl ?_
                                                  refine r_iald (j := z) (x := nwA (vcol (vcol (clr v (vP v)) 0 (rnF (clr v (vP v)) (decide (κ = 4)) (vF (clr v (vP v)) 0) (plc v b) (vP v)).1) 1 (rsF (vcol (clr v (vP v)) 0 (rnF (clr v (vP v)) (decide (κ = 4)) (vF (clr v (vP v)) 0) (plc v b) (vP v)).1) (vF (clr v (vP v)) 1) (rnF (clr v (vP v)) (decide (κ = 4)) (vF (clr v (vP v)) 0) (plc v b) (vP v)).2 z).1) ((rsF (vcol (clr v (vP v)) 0 (rnF (clr v (vP v)) (decide (κ = 4)) (vF (clr v (vP v)) 0) (plc v b) (vP v)).1) (vF (clr v (vP v)) 1) (rnF (clr v (vP v)) (decide (κ = 4)) (vF (clr v (vP v)) 0) (plc v b) (vP v)).2 z).2) (vF (vcol (clr v (vP v)) 0 (rnF (clr v (vP v)) (decide (κ = 4)) (vF (clr v (vP v)) 0) (plc v b) (vP v)).1) 0 z)) C rfl rfl (by decide) rfl (by omega) (dx dX7_holdAll 118 rfl) ((mh19.e1 (by omega)).trans (by simp [vset, vF])) ?_
                                                  refine r_iconst (v := nI 1) C (dx dX7_holdAll 119 rfl) rfl ?_
                                                  refine r_iadd C (dx dX7_holdAll 120 rfl) ?_
                                                  refine r_istore_n (ls' := [(0, vr 7 k), (1, vi (nI κ)), (2, vi (nI b)), (3, vi ((nwA (vcol (vcol (clr v (vP v)) 0 (rnF (clr v (vP v)) (decide (κ = 4)) (vF (clr v (vP v)) 0) (plc v b) (vP v)).1) 1 (rsF (vcol (clr v (vP v)) 0 (rnF (clr v (vP v)) (decide (κ = 4)) (vF (clr v (vP v)) 0) (plc v b) (vP v)).1) (vF (clr v (vP v)) 1) (rnF (clr v (vP v)) (decide (κ = 4)) (vF (clr v (vP v)) 0) (plc v b) (vP v)).2 z).1) ((rsF (vcol (clr v (vP v)) 0 (rnF (clr v (vP v)) (decide (κ = 4)) (vF (clr v (vP v)) 0) (plc v b) (vP v)).1) (vF (clr v (vP v)) 1) (rnF (clr v (vP v)) (decide (κ = 4)) (vF (clr v (vP v)) 0) (plc v b) (vP v)).2 z).2) (vF (vcol (clr v (vP v)) 0 (rnF (clr v (vP v)) (decide (κ = 4)) (vF (clr v (vP v)) 0) (plc v b) (vP v)).1) 0 z)) + (nI 1))), (4, vi (nI z))]) C (dx dX7_holdAll 121 rfl) (by decide) [1, 2, 3, 0, 4] rfl ?_
                                                  refine rn_iinc (a := z) (k := 1) (ls' := [(0, vr 7 k), (1, vi (nI κ)), (2, vi (nI b)), (3, vi ((nwA (vcol (vcol (clr v (vP v)) 0 (rnF (clr v (vP v)) (decide (κ = 4)) (vF (clr v (vP v)) 0) (plc v b) (vP v)).1) 1 (rsF (vcol (clr v (vP v)) 0 (rnF (clr v (vP v)) (decide (κ = 4)) (vF (clr v (vP v)) 0) (plc v b) (vP v)).1) (vF (clr v (vP v)) 1) (rnF (clr v (vP v)) (decide (κ = 4)) (vF (clr v (vP v)) 0) (plc v b) (vP v)).2 z).1) ((rsF (vcol (clr v (vP v)) 0 (rnF (clr v (vP v)) (decide (κ = 4)) (vF (clr v (vP v)) 0) (plc v b) (vP v)).1) (vF (clr v (vP v)) 1) (rnF (clr v (vP v)) (decide (κ = 4)) (vF (clr v (vP v)) 0) (plc v b) (vP v)).2 z).2) (vF (vcol (clr v (vP v)) 0 (rnF (clr v (vP v)) (decide (κ = 4)) (vF (clr v (vP v)) 0) (plc v b) (vP v)).1) 0 z)) + (nI 1))), (4, vi (nI (z + 1)))]) C (dx dX7_holdAll 122 rfl) rfl rfl (by decide) [1, 2, 3, 4, 0] rfl ?_
                                                  refine r_goto (tgt := 159) C (dx dX7_holdAll 123 rfl) (by decide) ?_
                                                  have ez3 : ((nwA (vcol (vcol (clr v (vP v)) 0 (rnF (clr v (vP v)) (decide (κ = 4)) (vF (clr v (vP v)) 0) (plc v b) (vP v)).1) 1 (rsF (vcol (clr v (vP v)) 0 (rnF (clr v (vP v)) (decide (κ = 4)) (vF (clr v (vP v)) 0) (plc v b) (vP v)).1) (vF (clr v (vP v)) 1) (rnF (clr v (vP v)) (decide (κ = 4)) (vF (clr v (vP v)) 0) (plc v b) (vP v)).2 z).1) ((rsF (vcol (clr v (vP v)) 0 (rnF (clr v (vP v)) (decide (κ = 4)) (vF (clr v (vP v)) 0) (plc v b) (vP v)).1) (vF (clr v (vP v)) 1) (rnF (clr v (vP v)) (decide (κ = 4)) (vF (clr v (vP v)) 0) (plc v b) (vP v)).2 z).2) (vF (vcol (clr v (vP v)) 0 (rnF (clr v (vP v)) (decide (κ = 4)) (vF (clr v (vP v)) 0) (plc v b) (vP v)).1) 0 z)) + (nI 1)) = (nI ((rsF (vcol (clr v (vP v)) 0 (rnF (clr v (vP v)) (decide (κ = 4)) (vF (clr v (vP v)) 0) (plc v b) (vP v)).1) (vF (clr v (vP v)) 1) (rnF (clr v (vP v)) (decide (κ = 4)) (vF (clr v (vP v)) 0) (plc v b) (vP v)).2 (z + 1)).2)) := by ((refine (pl_s (nw_ex2 (vcol (vcol (clr v (vP v)) 0 (rnF (clr v (vP v)) (decide (κ = 4)) (vF (clr v (vP v)) 0) (plc v b) (vP v)).1) 1 (rsF (vcol (clr v (vP v)) 0 (rnF (clr v (vP v)) (decide (κ = 4)) (vF (clr v (vP v)) 0) (plc v b) (vP v)).1) (vF (clr v (vP v)) 1) (rnF (clr v (vP v)) (decide (κ = 4)) (vF (clr v (vP v)) 0) (plc v b) (vP v)).2 z).1) _ _) c20 bN).trans ?_); exact congrArg nI (if_neg c20).symm)
                                                  rw [ez3]
                                                  have fz : (vset (vcol (vcol (clr v (vP v)) 0 (rnF (clr v (vP v)) (decide (κ = 4)) (vF (clr v (vP v)) 0) (plc v b) (vP v)).1) 1 (rsF (vcol (clr v (vP v)) 0 (rnF (clr v (vP v)) (decide (κ = 4)) (vF (clr v (vP v)) 0) (plc v b) (vP v)).1) (vF (clr v (vP v)) 1) (rnF (clr v (vP v)) (decide (κ = 4)) (vF (clr v (vP v)) 0) (plc v b) (vP v)).2 z).1) 1 z (nwA (vcol (vcol (clr v (vP v)) 0 (rnF (clr v (vP v)) (decide (κ = 4)) (vF (clr v (vP v)) 0) (plc v b) (vP v)).1) 1 (rsF (vcol (clr v (vP v)) 0 (rnF (clr v (vP v)) (decide (κ = 4)) (vF (clr v (vP v)) 0) (plc v b) (vP v)).1) (vF (clr v (vP v)) 1) (rnF (clr v (vP v)) (decide (κ = 4)) (vF (clr v (vP v)) 0) (plc v b) (vP v)).2 z).1) ((rsF (vcol (clr v (vP v)) 0 (rnF (clr v (vP v)) (decide (κ = 4)) (vF (clr v (vP v)) 0) (plc v b) (vP v)).1) (vF (clr v (vP v)) 1) (rnF (clr v (vP v)) (decide (κ = 4)) (vF (clr v (vP v)) 0) (plc v b) (vP v)).2 z).2) (vF (vcol (clr v (vP v)) 0 (rnF (clr v (vP v)) (decide (κ = 4)) (vF (clr v (vP v)) 0) (plc v b) (vP v)).1) 0 z))) = (vcol (vcol (clr v (vP v)) 0 (rnF (clr v (vP v)) (decide (κ = 4)) (vF (clr v (vP v)) 0) (plc v b) (vP v)).1) 1 (rsF (vcol (clr v (vP v)) 0 (rnF (clr v (vP v)) (decide (κ = 4)) (vF (clr v (vP v)) 0) (plc v b) (vP v)).1) (vF (clr v (vP v)) 1) (rnF (clr v (vP v)) (decide (κ = 4)) (vF (clr v (vP v)) 0) (plc v b) (vP v)).2 (z + 1)).1) := by exact rs_s
                                                  exact ihz h19 (fz ▸ mh19) ph19 kh19
                                                ·
                                                  have c20 : nwA (vcol (vcol (clr v (vP v)) 0 (rnF (clr v (vP v)) (decide (κ = 4)) (vF (clr v (vP v)) 0) (plc v b) (vP v)).1) 1 (rsF (vcol (clr v (vP v)) 0 (rnF (clr v (vP v)) (decide (κ = 4)) (vF (clr v (vP v)) 0) (plc v b) (vP v)).1) (vF (clr v (vP v)) 1) (rnF (clr v (vP v)) (decide (κ = 4)) (vF (clr v (vP v)) 0) (plc v b) (vP v)).2 z).1) ((rsF (vcol (clr v (vP v)) 0 (rnF (clr v (vP v)) (decide (κ = 4)) (vF (clr v (vP v)) 0) (plc v b) (vP v)).1) (vF (clr v (vP v)) 1) (rnF (clr v (vP v)) (decide (κ = 4)) (vF (clr v (vP v)) 0) (plc v b) (vP v)).2 z).2) (vF (vcol (clr v (vP v)) 0 (rnF (clr v (vP v)) (decide (κ = 4)) (vF (clr v (vP v)) 0) (plc v b) (vP v)).1) 0 z) = -1 := c20
                                                  refine r_iload_n C (dx dX7_holdAll 113 rfl) rfl ?_
                                                  refine r_goto (tgt := 216) C (dx dX7_holdAll 114 rfl) (by decide) ?_
                                                  refine r_istore_n (ls' := [(0, vr 7 k), (1, vi (nI κ)), (2, vi (nI b)), (3, vi (nI ((rsF (vcol (clr v (vP v)) 0 (rnF (clr v (vP v)) (decide (κ = 4)) (vF (clr v (vP v)) 0) (plc v b) (vP v)).1) (vF (clr v (vP v)) 1) (rnF (clr v (vP v)) (decide (κ = 4)) (vF (clr v (vP v)) 0) (plc v b) (vP v)).2 z).2))), (4, vi (nI z))]) C (dx dX7_holdAll 121 rfl) (by decide) [1, 2, 3, 0, 4] rfl ?_
                                                  refine rn_iinc (a := z) (k := 1) (ls' := [(0, vr 7 k), (1, vi (nI κ)), (2, vi (nI b)), (3, vi (nI ((rsF (vcol (clr v (vP v)) 0 (rnF (clr v (vP v)) (decide (κ = 4)) (vF (clr v (vP v)) 0) (plc v b) (vP v)).1) (vF (clr v (vP v)) 1) (rnF (clr v (vP v)) (decide (κ = 4)) (vF (clr v (vP v)) 0) (plc v b) (vP v)).2 z).2))), (4, vi (nI (z + 1)))]) C (dx dX7_holdAll 122 rfl) rfl rfl (by decide) [1, 2, 3, 4, 0] rfl ?_
                                                  refine r_goto (tgt := 159) C (dx dX7_holdAll 123 rfl) (by decide) ?_
                                                  have ez3 : (nI ((rsF (vcol (clr v (vP v)) 0 (rnF (clr v (vP v)) (decide (κ = 4)) (vF (clr v (vP v)) 0) (plc v b) (vP v)).1) (vF (clr v (vP v)) 1) (rnF (clr v (vP v)) (decide (κ = 4)) (vF (clr v (vP v)) 0) (plc v b) (vP v)).2 z).2)) = (nI ((rsF (vcol (clr v (vP v)) 0 (rnF (clr v (vP v)) (decide (κ = 4)) (vF (clr v (vP v)) 0) (plc v b) (vP v)).1) (vF (clr v (vP v)) 1) (rnF (clr v (vP v)) (decide (κ = 4)) (vF (clr v (vP v)) 0) (plc v b) (vP v)).2 (z + 1)).2)) := by exact congrArg nI (if_pos c20).symm
                                                  rw [ez3]
                                                  have fz : (vset (vcol (vcol (clr v (vP v)) 0 (rnF (clr v (vP v)) (decide (κ = 4)) (vF (clr v (vP v)) 0) (plc v b) (vP v)).1) 1 (rsF (vcol (clr v (vP v)) 0 (rnF (clr v (vP v)) (decide (κ = 4)) (vF (clr v (vP v)) 0) (plc v b) (vP v)).1) (vF (clr v (vP v)) 1) (rnF (clr v (vP v)) (decide (κ = 4)) (vF (clr v (vP v)) 0) (plc v b) (vP v)).2 z).1) 1 z (nwA (vcol (vcol (clr v (vP v)) 0 (rnF (clr v (vP v)) (decide (κ = 4)) (vF (clr v (vP v)) 0) (plc v b) (vP v)).1) 1 (rsF (vcol (clr v (vP v)) 0 (rnF (clr v (vP v)) (decide (κ = 4)) (vF (clr v (vP v)) 0) (plc v b) (vP v)).1) (vF (clr v (vP v)) 1) (rnF (clr v (vP v)) (decide (κ = 4)) (vF (clr v (vP v)) 0) (plc v b) (vP v)).2 z).1) ((rsF (vcol (clr v (vP v)) 0 (rnF (clr v (vP v)) (decide (κ = 4)) (vF (clr v (vP v)) 0) (plc v b) (vP v)).1) (vF (clr v (vP v)) 1) (rnF (clr v (vP v)) (decide (κ = 4)) (vF (clr v (vP v)) 0) (plc v b) (vP v)).2 z).2) (vF (vcol (clr v (vP v)) 0 (rnF (clr v (vP v)) (decide (κ = 4)) (vF (clr v (vP v)) 0) (plc v b) (vP v)).1) 0 z))) = (vcol (vcol (clr v (vP v)) 0 (rnF (clr v (vP v)) (decide (κ = 4)) (vF (clr v (vP v)) 0) (plc v b) (vP v)).1) 1 (rsF (vcol (clr v (vP v)) 0 (rnF (clr v (vP v)) (decide (κ = 4)) (vF (clr v (vP v)) 0) (plc v b) (vP v)).1) (vF (clr v (vP v)) 1) (rnF (clr v (vP v)) (decide (κ = 4)) (vF (clr v (vP v)) 0) (plc v b) (vP v)).2 (z + 1)).1) := by exact rs_s
                                                  exact ihz h19 (fz ▸ mh19) ph19 kh19))
                                ·
                                  refine r_iload C (dx dX7_holdAll 89 rfl) rfl ?_
                                  refine r_aload_n C (dx dX7_holdAll 90 rfl) rfl ?_
                                  refine g_X7_64 (x := nI (vP v)) C (dx dX7_holdAll 91 rfl) mg9q.eP ?_
                                  refine rn_ge (a := 0) (b := vP v) (tgt := 223) C (by omega) (by omega) (dx dX7_holdAll 92 rfl) (by decide) (fun c21 => ?_) (fun c21 => ?_)
                                  · first
                                    | (omega; done)
                                    | (
                                        have c21 : vP v ≤ 0 := c21
                                        have eV : hAR v κ b = vcol (clr v (vP v)) 0 (rnF (clr v (vP v)) (decide (κ = 4)) (vF (clr v (vP v)) 0) (plc v b) (vP v)).1 := by (unfold hAR; rw [if_neg (show ¬ (κ = 1 ∨ κ = 5) by omega), if_neg h3])
                                        exact F.2.2.1 _ _ _ rfl (dx dX7_holdAll 124 rfl) kg9q ⟨rfl, by rw [eV]; exact mg9q, pg9q⟩)
                                  · first
                                    | (omega; done)
                                    | (
                                        have c21 : 0 < vP v := c21
                                        refine r_iload_n C (dx dX7_holdAll 93 rfl) rfl ?_
                                        refine r_iconst (v := nI 3) C (dx dX7_holdAll 94 rfl) rfl ?_
                                        refine rn_ne (a := κ) (b := 3) (tgt := 223) C (by omega) (by omega) (dx dX7_holdAll 95 rfl) (by decide) (fun c22 => ?_) (fun c22 => ?_)
                                        · first
                                          | (omega; done)
                                          | (
                                              have c22 : ¬ κ = 3 := c22
                                              have eV : hAR v κ b = vcol (clr v (vP v)) 0 (rnF (clr v (vP v)) (decide (κ = 4)) (vF (clr v (vP v)) 0) (plc v b) (vP v)).1 := by (unfold hAR; rw [if_neg (show ¬ (κ = 1 ∨ κ = 5) by omega), if_neg h3])
                                              exact F.2.2.1 _ _ _ rfl (dx dX7_holdAll 124 rfl) kg9q ⟨rfl, by rw [eV]; exact mg9q, pg9q⟩)
                                        ·
                                          have c22 : κ = 3 := c22
                                          exact absurd c22 h3))
                          · first
                            | (omega; done)
                            | (
                                have c12 : vP v < vP v := c12
                                refine r_aload_n C (dx dX7_holdAll 56 rfl) rfl ?_
                                refine g_X7_40 C (dx dX7_holdAll 57 rfl) ?_
                                refine r_iload C (dx dX7_holdAll 58 rfl) rfl ?_
                                refine r_iload_n C (dx dX7_holdAll 59 rfl) rfl ?_
                                refine r_iconst (v := nI 4) C (dx dX7_holdAll 60 rfl) rfl ?_
                                refine rn_ne (a := κ) (b := 4) (tgt := 118) C (by omega) (by omega) (dx dX7_holdAll 61 rfl) (by decide) (fun c23 => ?_) (fun c23 => ?_)
                                · first
                                  | (omega; done)
                                · first
                                  | (omega; done))
                        ·
                          intro q hq ihq g9q mg9q pg9q kg9q
                          refine r_iload C (dx dX7_holdAll 52 rfl) rfl ?_
                          refine r_aload_n C (dx dX7_holdAll 53 rfl) rfl ?_
                          refine g_X7_64 (x := nI (vP v)) C (dx dX7_holdAll 54 rfl) mg9q.eP ?_
                          refine rn_ge (a := q) (b := vP v) (tgt := 156) C (by omega) (by omega) (dx dX7_holdAll 55 rfl) (by decide) (fun c28 => ?_) (fun c28 => ?_)
                          · first
                            | (omega; done)
                            | (
                                have c28 : vP v ≤ q := c28
                                refine r_iconst (v := nI 0) C (dx dX7_holdAll 87 rfl) rfl ?_
                                refine r_istore (ls' := [(0, vr 7 k), (1, vi (nI κ)), (2, vi (nI b)), (3, vi (nI ((rnF (clr v (vP v)) (decide (κ = 4)) (vF (clr v (vP v)) 0) (plc v b) q).2))), (4, vi (nI 0))]) C (dx dX7_holdAll 88 rfl) (by decide) [1, 2, 3, 4, 0] rfl ?_
                                by_cases h3 : κ = 3
                                ·
                                  refine loopU (Φ := fun z => ∀ g9z, MilAt g9z k (vcol (vcol (clr v (vP v)) 0 (rnF (clr v (vP v)) (decide (κ = 4)) (vF (clr v (vP v)) 0) (plc v b) (vP v)).1) 1 (rsF (vcol (clr v (vP v)) 0 (rnF (clr v (vP v)) (decide (κ = 4)) (vF (clr v (vP v)) 0) (plc v b) (vP v)).1) (vF (clr v (vP v)) 1) (rnF (clr v (vP v)) (decide (κ = 4)) (vF (clr v (vP v)) 0) (plc v b) (vP v)).2 z).1) → Kp k h g9z → xK g9z = xK h → Rr G 159 [(0, vr 7 k), (1, vi (nI κ)), (2, vi (nI b)), (3, vi (nI ((rsF (vcol (clr v (vP v)) 0 (rnF (clr v (vP v)) (decide (κ = 4)) (vF (clr v (vP v)) 0) (plc v b) (vP v)).1) (vF (clr v (vP v)) 1) (rnF (clr v (vP v)) (decide (κ = 4)) (vF (clr v (vP v)) 0) (plc v b) (vP v)).2 z).2))), (4, vi (nI z))] [] g9z) (N := vP v) ?_ ?_ 0 (Nat.zero_le _) g9q (by show MilAt _ k (vcol (vcol (clr v (vP v)) 0 (rnF (clr v (vP v)) (decide (κ = 4)) (vF (clr v (vP v)) 0) (plc v b) (vP v)).1) 1 (vF (vcol (clr v (vP v)) 0 (rnF (clr v (vP v)) (decide (κ = 4)) (vF (clr v (vP v)) 0) (plc v b) (vP v)).1) 1)); rw [vcol_id]; exact mg9q) pg9q kg9q
                                  ·
                                    intro g9z mg9z pg9z kg9z
                                    refine r_iload C (dx dX7_holdAll 89 rfl) rfl ?_
                                    refine r_aload_n C (dx dX7_holdAll 90 rfl) rfl ?_
                                    refine g_X7_64 (x := nI (vP v)) C (dx dX7_holdAll 91 rfl) mg9z.eP ?_
                                    refine rn_ge (a := vP v) (b := vP v) (tgt := 223) C (by omega) (by omega) (dx dX7_holdAll 92 rfl) (by decide) (fun c29 => ?_) (fun c29 => ?_)
                                    · first
                                      | (omega; done)
                                      | (
                                          have c29 : vP v ≤ vP v := c29
                                          have eV : hAR v κ b = vcol (vcol (clr v (vP v)) 0 (rnF (clr v (vP v)) (decide (κ = 4)) (vF (clr v (vP v)) 0) (plc v b) (vP v)).1) 1 (rsF (vcol (clr v (vP v)) 0 (rnF (clr v (vP v)) (decide (κ = 4)) (vF (clr v (vP v)) 0) (plc v b) (vP v)).1) (vF (clr v (vP v)) 1) (rnF (clr v (vP v)) (decide (κ = 4)) (vF (clr v (vP v)) 0) (plc v b) (vP v)).2 (vP v)).1 := by (unfold hAR; rw [if_neg (show ¬ (κ = 1 ∨ κ = 5) by omega), if_pos h3, show decide (κ = 4) = false from decide_eq_false (by omega)])
                                          exact F.2.2.1 _ _ _ rfl (dx dX7_holdAll 124 rfl) kg9z ⟨rfl, by rw [eV]; exact mg9z, pg9z⟩)
                                    · first
                                      | (omega; done)
                                      | (
                                          have c29 : vP v < vP v := c29
                                          refine r_iload_n C (dx dX7_holdAll 93 rfl) rfl ?_
                                          refine r_iconst (v := nI 3) C (dx dX7_holdAll 94 rfl) rfl ?_
                                          refine rn_ne (a := κ) (b := 3) (tgt := 223) C (by omega) (by omega) (dx dX7_holdAll 95 rfl) (by decide) (fun c30 => ?_) (fun c30 => ?_)
                                          ·
                                            have c30 : ¬ κ = 3 := c30
                                            exact absurd h3 c30
                                          · first
                                            | (omega; done))
                                  ·
                                    intro z hz ihz g9z mg9z pg9z kg9z
                                    refine r_iload C (dx dX7_holdAll 89 rfl) rfl ?_
                                    refine r_aload_n C (dx dX7_holdAll 90 rfl) rfl ?_
                                    refine g_X7_64 (x := nI (vP v)) C (dx dX7_holdAll 91 rfl) mg9z.eP ?_
                                    refine rn_ge (a := z) (b := vP v) (tgt := 223) C (by omega) (by omega) (dx dX7_holdAll 92 rfl) (by decide) (fun c33 => ?_) (fun c33 => ?_)
                                    · first
                                      | (omega; done)
                                      | (
                                          have c33 : vP v ≤ z := c33
                                          have eV : hAR v κ b = vcol (vcol (clr v (vP v)) 0 (rnF (clr v (vP v)) (decide (κ = 4)) (vF (clr v (vP v)) 0) (plc v b) (vP v)).1) 1 (rsF (vcol (clr v (vP v)) 0 (rnF (clr v (vP v)) (decide (κ = 4)) (vF (clr v (vP v)) 0) (plc v b) (vP v)).1) (vF (clr v (vP v)) 1) (rnF (clr v (vP v)) (decide (κ = 4)) (vF (clr v (vP v)) 0) (plc v b) (vP v)).2 z).1 := by (unfold hAR; rw [if_neg (show ¬ (κ = 1 ∨ κ = 5) by omega), if_pos h3, show decide (κ = 4) = false from decide_eq_false (by omega)])
                                          exact F.2.2.1 _ _ _ rfl (dx dX7_holdAll 124 rfl) kg9z ⟨rfl, by rw [eV]; exact mg9z, pg9z⟩)
                                    · first
                                      | (omega; done)
                                      | (
                                          have c33 : z < vP v := c33
                                          refine r_iload_n C (dx dX7_holdAll 93 rfl) rfl ?_
                                          refine r_iconst (v := nI 3) C (dx dX7_holdAll 94 rfl) rfl ?_
                                          refine rn_ne (a := κ) (b := 3) (tgt := 223) C (by omega) (by omega) (dx dX7_holdAll 95 rfl) (by decide) (fun c34 => ?_) (fun c34 => ?_)
                                          ·
                                            have c34 : ¬ κ = 3 := c34
                                            exact absurd h3 c34
                                          · first
                                            | (omega; done)
                                            | (
                                                have c34 : κ = 3 := c34
                                                refine r_aload_n C (dx dX7_holdAll 96 rfl) rfl ?_
                                                refine g_X7_43 C (dx dX7_holdAll 97 rfl) ?_
                                                refine r_iload C (dx dX7_holdAll 98 rfl) rfl ?_
                                                refine r_aload_n C (dx dX7_holdAll 99 rfl) rfl ?_
                                                refine r_iload_n C (dx dX7_holdAll 100 rfl) rfl ?_
                                                refine r_aload_n C (dx dX7_holdAll 101 rfl) rfl ?_
                                                refine g_X7_40 C (dx dX7_holdAll 102 rfl) ?_
                                                refine r_iload C (dx dX7_holdAll 103 rfl) rfl ?_
                                                refine r_iald (j := z) (x := vF (vcol (clr v (vP v)) 0 (rnF (clr v (vP v)) (decide (κ = 4)) (vF (clr v (vP v)) 0) (plc v b) (vP v)).1) 0 z) C rfl rfl (by decide) rfl (by omega) (dx dX7_holdAll 104 rfl) (mg9z.e0 (by omega)) ?_
                                                refine r_cvP (as := [vi (nI ((rsF (vcol (clr v (vP v)) 0 (rnF (clr v (vP v)) (decide (κ = 4)) (vF (clr v (vP v)) 0) (plc v b) (vP v)).1) (vF (clr v (vP v)) 1) (rnF (clr v (vP v)) (decide (κ = 4)) (vF (clr v (vP v)) 0) (plc v b) (vP v)).2 z).2)), vi (vF (vcol (clr v (vP v)) 0 (rnF (clr v (vP v)) (decide (κ = 4)) (vF (clr v (vP v)) 0) (plc v b) (vP v)).1) 0 z)]) (st := [vi (nI z), vr 20 (k + 19)]) (v := vi (nwA (vcol (vcol (clr v (vP v)) 0 (rnF (clr v (vP v)) (decide (κ = 4)) (vF (clr v (vP v)) 0) (plc v b) (vP v)).1) 1 (rsF (vcol (clr v (vP v)) 0 (rnF (clr v (vP v)) (decide (κ = 4)) (vF (clr v (vP v)) 0) (plc v b) (vP v)).1) (vF (clr v (vP v)) 1) (rnF (clr v (vP v)) (decide (κ = 4)) (vF (clr v (vP v)) 0) (plc v b) (vP v)).2 z).1) ((rsF (vcol (clr v (vP v)) 0 (rnF (clr v (vP v)) (decide (κ = 4)) (vF (clr v (vP v)) 0) (plc v b) (vP v)).1) (vF (clr v (vP v)) 1) (rnF (clr v (vP v)) (decide (κ = 4)) (vF (clr v (vP v)) 0) (plc v b) (vP v)).2 z).2) (vF (vcol (clr v (vP v)) 0 (rnF (clr v (vP v)) (decide (κ = 4)) (vF (clr v (vP v)) 0) (plc v b) (vP v)).1) 0 z))) C X I_X7_nextWithRoom l_X7_289 (e_nw mg9z (a := (rsF (vcol (clr v (vP v)) 0 (rnF (clr v (vP v)) (decide (κ = 4)) (vF (clr v (vP v)) 0) (plc v b) (vP v)).1) (vF (clr v (vP v)) 1) (rnF (clr v (vP v)) (decide (κ = 4)) (vF (clr v (vP v)) 0) (plc v b) (vP v)).2 z).2) (Nat.lt_trans (rsF_lt _ _ _ (rnF_lt _ _ _ _ hp9 (show vN (clr v (vP v)) ≤ 8 from bN) _) (show vN (vcol (clr v (vP v)) 0 (rnF (clr v (vP v)) (decide (κ = 4)) (vF (clr v (vP v)) 0) (plc v b) (vP v)).1) ≤ 8 from bN) _) (by decide)) (vF (vcol (clr v (vP v)) 0 (rnF (clr v (vP v)) (decide (κ = 4)) (vF (clr v (vP v)) 0) (plc v b) (vP v)).1) 0 z)) (by decide) (Nat.le_of_ble_eq_true rfl) (pfx_eq kg9z) rfl rfl (Nat.le_of_ble_eq_true rfl) rfl (dx dX7_holdAll 105 rfl) ?_
                                                refine r_iast (j := z) C rfl rfl (by decide) rfl (by omega) (dx dX7_holdAll 106 rfl) ?_
                                                have mh35 : MilAt (sI g9z (k + 19) z (nwA (vcol (vcol (clr v (vP v)) 0 (rnF (clr v (vP v)) (decide (κ = 4)) (vF (clr v (vP v)) 0) (plc v b) (vP v)).1) 1 (rsF (vcol (clr v (vP v)) 0 (rnF (clr v (vP v)) (decide (κ = 4)) (vF (clr v (vP v)) 0) (plc v b) (vP v)).1) (vF (clr v (vP v)) 1) (rnF (clr v (vP v)) (decide (κ = 4)) (vF (clr v (vP v)) 0) (plc v b) (vP v)).2 z).1) ((rsF (vcol (clr v (vP v)) 0 (rnF (clr v (vP v)) (decide (κ = 4)) (vF (clr v (vP v)) 0) (plc v b) (vP v)).1) (vF (clr v (vP v)) 1) (rnF (clr v (vP v)) (decide (κ = 4)) (vF (clr v (vP v)) 0) (plc v b) (vP v)).2 z).2) (vF (vcol (clr v (vP v)) 0 (rnF (clr v (vP v)) (decide (κ = 4)) (vF (clr v (vP v)) 0) (plc v b) (vP v)).1) 0 z))) k (vset (vcol (vcol (clr v (vP v)) 0 (rnF (clr v (vP v)) (decide (κ = 4)) (vF (clr v (vP v)) 0) (plc v b) (vP v)).1) 1 (rsF (vcol (clr v (vP v)) 0 (rnF (clr v (vP v)) (decide (κ = 4)) (vF (clr v (vP v)) 0) (plc v b) (vP v)).1) (vF (clr v (vP v)) 1) (rnF (clr v (vP v)) (decide (κ = 4)) (vF (clr v (vP v)) 0) (plc v b) (vP v)).2 z).1) 1 z (nwA (vcol (vcol (clr v (vP v)) 0 (rnF (clr v (vP v)) (decide (κ = 4)) (vF (clr v (vP v)) 0) (plc v b) (vP v)).1) 1 (rsF (vcol (clr v (vP v)) 0 (rnF (clr v (vP v)) (decide (κ = 4)) (vF (clr v (vP v)) 0) (plc v b) (vP v)).1) (vF (clr v (vP v)) 1) (rnF (clr v (vP v)) (decide (κ = 4)) (vF (clr v (vP v)) 0) (plc v b) (vP v)).2 z).1) ((rsF (vcol (clr v (vP v)) 0 (rnF (clr v (vP v)) (decide (κ = 4)) (vF (clr v (vP v)) 0) (plc v b) (vP v)).1) (vF (clr v (vP v)) 1) (rnF (clr v (vP v)) (decide (κ = 4)) (vF (clr v (vP v)) 0) (plc v b) (vP v)).2 z).2) (vF (vcol (clr v (vP v)) 0 (rnF (clr v (vP v)) (decide (κ = 4)) (vF (clr v (vP v)) 0) (plc v b) (vP v)).1) 0 z))) := mg9z.s1
                                                have ph35 : Kp k h (sI g9z (k + 19) z (nwA (vcol (vcol (clr v (vP v)) 0 (rnF (clr v (vP v)) (decide (κ = 4)) (vF (clr v (vP v)) 0) (plc v b) (vP v)).1) 1 (rsF (vcol (clr v (vP v)) 0 (rnF (clr v (vP v)) (decide (κ = 4)) (vF (clr v (vP v)) 0) (plc v b) (vP v)).1) (vF (clr v (vP v)) 1) (rnF (clr v (vP v)) (decide (κ = 4)) (vF (clr v (vP v)) 0) (plc v b) (vP v)).2 z).1) ((rsF (vcol (clr v (vP v)) 0 (rnF (clr v (vP v)) (decide (κ = 4)) (vF (clr v (vP v)) 0) (plc v b) (vP v)).1) (vF (clr v (vP v)) 1) (rnF (clr v (vP v)) (decide (κ = 4)) (vF (clr v (vP v)) 0) (plc v b) (vP v)).2 z).2) (vF (vcol (clr v (vP v)) 0 (rnF (clr v (vP v)) (decide (κ = 4)) (vF (clr v (vP v)) 0) (plc v b) (vP v)).1) 0 z))) := pg9z.tr (Kp.c (by omega) (by omega))
                                                have kh35 : xK (sI g9z (k + 19) z (nwA (vcol (vcol (clr v (vP v)) 0 (rnF (clr v (vP v)) (decide (κ = 4)) (vF (clr v (vP v)) 0) (plc v b) (vP v)).1) 1 (rsF (vcol (clr v (vP v)) 0 (rnF (clr v (vP v)) (decide (κ = 4)) (vF (clr v (vP v)) 0) (plc v b) (vP v)).1) (vF (clr v (vP v)) 1) (rnF (clr v (vP v)) (decide (κ = 4)) (vF (clr v (vP v)) 0) (plc v b) (vP v)).2 z).1) ((rsF (vcol (clr v (vP v)) 0 (rnF (clr v (vP v)) (decide (κ = 4)) (vF (clr v (vP v)) 0) (plc v b) (vP v)).1) (vF (clr v (vP v)) 1) (rnF (clr v (vP v)) (decide (κ = 4)) (vF (clr v (vP v)) 0) (plc v b) (vP v)).2 z).2) (vF (vcol (clr v (vP v)) 0 (rnF (clr v (vP v)) (decide (κ = 4)) (vF (clr v (vP v)) 0) (plc v b) (vP v)).1) 0 z))) = xK h := kg9z
                                                generalize sI g9z (k + 19) z (nwA (vcol (vcol (clr v (vP v)) 0 (rnF (clr v (vP v)) (decide (κ = 4)) (vF (clr v (vP v)) 0) (plc v b) (vP v)).1) 1 (rsF (vcol (clr v (vP v)) 0 (rnF (clr v (vP v)) (decide (κ = 4)) (vF (clr v (vP v)) 0) (plc v b) (vP v)).1) (vF (clr v (vP v)) 1) (rnF (clr v (vP v)) (decide (κ = 4)) (vF (clr v (vP v)) 0) (plc v b) (vP v)).2 z).1) ((rsF (vcol (clr v (vP v)) 0 (rnF (clr v (vP v)) (decide (κ = 4)) (vF (clr v (vP v)) 0) (plc v b) (vP v)).1) (vF (clr v (vP v)) 1) (rnF (clr v (vP v)) (decide (κ = 4)) (vF (clr v (vP v)) 0) (plc v b) (vP v)).2 z).2) (vF (vcol (clr v (vP v)) 0 (rnF (clr v (vP v)) (decide (κ = 4)) (vF (clr v (vP v)) 0) (plc v b) (vP v)).1) 0 z)) = h35 at mh35 ph35 kh35 ⊢
                                                refine r_aload_n C (dx dX7_holdAll 107 rfl) rfl ?_
                                                refine g_X7_43 C (dx dX7_holdAll 108 rfl) ?_
                                                refine r_iload C (dx dX7_holdAll 109 rfl) rfl ?_
                                                refine r_iald (j := z) (x := nwA (vcol (vcol (clr v (vP v)) 0 (rnF (clr v (vP v)) (decide (κ = 4)) (vF (clr v (vP v)) 0) (plc v b) (vP v)).1) 1 (rsF (vcol (clr v (vP v)) 0 (rnF (clr v (vP v)) (decide (κ = 4)) (vF (clr v (vP v)) 0) (plc v b) (vP v)).1) (vF (clr v (vP v)) 1) (rnF (clr v (vP v)) (decide (κ = 4)) (vF (clr v (vP v)) 0) (plc v b) (vP v)).2 z).1) ((rsF (vcol (clr v (vP v)) 0 (rnF (clr v (vP v)) (decide (κ = 4)) (vF (clr v (vP v)) 0) (plc v b) (vP v)).1) (vF (clr v (vP v)) 1) (rnF (clr v (vP v)) (decide (κ = 4)) (vF (clr v (vP v)) 0) (plc v b) (vP v)).2 z).2) (vF (vcol (clr v (vP v)) 0 (rnF (clr v (vP v)) (decide (κ = 4)) (vF (clr v (vP v)) 0) (plc v b) (vP v)).1) 0 z)) C rfl rfl (by decide) rfl (by omega) (dx dX7_holdAll 110 rfl) ((mh35.e1 (by omega)).trans (by simp [vset, vF])) ?_
                                                refine r_iconst (v := -1) C (dx dX7_holdAll 111 rfl) rfl ?_
                                                refine r_icmp_ne (tgt := 207) C (dx dX7_holdAll 112 rfl) (by decide) (fun c36 => ?_) (fun c36 => ?_)
                                                ·
                                                  have c36 : ¬ nwA (vcol (vcol (clr v (vP v)) 0 (rnF (clr v (vP v)) (decide (κ = 4)) (vF (clr v (vP v)) 0) (plc v b) (vP v)).1) 1 (rsF (vcol (clr v (vP v)) 0 (rnF (clr v (vP v)) (decide (κ = 4)) (vF (clr v (vP v)) 0) (plc v b) (vP v)).1) (vF (clr v (vP v)) 1) (rnF (clr v (vP v)) (decide (κ = 4)) (vF (clr v (vP v)) 0) (plc v b) (vP v)).2 z).1) ((rsF (vcol (clr v (vP v)) 0 (rnF (clr v (vP v)) (decide (κ = 4)) (vF (clr v (vP v)) 0) (plc v b) (vP v)).1) (vF (clr v (vP v)) 1) (rnF (clr v (vP v)) (decide (κ = 4)) (vF (clr v (vP v)) 0) (plc v b) (vP v)).2 z).2) (vF (vcol (clr v (vP v)) 0 (rnF (clr v (vP v)) (decide (κ = 4)) (vF (clr v (vP v)) 0) (plc v b) (vP v)).1) 0 z) = -1 := c36
                                                  refine r_aload_n C (dx dX7_holdAll 115 rfl) rfl ?_
                                                  refine g_X7_43 C (dx dX7_holdAll 116 rfl) ?_
                                                  refine r_iload C (dx dX7_holdAll 117 rfl) rfl ?_
                                                  refine r_iald (j := z) (x := nwA (vcol (vcol (clr v (vP v)) 0 (rnF (clr v (vP v)) (decide (κ = 4)) (vF (clr v (vP v)) 0) (plc v b) (vP v)).1) 1 (rsF (vcol (clr v (vP v)) 0 (rnF (clr v (vP v)) (decide (κ = 4)) (vF (clr v (vP v)) 0) (plc v b) (vP v)).1) (vF (clr v (vP v)) 1) (rnF (clr v (vP v)) (decide (κ = 4)) (vF (clr v (vP v)) 0) (plc v b) (vP v)).2 z).1) ((rsF (vcol (clr v (vP v)) 0 (rnF (clr v (vP v)) (decide (κ = 4)) (vF (clr v (vP v)) 0) (plc v b) (vP v)).1) (vF (clr v (vP v)) 1) (rnF (clr v (vP v)) (decide (κ = 4)) (vF (clr v (vP v)) 0) (plc v b) (vP v)).2 z).2) (vF (vcol (clr v (vP v)) 0 (rnF (clr v (vP v)) (decide (κ = 4)) (vF (clr v (vP v)) 0) (plc v b) (vP v)).1) 0 z)) C rfl rfl (by decide) rfl (by omega) (dx dX7_holdAll 118 rfl) ((mh35.e1 (by omega)).trans (by simp [vset, vF])) ?_
                                                  refine r_iconst (v := nI 1) C (dx dX7_holdAll 119 rfl) rfl ?_
                                                  refine r_iadd C (dx dX7_holdAll 120 rfl) ?_
                                                  refine r_istore_n (ls' := [(0, vr 7 k), (1, vi (nI κ)), (2, vi (nI b)), (3, vi ((nwA (vcol (vcol (clr v (vP v)) 0 (rnF (clr v (vP v)) (decide (κ = 4)) (vF (clr v (vP v)) 0) (plc v b) (vP v)).1) 1 (rsF (vcol (clr v (vP v)) 0 (rnF (clr v (vP v)) (decide (κ = 4)) (vF (clr v (vP v)) 0) (plc v b) (vP v)).1) (vF (clr v (vP v)) 1) (rnF (clr v (vP v)) (decide (κ = 4)) (vF (clr v (vP v)) 0) (plc v b) (vP v)).2 z).1) ((rsF (vcol (clr v (vP v)) 0 (rnF (clr v (vP v)) (decide (κ = 4)) (vF (clr v (vP v)) 0) (plc v b) (vP v)).1) (vF (clr v (vP v)) 1) (rnF (clr v (vP v)) (decide (κ = 4)) (vF (clr v (vP v)) 0) (plc v b) (vP v)).2 z).2) (vF (vcol (clr v (vP v)) 0 (rnF (clr v (vP v)) (decide (κ = 4)) (vF (clr v (vP v)) 0) (plc v b) (vP v)).1) 0 z)) + (nI 1))), (4, vi (nI z))]) C (dx dX7_holdAll 121 rfl) (by decide) [1, 2, 3, 0, 4] rfl ?_
                                                  refine rn_iinc (a := z) (k := 1) (ls' := [(0, vr 7 k), (1, vi (nI κ)), (2, vi (nI b)), (3, vi ((nwA (vcol (vcol (clr v (vP v)) 0 (rnF (clr v (vP v)) (decide (κ = 4)) (vF (clr v (vP v)) 0) (plc v b) (vP v)).1) 1 (rsF (vcol (clr v (vP v)) 0 (rnF (clr v (vP v)) (decide (κ = 4)) (vF (clr v (vP v)) 0) (plc v b) (vP v)).1) (vF (clr v (vP v)) 1) (rnF (clr v (vP v)) (decide (κ = 4)) (vF (clr v (vP v)) 0) (plc v b) (vP v)).2 z).1) ((rsF (vcol (clr v (vP v)) 0 (rnF (clr v (vP v)) (decide (κ = 4)) (vF (clr v (vP v)) 0) (plc v b) (vP v)).1) (vF (clr v (vP v)) 1) (rnF (clr v (vP v)) (decide (κ = 4)) (vF (clr v (vP v)) 0) (plc v b) (vP v)).2 z).2) (vF (vcol (clr v (vP v)) 0 (rnF (clr v (vP v)) (decide (κ = 4)) (vF (clr v (vP v)) 0) (plc v b) (vP v)).1) 0 z)) + (nI 1))), (4, vi (nI (z + 1)))]) C (dx dX7_holdAll 122 rfl) rfl rfl (by decide) [1, 2, 3, 4, 0] rfl ?_
                                                  refine r_goto (tgt := 159) C (dx dX7_holdAll 123 rfl) (by decide) ?_
                                                  have ez3 : ((nwA (vcol (vcol (clr v (vP v)) 0 (rnF (clr v (vP v)) (decide (κ = 4)) (vF (clr v (vP v)) 0) (plc v b) (vP v)).1) 1 (rsF (vcol (clr v (vP v)) 0 (rnF (clr v (vP v)) (decide (κ = 4)) (vF (clr v (vP v)) 0) (plc v b) (vP v)).1) (vF (clr v (vP v)) 1) (rnF (clr v (vP v)) (decide (κ = 4)) (vF (clr v (vP v)) 0) (plc v b) (vP v)).2 z).1) ((rsF (vcol (clr v (vP v)) 0 (rnF (clr v (vP v)) (decide (κ = 4)) (vF (clr v (vP v)) 0) (plc v b) (vP v)).1) (vF (clr v (vP v)) 1) (rnF (clr v (vP v)) (decide (κ = 4)) (vF (clr v (vP v)) 0) (plc v b) (vP v)).2 z).2) (vF (vcol (clr v (vP v)) 0 (rnF (clr v (vP v)) (decide (κ = 4)) (vF (clr v (vP v)) 0) (plc v b) (vP v)).1) 0 z)) + (nI 1)) = (nI ((rsF (vcol (clr v (vP v)) 0 (rnF (clr v (vP v)) (decide (κ = 4)) (vF (clr v (vP v)) 0) (plc v b) (vP v)).1) (vF (clr v (vP v)) 1) (rnF (clr v (vP v)) (decide (κ = 4)) (vF (clr v (vP v)) 0) (plc v b) (vP v)).2 (z + 1)).2)) := by ((refine (pl_s (nw_ex2 (vcol (vcol (clr v (vP v)) 0 (rnF (clr v (vP v)) (decide (κ = 4)) (vF (clr v (vP v)) 0) (plc v b) (vP v)).1) 1 (rsF (vcol (clr v (vP v)) 0 (rnF (clr v (vP v)) (decide (κ = 4)) (vF (clr v (vP v)) 0) (plc v b) (vP v)).1) (vF (clr v (vP v)) 1) (rnF (clr v (vP v)) (decide (κ = 4)) (vF (clr v (vP v)) 0) (plc v b) (vP v)).2 z).1) _ _) c36 bN).trans ?_); exact congrArg nI (if_neg c36).symm)
                                                  rw [ez3]
                                                  have fz : (vset (vcol (vcol (clr v (vP v)) 0 (rnF (clr v (vP v)) (decide (κ = 4)) (vF (clr v (vP v)) 0) (plc v b) (vP v)).1) 1 (rsF (vcol (clr v (vP v)) 0 (rnF (clr v (vP v)) (decide (κ = 4)) (vF (clr v (vP v)) 0) (plc v b) (vP v)).1) (vF (clr v (vP v)) 1) (rnF (clr v (vP v)) (decide (κ = 4)) (vF (clr v (vP v)) 0) (plc v b) (vP v)).2 z).1) 1 z (nwA (vcol (vcol (clr v (vP v)) 0 (rnF (clr v (vP v)) (decide (κ = 4)) (vF (clr v (vP v)) 0) (plc v b) (vP v)).1) 1 (rsF (vcol (clr v (vP v)) 0 (rnF (clr v (vP v)) (decide (κ = 4)) (vF (clr v (vP v)) 0) (plc v b) (vP v)).1) (vF (clr v (vP v)) 1) (rnF (clr v (vP v)) (decide (κ = 4)) (vF (clr v (vP v)) 0) (plc v b) (vP v)).2 z).1) ((rsF (vcol (clr v (vP v)) 0 (rnF (clr v (vP v)) (decide (κ = 4)) (vF (clr v (vP v)) 0) (plc v b) (vP v)).1) (vF (clr v (vP v)) 1) (rnF (clr v (vP v)) (decide (κ = 4)) (vF (clr v (vP v)) 0) (plc v b) (vP v)).2 z).2) (vF (vcol (clr v (vP v)) 0 (rnF (clr v (vP v)) (decide (κ = 4)) (vF (clr v (vP v)) 0) (plc v b) (vP v)).1) 0 z))) = (vcol (vcol (clr v (vP v)) 0 (rnF (clr v (vP v)) (decide (κ = 4)) (vF (clr v (vP v)) 0) (plc v b) (vP v)).1) 1 (rsF (vcol (clr v (vP v)) 0 (rnF (clr v (vP v)) (decide (κ = 4)) (vF (clr v (vP v)) 0) (plc v b) (vP v)).1) (vF (clr v (vP v)) 1) (rnF (clr v (vP v)) (decide (κ = 4)) (vF (clr v (vP v)) 0) (plc v b) (vP v)).2 (z + 1)).1) := by exact rs_s
                                                  exact ihz h35 (fz ▸ mh35) ph35 kh35
                                                ·
                                                  have c36 : nwA (vcol (vcol (clr v (vP v)) 0 (rnF (clr v (vP v)) (decide (κ = 4)) (vF (clr v (vP v)) 0) (plc v b) (vP v)).1) 1 (rsF (vcol (clr v (vP v)) 0 (rnF (clr v (vP v)) (decide (κ = 4)) (vF (clr v (vP v)) 0) (plc v b) (vP v)).1) (vF (clr v (vP v)) 1) (rnF (clr v (vP v)) (decide (κ = 4)) (vF (clr v (vP v)) 0) (plc v b) (vP v)).2 z).1) ((rsF (vcol (clr v (vP v)) 0 (rnF (clr v (vP v)) (decide (κ = 4)) (vF (clr v (vP v)) 0) (plc v b) (vP v)).1) (vF (clr v (vP v)) 1) (rnF (clr v (vP v)) (decide (κ = 4)) (vF (clr v (vP v)) 0) (plc v b) (vP v)).2 z).2) (vF (vcol (clr v (vP v)) 0 (rnF (clr v (vP v)) (decide (κ = 4)) (vF (clr v (vP v)) 0) (plc v b) (vP v)).1) 0 z) = -1 := c36
                                                  refine r_iload_n C (dx dX7_holdAll 113 rfl) rfl ?_
                                                  refine r_goto (tgt := 216) C (dx dX7_holdAll 114 rfl) (by decide) ?_
                                                  refine r_istore_n (ls' := [(0, vr 7 k), (1, vi (nI κ)), (2, vi (nI b)), (3, vi (nI ((rsF (vcol (clr v (vP v)) 0 (rnF (clr v (vP v)) (decide (κ = 4)) (vF (clr v (vP v)) 0) (plc v b) (vP v)).1) (vF (clr v (vP v)) 1) (rnF (clr v (vP v)) (decide (κ = 4)) (vF (clr v (vP v)) 0) (plc v b) (vP v)).2 z).2))), (4, vi (nI z))]) C (dx dX7_holdAll 121 rfl) (by decide) [1, 2, 3, 0, 4] rfl ?_
                                                  refine rn_iinc (a := z) (k := 1) (ls' := [(0, vr 7 k), (1, vi (nI κ)), (2, vi (nI b)), (3, vi (nI ((rsF (vcol (clr v (vP v)) 0 (rnF (clr v (vP v)) (decide (κ = 4)) (vF (clr v (vP v)) 0) (plc v b) (vP v)).1) (vF (clr v (vP v)) 1) (rnF (clr v (vP v)) (decide (κ = 4)) (vF (clr v (vP v)) 0) (plc v b) (vP v)).2 z).2))), (4, vi (nI (z + 1)))]) C (dx dX7_holdAll 122 rfl) rfl rfl (by decide) [1, 2, 3, 4, 0] rfl ?_
                                                  refine r_goto (tgt := 159) C (dx dX7_holdAll 123 rfl) (by decide) ?_
                                                  have ez3 : (nI ((rsF (vcol (clr v (vP v)) 0 (rnF (clr v (vP v)) (decide (κ = 4)) (vF (clr v (vP v)) 0) (plc v b) (vP v)).1) (vF (clr v (vP v)) 1) (rnF (clr v (vP v)) (decide (κ = 4)) (vF (clr v (vP v)) 0) (plc v b) (vP v)).2 z).2)) = (nI ((rsF (vcol (clr v (vP v)) 0 (rnF (clr v (vP v)) (decide (κ = 4)) (vF (clr v (vP v)) 0) (plc v b) (vP v)).1) (vF (clr v (vP v)) 1) (rnF (clr v (vP v)) (decide (κ = 4)) (vF (clr v (vP v)) 0) (plc v b) (vP v)).2 (z + 1)).2)) := by exact congrArg nI (if_pos c36).symm
                                                  rw [ez3]
                                                  have fz : (vset (vcol (vcol (clr v (vP v)) 0 (rnF (clr v (vP v)) (decide (κ = 4)) (vF (clr v (vP v)) 0) (plc v b) (vP v)).1) 1 (rsF (vcol (clr v (vP v)) 0 (rnF (clr v (vP v)) (decide (κ = 4)) (vF (clr v (vP v)) 0) (plc v b) (vP v)).1) (vF (clr v (vP v)) 1) (rnF (clr v (vP v)) (decide (κ = 4)) (vF (clr v (vP v)) 0) (plc v b) (vP v)).2 z).1) 1 z (nwA (vcol (vcol (clr v (vP v)) 0 (rnF (clr v (vP v)) (decide (κ = 4)) (vF (clr v (vP v)) 0) (plc v b) (vP v)).1) 1 (rsF (vcol (clr v (vP v)) 0 (rnF (clr v (vP v)) (decide (κ = 4)) (vF (clr v (vP v)) 0) (plc v b) (vP v)).1) (vF (clr v (vP v)) 1) (rnF (clr v (vP v)) (decide (κ = 4)) (vF (clr v (vP v)) 0) (plc v b) (vP v)).2 z).1) ((rsF (vcol (clr v (vP v)) 0 (rnF (clr v (vP v)) (decide (κ = 4)) (vF (clr v (vP v)) 0) (plc v b) (vP v)).1) (vF (clr v (vP v)) 1) (rnF (clr v (vP v)) (decide (κ = 4)) (vF (clr v (vP v)) 0) (plc v b) (vP v)).2 z).2) (vF (vcol (clr v (vP v)) 0 (rnF (clr v (vP v)) (decide (κ = 4)) (vF (clr v (vP v)) 0) (plc v b) (vP v)).1) 0 z))) = (vcol (vcol (clr v (vP v)) 0 (rnF (clr v (vP v)) (decide (κ = 4)) (vF (clr v (vP v)) 0) (plc v b) (vP v)).1) 1 (rsF (vcol (clr v (vP v)) 0 (rnF (clr v (vP v)) (decide (κ = 4)) (vF (clr v (vP v)) 0) (plc v b) (vP v)).1) (vF (clr v (vP v)) 1) (rnF (clr v (vP v)) (decide (κ = 4)) (vF (clr v (vP v)) 0) (plc v b) (vP v)).2 (z + 1)).1) := by exact rs_s
                                                  exact ihz h35 (fz ▸ mh35) ph35 kh35))
                                ·
                                  refine r_iload C (dx dX7_holdAll 89 rfl) rfl ?_
                                  refine r_aload_n C (dx dX7_holdAll 90 rfl) rfl ?_
                                  refine g_X7_64 (x := nI (vP v)) C (dx dX7_holdAll 91 rfl) mg9q.eP ?_
                                  refine rn_ge (a := 0) (b := vP v) (tgt := 223) C (by omega) (by omega) (dx dX7_holdAll 92 rfl) (by decide) (fun c37 => ?_) (fun c37 => ?_)
                                  · first
                                    | (omega; done)
                                    | (
                                        have c37 : vP v ≤ 0 := c37
                                        have eV : hAR v κ b = vcol (clr v (vP v)) 0 (rnF (clr v (vP v)) (decide (κ = 4)) (vF (clr v (vP v)) 0) (plc v b) q).1 := by (unfold hAR; rw [if_neg (show ¬ (κ = 1 ∨ κ = 5) by omega), if_neg h3])
                                        exact F.2.2.1 _ _ _ rfl (dx dX7_holdAll 124 rfl) kg9q ⟨rfl, by rw [eV]; exact mg9q, pg9q⟩)
                                  · first
                                    | (omega; done)
                                    | (
                                        have c37 : 0 < vP v := c37
                                        refine r_iload_n C (dx dX7_holdAll 93 rfl) rfl ?_
                                        refine r_iconst (v := nI 3) C (dx dX7_holdAll 94 rfl) rfl ?_
                                        refine rn_ne (a := κ) (b := 3) (tgt := 223) C (by omega) (by omega) (dx dX7_holdAll 95 rfl) (by decide) (fun c38 => ?_) (fun c38 => ?_)
                                        · first
                                          | (omega; done)
                                          | (
                                              have c38 : ¬ κ = 3 := c38
                                              have eV : hAR v κ b = vcol (clr v (vP v)) 0 (rnF (clr v (vP v)) (decide (κ = 4)) (vF (clr v (vP v)) 0) (plc v b) q).1 := by (unfold hAR; rw [if_neg (show ¬ (κ = 1 ∨ κ = 5) by omega), if_neg h3])
                                              exact F.2.2.1 _ _ _ rfl (dx dX7_holdAll 124 rfl) kg9q ⟨rfl, by rw [eV]; exact mg9q, pg9q⟩)
                                        ·
                                          have c38 : κ = 3 := c38
                                          exact absurd c38 h3))
                          · first
                            | (omega; done)
                            | (
                                have c28 : q < vP v := c28
                                refine r_aload_n C (dx dX7_holdAll 56 rfl) rfl ?_
                                refine g_X7_40 C (dx dX7_holdAll 57 rfl) ?_
                                refine r_iload C (dx dX7_holdAll 58 rfl) rfl ?_
                                refine r_iload_n C (dx dX7_holdAll 59 rfl) rfl ?_
                                refine r_iconst (v := nI 4) C (dx dX7_holdAll 60 rfl) rfl ?_
                                refine rn_ne (a := κ) (b := 4) (tgt := 118) C (by omega) (by omega) (dx dX7_holdAll 61 rfl) (by decide) (fun c39 => ?_) (fun c39 => ?_)
                                · first
                                  | (omega; done)
                                  | (
                                      have c39 : ¬ κ = 4 := c39
                                      refine r_aload_n C (dx dX7_holdAll 65 rfl) rfl ?_
                                      refine r_iload_n C (dx dX7_holdAll 66 rfl) rfl ?_
                                      refine r_iconst (v := -1) C (dx dX7_holdAll 67 rfl) rfl ?_
                                      refine r_cvP (as := [vi (nI ((rnF (clr v (vP v)) (decide (κ = 4)) (vF (clr v (vP v)) 0) (plc v b) q).2)), vi (-1)]) (st := [vi (nI q), vr 20 (k + 18)]) (v := vi (nwA (vcol (clr v (vP v)) 0 (rnF (clr v (vP v)) (decide (κ = 4)) (vF (clr v (vP v)) 0) (plc v b) q).1) ((rnF (clr v (vP v)) (decide (κ = 4)) (vF (clr v (vP v)) 0) (plc v b) q).2) (-1))) C X I_X7_nextWithRoom l_X7_289 (e_nw mg9q (a := (rnF (clr v (vP v)) (decide (κ = 4)) (vF (clr v (vP v)) 0) (plc v b) q).2) (Nat.lt_trans (rnF_lt _ _ _ _ hp9 (show vN (clr v (vP v)) ≤ 8 from bN) _) (by decide)) (-1)) (by decide) (Nat.le_of_ble_eq_true rfl) (pfx_eq kg9q) rfl rfl (Nat.le_of_ble_eq_true rfl) rfl (dx dX7_holdAll 68 rfl) ?_
                                      refine r_iast (j := q) C rfl rfl (by decide) rfl (by omega) (dx dX7_holdAll 69 rfl) ?_
                                      have mh40 : MilAt (sI g9q (k + 18) q (nwA (vcol (clr v (vP v)) 0 (rnF (clr v (vP v)) (decide (κ = 4)) (vF (clr v (vP v)) 0) (plc v b) q).1) ((rnF (clr v (vP v)) (decide (κ = 4)) (vF (clr v (vP v)) 0) (plc v b) q).2) (-1))) k (vset (vcol (clr v (vP v)) 0 (rnF (clr v (vP v)) (decide (κ = 4)) (vF (clr v (vP v)) 0) (plc v b) q).1) 0 q (nwA (vcol (clr v (vP v)) 0 (rnF (clr v (vP v)) (decide (κ = 4)) (vF (clr v (vP v)) 0) (plc v b) q).1) ((rnF (clr v (vP v)) (decide (κ = 4)) (vF (clr v (vP v)) 0) (plc v b) q).2) (-1))) := mg9q.s0
                                      have ph40 : Kp k h (sI g9q (k + 18) q (nwA (vcol (clr v (vP v)) 0 (rnF (clr v (vP v)) (decide (κ = 4)) (vF (clr v (vP v)) 0) (plc v b) q).1) ((rnF (clr v (vP v)) (decide (κ = 4)) (vF (clr v (vP v)) 0) (plc v b) q).2) (-1))) := pg9q.tr (Kp.c (by omega) (by omega))
                                      have kh40 : xK (sI g9q (k + 18) q (nwA (vcol (clr v (vP v)) 0 (rnF (clr v (vP v)) (decide (κ = 4)) (vF (clr v (vP v)) 0) (plc v b) q).1) ((rnF (clr v (vP v)) (decide (κ = 4)) (vF (clr v (vP v)) 0) (plc v b) q).2) (-1))) = xK h := kg9q
                                      generalize sI g9q (k + 18) q (nwA (vcol (clr v (vP v)) 0 (rnF (clr v (vP v)) (decide (κ = 4)) (vF (clr v (vP v)) 0) (plc v b) q).1) ((rnF (clr v (vP v)) (decide (κ = 4)) (vF (clr v (vP v)) 0) (plc v b) q).2) (-1)) = h40 at mh40 ph40 kh40 ⊢
                                      refine r_aload_n C (dx dX7_holdAll 70 rfl) rfl ?_
                                      refine g_X7_40 C (dx dX7_holdAll 71 rfl) ?_
                                      refine r_iload C (dx dX7_holdAll 72 rfl) rfl ?_
                                      refine r_iald (j := q) (x := nwA (vcol (clr v (vP v)) 0 (rnF (clr v (vP v)) (decide (κ = 4)) (vF (clr v (vP v)) 0) (plc v b) q).1) ((rnF (clr v (vP v)) (decide (κ = 4)) (vF (clr v (vP v)) 0) (plc v b) q).2) (-1)) C rfl rfl (by decide) rfl (by omega) (dx dX7_holdAll 73 rfl) ((mh40.e0 (by omega)).trans (by simp [vset, vF])) ?_
                                      refine r_iconst (v := -1) C (dx dX7_holdAll 74 rfl) rfl ?_
                                      refine r_icmp_ne (tgt := 140) C (dx dX7_holdAll 75 rfl) (by decide) (fun c41 => ?_) (fun c41 => ?_)
                                      ·
                                        have c41 : ¬ nwA (vcol (clr v (vP v)) 0 (rnF (clr v (vP v)) (decide (κ = 4)) (vF (clr v (vP v)) 0) (plc v b) q).1) ((rnF (clr v (vP v)) (decide (κ = 4)) (vF (clr v (vP v)) 0) (plc v b) q).2) (-1) = -1 := c41
                                        refine r_aload_n C (dx dX7_holdAll 78 rfl) rfl ?_
                                        refine g_X7_40 C (dx dX7_holdAll 79 rfl) ?_
                                        refine r_iload C (dx dX7_holdAll 80 rfl) rfl ?_
                                        refine r_iald (j := q) (x := nwA (vcol (clr v (vP v)) 0 (rnF (clr v (vP v)) (decide (κ = 4)) (vF (clr v (vP v)) 0) (plc v b) q).1) ((rnF (clr v (vP v)) (decide (κ = 4)) (vF (clr v (vP v)) 0) (plc v b) q).2) (-1)) C rfl rfl (by decide) rfl (by omega) (dx dX7_holdAll 81 rfl) ((mh40.e0 (by omega)).trans (by simp [vset, vF])) ?_
                                        refine r_iconst (v := nI 1) C (dx dX7_holdAll 82 rfl) rfl ?_
                                        refine r_iadd C (dx dX7_holdAll 83 rfl) ?_
                                        refine r_istore_n (ls' := [(0, vr 7 k), (1, vi (nI κ)), (2, vi (nI b)), (3, vi ((nwA (vcol (clr v (vP v)) 0 (rnF (clr v (vP v)) (decide (κ = 4)) (vF (clr v (vP v)) 0) (plc v b) q).1) ((rnF (clr v (vP v)) (decide (κ = 4)) (vF (clr v (vP v)) 0) (plc v b) q).2) (-1)) + (nI 1))), (4, vi (nI q))]) C (dx dX7_holdAll 84 rfl) (by decide) [1, 2, 3, 0, 4] rfl ?_
                                        refine rn_iinc (a := q) (k := 1) (ls' := [(0, vr 7 k), (1, vi (nI κ)), (2, vi (nI b)), (3, vi ((nwA (vcol (clr v (vP v)) 0 (rnF (clr v (vP v)) (decide (κ = 4)) (vF (clr v (vP v)) 0) (plc v b) q).1) ((rnF (clr v (vP v)) (decide (κ = 4)) (vF (clr v (vP v)) 0) (plc v b) q).2) (-1)) + (nI 1))), (4, vi (nI (q + 1)))]) C (dx dX7_holdAll 85 rfl) rfl rfl (by decide) [1, 2, 3, 4, 0] rfl ?_
                                        refine r_goto (tgt := 91) C (dx dX7_holdAll 86 rfl) (by decide) ?_
                                        have eq3 : ((nwA (vcol (clr v (vP v)) 0 (rnF (clr v (vP v)) (decide (κ = 4)) (vF (clr v (vP v)) 0) (plc v b) q).1) ((rnF (clr v (vP v)) (decide (κ = 4)) (vF (clr v (vP v)) 0) (plc v b) q).2) (-1)) + (nI 1)) = (nI ((rnF (clr v (vP v)) (decide (κ = 4)) (vF (clr v (vP v)) 0) (plc v b) (q + 1)).2)) := by ((refine (pl_s (rn_e (su_n c39)) c41 bN).trans ?_); exact congrArg nI ((rn_p (su_n c39)).trans (if_neg c41)).symm)
                                        rw [eq3]
                                        have fq : (vset (vcol (clr v (vP v)) 0 (rnF (clr v (vP v)) (decide (κ = 4)) (vF (clr v (vP v)) 0) (plc v b) q).1) 0 q (nwA (vcol (clr v (vP v)) 0 (rnF (clr v (vP v)) (decide (κ = 4)) (vF (clr v (vP v)) 0) (plc v b) q).1) ((rnF (clr v (vP v)) (decide (κ = 4)) (vF (clr v (vP v)) 0) (plc v b) q).2) (-1))) = (vcol (clr v (vP v)) 0 (rnF (clr v (vP v)) (decide (κ = 4)) (vF (clr v (vP v)) 0) (plc v b) (q + 1)).1) := by exact rn_s (su_n c39)
                                        exact ihq h40 (fq ▸ mh40) ph40 kh40
                                      ·
                                        have c41 : nwA (vcol (clr v (vP v)) 0 (rnF (clr v (vP v)) (decide (κ = 4)) (vF (clr v (vP v)) 0) (plc v b) q).1) ((rnF (clr v (vP v)) (decide (κ = 4)) (vF (clr v (vP v)) 0) (plc v b) q).2) (-1) = -1 := c41
                                        refine r_iload_n C (dx dX7_holdAll 76 rfl) rfl ?_
                                        refine r_goto (tgt := 149) C (dx dX7_holdAll 77 rfl) (by decide) ?_
                                        refine r_istore_n (ls' := [(0, vr 7 k), (1, vi (nI κ)), (2, vi (nI b)), (3, vi (nI ((rnF (clr v (vP v)) (decide (κ = 4)) (vF (clr v (vP v)) 0) (plc v b) q).2))), (4, vi (nI q))]) C (dx dX7_holdAll 84 rfl) (by decide) [1, 2, 3, 0, 4] rfl ?_
                                        refine rn_iinc (a := q) (k := 1) (ls' := [(0, vr 7 k), (1, vi (nI κ)), (2, vi (nI b)), (3, vi (nI ((rnF (clr v (vP v)) (decide (κ = 4)) (vF (clr v (vP v)) 0) (plc v b) q).2))), (4, vi (nI (q + 1)))]) C (dx dX7_holdAll 85 rfl) rfl rfl (by decide) [1, 2, 3, 4, 0] rfl ?_
                                        refine r_goto (tgt := 91) C (dx dX7_holdAll 86 rfl) (by decide) ?_
                                        have eq3 : (nI ((rnF (clr v (vP v)) (decide (κ = 4)) (vF (clr v (vP v)) 0) (plc v b) q).2)) = (nI ((rnF (clr v (vP v)) (decide (κ = 4)) (vF (clr v (vP v)) 0) (plc v b) (q + 1)).2)) := by (exact congrArg nI ((rn_p (su_n c39)).trans (if_pos c41)).symm)
                                        rw [eq3]
                                        have fq : (vset (vcol (clr v (vP v)) 0 (rnF (clr v (vP v)) (decide (κ = 4)) (vF (clr v (vP v)) 0) (plc v b) q).1) 0 q (nwA (vcol (clr v (vP v)) 0 (rnF (clr v (vP v)) (decide (κ = 4)) (vF (clr v (vP v)) 0) (plc v b) q).1) ((rnF (clr v (vP v)) (decide (κ = 4)) (vF (clr v (vP v)) 0) (plc v b) q).2) (-1))) = (vcol (clr v (vP v)) 0 (rnF (clr v (vP v)) (decide (κ = 4)) (vF (clr v (vP v)) 0) (plc v b) (q + 1)).1) := by exact rn_s (su_n c39)
                                        exact ihq h40 (fq ▸ mh40) ph40 kh40)
                                · first
                                  | (omega; done)
                                  | (
                                      have c39 : κ = 4 := c39
                                      refine r_aload_n C (dx dX7_holdAll 62 rfl) rfl ?_
                                      refine r_cvP (as := []) (st := [vi (nI q), vr 20 (k + 18)]) (v := vi (srA (vcol (clr v (vP v)) 0 (rnF (clr v (vP v)) (decide (κ = 4)) (vF (clr v (vP v)) 0) (plc v b) q).1) (vN v))) C X I_X7_surest l_X7_286 (e_sr mg9q) (by decide) (Nat.le_of_ble_eq_true rfl) (pfx_eq kg9q) rfl rfl (Nat.le_of_ble_eq_true rfl) rfl (dx dX7_holdAll 63 rfl) ?_
                                      refine r_goto (tgt := 124) C (dx dX7_holdAll 64 rfl) (by decide) ?_
                                      refine r_iast (j := q) C rfl rfl (by decide) rfl (by omega) (dx dX7_holdAll 69 rfl) ?_
                                      have mh42 : MilAt (sI g9q (k + 18) q (srA (vcol (clr v (vP v)) 0 (rnF (clr v (vP v)) (decide (κ = 4)) (vF (clr v (vP v)) 0) (plc v b) q).1) (vN v))) k (vset (vcol (clr v (vP v)) 0 (rnF (clr v (vP v)) (decide (κ = 4)) (vF (clr v (vP v)) 0) (plc v b) q).1) 0 q (srA (vcol (clr v (vP v)) 0 (rnF (clr v (vP v)) (decide (κ = 4)) (vF (clr v (vP v)) 0) (plc v b) q).1) (vN v))) := mg9q.s0
                                      have ph42 : Kp k h (sI g9q (k + 18) q (srA (vcol (clr v (vP v)) 0 (rnF (clr v (vP v)) (decide (κ = 4)) (vF (clr v (vP v)) 0) (plc v b) q).1) (vN v))) := pg9q.tr (Kp.c (by omega) (by omega))
                                      have kh42 : xK (sI g9q (k + 18) q (srA (vcol (clr v (vP v)) 0 (rnF (clr v (vP v)) (decide (κ = 4)) (vF (clr v (vP v)) 0) (plc v b) q).1) (vN v))) = xK h := kg9q
                                      generalize sI g9q (k + 18) q (srA (vcol (clr v (vP v)) 0 (rnF (clr v (vP v)) (decide (κ = 4)) (vF (clr v (vP v)) 0) (plc v b) q).1) (vN v)) = h42 at mh42 ph42 kh42 ⊢
                                      refine r_aload_n C (dx dX7_holdAll 70 rfl) rfl ?_
                                      refine g_X7_40 C (dx dX7_holdAll 71 rfl) ?_
                                      refine r_iload C (dx dX7_holdAll 72 rfl) rfl ?_
                                      refine r_iald (j := q) (x := srA (vcol (clr v (vP v)) 0 (rnF (clr v (vP v)) (decide (κ = 4)) (vF (clr v (vP v)) 0) (plc v b) q).1) (vN v)) C rfl rfl (by decide) rfl (by omega) (dx dX7_holdAll 73 rfl) ((mh42.e0 (by omega)).trans (by simp [vset, vF])) ?_
                                      refine r_iconst (v := -1) C (dx dX7_holdAll 74 rfl) rfl ?_
                                      refine r_icmp_ne (tgt := 140) C (dx dX7_holdAll 75 rfl) (by decide) (fun c43 => ?_) (fun c43 => ?_)
                                      ·
                                        have c43 : ¬ srA (vcol (clr v (vP v)) 0 (rnF (clr v (vP v)) (decide (κ = 4)) (vF (clr v (vP v)) 0) (plc v b) q).1) (vN v) = -1 := c43
                                        refine r_aload_n C (dx dX7_holdAll 78 rfl) rfl ?_
                                        refine g_X7_40 C (dx dX7_holdAll 79 rfl) ?_
                                        refine r_iload C (dx dX7_holdAll 80 rfl) rfl ?_
                                        refine r_iald (j := q) (x := srA (vcol (clr v (vP v)) 0 (rnF (clr v (vP v)) (decide (κ = 4)) (vF (clr v (vP v)) 0) (plc v b) q).1) (vN v)) C rfl rfl (by decide) rfl (by omega) (dx dX7_holdAll 81 rfl) ((mh42.e0 (by omega)).trans (by simp [vset, vF])) ?_
                                        refine r_iconst (v := nI 1) C (dx dX7_holdAll 82 rfl) rfl ?_
                                        refine r_iadd C (dx dX7_holdAll 83 rfl) ?_
                                        refine r_istore_n (ls' := [(0, vr 7 k), (1, vi (nI κ)), (2, vi (nI b)), (3, vi ((srA (vcol (clr v (vP v)) 0 (rnF (clr v (vP v)) (decide (κ = 4)) (vF (clr v (vP v)) 0) (plc v b) q).1) (vN v)) + (nI 1))), (4, vi (nI q))]) C (dx dX7_holdAll 84 rfl) (by decide) [1, 2, 3, 0, 4] rfl ?_
                                        refine rn_iinc (a := q) (k := 1) (ls' := [(0, vr 7 k), (1, vi (nI κ)), (2, vi (nI b)), (3, vi ((srA (vcol (clr v (vP v)) 0 (rnF (clr v (vP v)) (decide (κ = 4)) (vF (clr v (vP v)) 0) (plc v b) q).1) (vN v)) + (nI 1))), (4, vi (nI (q + 1)))]) C (dx dX7_holdAll 85 rfl) rfl rfl (by decide) [1, 2, 3, 4, 0] rfl ?_
                                        refine r_goto (tgt := 91) C (dx dX7_holdAll 86 rfl) (by decide) ?_
                                        have eq3 : ((srA (vcol (clr v (vP v)) 0 (rnF (clr v (vP v)) (decide (κ = 4)) (vF (clr v (vP v)) 0) (plc v b) q).1) (vN v)) + (nI 1)) = (nI ((rnF (clr v (vP v)) (decide (κ = 4)) (vF (clr v (vP v)) 0) (plc v b) (q + 1)).2)) := by ((refine (pl_s (rn_e (su_y c39)) c43 bN).trans ?_); exact congrArg nI ((rn_p (su_y c39)).trans (if_neg c43)).symm)
                                        rw [eq3]
                                        have fq : (vset (vcol (clr v (vP v)) 0 (rnF (clr v (vP v)) (decide (κ = 4)) (vF (clr v (vP v)) 0) (plc v b) q).1) 0 q (srA (vcol (clr v (vP v)) 0 (rnF (clr v (vP v)) (decide (κ = 4)) (vF (clr v (vP v)) 0) (plc v b) q).1) (vN v))) = (vcol (clr v (vP v)) 0 (rnF (clr v (vP v)) (decide (κ = 4)) (vF (clr v (vP v)) 0) (plc v b) (q + 1)).1) := by exact rn_s (su_y c39)
                                        exact ihq h42 (fq ▸ mh42) ph42 kh42
                                      ·
                                        have c43 : srA (vcol (clr v (vP v)) 0 (rnF (clr v (vP v)) (decide (κ = 4)) (vF (clr v (vP v)) 0) (plc v b) q).1) (vN v) = -1 := c43
                                        refine r_iload_n C (dx dX7_holdAll 76 rfl) rfl ?_
                                        refine r_goto (tgt := 149) C (dx dX7_holdAll 77 rfl) (by decide) ?_
                                        refine r_istore_n (ls' := [(0, vr 7 k), (1, vi (nI κ)), (2, vi (nI b)), (3, vi (nI ((rnF (clr v (vP v)) (decide (κ = 4)) (vF (clr v (vP v)) 0) (plc v b) q).2))), (4, vi (nI q))]) C (dx dX7_holdAll 84 rfl) (by decide) [1, 2, 3, 0, 4] rfl ?_
                                        refine rn_iinc (a := q) (k := 1) (ls' := [(0, vr 7 k), (1, vi (nI κ)), (2, vi (nI b)), (3, vi (nI ((rnF (clr v (vP v)) (decide (κ = 4)) (vF (clr v (vP v)) 0) (plc v b) q).2))), (4, vi (nI (q + 1)))]) C (dx dX7_holdAll 85 rfl) rfl rfl (by decide) [1, 2, 3, 4, 0] rfl ?_
                                        refine r_goto (tgt := 91) C (dx dX7_holdAll 86 rfl) (by decide) ?_
                                        have eq3 : (nI ((rnF (clr v (vP v)) (decide (κ = 4)) (vF (clr v (vP v)) 0) (plc v b) q).2)) = (nI ((rnF (clr v (vP v)) (decide (κ = 4)) (vF (clr v (vP v)) 0) (plc v b) (q + 1)).2)) := by (exact congrArg nI ((rn_p (su_y c39)).trans (if_pos c43)).symm)
                                        rw [eq3]
                                        have fq : (vset (vcol (clr v (vP v)) 0 (rnF (clr v (vP v)) (decide (κ = 4)) (vF (clr v (vP v)) 0) (plc v b) q).1) 0 q (srA (vcol (clr v (vP v)) 0 (rnF (clr v (vP v)) (decide (κ = 4)) (vF (clr v (vP v)) 0) (plc v b) q).1) (vN v))) = (vcol (clr v (vP v)) 0 (rnF (clr v (vP v)) (decide (κ = 4)) (vF (clr v (vP v)) 0) (plc v b) (q + 1)).1) := by exact rn_s (su_y c39)
                                        exact ihq h42 (fq ▸ mh42) ph42 kh42))
                      ·
                        have c11 : nI (vN v) = 0 := c11
                        refine r_iconst (v := nI 0) C (dx dX7_holdAll 43 rfl) rfl ?_
                        refine r_goto (tgt := 87) C (dx dX7_holdAll 44 rfl) (by decide) ?_
                        have hp9 : plc v b < 200 := by unfold plc; split; omega; exact Nat.lt_of_lt_of_le (Nat.mod_lt _ (by omega)) (by omega)
                        have e91 : nI 0 = nI (plc v b) := by unfold plc; rw [if_pos (by have := nI_zz c11; omega)]
                        rw [e91]
                        refine r_istore_n (ls' := [(0, vr 7 k), (1, vi (nI κ)), (2, vi (nI b)), (3, vi (nI (plc v b)))]) C (dx dX7_holdAll 49 rfl) (by decide) [1, 2, 3, 0] rfl ?_
                        refine r_iconst (v := nI 0) C (dx dX7_holdAll 50 rfl) rfl ?_
                        refine r_istore (ls' := [(0, vr 7 k), (1, vi (nI κ)), (2, vi (nI b)), (3, vi (nI (plc v b))), (4, vi (nI 0))]) C (dx dX7_holdAll 51 rfl) (by decide) [1, 2, 3, 4, 0] rfl ?_
                        refine loopU (Φ := fun q => ∀ g9q, MilAt g9q k (vcol (clr v (vP v)) 0 (rnF (clr v (vP v)) (decide (κ = 4)) (vF (clr v (vP v)) 0) (plc v b) q).1) → Kp k h g9q → xK g9q = xK h → Rr G 91 [(0, vr 7 k), (1, vi (nI κ)), (2, vi (nI b)), (3, vi (nI ((rnF (clr v (vP v)) (decide (κ = 4)) (vF (clr v (vP v)) 0) (plc v b) q).2))), (4, vi (nI q))] [] g9q) (N := vP v) ?_ ?_ 0 (Nat.zero_le _) g9p (by show MilAt _ k (vcol (clr v (vP v)) 0 (vF (clr v (vP v)) 0)); rw [vcol_id]; exact mg9p) pg9p kg9p
                        ·
                          intro g9q mg9q pg9q kg9q
                          refine r_iload C (dx dX7_holdAll 52 rfl) rfl ?_
                          refine r_aload_n C (dx dX7_holdAll 53 rfl) rfl ?_
                          refine g_X7_64 (x := nI (vP v)) C (dx dX7_holdAll 54 rfl) mg9q.eP ?_
                          refine rn_ge (a := vP v) (b := vP v) (tgt := 156) C (by omega) (by omega) (dx dX7_holdAll 55 rfl) (by decide) (fun c44 => ?_) (fun c44 => ?_)
                          · first
                            | (omega; done)
                            | (
                                have c44 : vP v ≤ vP v := c44
                                refine r_iconst (v := nI 0) C (dx dX7_holdAll 87 rfl) rfl ?_
                                refine r_istore (ls' := [(0, vr 7 k), (1, vi (nI κ)), (2, vi (nI b)), (3, vi (nI ((rnF (clr v (vP v)) (decide (κ = 4)) (vF (clr v (vP v)) 0) (plc v b) (vP v)).2))), (4, vi (nI 0))]) C (dx dX7_holdAll 88 rfl) (by decide) [1, 2, 3, 4, 0] rfl ?_
                                by_cases h3 : κ = 3
                                ·
                                  refine loopU (Φ := fun z => ∀ g9z, MilAt g9z k (vcol (vcol (clr v (vP v)) 0 (rnF (clr v (vP v)) (decide (κ = 4)) (vF (clr v (vP v)) 0) (plc v b) (vP v)).1) 1 (rsF (vcol (clr v (vP v)) 0 (rnF (clr v (vP v)) (decide (κ = 4)) (vF (clr v (vP v)) 0) (plc v b) (vP v)).1) (vF (clr v (vP v)) 1) (rnF (clr v (vP v)) (decide (κ = 4)) (vF (clr v (vP v)) 0) (plc v b) (vP v)).2 z).1) → Kp k h g9z → xK g9z = xK h → Rr G 159 [(0, vr 7 k), (1, vi (nI κ)), (2, vi (nI b)), (3, vi (nI ((rsF (vcol (clr v (vP v)) 0 (rnF (clr v (vP v)) (decide (κ = 4)) (vF (clr v (vP v)) 0) (plc v b) (vP v)).1) (vF (clr v (vP v)) 1) (rnF (clr v (vP v)) (decide (κ = 4)) (vF (clr v (vP v)) 0) (plc v b) (vP v)).2 z).2))), (4, vi (nI z))] [] g9z) (N := vP v) ?_ ?_ 0 (Nat.zero_le _) g9q (by show MilAt _ k (vcol (vcol (clr v (vP v)) 0 (rnF (clr v (vP v)) (decide (κ = 4)) (vF (clr v (vP v)) 0) (plc v b) (vP v)).1) 1 (vF (vcol (clr v (vP v)) 0 (rnF (clr v (vP v)) (decide (κ = 4)) (vF (clr v (vP v)) 0) (plc v b) (vP v)).1) 1)); rw [vcol_id]; exact mg9q) pg9q kg9q
                                  ·
                                    intro g9z mg9z pg9z kg9z
                                    refine r_iload C (dx dX7_holdAll 89 rfl) rfl ?_
                                    refine r_aload_n C (dx dX7_holdAll 90 rfl) rfl ?_
                                    refine g_X7_64 (x := nI (vP v)) C (dx dX7_holdAll 91 rfl) mg9z.eP ?_
                                    refine rn_ge (a := vP v) (b := vP v) (tgt := 223) C (by omega) (by omega) (dx dX7_holdAll 92 rfl) (by decide) (fun c45 => ?_) (fun c45 => ?_)
                                    · first
                                      | (omega; done)
                                      | (
                                          have c45 : vP v ≤ vP v := c45
                                          have eV : hAR v κ b = vcol (vcol (clr v (vP v)) 0 (rnF (clr v (vP v)) (decide (κ = 4)) (vF (clr v (vP v)) 0) (plc v b) (vP v)).1) 1 (rsF (vcol (clr v (vP v)) 0 (rnF (clr v (vP v)) (decide (κ = 4)) (vF (clr v (vP v)) 0) (plc v b) (vP v)).1) (vF (clr v (vP v)) 1) (rnF (clr v (vP v)) (decide (κ = 4)) (vF (clr v (vP v)) 0) (plc v b) (vP v)).2 (vP v)).1 := by (unfold hAR; rw [if_neg (show ¬ (κ = 1 ∨ κ = 5) by omega), if_pos h3, show decide (κ = 4) = false from decide_eq_false (by omega)])
                                          exact F.2.2.1 _ _ _ rfl (dx dX7_holdAll 124 rfl) kg9z ⟨rfl, by rw [eV]; exact mg9z, pg9z⟩)
                                    · first
                                      | (omega; done)
                                      | (
                                          have c45 : vP v < vP v := c45
                                          refine r_iload_n C (dx dX7_holdAll 93 rfl) rfl ?_
                                          refine r_iconst (v := nI 3) C (dx dX7_holdAll 94 rfl) rfl ?_
                                          refine rn_ne (a := κ) (b := 3) (tgt := 223) C (by omega) (by omega) (dx dX7_holdAll 95 rfl) (by decide) (fun c46 => ?_) (fun c46 => ?_)
                                          ·
                                            have c46 : ¬ κ = 3 := c46
                                            exact absurd h3 c46
                                          · first
                                            | (omega; done))
                                  ·
                                    intro z hz ihz g9z mg9z pg9z kg9z
                                    refine r_iload C (dx dX7_holdAll 89 rfl) rfl ?_
                                    refine r_aload_n C (dx dX7_holdAll 90 rfl) rfl ?_
                                    refine g_X7_64 (x := nI (vP v)) C (dx dX7_holdAll 91 rfl) mg9z.eP ?_
                                    refine rn_ge (a := z) (b := vP v) (tgt := 223) C (by omega) (by omega) (dx dX7_holdAll 92 rfl) (by decide) (fun c49 => ?_) (fun c49 => ?_)
                                    · first
                                      | (omega; done)
                                      | (
                                          have c49 : vP v ≤ z := c49
                                          have eV : hAR v κ b = vcol (vcol (clr v (vP v)) 0 (rnF (clr v (vP v)) (decide (κ = 4)) (vF (clr v (vP v)) 0) (plc v b) (vP v)).1) 1 (rsF (vcol (clr v (vP v)) 0 (rnF (clr v (vP v)) (decide (κ = 4)) (vF (clr v (vP v)) 0) (plc v b) (vP v)).1) (vF (clr v (vP v)) 1) (rnF (clr v (vP v)) (decide (κ = 4)) (vF (clr v (vP v)) 0) (plc v b) (vP v)).2 z).1 := by (unfold hAR; rw [if_neg (show ¬ (κ = 1 ∨ κ = 5) by omega), if_pos h3, show decide (κ = 4) = false from decide_eq_false (by omega)])
                                          exact F.2.2.1 _ _ _ rfl (dx dX7_holdAll 124 rfl) kg9z ⟨rfl, by rw [eV]; exact mg9z, pg9z⟩)
                                    · first
                                      | (omega; done)
                                      | (
                                          have c49 : z < vP v := c49
                                          refine r_iload_n C (dx dX7_holdAll 93 rfl) rfl ?_
                                          refine r_iconst (v := nI 3) C (dx dX7_holdAll 94 rfl) rfl ?_
                                          refine rn_ne (a := κ) (b := 3) (tgt := 223) C (by omega) (by omega) (dx dX7_holdAll 95 rfl) (by decide) (fun c50 => ?_) (fun c50 => ?_)
                                          ·
                                            have c50 : ¬ κ = 3 := c50
                                            exact absurd h3 c50
                                          · first
                                            | (omega; done)
                                            | (
                                                have c50 : κ = 3 := c50
                                                refine r_aload_n C (dx dX7_holdAll 96 rfl) rfl ?_
                                                refine g_X7_43 C (dx dX7_holdAll 97 rfl) ?_
                                                refine r_iload C (dx dX7_holdAll 98 rfl) rfl ?_
                                                refine r_aload_n C (dx dX7_holdAll 99 rfl) rfl ?_
                                                refine r_iload_n C (dx dX7_holdAll 100 rfl) rfl ?_
                                                refine r_aload_n C (dx dX7_holdAll 101 rfl) rfl ?_
                                                refine g_X7_40 C (dx dX7_holdAll 102 rfl) ?_
                                                refine r_iload C (dx dX7_holdAll 103 rfl) rfl ?_
                                                refine r_iald (j := z) (x := vF (vcol (clr v (vP v)) 0 (rnF (clr v (vP v)) (decide (κ = 4)) (vF (clr v (vP v)) 0) (plc v b) (vP v)).1) 0 z) C rfl rfl (by decide) rfl (by omega) (dx dX7_holdAll 104 rfl) (mg9z.e0 (by omega)) ?_
                                                refine r_cvP (as := [vi (nI ((rsF (vcol (clr v (vP v)) 0 (rnF (clr v (vP v)) (decide (κ = 4)) (vF (clr v (vP v)) 0) (plc v b) (vP v)).1) (vF (clr v (vP v)) 1) (rnF (clr v (vP v)) (decide (κ = 4)) (vF (clr v (vP v)) 0) (plc v b) (vP v)).2 z).2)), vi (vF (vcol (clr v (vP v)) 0 (rnF (clr v (vP v)) (decide (κ = 4)) (vF (clr v (vP v)) 0) (plc v b) (vP v)).1) 0 z)]) (st := [vi (nI z), vr 20 (k + 19)]) (v := vi (nwA (vcol (vcol (clr v (vP v)) 0 (rnF (clr v (vP v)) (decide (κ = 4)) (vF (clr v (vP v)) 0) (plc v b) (vP v)).1) 1 (rsF (vcol (clr v (vP v)) 0 (rnF (clr v (vP v)) (decide (κ = 4)) (vF (clr v (vP v)) 0) (plc v b) (vP v)).1) (vF (clr v (vP v)) 1) (rnF (clr v (vP v)) (decide (κ = 4)) (vF (clr v (vP v)) 0) (plc v b) (vP v)).2 z).1) ((rsF (vcol (clr v (vP v)) 0 (rnF (clr v (vP v)) (decide (κ = 4)) (vF (clr v (vP v)) 0) (plc v b) (vP v)).1) (vF (clr v (vP v)) 1) (rnF (clr v (vP v)) (decide (κ = 4)) (vF (clr v (vP v)) 0) (plc v b) (vP v)).2 z).2) (vF (vcol (clr v (vP v)) 0 (rnF (clr v (vP v)) (decide (κ = 4)) (vF (clr v (vP v)) 0) (plc v b) (vP v)).1) 0 z))) C X I_X7_nextWithRoom l_X7_289 (e_nw mg9z (a := (rsF (vcol (clr v (vP v)) 0 (rnF (clr v (vP v)) (decide (κ = 4)) (vF (clr v (vP v)) 0) (plc v b) (vP v)).1) (vF (clr v (vP v)) 1) (rnF (clr v (vP v)) (decide (κ = 4)) (vF (clr v (vP v)) 0) (plc v b) (vP v)).2 z).2) (Nat.lt_trans (rsF_lt _ _ _ (rnF_lt _ _ _ _ hp9 (show vN (clr v (vP v)) ≤ 8 from bN) _) (show vN (vcol (clr v (vP v)) 0 (rnF (clr v (vP v)) (decide (κ = 4)) (vF (clr v (vP v)) 0) (plc v b) (vP v)).1) ≤ 8 from bN) _) (by decide)) (vF (vcol (clr v (vP v)) 0 (rnF (clr v (vP v)) (decide (κ = 4)) (vF (clr v (vP v)) 0) (plc v b) (vP v)).1) 0 z)) (by decide) (Nat.le_of_ble_eq_true rfl) (pfx_eq kg9z) rfl rfl (Nat.le_of_ble_eq_true rfl) rfl (dx dX7_holdAll 105 rfl) ?_
                                                refine r_iast (j := z) C rfl rfl (by decide) rfl (by omega) (dx dX7_holdAll 106 rfl) ?_
                                                have mh51 : MilAt (sI g9z (k + 19) z (nwA (vcol (vcol (clr v (vP v)) 0 (rnF (clr v (vP v)) (decide (κ = 4)) (vF (clr v (vP v)) 0) (plc v b) (vP v)).1) 1 (rsF (vcol (clr v (vP v)) 0 (rnF (clr v (vP v)) (decide (κ = 4)) (vF (clr v (vP v)) 0) (plc v b) (vP v)).1) (vF (clr v (vP v)) 1) (rnF (clr v (vP v)) (decide (κ = 4)) (vF (clr v (vP v)) 0) (plc v b) (vP v)).2 z).1) ((rsF (vcol (clr v (vP v)) 0 (rnF (clr v (vP v)) (decide (κ = 4)) (vF (clr v (vP v)) 0) (plc v b) (vP v)).1) (vF (clr v (vP v)) 1) (rnF (clr v (vP v)) (decide (κ = 4)) (vF (clr v (vP v)) 0) (plc v b) (vP v)).2 z).2) (vF (vcol (clr v (vP v)) 0 (rnF (clr v (vP v)) (decide (κ = 4)) (vF (clr v (vP v)) 0) (plc v b) (vP v)).1) 0 z))) k (vset (vcol (vcol (clr v (vP v)) 0 (rnF (clr v (vP v)) (decide (κ = 4)) (vF (clr v (vP v)) 0) (plc v b) (vP v)).1) 1 (rsF (vcol (clr v (vP v)) 0 (rnF (clr v (vP v)) (decide (κ = 4)) (vF (clr v (vP v)) 0) (plc v b) (vP v)).1) (vF (clr v (vP v)) 1) (rnF (clr v (vP v)) (decide (κ = 4)) (vF (clr v (vP v)) 0) (plc v b) (vP v)).2 z).1) 1 z (nwA (vcol (vcol (clr v (vP v)) 0 (rnF (clr v (vP v)) (decide (κ = 4)) (vF (clr v (vP v)) 0) (plc v b) (vP v)).1) 1 (rsF (vcol (clr v (vP v)) 0 (rnF (clr v (vP v)) (decide (κ = 4)) (vF (clr v (vP v)) 0) (plc v b) (vP v)).1) (vF (clr v (vP v)) 1) (rnF (clr v (vP v)) (decide (κ = 4)) (vF (clr v (vP v)) 0) (plc v b) (vP v)).2 z).1) ((rsF (vcol (clr v (vP v)) 0 (rnF (clr v (vP v)) (decide (κ = 4)) (vF (clr v (vP v)) 0) (plc v b) (vP v)).1) (vF (clr v (vP v)) 1) (rnF (clr v (vP v)) (decide (κ = 4)) (vF (clr v (vP v)) 0) (plc v b) (vP v)).2 z).2) (vF (vcol (clr v (vP v)) 0 (rnF (clr v (vP v)) (decide (κ = 4)) (vF (clr v (vP v)) 0) (plc v b) (vP v)).1) 0 z))) := mg9z.s1
                                                have ph51 : Kp k h (sI g9z (k + 19) z (nwA (vcol (vcol (clr v (vP v)) 0 (rnF (clr v (vP v)) (decide (κ = 4)) (vF (clr v (vP v)) 0) (plc v b) (vP v)).1) 1 (rsF (vcol (clr v (vP v)) 0 (rnF (clr v (vP v)) (decide (κ = 4)) (vF (clr v (vP v)) 0) (plc v b) (vP v)).1) (vF (clr v (vP v)) 1) (rnF (clr v (vP v)) (decide (κ = 4)) (vF (clr v (vP v)) 0) (plc v b) (vP v)).2 z).1) ((rsF (vcol (clr v (vP v)) 0 (rnF (clr v (vP v)) (decide (κ = 4)) (vF (clr v (vP v)) 0) (plc v b) (vP v)).1) (vF (clr v (vP v)) 1) (rnF (clr v (vP v)) (decide (κ = 4)) (vF (clr v (vP v)) 0) (plc v b) (vP v)).2 z).2) (vF (vcol (clr v (vP v)) 0 (rnF (clr v (vP v)) (decide (κ = 4)) (vF (clr v (vP v)) 0) (plc v b) (vP v)).1) 0 z))) := pg9z.tr (Kp.c (by omega) (by omega))
                                                have kh51 : xK (sI g9z (k + 19) z (nwA (vcol (vcol (clr v (vP v)) 0 (rnF (clr v (vP v)) (decide (κ = 4)) (vF (clr v (vP v)) 0) (plc v b) (vP v)).1) 1 (rsF (vcol (clr v (vP v)) 0 (rnF (clr v (vP v)) (decide (κ = 4)) (vF (clr v (vP v)) 0) (plc v b) (vP v)).1) (vF (clr v (vP v)) 1) (rnF (clr v (vP v)) (decide (κ = 4)) (vF (clr v (vP v)) 0) (plc v b) (vP v)).2 z).1) ((rsF (vcol (clr v (vP v)) 0 (rnF (clr v (vP v)) (decide (κ = 4)) (vF (clr v (vP v)) 0) (plc v b) (vP v)).1) (vF (clr v (vP v)) 1) (rnF (clr v (vP v)) (decide (κ = 4)) (vF (clr v (vP v)) 0) (plc v b) (vP v)).2 z).2) (vF (vcol (clr v (vP v)) 0 (rnF (clr v (vP v)) (decide (κ = 4)) (vF (clr v (vP v)) 0) (plc v b) (vP v)).1) 0 z))) = xK h := kg9z
                                                generalize sI g9z (k + 19) z (nwA (vcol (vcol (clr v (vP v)) 0 (rnF (clr v (vP v)) (decide (κ = 4)) (vF (clr v (vP v)) 0) (plc v b) (vP v)).1) 1 (rsF (vcol (clr v (vP v)) 0 (rnF (clr v (vP v)) (decide (κ = 4)) (vF (clr v (vP v)) 0) (plc v b) (vP v)).1) (vF (clr v (vP v)) 1) (rnF (clr v (vP v)) (decide (κ = 4)) (vF (clr v (vP v)) 0) (plc v b) (vP v)).2 z).1) ((rsF (vcol (clr v (vP v)) 0 (rnF (clr v (vP v)) (decide (κ = 4)) (vF (clr v (vP v)) 0) (plc v b) (vP v)).1) (vF (clr v (vP v)) 1) (rnF (clr v (vP v)) (decide (κ = 4)) (vF (clr v (vP v)) 0) (plc v b) (vP v)).2 z).2) (vF (vcol (clr v (vP v)) 0 (rnF (clr v (vP v)) (decide (κ = 4)) (vF (clr v (vP v)) 0) (plc v b) (vP v)).1) 0 z)) = h51 at mh51 ph51 kh51 ⊢
                                                refine r_aload_n C (dx dX7_holdAll 107 rfl) rfl ?_
                                                refine g_X7_43 C (dx dX7_holdAll 108 rfl) ?_
                                                refine r_iload C (dx dX7_holdAll 109 rfl) rfl ?_
                                                refine r_iald (j := z) (x := nwA (vcol (vcol (clr v (vP v)) 0 (rnF (clr v (vP v)) (decide (κ = 4)) (vF (clr v (vP v)) 0) (plc v b) (vP v)).1) 1 (rsF (vcol (clr v (vP v)) 0 (rnF (clr v (vP v)) (decide (κ = 4)) (vF (clr v (vP v)) 0) (plc v b) (vP v)).1) (vF (clr v (vP v)) 1) (rnF (clr v (vP v)) (decide (κ = 4)) (vF (clr v (vP v)) 0) (plc v b) (vP v)).2 z).1) ((rsF (vcol (clr v (vP v)) 0 (rnF (clr v (vP v)) (decide (κ = 4)) (vF (clr v (vP v)) 0) (plc v b) (vP v)).1) (vF (clr v (vP v)) 1) (rnF (clr v (vP v)) (decide (κ = 4)) (vF (clr v (vP v)) 0) (plc v b) (vP v)).2 z).2) (vF (vcol (clr v (vP v)) 0 (rnF (clr v (vP v)) (decide (κ = 4)) (vF (clr v (vP v)) 0) (plc v b) (vP v)).1) 0 z)) C rfl rfl (by decide) rfl (by omega) (dx dX7_holdAll 110 rfl) ((mh51.e1 (by omega)).trans (by simp [vset, vF])) ?_
                                                refine r_iconst (v := -1) C (dx dX7_holdAll 111 rfl) rfl ?_
                                                refine r_icmp_ne (tgt := 207) C (dx dX7_holdAll 112 rfl) (by decide) (fun c52 => ?_) (fun c52 => ?_)
                                                ·
                                                  have c52 : ¬ nwA (vcol (vcol (clr v (vP v)) 0 (rnF (clr v (vP v)) (decide (κ = 4)) (vF (clr v (vP v)) 0) (plc v b) (vP v)).1) 1 (rsF (vcol (clr v (vP v)) 0 (rnF (clr v (vP v)) (decide (κ = 4)) (vF (clr v (vP v)) 0) (plc v b) (vP v)).1) (vF (clr v (vP v)) 1) (rnF (clr v (vP v)) (decide (κ = 4)) (vF (clr v (vP v)) 0) (plc v b) (vP v)).2 z).1) ((rsF (vcol (clr v (vP v)) 0 (rnF (clr v (vP v)) (decide (κ = 4)) (vF (clr v (vP v)) 0) (plc v b) (vP v)).1) (vF (clr v (vP v)) 1) (rnF (clr v (vP v)) (decide (κ = 4)) (vF (clr v (vP v)) 0) (plc v b) (vP v)).2 z).2) (vF (vcol (clr v (vP v)) 0 (rnF (clr v (vP v)) (decide (κ = 4)) (vF (clr v (vP v)) 0) (plc v b) (vP v)).1) 0 z) = -1 := c52
                                                  refine r_aload_n C (dx dX7_holdAll 115 rfl) rfl ?_
                                                  refine g_X7_43 C (dx dX7_holdAll 116 rfl) ?_
                                                  refine r_iload C (dx dX7_holdAll 117 rfl) rfl ?_
                                                  refine r_iald (j := z) (x := nwA (vcol (vcol (clr v (vP v)) 0 (rnF (clr v (vP v)) (decide (κ = 4)) (vF (clr v (vP v)) 0) (plc v b) (vP v)).1) 1 (rsF (vcol (clr v (vP v)) 0 (rnF (clr v (vP v)) (decide (κ = 4)) (vF (clr v (vP v)) 0) (plc v b) (vP v)).1) (vF (clr v (vP v)) 1) (rnF (clr v (vP v)) (decide (κ = 4)) (vF (clr v (vP v)) 0) (plc v b) (vP v)).2 z).1) ((rsF (vcol (clr v (vP v)) 0 (rnF (clr v (vP v)) (decide (κ = 4)) (vF (clr v (vP v)) 0) (plc v b) (vP v)).1) (vF (clr v (vP v)) 1) (rnF (clr v (vP v)) (decide (κ = 4)) (vF (clr v (vP v)) 0) (plc v b) (vP v)).2 z).2) (vF (vcol (clr v (vP v)) 0 (rnF (clr v (vP v)) (decide (κ = 4)) (vF (clr v (vP v)) 0) (plc v b) (vP v)).1) 0 z)) C rfl rfl (by decide) rfl (by omega) (dx dX7_holdAll 118 rfl) ((mh51.e1 (by omega)).trans (by simp [vset, vF])) ?_
                                                  refine r_iconst (v := nI 1) C (dx dX7_holdAll 119 rfl) rfl ?_
                                                  refine r_iadd C (dx dX7_holdAll 120 rfl) ?_
                                                  refine r_istore_n (ls' := [(0, vr 7 k), (1, vi (nI κ)), (2, vi (nI b)), (3, vi ((nwA (vcol (vcol (clr v (vP v)) 0 (rnF (clr v (vP v)) (decide (κ = 4)) (vF (clr v (vP v)) 0) (plc v b) (vP v)).1) 1 (rsF (vcol (clr v (vP v)) 0 (rnF (clr v (vP v)) (decide (κ = 4)) (vF (clr v (vP v)) 0) (plc v b) (vP v)).1) (vF (clr v (vP v)) 1) (rnF (clr v (vP v)) (decide (κ = 4)) (vF (clr v (vP v)) 0) (plc v b) (vP v)).2 z).1) ((rsF (vcol (clr v (vP v)) 0 (rnF (clr v (vP v)) (decide (κ = 4)) (vF (clr v (vP v)) 0) (plc v b) (vP v)).1) (vF (clr v (vP v)) 1) (rnF (clr v (vP v)) (decide (κ = 4)) (vF (clr v (vP v)) 0) (plc v b) (vP v)).2 z).2) (vF (vcol (clr v (vP v)) 0 (rnF (clr v (vP v)) (decide (κ = 4)) (vF (clr v (vP v)) 0) (plc v b) (vP v)).1) 0 z)) + (nI 1))), (4, vi (nI z))]) C (dx dX7_holdAll 121 rfl) (by decide) [1, 2, 3, 0, 4] rfl ?_
                                                  refine rn_iinc (a := z) (k := 1) (ls' := [(0, vr 7 k), (1, vi (nI κ)), (2, vi (nI b)), (3, vi ((nwA (vcol (vcol (clr v (vP v)) 0 (rnF (clr v (vP v)) (decide (κ = 4)) (vF (clr v (vP v)) 0) (plc v b) (vP v)).1) 1 (rsF (vcol (clr v (vP v)) 0 (rnF (clr v (vP v)) (decide (κ = 4)) (vF (clr v (vP v)) 0) (plc v b) (vP v)).1) (vF (clr v (vP v)) 1) (rnF (clr v (vP v)) (decide (κ = 4)) (vF (clr v (vP v)) 0) (plc v b) (vP v)).2 z).1) ((rsF (vcol (clr v (vP v)) 0 (rnF (clr v (vP v)) (decide (κ = 4)) (vF (clr v (vP v)) 0) (plc v b) (vP v)).1) (vF (clr v (vP v)) 1) (rnF (clr v (vP v)) (decide (κ = 4)) (vF (clr v (vP v)) 0) (plc v b) (vP v)).2 z).2) (vF (vcol (clr v (vP v)) 0 (rnF (clr v (vP v)) (decide (κ = 4)) (vF (clr v (vP v)) 0) (plc v b) (vP v)).1) 0 z)) + (nI 1))), (4, vi (nI (z + 1)))]) C (dx dX7_holdAll 122 rfl) rfl rfl (by decide) [1, 2, 3, 4, 0] rfl ?_
                                                  refine r_goto (tgt := 159) C (dx dX7_holdAll 123 rfl) (by decide) ?_
                                                  have ez3 : ((nwA (vcol (vcol (clr v (vP v)) 0 (rnF (clr v (vP v)) (decide (κ = 4)) (vF (clr v (vP v)) 0) (plc v b) (vP v)).1) 1 (rsF (vcol (clr v (vP v)) 0 (rnF (clr v (vP v)) (decide (κ = 4)) (vF (clr v (vP v)) 0) (plc v b) (vP v)).1) (vF (clr v (vP v)) 1) (rnF (clr v (vP v)) (decide (κ = 4)) (vF (clr v (vP v)) 0) (plc v b) (vP v)).2 z).1) ((rsF (vcol (clr v (vP v)) 0 (rnF (clr v (vP v)) (decide (κ = 4)) (vF (clr v (vP v)) 0) (plc v b) (vP v)).1) (vF (clr v (vP v)) 1) (rnF (clr v (vP v)) (decide (κ = 4)) (vF (clr v (vP v)) 0) (plc v b) (vP v)).2 z).2) (vF (vcol (clr v (vP v)) 0 (rnF (clr v (vP v)) (decide (κ = 4)) (vF (clr v (vP v)) 0) (plc v b) (vP v)).1) 0 z)) + (nI 1)) = (nI ((rsF (vcol (clr v (vP v)) 0 (rnF (clr v (vP v)) (decide (κ = 4)) (vF (clr v (vP v)) 0) (plc v b) (vP v)).1) (vF (clr v (vP v)) 1) (rnF (clr v (vP v)) (decide (κ = 4)) (vF (clr v (vP v)) 0) (plc v b) (vP v)).2 (z + 1)).2)) := by ((refine (pl_s (nw_ex2 (vcol (vcol (clr v (vP v)) 0 (rnF (clr v (vP v)) (decide (κ = 4)) (vF (clr v (vP v)) 0) (plc v b) (vP v)).1) 1 (rsF (vcol (clr v (vP v)) 0 (rnF (clr v (vP v)) (decide (κ = 4)) (vF (clr v (vP v)) 0) (plc v b) (vP v)).1) (vF (clr v (vP v)) 1) (rnF (clr v (vP v)) (decide (κ = 4)) (vF (clr v (vP v)) 0) (plc v b) (vP v)).2 z).1) _ _) c52 bN).trans ?_); exact congrArg nI (if_neg c52).symm)
                                                  rw [ez3]
                                                  have fz : (vset (vcol (vcol (clr v (vP v)) 0 (rnF (clr v (vP v)) (decide (κ = 4)) (vF (clr v (vP v)) 0) (plc v b) (vP v)).1) 1 (rsF (vcol (clr v (vP v)) 0 (rnF (clr v (vP v)) (decide (κ = 4)) (vF (clr v (vP v)) 0) (plc v b) (vP v)).1) (vF (clr v (vP v)) 1) (rnF (clr v (vP v)) (decide (κ = 4)) (vF (clr v (vP v)) 0) (plc v b) (vP v)).2 z).1) 1 z (nwA (vcol (vcol (clr v (vP v)) 0 (rnF (clr v (vP v)) (decide (κ = 4)) (vF (clr v (vP v)) 0) (plc v b) (vP v)).1) 1 (rsF (vcol (clr v (vP v)) 0 (rnF (clr v (vP v)) (decide (κ = 4)) (vF (clr v (vP v)) 0) (plc v b) (vP v)).1) (vF (clr v (vP v)) 1) (rnF (clr v (vP v)) (decide (κ = 4)) (vF (clr v (vP v)) 0) (plc v b) (vP v)).2 z).1) ((rsF (vcol (clr v (vP v)) 0 (rnF (clr v (vP v)) (decide (κ = 4)) (vF (clr v (vP v)) 0) (plc v b) (vP v)).1) (vF (clr v (vP v)) 1) (rnF (clr v (vP v)) (decide (κ = 4)) (vF (clr v (vP v)) 0) (plc v b) (vP v)).2 z).2) (vF (vcol (clr v (vP v)) 0 (rnF (clr v (vP v)) (decide (κ = 4)) (vF (clr v (vP v)) 0) (plc v b) (vP v)).1) 0 z))) = (vcol (vcol (clr v (vP v)) 0 (rnF (clr v (vP v)) (decide (κ = 4)) (vF (clr v (vP v)) 0) (plc v b) (vP v)).1) 1 (rsF (vcol (clr v (vP v)) 0 (rnF (clr v (vP v)) (decide (κ = 4)) (vF (clr v (vP v)) 0) (plc v b) (vP v)).1) (vF (clr v (vP v)) 1) (rnF (clr v (vP v)) (decide (κ = 4)) (vF (clr v (vP v)) 0) (plc v b) (vP v)).2 (z + 1)).1) := by exact rs_s
                                                  exact ihz h51 (fz ▸ mh51) ph51 kh51
                                                ·
                                                  have c52 : nwA (vcol (vcol (clr v (vP v)) 0 (rnF (clr v (vP v)) (decide (κ = 4)) (vF (clr v (vP v)) 0) (plc v b) (vP v)).1) 1 (rsF (vcol (clr v (vP v)) 0 (rnF (clr v (vP v)) (decide (κ = 4)) (vF (clr v (vP v)) 0) (plc v b) (vP v)).1) (vF (clr v (vP v)) 1) (rnF (clr v (vP v)) (decide (κ = 4)) (vF (clr v (vP v)) 0) (plc v b) (vP v)).2 z).1) ((rsF (vcol (clr v (vP v)) 0 (rnF (clr v (vP v)) (decide (κ = 4)) (vF (clr v (vP v)) 0) (plc v b) (vP v)).1) (vF (clr v (vP v)) 1) (rnF (clr v (vP v)) (decide (κ = 4)) (vF (clr v (vP v)) 0) (plc v b) (vP v)).2 z).2) (vF (vcol (clr v (vP v)) 0 (rnF (clr v (vP v)) (decide (κ = 4)) (vF (clr v (vP v)) 0) (plc v b) (vP v)).1) 0 z) = -1 := c52
                                                  refine r_iload_n C (dx dX7_holdAll 113 rfl) rfl ?_
                                                  refine r_goto (tgt := 216) C (dx dX7_holdAll 114 rfl) (by decide) ?_
                                                  refine r_istore_n (ls' := [(0, vr 7 k), (1, vi (nI κ)), (2, vi (nI b)), (3, vi (nI ((rsF (vcol (clr v (vP v)) 0 (rnF (clr v (vP v)) (decide (κ = 4)) (vF (clr v (vP v)) 0) (plc v b) (vP v)).1) (vF (clr v (vP v)) 1) (rnF (clr v (vP v)) (decide (κ = 4)) (vF (clr v (vP v)) 0) (plc v b) (vP v)).2 z).2))), (4, vi (nI z))]) C (dx dX7_holdAll 121 rfl) (by decide) [1, 2, 3, 0, 4] rfl ?_
                                                  refine rn_iinc (a := z) (k := 1) (ls' := [(0, vr 7 k), (1, vi (nI κ)), (2, vi (nI b)), (3, vi (nI ((rsF (vcol (clr v (vP v)) 0 (rnF (clr v (vP v)) (decide (κ = 4)) (vF (clr v (vP v)) 0) (plc v b) (vP v)).1) (vF (clr v (vP v)) 1) (rnF (clr v (vP v)) (decide (κ = 4)) (vF (clr v (vP v)) 0) (plc v b) (vP v)).2 z).2))), (4, vi (nI (z + 1)))]) C (dx dX7_holdAll 122 rfl) rfl rfl (by decide) [1, 2, 3, 4, 0] rfl ?_
                                                  refine r_goto (tgt := 159) C (dx dX7_holdAll 123 rfl) (by decide) ?_
                                                  have ez3 : (nI ((rsF (vcol (clr v (vP v)) 0 (rnF (clr v (vP v)) (decide (κ = 4)) (vF (clr v (vP v)) 0) (plc v b) (vP v)).1) (vF (clr v (vP v)) 1) (rnF (clr v (vP v)) (decide (κ = 4)) (vF (clr v (vP v)) 0) (plc v b) (vP v)).2 z).2)) = (nI ((rsF (vcol (clr v (vP v)) 0 (rnF (clr v (vP v)) (decide (κ = 4)) (vF (clr v (vP v)) 0) (plc v b) (vP v)).1) (vF (clr v (vP v)) 1) (rnF (clr v (vP v)) (decide (κ = 4)) (vF (clr v (vP v)) 0) (plc v b) (vP v)).2 (z + 1)).2)) := by exact congrArg nI (if_pos c52).symm
                                                  rw [ez3]
                                                  have fz : (vset (vcol (vcol (clr v (vP v)) 0 (rnF (clr v (vP v)) (decide (κ = 4)) (vF (clr v (vP v)) 0) (plc v b) (vP v)).1) 1 (rsF (vcol (clr v (vP v)) 0 (rnF (clr v (vP v)) (decide (κ = 4)) (vF (clr v (vP v)) 0) (plc v b) (vP v)).1) (vF (clr v (vP v)) 1) (rnF (clr v (vP v)) (decide (κ = 4)) (vF (clr v (vP v)) 0) (plc v b) (vP v)).2 z).1) 1 z (nwA (vcol (vcol (clr v (vP v)) 0 (rnF (clr v (vP v)) (decide (κ = 4)) (vF (clr v (vP v)) 0) (plc v b) (vP v)).1) 1 (rsF (vcol (clr v (vP v)) 0 (rnF (clr v (vP v)) (decide (κ = 4)) (vF (clr v (vP v)) 0) (plc v b) (vP v)).1) (vF (clr v (vP v)) 1) (rnF (clr v (vP v)) (decide (κ = 4)) (vF (clr v (vP v)) 0) (plc v b) (vP v)).2 z).1) ((rsF (vcol (clr v (vP v)) 0 (rnF (clr v (vP v)) (decide (κ = 4)) (vF (clr v (vP v)) 0) (plc v b) (vP v)).1) (vF (clr v (vP v)) 1) (rnF (clr v (vP v)) (decide (κ = 4)) (vF (clr v (vP v)) 0) (plc v b) (vP v)).2 z).2) (vF (vcol (clr v (vP v)) 0 (rnF (clr v (vP v)) (decide (κ = 4)) (vF (clr v (vP v)) 0) (plc v b) (vP v)).1) 0 z))) = (vcol (vcol (clr v (vP v)) 0 (rnF (clr v (vP v)) (decide (κ = 4)) (vF (clr v (vP v)) 0) (plc v b) (vP v)).1) 1 (rsF (vcol (clr v (vP v)) 0 (rnF (clr v (vP v)) (decide (κ = 4)) (vF (clr v (vP v)) 0) (plc v b) (vP v)).1) (vF (clr v (vP v)) 1) (rnF (clr v (vP v)) (decide (κ = 4)) (vF (clr v (vP v)) 0) (plc v b) (vP v)).2 (z + 1)).1) := by exact rs_s
                                                  exact ihz h51 (fz ▸ mh51) ph51 kh51))
                                ·
                                  refine r_iload C (dx dX7_holdAll 89 rfl) rfl ?_
                                  refine r_aload_n C (dx dX7_holdAll 90 rfl) rfl ?_
                                  refine g_X7_64 (x := nI (vP v)) C (dx dX7_holdAll 91 rfl) mg9q.eP ?_
                                  refine rn_ge (a := 0) (b := vP v) (tgt := 223) C (by omega) (by omega) (dx dX7_holdAll 92 rfl) (by decide) (fun c53 => ?_) (fun c53 => ?_)
                                  · first
                                    | (omega; done)
                                    | (
                                        have c53 : vP v ≤ 0 := c53
                                        have eV : hAR v κ b = vcol (clr v (vP v)) 0 (rnF (clr v (vP v)) (decide (κ = 4)) (vF (clr v (vP v)) 0) (plc v b) (vP v)).1 := by (unfold hAR; rw [if_neg (show ¬ (κ = 1 ∨ κ = 5) by omega), if_neg h3])
                                        exact F.2.2.1 _ _ _ rfl (dx dX7_holdAll 124 rfl) kg9q ⟨rfl, by rw [eV]; exact mg9q, pg9q⟩)
                                  · first
                                    | (omega; done)
                                    | (
                                        have c53 : 0 < vP v := c53
                                        refine r_iload_n C (dx dX7_holdAll 93 rfl) rfl ?_
                                        refine r_iconst (v := nI 3) C (dx dX7_holdAll 94 rfl) rfl ?_
                                        refine rn_ne (a := κ) (b := 3) (tgt := 223) C (by omega) (by omega) (dx dX7_holdAll 95 rfl) (by decide) (fun c54 => ?_) (fun c54 => ?_)
                                        · first
                                          | (omega; done)
                                          | (
                                              have c54 : ¬ κ = 3 := c54
                                              have eV : hAR v κ b = vcol (clr v (vP v)) 0 (rnF (clr v (vP v)) (decide (κ = 4)) (vF (clr v (vP v)) 0) (plc v b) (vP v)).1 := by (unfold hAR; rw [if_neg (show ¬ (κ = 1 ∨ κ = 5) by omega), if_neg h3])
                                              exact F.2.2.1 _ _ _ rfl (dx dX7_holdAll 124 rfl) kg9q ⟨rfl, by rw [eV]; exact mg9q, pg9q⟩)
                                        ·
                                          have c54 : κ = 3 := c54
                                          exact absurd c54 h3))
                          · first
                            | (omega; done)
                            | (
                                have c44 : vP v < vP v := c44
                                refine r_aload_n C (dx dX7_holdAll 56 rfl) rfl ?_
                                refine g_X7_40 C (dx dX7_holdAll 57 rfl) ?_
                                refine r_iload C (dx dX7_holdAll 58 rfl) rfl ?_
                                refine r_iload_n C (dx dX7_holdAll 59 rfl) rfl ?_
                                refine r_iconst (v := nI 4) C (dx dX7_holdAll 60 rfl) rfl ?_
                                refine rn_ne (a := κ) (b := 4) (tgt := 118) C (by omega) (by omega) (dx dX7_holdAll 61 rfl) (by decide) (fun c55 => ?_) (fun c55 => ?_)
                                · first
                                  | (omega; done)
                                · first
                                  | (omega; done))
                        ·
                          intro q hq ihq g9q mg9q pg9q kg9q
                          refine r_iload C (dx dX7_holdAll 52 rfl) rfl ?_
                          refine r_aload_n C (dx dX7_holdAll 53 rfl) rfl ?_
                          refine g_X7_64 (x := nI (vP v)) C (dx dX7_holdAll 54 rfl) mg9q.eP ?_
                          refine rn_ge (a := q) (b := vP v) (tgt := 156) C (by omega) (by omega) (dx dX7_holdAll 55 rfl) (by decide) (fun c60 => ?_) (fun c60 => ?_)
                          · first
                            | (omega; done)
                            | (
                                have c60 : vP v ≤ q := c60
                                refine r_iconst (v := nI 0) C (dx dX7_holdAll 87 rfl) rfl ?_
                                refine r_istore (ls' := [(0, vr 7 k), (1, vi (nI κ)), (2, vi (nI b)), (3, vi (nI ((rnF (clr v (vP v)) (decide (κ = 4)) (vF (clr v (vP v)) 0) (plc v b) q).2))), (4, vi (nI 0))]) C (dx dX7_holdAll 88 rfl) (by decide) [1, 2, 3, 4, 0] rfl ?_
                                by_cases h3 : κ = 3
                                ·
                                  refine loopU (Φ := fun z => ∀ g9z, MilAt g9z k (vcol (vcol (clr v (vP v)) 0 (rnF (clr v (vP v)) (decide (κ = 4)) (vF (clr v (vP v)) 0) (plc v b) (vP v)).1) 1 (rsF (vcol (clr v (vP v)) 0 (rnF (clr v (vP v)) (decide (κ = 4)) (vF (clr v (vP v)) 0) (plc v b) (vP v)).1) (vF (clr v (vP v)) 1) (rnF (clr v (vP v)) (decide (κ = 4)) (vF (clr v (vP v)) 0) (plc v b) (vP v)).2 z).1) → Kp k h g9z → xK g9z = xK h → Rr G 159 [(0, vr 7 k), (1, vi (nI κ)), (2, vi (nI b)), (3, vi (nI ((rsF (vcol (clr v (vP v)) 0 (rnF (clr v (vP v)) (decide (κ = 4)) (vF (clr v (vP v)) 0) (plc v b) (vP v)).1) (vF (clr v (vP v)) 1) (rnF (clr v (vP v)) (decide (κ = 4)) (vF (clr v (vP v)) 0) (plc v b) (vP v)).2 z).2))), (4, vi (nI z))] [] g9z) (N := vP v) ?_ ?_ 0 (Nat.zero_le _) g9q (by show MilAt _ k (vcol (vcol (clr v (vP v)) 0 (rnF (clr v (vP v)) (decide (κ = 4)) (vF (clr v (vP v)) 0) (plc v b) (vP v)).1) 1 (vF (vcol (clr v (vP v)) 0 (rnF (clr v (vP v)) (decide (κ = 4)) (vF (clr v (vP v)) 0) (plc v b) (vP v)).1) 1)); rw [vcol_id]; exact mg9q) pg9q kg9q
                                  ·
                                    intro g9z mg9z pg9z kg9z
                                    refine r_iload C (dx dX7_holdAll 89 rfl) rfl ?_
                                    refine r_aload_n C (dx dX7_holdAll 90 rfl) rfl ?_
                                    refine g_X7_64 (x := nI (vP v)) C (dx dX7_holdAll 91 rfl) mg9z.eP ?_
                                    refine rn_ge (a := vP v) (b := vP v) (tgt := 223) C (by omega) (by omega) (dx dX7_holdAll 92 rfl) (by decide) (fun c61 => ?_) (fun c61 => ?_)
                                    · first
                                      | (omega; done)
                                      | (
                                          have c61 : vP v ≤ vP v := c61
                                          have eV : hAR v κ b = vcol (vcol (clr v (vP v)) 0 (rnF (clr v (vP v)) (decide (κ = 4)) (vF (clr v (vP v)) 0) (plc v b) (vP v)).1) 1 (rsF (vcol (clr v (vP v)) 0 (rnF (clr v (vP v)) (decide (κ = 4)) (vF (clr v (vP v)) 0) (plc v b) (vP v)).1) (vF (clr v (vP v)) 1) (rnF (clr v (vP v)) (decide (κ = 4)) (vF (clr v (vP v)) 0) (plc v b) (vP v)).2 (vP v)).1 := by (unfold hAR; rw [if_neg (show ¬ (κ = 1 ∨ κ = 5) by omega), if_pos h3, show decide (κ = 4) = false from decide_eq_false (by omega)])
                                          exact F.2.2.1 _ _ _ rfl (dx dX7_holdAll 124 rfl) kg9z ⟨rfl, by rw [eV]; exact mg9z, pg9z⟩)
                                    · first
                                      | (omega; done)
                                      | (
                                          have c61 : vP v < vP v := c61
                                          refine r_iload_n C (dx dX7_holdAll 93 rfl) rfl ?_
                                          refine r_iconst (v := nI 3) C (dx dX7_holdAll 94 rfl) rfl ?_
                                          refine rn_ne (a := κ) (b := 3) (tgt := 223) C (by omega) (by omega) (dx dX7_holdAll 95 rfl) (by decide) (fun c62 => ?_) (fun c62 => ?_)
                                          ·
                                            have c62 : ¬ κ = 3 := c62
                                            exact absurd h3 c62
                                          · first
                                            | (omega; done))
                                  ·
                                    intro z hz ihz g9z mg9z pg9z kg9z
                                    refine r_iload C (dx dX7_holdAll 89 rfl) rfl ?_
                                    refine r_aload_n C (dx dX7_holdAll 90 rfl) rfl ?_
                                    refine g_X7_64 (x := nI (vP v)) C (dx dX7_holdAll 91 rfl) mg9z.eP ?_
                                    refine rn_ge (a := z) (b := vP v) (tgt := 223) C (by omega) (by omega) (dx dX7_holdAll 92 rfl) (by decide) (fun c65 => ?_) (fun c65 => ?_)
                                    · first
                                      | (omega; done)
                                      | (
                                          have c65 : vP v ≤ z := c65
                                          have eV : hAR v κ b = vcol (vcol (clr v (vP v)) 0 (rnF (clr v (vP v)) (decide (κ = 4)) (vF (clr v (vP v)) 0) (plc v b) (vP v)).1) 1 (rsF (vcol (clr v (vP v)) 0 (rnF (clr v (vP v)) (decide (κ = 4)) (vF (clr v (vP v)) 0) (plc v b) (vP v)).1) (vF (clr v (vP v)) 1) (rnF (clr v (vP v)) (decide (κ = 4)) (vF (clr v (vP v)) 0) (plc v b) (vP v)).2 z).1 := by (unfold hAR; rw [if_neg (show ¬ (κ = 1 ∨ κ = 5) by omega), if_pos h3, show decide (κ = 4) = false from decide_eq_false (by omega)])
                                          exact F.2.2.1 _ _ _ rfl (dx dX7_holdAll 124 rfl) kg9z ⟨rfl, by rw [eV]; exact mg9z, pg9z⟩)
                                    · first
                                      | (omega; done)
                                      | (
                                          have c65 : z < vP v := c65
                                          refine r_iload_n C (dx dX7_holdAll 93 rfl) rfl ?_
                                          refine r_iconst (v := nI 3) C (dx dX7_holdAll 94 rfl) rfl ?_
                                          refine rn_ne (a := κ) (b := 3) (tgt := 223) C (by omega) (by omega) (dx dX7_holdAll 95 rfl) (by decide) (fun c66 => ?_) (fun c66 => ?_)
                                          ·
                                            have c66 : ¬ κ = 3 := c66
                                            exact absurd h3 c66
                                          · first
                                            | (omega; done)
                                            | (
                                                have c66 : κ = 3 := c66
                                                refine r_aload_n C (dx dX7_holdAll 96 rfl) rfl ?_
                                                refine g_X7_43 C (dx dX7_holdAll 97 rfl) ?_
                                                refine r_iload C (dx dX7_holdAll 98 rfl) rfl ?_
                                                refine r_aload_n C (dx dX7_holdAll 99 rfl) rfl ?_
                                                refine r_iload_n C (dx dX7_holdAll 100 rfl) rfl ?_
                                                refine r_aload_n C (dx dX7_holdAll 101 rfl) rfl ?_
                                                refine g_X7_40 C (dx dX7_holdAll 102 rfl) ?_
                                                refine r_iload C (dx dX7_holdAll 103 rfl) rfl ?_
                                                refine r_iald (j := z) (x := vF (vcol (clr v (vP v)) 0 (rnF (clr v (vP v)) (decide (κ = 4)) (vF (clr v (vP v)) 0) (plc v b) (vP v)).1) 0 z) C rfl rfl (by decide) rfl (by omega) (dx dX7_holdAll 104 rfl) (mg9z.e0 (by omega)) ?_
                                                refine r_cvP (as := [vi (nI ((rsF (vcol (clr v (vP v)) 0 (rnF (clr v (vP v)) (decide (κ = 4)) (vF (clr v (vP v)) 0) (plc v b) (vP v)).1) (vF (clr v (vP v)) 1) (rnF (clr v (vP v)) (decide (κ = 4)) (vF (clr v (vP v)) 0) (plc v b) (vP v)).2 z).2)), vi (vF (vcol (clr v (vP v)) 0 (rnF (clr v (vP v)) (decide (κ = 4)) (vF (clr v (vP v)) 0) (plc v b) (vP v)).1) 0 z)]) (st := [vi (nI z), vr 20 (k + 19)]) (v := vi (nwA (vcol (vcol (clr v (vP v)) 0 (rnF (clr v (vP v)) (decide (κ = 4)) (vF (clr v (vP v)) 0) (plc v b) (vP v)).1) 1 (rsF (vcol (clr v (vP v)) 0 (rnF (clr v (vP v)) (decide (κ = 4)) (vF (clr v (vP v)) 0) (plc v b) (vP v)).1) (vF (clr v (vP v)) 1) (rnF (clr v (vP v)) (decide (κ = 4)) (vF (clr v (vP v)) 0) (plc v b) (vP v)).2 z).1) ((rsF (vcol (clr v (vP v)) 0 (rnF (clr v (vP v)) (decide (κ = 4)) (vF (clr v (vP v)) 0) (plc v b) (vP v)).1) (vF (clr v (vP v)) 1) (rnF (clr v (vP v)) (decide (κ = 4)) (vF (clr v (vP v)) 0) (plc v b) (vP v)).2 z).2) (vF (vcol (clr v (vP v)) 0 (rnF (clr v (vP v)) (decide (κ = 4)) (vF (clr v (vP v)) 0) (plc v b) (vP v)).1) 0 z))) C X I_X7_nextWithRoom l_X7_289 (e_nw mg9z (a := (rsF (vcol (clr v (vP v)) 0 (rnF (clr v (vP v)) (decide (κ = 4)) (vF (clr v (vP v)) 0) (plc v b) (vP v)).1) (vF (clr v (vP v)) 1) (rnF (clr v (vP v)) (decide (κ = 4)) (vF (clr v (vP v)) 0) (plc v b) (vP v)).2 z).2) (Nat.lt_trans (rsF_lt _ _ _ (rnF_lt _ _ _ _ hp9 (show vN (clr v (vP v)) ≤ 8 from bN) _) (show vN (vcol (clr v (vP v)) 0 (rnF (clr v (vP v)) (decide (κ = 4)) (vF (clr v (vP v)) 0) (plc v b) (vP v)).1) ≤ 8 from bN) _) (by decide)) (vF (vcol (clr v (vP v)) 0 (rnF (clr v (vP v)) (decide (κ = 4)) (vF (clr v (vP v)) 0) (plc v b) (vP v)).1) 0 z)) (by decide) (Nat.le_of_ble_eq_true rfl) (pfx_eq kg9z) rfl rfl (Nat.le_of_ble_eq_true rfl) rfl (dx dX7_holdAll 105 rfl) ?_
                                                refine r_iast (j := z) C rfl rfl (by decide) rfl (by omega) (dx dX7_holdAll 106 rfl) ?_
                                                have mh67 : MilAt (sI g9z (k + 19) z (nwA (vcol (vcol (clr v (vP v)) 0 (rnF (clr v (vP v)) (decide (κ = 4)) (vF (clr v (vP v)) 0) (plc v b) (vP v)).1) 1 (rsF (vcol (clr v (vP v)) 0 (rnF (clr v (vP v)) (decide (κ = 4)) (vF (clr v (vP v)) 0) (plc v b) (vP v)).1) (vF (clr v (vP v)) 1) (rnF (clr v (vP v)) (decide (κ = 4)) (vF (clr v (vP v)) 0) (plc v b) (vP v)).2 z).1) ((rsF (vcol (clr v (vP v)) 0 (rnF (clr v (vP v)) (decide (κ = 4)) (vF (clr v (vP v)) 0) (plc v b) (vP v)).1) (vF (clr v (vP v)) 1) (rnF (clr v (vP v)) (decide (κ = 4)) (vF (clr v (vP v)) 0) (plc v b) (vP v)).2 z).2) (vF (vcol (clr v (vP v)) 0 (rnF (clr v (vP v)) (decide (κ = 4)) (vF (clr v (vP v)) 0) (plc v b) (vP v)).1) 0 z))) k (vset (vcol (vcol (clr v (vP v)) 0 (rnF (clr v (vP v)) (decide (κ = 4)) (vF (clr v (vP v)) 0) (plc v b) (vP v)).1) 1 (rsF (vcol (clr v (vP v)) 0 (rnF (clr v (vP v)) (decide (κ = 4)) (vF (clr v (vP v)) 0) (plc v b) (vP v)).1) (vF (clr v (vP v)) 1) (rnF (clr v (vP v)) (decide (κ = 4)) (vF (clr v (vP v)) 0) (plc v b) (vP v)).2 z).1) 1 z (nwA (vcol (vcol (clr v (vP v)) 0 (rnF (clr v (vP v)) (decide (κ = 4)) (vF (clr v (vP v)) 0) (plc v b) (vP v)).1) 1 (rsF (vcol (clr v (vP v)) 0 (rnF (clr v (vP v)) (decide (κ = 4)) (vF (clr v (vP v)) 0) (plc v b) (vP v)).1) (vF (clr v (vP v)) 1) (rnF (clr v (vP v)) (decide (κ = 4)) (vF (clr v (vP v)) 0) (plc v b) (vP v)).2 z).1) ((rsF (vcol (clr v (vP v)) 0 (rnF (clr v (vP v)) (decide (κ = 4)) (vF (clr v (vP v)) 0) (plc v b) (vP v)).1) (vF (clr v (vP v)) 1) (rnF (clr v (vP v)) (decide (κ = 4)) (vF (clr v (vP v)) 0) (plc v b) (vP v)).2 z).2) (vF (vcol (clr v (vP v)) 0 (rnF (clr v (vP v)) (decide (κ = 4)) (vF (clr v (vP v)) 0) (plc v b) (vP v)).1) 0 z))) := mg9z.s1
                                                have ph67 : Kp k h (sI g9z (k + 19) z (nwA (vcol (vcol (clr v (vP v)) 0 (rnF (clr v (vP v)) (decide (κ = 4)) (vF (clr v (vP v)) 0) (plc v b) (vP v)).1) 1 (rsF (vcol (clr v (vP v)) 0 (rnF (clr v (vP v)) (decide (κ = 4)) (vF (clr v (vP v)) 0) (plc v b) (vP v)).1) (vF (clr v (vP v)) 1) (rnF (clr v (vP v)) (decide (κ = 4)) (vF (clr v (vP v)) 0) (plc v b) (vP v)).2 z).1) ((rsF (vcol (clr v (vP v)) 0 (rnF (clr v (vP v)) (decide (κ = 4)) (vF (clr v (vP v)) 0) (plc v b) (vP v)).1) (vF (clr v (vP v)) 1) (rnF (clr v (vP v)) (decide (κ = 4)) (vF (clr v (vP v)) 0) (plc v b) (vP v)).2 z).2) (vF (vcol (clr v (vP v)) 0 (rnF (clr v (vP v)) (decide (κ = 4)) (vF (clr v (vP v)) 0) (plc v b) (vP v)).1) 0 z))) := pg9z.tr (Kp.c (by omega) (by omega))
                                                have kh67 : xK (sI g9z (k + 19) z (nwA (vcol (vcol (clr v (vP v)) 0 (rnF (clr v (vP v)) (decide (κ = 4)) (vF (clr v (vP v)) 0) (plc v b) (vP v)).1) 1 (rsF (vcol (clr v (vP v)) 0 (rnF (clr v (vP v)) (decide (κ = 4)) (vF (clr v (vP v)) 0) (plc v b) (vP v)).1) (vF (clr v (vP v)) 1) (rnF (clr v (vP v)) (decide (κ = 4)) (vF (clr v (vP v)) 0) (plc v b) (vP v)).2 z).1) ((rsF (vcol (clr v (vP v)) 0 (rnF (clr v (vP v)) (decide (κ = 4)) (vF (clr v (vP v)) 0) (plc v b) (vP v)).1) (vF (clr v (vP v)) 1) (rnF (clr v (vP v)) (decide (κ = 4)) (vF (clr v (vP v)) 0) (plc v b) (vP v)).2 z).2) (vF (vcol (clr v (vP v)) 0 (rnF (clr v (vP v)) (decide (κ = 4)) (vF (clr v (vP v)) 0) (plc v b) (vP v)).1) 0 z))) = xK h := kg9z
                                                generalize sI g9z (k + 19) z (nwA (vcol (vcol (clr v (vP v)) 0 (rnF (clr v (vP v)) (decide (κ = 4)) (vF (clr v (vP v)) 0) (plc v b) (vP v)).1) 1 (rsF (vcol (clr v (vP v)) 0 (rnF (clr v (vP v)) (decide (κ = 4)) (vF (clr v (vP v)) 0) (plc v b) (vP v)).1) (vF (clr v (vP v)) 1) (rnF (clr v (vP v)) (decide (κ = 4)) (vF (clr v (vP v)) 0) (plc v b) (vP v)).2 z).1) ((rsF (vcol (clr v (vP v)) 0 (rnF (clr v (vP v)) (decide (κ = 4)) (vF (clr v (vP v)) 0) (plc v b) (vP v)).1) (vF (clr v (vP v)) 1) (rnF (clr v (vP v)) (decide (κ = 4)) (vF (clr v (vP v)) 0) (plc v b) (vP v)).2 z).2) (vF (vcol (clr v (vP v)) 0 (rnF (clr v (vP v)) (decide (κ = 4)) (vF (clr v (vP v)) 0) (plc v b) (vP v)).1) 0 z)) = h67 at mh67 ph67 kh67 ⊢
                                                refine r_aload_n C (dx dX7_holdAll 107 rfl) rfl ?_
                                                refine g_X7_43 C (dx dX7_holdAll 108 rfl) ?_
                                                refine r_iload C (dx dX7_holdAll 109 rfl) rfl ?_
                                                refine r_iald (j := z) (x := nwA (vcol (vcol (clr v (vP v)) 0 (rnF (clr v (vP v)) (decide (κ = 4)) (vF (clr v (vP v)) 0) (plc v b) (vP v)).1) 1 (rsF (vcol (clr v (vP v)) 0 (rnF (clr v (vP v)) (decide (κ = 4)) (vF (clr v (vP v)) 0) (plc v b) (vP v)).1) (vF (clr v (vP v)) 1) (rnF (clr v (vP v)) (decide (κ = 4)) (vF (clr v (vP v)) 0) (plc v b) (vP v)).2 z).1) ((rsF (vcol (clr v (vP v)) 0 (rnF (clr v (vP v)) (decide (κ = 4)) (vF (clr v (vP v)) 0) (plc v b) (vP v)).1) (vF (clr v (vP v)) 1) (rnF (clr v (vP v)) (decide (κ = 4)) (vF (clr v (vP v)) 0) (plc v b) (vP v)).2 z).2) (vF (vcol (clr v (vP v)) 0 (rnF (clr v (vP v)) (decide (κ = 4)) (vF (clr v (vP v)) 0) (plc v b) (vP v)).1) 0 z)) C rfl rfl (by decide) rfl (by omega) (dx dX7_holdAll 110 rfl) ((mh67.e1 (by omega)).trans (by simp [vset, vF])) ?_
                                                refine r_iconst (v := -1) C (dx dX7_holdAll 111 rfl) rfl ?_
                                                refine r_icmp_ne (tgt := 207) C (dx dX7_holdAll 112 rfl) (by decide) (fun c68 => ?_) (fun c68 => ?_)
                                                ·
                                                  have c68 : ¬ nwA (vcol (vcol (clr v (vP v)) 0 (rnF (clr v (vP v)) (decide (κ = 4)) (vF (clr v (vP v)) 0) (plc v b) (vP v)).1) 1 (rsF (vcol (clr v (vP v)) 0 (rnF (clr v (vP v)) (decide (κ = 4)) (vF (clr v (vP v)) 0) (plc v b) (vP v)).1) (vF (clr v (vP v)) 1) (rnF (clr v (vP v)) (decide (κ = 4)) (vF (clr v (vP v)) 0) (plc v b) (vP v)).2 z).1) ((rsF (vcol (clr v (vP v)) 0 (rnF (clr v (vP v)) (decide (κ = 4)) (vF (clr v (vP v)) 0) (plc v b) (vP v)).1) (vF (clr v (vP v)) 1) (rnF (clr v (vP v)) (decide (κ = 4)) (vF (clr v (vP v)) 0) (plc v b) (vP v)).2 z).2) (vF (vcol (clr v (vP v)) 0 (rnF (clr v (vP v)) (decide (κ = 4)) (vF (clr v (vP v)) 0) (plc v b) (vP v)).1) 0 z) = -1 := c68
                                                  refine r_aload_n C (dx dX7_holdAll 115 rfl) rfl ?_
                                                  refine g_X7_43 C (dx dX7_holdAll 116 rfl) ?_
                                                  refine r_iload C (dx dX7_holdAll 117 rfl) rfl ?_
                                                  refine r_iald (j := z) (x := nwA (vcol (vcol (clr v (vP v)) 0 (rnF (clr v (vP v)) (decide (κ = 4)) (vF (clr v (vP v)) 0) (plc v b) (vP v)).1) 1 (rsF (vcol (clr v (vP v)) 0 (rnF (clr v (vP v)) (decide (κ = 4)) (vF (clr v (vP v)) 0) (plc v b) (vP v)).1) (vF (clr v (vP v)) 1) (rnF (clr v (vP v)) (decide (κ = 4)) (vF (clr v (vP v)) 0) (plc v b) (vP v)).2 z).1) ((rsF (vcol (clr v (vP v)) 0 (rnF (clr v (vP v)) (decide (κ = 4)) (vF (clr v (vP v)) 0) (plc v b) (vP v)).1) (vF (clr v (vP v)) 1) (rnF (clr v (vP v)) (decide (κ = 4)) (vF (clr v (vP v)) 0) (plc v b) (vP v)).2 z).2) (vF (vcol (clr v (vP v)) 0 (rnF (clr v (vP v)) (decide (κ = 4)) (vF (clr v (vP v)) 0) (plc v b) (vP v)).1) 0 z)) C rfl rfl (by decide) rfl (by omega) (dx dX7_holdAll 118 rfl) ((mh67.e1 (by omega)).trans (by simp [vset, vF])) ?_
                                                  refine r_iconst (v := nI 1) C (dx dX7_holdAll 119 rfl) rfl ?_
                                                  refine r_iadd C (dx dX7_holdAll 120 rfl) ?_
                                                  refine r_istore_n (ls' := [(0, vr 7 k), (1, vi (nI κ)), (2, vi (nI b)), (3, vi ((nwA (vcol (vcol (clr v (vP v)) 0 (rnF (clr v (vP v)) (decide (κ = 4)) (vF (clr v (vP v)) 0) (plc v b) (vP v)).1) 1 (rsF (vcol (clr v (vP v)) 0 (rnF (clr v (vP v)) (decide (κ = 4)) (vF (clr v (vP v)) 0) (plc v b) (vP v)).1) (vF (clr v (vP v)) 1) (rnF (clr v (vP v)) (decide (κ = 4)) (vF (clr v (vP v)) 0) (plc v b) (vP v)).2 z).1) ((rsF (vcol (clr v (vP v)) 0 (rnF (clr v (vP v)) (decide (κ = 4)) (vF (clr v (vP v)) 0) (plc v b) (vP v)).1) (vF (clr v (vP v)) 1) (rnF (clr v (vP v)) (decide (κ = 4)) (vF (clr v (vP v)) 0) (plc v b) (vP v)).2 z).2) (vF (vcol (clr v (vP v)) 0 (rnF (clr v (vP v)) (decide (κ = 4)) (vF (clr v (vP v)) 0) (plc v b) (vP v)).1) 0 z)) + (nI 1))), (4, vi (nI z))]) C (dx dX7_holdAll 121 rfl) (by decide) [1, 2, 3, 0, 4] rfl ?_
                                                  refine rn_iinc (a := z) (k := 1) (ls' := [(0, vr 7 k), (1, vi (nI κ)), (2, vi (nI b)), (3, vi ((nwA (vcol (vcol (clr v (vP v)) 0 (rnF (clr v (vP v)) (decide (κ = 4)) (vF (clr v (vP v)) 0) (plc v b) (vP v)).1) 1 (rsF (vcol (clr v (vP v)) 0 (rnF (clr v (vP v)) (decide (κ = 4)) (vF (clr v (vP v)) 0) (plc v b) (vP v)).1) (vF (clr v (vP v)) 1) (rnF (clr v (vP v)) (decide (κ = 4)) (vF (clr v (vP v)) 0) (plc v b) (vP v)).2 z).1) ((rsF (vcol (clr v (vP v)) 0 (rnF (clr v (vP v)) (decide (κ = 4)) (vF (clr v (vP v)) 0) (plc v b) (vP v)).1) (vF (clr v (vP v)) 1) (rnF (clr v (vP v)) (decide (κ = 4)) (vF (clr v (vP v)) 0) (plc v b) (vP v)).2 z).2) (vF (vcol (clr v (vP v)) 0 (rnF (clr v (vP v)) (decide (κ = 4)) (vF (clr v (vP v)) 0) (plc v b) (vP v)).1) 0 z)) + (nI 1))), (4, vi (nI (z + 1)))]) C (dx dX7_holdAll 122 rfl) rfl rfl (by decide) [1, 2, 3, 4, 0] rfl ?_
                                                  refine r_goto (tgt := 159) C (dx dX7_holdAll 123 rfl) (by decide) ?_
                                                  have ez3 : ((nwA (vcol (vcol (clr v (vP v)) 0 (rnF (clr v (vP v)) (decide (κ = 4)) (vF (clr v (vP v)) 0) (plc v b) (vP v)).1) 1 (rsF (vcol (clr v (vP v)) 0 (rnF (clr v (vP v)) (decide (κ = 4)) (vF (clr v (vP v)) 0) (plc v b) (vP v)).1) (vF (clr v (vP v)) 1) (rnF (clr v (vP v)) (decide (κ = 4)) (vF (clr v (vP v)) 0) (plc v b) (vP v)).2 z).1) ((rsF (vcol (clr v (vP v)) 0 (rnF (clr v (vP v)) (decide (κ = 4)) (vF (clr v (vP v)) 0) (plc v b) (vP v)).1) (vF (clr v (vP v)) 1) (rnF (clr v (vP v)) (decide (κ = 4)) (vF (clr v (vP v)) 0) (plc v b) (vP v)).2 z).2) (vF (vcol (clr v (vP v)) 0 (rnF (clr v (vP v)) (decide (κ = 4)) (vF (clr v (vP v)) 0) (plc v b) (vP v)).1) 0 z)) + (nI 1)) = (nI ((rsF (vcol (clr v (vP v)) 0 (rnF (clr v (vP v)) (decide (κ = 4)) (vF (clr v (vP v)) 0) (plc v b) (vP v)).1) (vF (clr v (vP v)) 1) (rnF (clr v (vP v)) (decide (κ = 4)) (vF (clr v (vP v)) 0) (plc v b) (vP v)).2 (z + 1)).2)) := by ((refine (pl_s (nw_ex2 (vcol (vcol (clr v (vP v)) 0 (rnF (clr v (vP v)) (decide (κ = 4)) (vF (clr v (vP v)) 0) (plc v b) (vP v)).1) 1 (rsF (vcol (clr v (vP v)) 0 (rnF (clr v (vP v)) (decide (κ = 4)) (vF (clr v (vP v)) 0) (plc v b) (vP v)).1) (vF (clr v (vP v)) 1) (rnF (clr v (vP v)) (decide (κ = 4)) (vF (clr v (vP v)) 0) (plc v b) (vP v)).2 z).1) _ _) c68 bN).trans ?_); exact congrArg nI (if_neg c68).symm)
                                                  rw [ez3]
                                                  have fz : (vset (vcol (vcol (clr v (vP v)) 0 (rnF (clr v (vP v)) (decide (κ = 4)) (vF (clr v (vP v)) 0) (plc v b) (vP v)).1) 1 (rsF (vcol (clr v (vP v)) 0 (rnF (clr v (vP v)) (decide (κ = 4)) (vF (clr v (vP v)) 0) (plc v b) (vP v)).1) (vF (clr v (vP v)) 1) (rnF (clr v (vP v)) (decide (κ = 4)) (vF (clr v (vP v)) 0) (plc v b) (vP v)).2 z).1) 1 z (nwA (vcol (vcol (clr v (vP v)) 0 (rnF (clr v (vP v)) (decide (κ = 4)) (vF (clr v (vP v)) 0) (plc v b) (vP v)).1) 1 (rsF (vcol (clr v (vP v)) 0 (rnF (clr v (vP v)) (decide (κ = 4)) (vF (clr v (vP v)) 0) (plc v b) (vP v)).1) (vF (clr v (vP v)) 1) (rnF (clr v (vP v)) (decide (κ = 4)) (vF (clr v (vP v)) 0) (plc v b) (vP v)).2 z).1) ((rsF (vcol (clr v (vP v)) 0 (rnF (clr v (vP v)) (decide (κ = 4)) (vF (clr v (vP v)) 0) (plc v b) (vP v)).1) (vF (clr v (vP v)) 1) (rnF (clr v (vP v)) (decide (κ = 4)) (vF (clr v (vP v)) 0) (plc v b) (vP v)).2 z).2) (vF (vcol (clr v (vP v)) 0 (rnF (clr v (vP v)) (decide (κ = 4)) (vF (clr v (vP v)) 0) (plc v b) (vP v)).1) 0 z))) = (vcol (vcol (clr v (vP v)) 0 (rnF (clr v (vP v)) (decide (κ = 4)) (vF (clr v (vP v)) 0) (plc v b) (vP v)).1) 1 (rsF (vcol (clr v (vP v)) 0 (rnF (clr v (vP v)) (decide (κ = 4)) (vF (clr v (vP v)) 0) (plc v b) (vP v)).1) (vF (clr v (vP v)) 1) (rnF (clr v (vP v)) (decide (κ = 4)) (vF (clr v (vP v)) 0) (plc v b) (vP v)).2 (z + 1)).1) := by exact rs_s
                                                  exact ihz h67 (fz ▸ mh67) ph67 kh67
                                                ·
                                                  have c68 : nwA (vcol (vcol (clr v (vP v)) 0 (rnF (clr v (vP v)) (decide (κ = 4)) (vF (clr v (vP v)) 0) (plc v b) (vP v)).1) 1 (rsF (vcol (clr v (vP v)) 0 (rnF (clr v (vP v)) (decide (κ = 4)) (vF (clr v (vP v)) 0) (plc v b) (vP v)).1) (vF (clr v (vP v)) 1) (rnF (clr v (vP v)) (decide (κ = 4)) (vF (clr v (vP v)) 0) (plc v b) (vP v)).2 z).1) ((rsF (vcol (clr v (vP v)) 0 (rnF (clr v (vP v)) (decide (κ = 4)) (vF (clr v (vP v)) 0) (plc v b) (vP v)).1) (vF (clr v (vP v)) 1) (rnF (clr v (vP v)) (decide (κ = 4)) (vF (clr v (vP v)) 0) (plc v b) (vP v)).2 z).2) (vF (vcol (clr v (vP v)) 0 (rnF (clr v (vP v)) (decide (κ = 4)) (vF (clr v (vP v)) 0) (plc v b) (vP v)).1) 0 z) = -1 := c68
                                                  refine r_iload_n C (dx dX7_holdAll 113 rfl) rfl ?_
                                                  refine r_goto (tgt := 216) C (dx dX7_holdAll 114 rfl) (by decide) ?_
                                                  refine r_istore_n (ls' := [(0, vr 7 k), (1, vi (nI κ)), (2, vi (nI b)), (3, vi (nI ((rsF (vcol (clr v (vP v)) 0 (rnF (clr v (vP v)) (decide (κ = 4)) (vF (clr v (vP v)) 0) (plc v b) (vP v)).1) (vF (clr v (vP v)) 1) (rnF (clr v (vP v)) (decide (κ = 4)) (vF (clr v (vP v)) 0) (plc v b) (vP v)).2 z).2))), (4, vi (nI z))]) C (dx dX7_holdAll 121 rfl) (by decide) [1, 2, 3, 0, 4] rfl ?_
                                                  refine rn_iinc (a := z) (k := 1) (ls' := [(0, vr 7 k), (1, vi (nI κ)), (2, vi (nI b)), (3, vi (nI ((rsF (vcol (clr v (vP v)) 0 (rnF (clr v (vP v)) (decide (κ = 4)) (vF (clr v (vP v)) 0) (plc v b) (vP v)).1) (vF (clr v (vP v)) 1) (rnF (clr v (vP v)) (decide (κ = 4)) (vF (clr v (vP v)) 0) (plc v b) (vP v)).2 z).2))), (4, vi (nI (z + 1)))]) C (dx dX7_holdAll 122 rfl) rfl rfl (by decide) [1, 2, 3, 4, 0] rfl ?_
                                                  refine r_goto (tgt := 159) C (dx dX7_holdAll 123 rfl) (by decide) ?_
                                                  have ez3 : (nI ((rsF (vcol (clr v (vP v)) 0 (rnF (clr v (vP v)) (decide (κ = 4)) (vF (clr v (vP v)) 0) (plc v b) (vP v)).1) (vF (clr v (vP v)) 1) (rnF (clr v (vP v)) (decide (κ = 4)) (vF (clr v (vP v)) 0) (plc v b) (vP v)).2 z).2)) = (nI ((rsF (vcol (clr v (vP v)) 0 (rnF (clr v (vP v)) (decide (κ = 4)) (vF (clr v (vP v)) 0) (plc v b) (vP v)).1) (vF (clr v (vP v)) 1) (rnF (clr v (vP v)) (decide (κ = 4)) (vF (clr v (vP v)) 0) (plc v b) (vP v)).2 (z + 1)).2)) := by exact congrArg nI (if_pos c68).symm
                                                  rw [ez3]
                                                  have fz : (vset (vcol (vcol (clr v (vP v)) 0 (rnF (clr v (vP v)) (decide (κ = 4)) (vF (clr v (vP v)) 0) (plc v b) (vP v)).1) 1 (rsF (vcol (clr v (vP v)) 0 (rnF (clr v (vP v)) (decide (κ = 4)) (vF (clr v (vP v)) 0) (plc v b) (vP v)).1) (vF (clr v (vP v)) 1) (rnF (clr v (vP v)) (decide (κ = 4)) (vF (clr v (vP v)) 0) (plc v b) (vP v)).2 z).1) 1 z (nwA (vcol (vcol (clr v (vP v)) 0 (rnF (clr v (vP v)) (decide (κ = 4)) (vF (clr v (vP v)) 0) (plc v b) (vP v)).1) 1 (rsF (vcol (clr v (vP v)) 0 (rnF (clr v (vP v)) (decide (κ = 4)) (vF (clr v (vP v)) 0) (plc v b) (vP v)).1) (vF (clr v (vP v)) 1) (rnF (clr v (vP v)) (decide (κ = 4)) (vF (clr v (vP v)) 0) (plc v b) (vP v)).2 z).1) ((rsF (vcol (clr v (vP v)) 0 (rnF (clr v (vP v)) (decide (κ = 4)) (vF (clr v (vP v)) 0) (plc v b) (vP v)).1) (vF (clr v (vP v)) 1) (rnF (clr v (vP v)) (decide (κ = 4)) (vF (clr v (vP v)) 0) (plc v b) (vP v)).2 z).2) (vF (vcol (clr v (vP v)) 0 (rnF (clr v (vP v)) (decide (κ = 4)) (vF (clr v (vP v)) 0) (plc v b) (vP v)).1) 0 z))) = (vcol (vcol (clr v (vP v)) 0 (rnF (clr v (vP v)) (decide (κ = 4)) (vF (clr v (vP v)) 0) (plc v b) (vP v)).1) 1 (rsF (vcol (clr v (vP v)) 0 (rnF (clr v (vP v)) (decide (κ = 4)) (vF (clr v (vP v)) 0) (plc v b) (vP v)).1) (vF (clr v (vP v)) 1) (rnF (clr v (vP v)) (decide (κ = 4)) (vF (clr v (vP v)) 0) (plc v b) (vP v)).2 (z + 1)).1) := by exact rs_s
                                                  exact ihz h67 (fz ▸ mh67) ph67 kh67))
                                ·
                                  refine r_iload C (dx dX7_holdAll 89 rfl) rfl ?_
                                  refine r_aload_n C (dx dX7_holdAll 90 rfl) rfl ?_
                                  refine g_X7_64 (x := nI (vP v)) C (dx dX7_holdAll 91 rfl) mg9q.eP ?_
                                  refine rn_ge (a := 0) (b := vP v) (tgt := 223) C (by omega) (by omega) (dx dX7_holdAll 92 rfl) (by decide) (fun c69 => ?_) (fun c69 => ?_)
                                  · first
                                    | (omega; done)
                                    | (
                                        have c69 : vP v ≤ 0 := c69
                                        have eV : hAR v κ b = vcol (clr v (vP v)) 0 (rnF (clr v (vP v)) (decide (κ = 4)) (vF (clr v (vP v)) 0) (plc v b) q).1 := by (unfold hAR; rw [if_neg (show ¬ (κ = 1 ∨ κ = 5) by omega), if_neg h3])
                                        exact F.2.2.1 _ _ _ rfl (dx dX7_holdAll 124 rfl) kg9q ⟨rfl, by rw [eV]; exact mg9q, pg9q⟩)
                                  · first
                                    | (omega; done)
                                    | (
                                        have c69 : 0 < vP v := c69
                                        refine r_iload_n C (dx dX7_holdAll 93 rfl) rfl ?_
                                        refine r_iconst (v := nI 3) C (dx dX7_holdAll 94 rfl) rfl ?_
                                        refine rn_ne (a := κ) (b := 3) (tgt := 223) C (by omega) (by omega) (dx dX7_holdAll 95 rfl) (by decide) (fun c70 => ?_) (fun c70 => ?_)
                                        · first
                                          | (omega; done)
                                          | (
                                              have c70 : ¬ κ = 3 := c70
                                              have eV : hAR v κ b = vcol (clr v (vP v)) 0 (rnF (clr v (vP v)) (decide (κ = 4)) (vF (clr v (vP v)) 0) (plc v b) q).1 := by (unfold hAR; rw [if_neg (show ¬ (κ = 1 ∨ κ = 5) by omega), if_neg h3])
                                              exact F.2.2.1 _ _ _ rfl (dx dX7_holdAll 124 rfl) kg9q ⟨rfl, by rw [eV]; exact mg9q, pg9q⟩)
                                        ·
                                          have c70 : κ = 3 := c70
                                          exact absurd c70 h3))
                          · first
                            | (omega; done)
                            | (
                                have c60 : q < vP v := c60
                                refine r_aload_n C (dx dX7_holdAll 56 rfl) rfl ?_
                                refine g_X7_40 C (dx dX7_holdAll 57 rfl) ?_
                                refine r_iload C (dx dX7_holdAll 58 rfl) rfl ?_
                                refine r_iload_n C (dx dX7_holdAll 59 rfl) rfl ?_
                                refine r_iconst (v := nI 4) C (dx dX7_holdAll 60 rfl) rfl ?_
                                refine rn_ne (a := κ) (b := 4) (tgt := 118) C (by omega) (by omega) (dx dX7_holdAll 61 rfl) (by decide) (fun c71 => ?_) (fun c71 => ?_)
                                · first
                                  | (omega; done)
                                  | (
                                      have c71 : ¬ κ = 4 := c71
                                      refine r_aload_n C (dx dX7_holdAll 65 rfl) rfl ?_
                                      refine r_iload_n C (dx dX7_holdAll 66 rfl) rfl ?_
                                      refine r_iconst (v := -1) C (dx dX7_holdAll 67 rfl) rfl ?_
                                      refine r_cvP (as := [vi (nI ((rnF (clr v (vP v)) (decide (κ = 4)) (vF (clr v (vP v)) 0) (plc v b) q).2)), vi (-1)]) (st := [vi (nI q), vr 20 (k + 18)]) (v := vi (nwA (vcol (clr v (vP v)) 0 (rnF (clr v (vP v)) (decide (κ = 4)) (vF (clr v (vP v)) 0) (plc v b) q).1) ((rnF (clr v (vP v)) (decide (κ = 4)) (vF (clr v (vP v)) 0) (plc v b) q).2) (-1))) C X I_X7_nextWithRoom l_X7_289 (e_nw mg9q (a := (rnF (clr v (vP v)) (decide (κ = 4)) (vF (clr v (vP v)) 0) (plc v b) q).2) (Nat.lt_trans (rnF_lt _ _ _ _ hp9 (show vN (clr v (vP v)) ≤ 8 from bN) _) (by decide)) (-1)) (by decide) (Nat.le_of_ble_eq_true rfl) (pfx_eq kg9q) rfl rfl (Nat.le_of_ble_eq_true rfl) rfl (dx dX7_holdAll 68 rfl) ?_
                                      refine r_iast (j := q) C rfl rfl (by decide) rfl (by omega) (dx dX7_holdAll 69 rfl) ?_
                                      have mh72 : MilAt (sI g9q (k + 18) q (nwA (vcol (clr v (vP v)) 0 (rnF (clr v (vP v)) (decide (κ = 4)) (vF (clr v (vP v)) 0) (plc v b) q).1) ((rnF (clr v (vP v)) (decide (κ = 4)) (vF (clr v (vP v)) 0) (plc v b) q).2) (-1))) k (vset (vcol (clr v (vP v)) 0 (rnF (clr v (vP v)) (decide (κ = 4)) (vF (clr v (vP v)) 0) (plc v b) q).1) 0 q (nwA (vcol (clr v (vP v)) 0 (rnF (clr v (vP v)) (decide (κ = 4)) (vF (clr v (vP v)) 0) (plc v b) q).1) ((rnF (clr v (vP v)) (decide (κ = 4)) (vF (clr v (vP v)) 0) (plc v b) q).2) (-1))) := mg9q.s0
                                      have ph72 : Kp k h (sI g9q (k + 18) q (nwA (vcol (clr v (vP v)) 0 (rnF (clr v (vP v)) (decide (κ = 4)) (vF (clr v (vP v)) 0) (plc v b) q).1) ((rnF (clr v (vP v)) (decide (κ = 4)) (vF (clr v (vP v)) 0) (plc v b) q).2) (-1))) := pg9q.tr (Kp.c (by omega) (by omega))
                                      have kh72 : xK (sI g9q (k + 18) q (nwA (vcol (clr v (vP v)) 0 (rnF (clr v (vP v)) (decide (κ = 4)) (vF (clr v (vP v)) 0) (plc v b) q).1) ((rnF (clr v (vP v)) (decide (κ = 4)) (vF (clr v (vP v)) 0) (plc v b) q).2) (-1))) = xK h := kg9q
                                      generalize sI g9q (k + 18) q (nwA (vcol (clr v (vP v)) 0 (rnF (clr v (vP v)) (decide (κ = 4)) (vF (clr v (vP v)) 0) (plc v b) q).1) ((rnF (clr v (vP v)) (decide (κ = 4)) (vF (clr v (vP v)) 0) (plc v b) q).2) (-1)) = h72 at mh72 ph72 kh72 ⊢
                                      refine r_aload_n C (dx dX7_holdAll 70 rfl) rfl ?_
                                      refine g_X7_40 C (dx dX7_holdAll 71 rfl) ?_
                                      refine r_iload C (dx dX7_holdAll 72 rfl) rfl ?_
                                      refine r_iald (j := q) (x := nwA (vcol (clr v (vP v)) 0 (rnF (clr v (vP v)) (decide (κ = 4)) (vF (clr v (vP v)) 0) (plc v b) q).1) ((rnF (clr v (vP v)) (decide (κ = 4)) (vF (clr v (vP v)) 0) (plc v b) q).2) (-1)) C rfl rfl (by decide) rfl (by omega) (dx dX7_holdAll 73 rfl) ((mh72.e0 (by omega)).trans (by simp [vset, vF])) ?_
                                      refine r_iconst (v := -1) C (dx dX7_holdAll 74 rfl) rfl ?_
                                      refine r_icmp_ne (tgt := 140) C (dx dX7_holdAll 75 rfl) (by decide) (fun c73 => ?_) (fun c73 => ?_)
                                      ·
                                        have c73 : ¬ nwA (vcol (clr v (vP v)) 0 (rnF (clr v (vP v)) (decide (κ = 4)) (vF (clr v (vP v)) 0) (plc v b) q).1) ((rnF (clr v (vP v)) (decide (κ = 4)) (vF (clr v (vP v)) 0) (plc v b) q).2) (-1) = -1 := c73
                                        refine r_aload_n C (dx dX7_holdAll 78 rfl) rfl ?_
                                        refine g_X7_40 C (dx dX7_holdAll 79 rfl) ?_
                                        refine r_iload C (dx dX7_holdAll 80 rfl) rfl ?_
                                        refine r_iald (j := q) (x := nwA (vcol (clr v (vP v)) 0 (rnF (clr v (vP v)) (decide (κ = 4)) (vF (clr v (vP v)) 0) (plc v b) q).1) ((rnF (clr v (vP v)) (decide (κ = 4)) (vF (clr v (vP v)) 0) (plc v b) q).2) (-1)) C rfl rfl (by decide) rfl (by omega) (dx dX7_holdAll 81 rfl) ((mh72.e0 (by omega)).trans (by simp [vset, vF])) ?_
                                        refine r_iconst (v := nI 1) C (dx dX7_holdAll 82 rfl) rfl ?_
                                        refine r_iadd C (dx dX7_holdAll 83 rfl) ?_
                                        refine r_istore_n (ls' := [(0, vr 7 k), (1, vi (nI κ)), (2, vi (nI b)), (3, vi ((nwA (vcol (clr v (vP v)) 0 (rnF (clr v (vP v)) (decide (κ = 4)) (vF (clr v (vP v)) 0) (plc v b) q).1) ((rnF (clr v (vP v)) (decide (κ = 4)) (vF (clr v (vP v)) 0) (plc v b) q).2) (-1)) + (nI 1))), (4, vi (nI q))]) C (dx dX7_holdAll 84 rfl) (by decide) [1, 2, 3, 0, 4] rfl ?_
                                        refine rn_iinc (a := q) (k := 1) (ls' := [(0, vr 7 k), (1, vi (nI κ)), (2, vi (nI b)), (3, vi ((nwA (vcol (clr v (vP v)) 0 (rnF (clr v (vP v)) (decide (κ = 4)) (vF (clr v (vP v)) 0) (plc v b) q).1) ((rnF (clr v (vP v)) (decide (κ = 4)) (vF (clr v (vP v)) 0) (plc v b) q).2) (-1)) + (nI 1))), (4, vi (nI (q + 1)))]) C (dx dX7_holdAll 85 rfl) rfl rfl (by decide) [1, 2, 3, 4, 0] rfl ?_
                                        refine r_goto (tgt := 91) C (dx dX7_holdAll 86 rfl) (by decide) ?_
                                        have eq3 : ((nwA (vcol (clr v (vP v)) 0 (rnF (clr v (vP v)) (decide (κ = 4)) (vF (clr v (vP v)) 0) (plc v b) q).1) ((rnF (clr v (vP v)) (decide (κ = 4)) (vF (clr v (vP v)) 0) (plc v b) q).2) (-1)) + (nI 1)) = (nI ((rnF (clr v (vP v)) (decide (κ = 4)) (vF (clr v (vP v)) 0) (plc v b) (q + 1)).2)) := by ((refine (pl_s (rn_e (su_n c71)) c73 bN).trans ?_); exact congrArg nI ((rn_p (su_n c71)).trans (if_neg c73)).symm)
                                        rw [eq3]
                                        have fq : (vset (vcol (clr v (vP v)) 0 (rnF (clr v (vP v)) (decide (κ = 4)) (vF (clr v (vP v)) 0) (plc v b) q).1) 0 q (nwA (vcol (clr v (vP v)) 0 (rnF (clr v (vP v)) (decide (κ = 4)) (vF (clr v (vP v)) 0) (plc v b) q).1) ((rnF (clr v (vP v)) (decide (κ = 4)) (vF (clr v (vP v)) 0) (plc v b) q).2) (-1))) = (vcol (clr v (vP v)) 0 (rnF (clr v (vP v)) (decide (κ = 4)) (vF (clr v (vP v)) 0) (plc v b) (q + 1)).1) := by exact rn_s (su_n c71)
                                        exact ihq h72 (fq ▸ mh72) ph72 kh72
                                      ·
                                        have c73 : nwA (vcol (clr v (vP v)) 0 (rnF (clr v (vP v)) (decide (κ = 4)) (vF (clr v (vP v)) 0) (plc v b) q).1) ((rnF (clr v (vP v)) (decide (κ = 4)) (vF (clr v (vP v)) 0) (plc v b) q).2) (-1) = -1 := c73
                                        refine r_iload_n C (dx dX7_holdAll 76 rfl) rfl ?_
                                        refine r_goto (tgt := 149) C (dx dX7_holdAll 77 rfl) (by decide) ?_
                                        refine r_istore_n (ls' := [(0, vr 7 k), (1, vi (nI κ)), (2, vi (nI b)), (3, vi (nI ((rnF (clr v (vP v)) (decide (κ = 4)) (vF (clr v (vP v)) 0) (plc v b) q).2))), (4, vi (nI q))]) C (dx dX7_holdAll 84 rfl) (by decide) [1, 2, 3, 0, 4] rfl ?_
                                        refine rn_iinc (a := q) (k := 1) (ls' := [(0, vr 7 k), (1, vi (nI κ)), (2, vi (nI b)), (3, vi (nI ((rnF (clr v (vP v)) (decide (κ = 4)) (vF (clr v (vP v)) 0) (plc v b) q).2))), (4, vi (nI (q + 1)))]) C (dx dX7_holdAll 85 rfl) rfl rfl (by decide) [1, 2, 3, 4, 0] rfl ?_
                                        refine r_goto (tgt := 91) C (dx dX7_holdAll 86 rfl) (by decide) ?_
                                        have eq3 : (nI ((rnF (clr v (vP v)) (decide (κ = 4)) (vF (clr v (vP v)) 0) (plc v b) q).2)) = (nI ((rnF (clr v (vP v)) (decide (κ = 4)) (vF (clr v (vP v)) 0) (plc v b) (q + 1)).2)) := by (exact congrArg nI ((rn_p (su_n c71)).trans (if_pos c73)).symm)
                                        rw [eq3]
                                        have fq : (vset (vcol (clr v (vP v)) 0 (rnF (clr v (vP v)) (decide (κ = 4)) (vF (clr v (vP v)) 0) (plc v b) q).1) 0 q (nwA (vcol (clr v (vP v)) 0 (rnF (clr v (vP v)) (decide (κ = 4)) (vF (clr v (vP v)) 0) (plc v b) q).1) ((rnF (clr v (vP v)) (decide (κ = 4)) (vF (clr v (vP v)) 0) (plc v b) q).2) (-1))) = (vcol (clr v (vP v)) 0 (rnF (clr v (vP v)) (decide (κ = 4)) (vF (clr v (vP v)) 0) (plc v b) (q + 1)).1) := by exact rn_s (su_n c71)
                                        exact ihq h72 (fq ▸ mh72) ph72 kh72)
                                · first
                                  | (omega; done)
                                  | (
                                      have c71 : κ = 4 := c71
                                      refine r_aload_n C (dx dX7_holdAll 62 rfl) rfl ?_
                                      refine r_cvP (as := []) (st := [vi (nI q), vr 20 (k + 18)]) (v := vi (srA (vcol (clr v (vP v)) 0 (rnF (clr v (vP v)) (decide (κ = 4)) (vF (clr v (vP v)) 0) (plc v b) q).1) (vN v))) C X I_X7_surest l_X7_286 (e_sr mg9q) (by decide) (Nat.le_of_ble_eq_true rfl) (pfx_eq kg9q) rfl rfl (Nat.le_of_ble_eq_true rfl) rfl (dx dX7_holdAll 63 rfl) ?_
                                      refine r_goto (tgt := 124) C (dx dX7_holdAll 64 rfl) (by decide) ?_
                                      refine r_iast (j := q) C rfl rfl (by decide) rfl (by omega) (dx dX7_holdAll 69 rfl) ?_
                                      have mh74 : MilAt (sI g9q (k + 18) q (srA (vcol (clr v (vP v)) 0 (rnF (clr v (vP v)) (decide (κ = 4)) (vF (clr v (vP v)) 0) (plc v b) q).1) (vN v))) k (vset (vcol (clr v (vP v)) 0 (rnF (clr v (vP v)) (decide (κ = 4)) (vF (clr v (vP v)) 0) (plc v b) q).1) 0 q (srA (vcol (clr v (vP v)) 0 (rnF (clr v (vP v)) (decide (κ = 4)) (vF (clr v (vP v)) 0) (plc v b) q).1) (vN v))) := mg9q.s0
                                      have ph74 : Kp k h (sI g9q (k + 18) q (srA (vcol (clr v (vP v)) 0 (rnF (clr v (vP v)) (decide (κ = 4)) (vF (clr v (vP v)) 0) (plc v b) q).1) (vN v))) := pg9q.tr (Kp.c (by omega) (by omega))
                                      have kh74 : xK (sI g9q (k + 18) q (srA (vcol (clr v (vP v)) 0 (rnF (clr v (vP v)) (decide (κ = 4)) (vF (clr v (vP v)) 0) (plc v b) q).1) (vN v))) = xK h := kg9q
                                      generalize sI g9q (k + 18) q (srA (vcol (clr v (vP v)) 0 (rnF (clr v (vP v)) (decide (κ = 4)) (vF (clr v (vP v)) 0) (plc v b) q).1) (vN v)) = h74 at mh74 ph74 kh74 ⊢
                                      refine r_aload_n C (dx dX7_holdAll 70 rfl) rfl ?_
                                      refine g_X7_40 C (dx dX7_holdAll 71 rfl) ?_
                                      refine r_iload C (dx dX7_holdAll 72 rfl) rfl ?_
                                      refine r_iald (j := q) (x := srA (vcol (clr v (vP v)) 0 (rnF (clr v (vP v)) (decide (κ = 4)) (vF (clr v (vP v)) 0) (plc v b) q).1) (vN v)) C rfl rfl (by decide) rfl (by omega) (dx dX7_holdAll 73 rfl) ((mh74.e0 (by omega)).trans (by simp [vset, vF])) ?_
                                      refine r_iconst (v := -1) C (dx dX7_holdAll 74 rfl) rfl ?_
                                      refine r_icmp_ne (tgt := 140) C (dx dX7_holdAll 75 rfl) (by decide) (fun c75 => ?_) (fun c75 => ?_)
                                      ·
                                        have c75 : ¬ srA (vcol (clr v (vP v)) 0 (rnF (clr v (vP v)) (decide (κ = 4)) (vF (clr v (vP v)) 0) (plc v b) q).1) (vN v) = -1 := c75
                                        refine r_aload_n C (dx dX7_holdAll 78 rfl) rfl ?_
                                        refine g_X7_40 C (dx dX7_holdAll 79 rfl) ?_
                                        refine r_iload C (dx dX7_holdAll 80 rfl) rfl ?_
                                        refine r_iald (j := q) (x := srA (vcol (clr v (vP v)) 0 (rnF (clr v (vP v)) (decide (κ = 4)) (vF (clr v (vP v)) 0) (plc v b) q).1) (vN v)) C rfl rfl (by decide) rfl (by omega) (dx dX7_holdAll 81 rfl) ((mh74.e0 (by omega)).trans (by simp [vset, vF])) ?_
                                        refine r_iconst (v := nI 1) C (dx dX7_holdAll 82 rfl) rfl ?_
                                        refine r_iadd C (dx dX7_holdAll 83 rfl) ?_
                                        refine r_istore_n (ls' := [(0, vr 7 k), (1, vi (nI κ)), (2, vi (nI b)), (3, vi ((srA (vcol (clr v (vP v)) 0 (rnF (clr v (vP v)) (decide (κ = 4)) (vF (clr v (vP v)) 0) (plc v b) q).1) (vN v)) + (nI 1))), (4, vi (nI q))]) C (dx dX7_holdAll 84 rfl) (by decide) [1, 2, 3, 0, 4] rfl ?_
                                        refine rn_iinc (a := q) (k := 1) (ls' := [(0, vr 7 k), (1, vi (nI κ)), (2, vi (nI b)), (3, vi ((srA (vcol (clr v (vP v)) 0 (rnF (clr v (vP v)) (decide (κ = 4)) (vF (clr v (vP v)) 0) (plc v b) q).1) (vN v)) + (nI 1))), (4, vi (nI (q + 1)))]) C (dx dX7_holdAll 85 rfl) rfl rfl (by decide) [1, 2, 3, 4, 0] rfl ?_
                                        refine r_goto (tgt := 91) C (dx dX7_holdAll 86 rfl) (by decide) ?_
                                        have eq3 : ((srA (vcol (clr v (vP v)) 0 (rnF (clr v (vP v)) (decide (κ = 4)) (vF (clr v (vP v)) 0) (plc v b) q).1) (vN v)) + (nI 1)) = (nI ((rnF (clr v (vP v)) (decide (κ = 4)) (vF (clr v (vP v)) 0) (plc v b) (q + 1)).2)) := by ((refine (pl_s (rn_e (su_y c71)) c75 bN).trans ?_); exact congrArg nI ((rn_p (su_y c71)).trans (if_neg c75)).symm)
                                        rw [eq3]
                                        have fq : (vset (vcol (clr v (vP v)) 0 (rnF (clr v (vP v)) (decide (κ = 4)) (vF (clr v (vP v)) 0) (plc v b) q).1) 0 q (srA (vcol (clr v (vP v)) 0 (rnF (clr v (vP v)) (decide (κ = 4)) (vF (clr v (vP v)) 0) (plc v b) q).1) (vN v))) = (vcol (clr v (vP v)) 0 (rnF (clr v (vP v)) (decide (κ = 4)) (vF (clr v (vP v)) 0) (plc v b) (q + 1)).1) := by exact rn_s (su_y c71)
                                        exact ihq h74 (fq ▸ mh74) ph74 kh74
                                      ·
                                        have c75 : srA (vcol (clr v (vP v)) 0 (rnF (clr v (vP v)) (decide (κ = 4)) (vF (clr v (vP v)) 0) (plc v b) q).1) (vN v) = -1 := c75
                                        refine r_iload_n C (dx dX7_holdAll 76 rfl) rfl ?_
                                        refine r_goto (tgt := 149) C (dx dX7_holdAll 77 rfl) (by decide) ?_
                                        refine r_istore_n (ls' := [(0, vr 7 k), (1, vi (nI κ)), (2, vi (nI b)), (3, vi (nI ((rnF (clr v (vP v)) (decide (κ = 4)) (vF (clr v (vP v)) 0) (plc v b) q).2))), (4, vi (nI q))]) C (dx dX7_holdAll 84 rfl) (by decide) [1, 2, 3, 0, 4] rfl ?_
                                        refine rn_iinc (a := q) (k := 1) (ls' := [(0, vr 7 k), (1, vi (nI κ)), (2, vi (nI b)), (3, vi (nI ((rnF (clr v (vP v)) (decide (κ = 4)) (vF (clr v (vP v)) 0) (plc v b) q).2))), (4, vi (nI (q + 1)))]) C (dx dX7_holdAll 85 rfl) rfl rfl (by decide) [1, 2, 3, 4, 0] rfl ?_
                                        refine r_goto (tgt := 91) C (dx dX7_holdAll 86 rfl) (by decide) ?_
                                        have eq3 : (nI ((rnF (clr v (vP v)) (decide (κ = 4)) (vF (clr v (vP v)) 0) (plc v b) q).2)) = (nI ((rnF (clr v (vP v)) (decide (κ = 4)) (vF (clr v (vP v)) 0) (plc v b) (q + 1)).2)) := by (exact congrArg nI ((rn_p (su_y c71)).trans (if_pos c75)).symm)
                                        rw [eq3]
                                        have fq : (vset (vcol (clr v (vP v)) 0 (rnF (clr v (vP v)) (decide (κ = 4)) (vF (clr v (vP v)) 0) (plc v b) q).1) 0 q (srA (vcol (clr v (vP v)) 0 (rnF (clr v (vP v)) (decide (κ = 4)) (vF (clr v (vP v)) 0) (plc v b) q).1) (vN v))) = (vcol (clr v (vP v)) 0 (rnF (clr v (vP v)) (decide (κ = 4)) (vF (clr v (vP v)) 0) (plc v b) (q + 1)).1) := by exact rn_s (su_y c71)
                                        exact ihq h74 (fq ▸ mh74) ph74 kh74)))
                · first
                  | (omega; done)
                  | (
                      have c10 : κ = 5 := c10
                      refine r_aload_n C (dx dX7_holdAll 24 rfl) rfl ?_
                      refine r_iload_n C (dx dX7_holdAll 25 rfl) rfl ?_
                      refine r_iconst (v := nI 5) C (dx dX7_holdAll 26 rfl) rfl ?_
                      refine rn_ne (a := κ) (b := 5) (tgt := 62) C (by omega) (by omega) (dx dX7_holdAll 27 rfl) (by decide) (fun c76 => ?_) (fun c76 => ?_)
                      ·
                        have c76 : ¬ κ = 5 := c76
                        exact absurd c10 c76
                      · first
                        | (omega; done)
                        | (
                            have c76 : κ = 5 := c76
                            refine r_iload_n C (dx dX7_holdAll 28 rfl) rfl ?_
                            refine r_if_le (tgt := 62) C (dx dX7_holdAll 29 rfl) (by decide) (fun c77 => ?_) (fun c77 => ?_)
                            ·
                              have c77 : nI b ≤ 0 := c77
                              have hb0 : b = 0 := nI_le0 (by omega) c77
                              refine r_aload_n C (dx dX7_holdAll 36 rfl) rfl ?_
                              refine g_X7_74 (x := nI (vN v)) C (dx dX7_holdAll 37 rfl) mg9p.eN ?_
                              refine r_cv (as := [vi (nI (vN v))]) (st := []) C X I_X7_holdWhole l_X7_282 (e_holdWhole mg9p (am := vN v) (show vN v ≤ vN v by omega)) (by decide) (Nat.le_of_ble_eq_true rfl) List.prefix_rfl (pfx_eq kg9p) rfl rfl (Nat.le_of_ble_eq_true rfl) rfl (dx dX7_holdAll 38 rfl) ?_
                              rintro _ h78 ⟨rfl, m9h78, qh78⟩ kkh78
                              have mh78 : MilAt h78 k (vcol (clr v (vP v)) 0 (hWR (clr v (vP v)) (vN v) (vF (clr v (vP v)) 0))) := m9h78
                              have ph78 : Kp k h h78 := pg9p.tr (qh78)
                              have kh78 : xK h78 = xK h := (kkh78).trans kg9p
                              have eV : hAR v κ b = vcol (clr v (vP v)) 0 (hWR (clr v (vP v)) (vN v) (vF (clr v (vP v)) 0)) := by (unfold hAR; rw [if_pos (show κ = 1 ∨ κ = 5 by omega), if_neg (show ¬ (κ = 5 ∧ 0 < b ∧ b < vN v) from fun z => by omega)])
                              exact F.2.2.1 _ _ _ rfl (dx dX7_holdAll 39 rfl) kh78 ⟨rfl, by rw [eV]; exact mh78, ph78⟩
                            ·
                              have c77 : ¬ nI b ≤ 0 := c77
                              have hb0 : 0 < b := nI_gt0 (by omega) c77
                              refine r_iload_n C (dx dX7_holdAll 30 rfl) rfl ?_
                              refine r_aload_n C (dx dX7_holdAll 31 rfl) rfl ?_
                              refine g_X7_74 (x := nI (vN v)) C (dx dX7_holdAll 32 rfl) mg9p.eN ?_
                              refine rn_ge (a := b) (b := vN v) (tgt := 62) C (by omega) (by omega) (dx dX7_holdAll 33 rfl) (by decide) (fun c79 => ?_) (fun c79 => ?_)
                              · first
                                | (omega; done)
                                | (
                                    have c79 : vN v ≤ b := c79
                                    refine r_aload_n C (dx dX7_holdAll 36 rfl) rfl ?_
                                    refine g_X7_74 (x := nI (vN v)) C (dx dX7_holdAll 37 rfl) mg9p.eN ?_
                                    refine r_cv (as := [vi (nI (vN v))]) (st := []) C X I_X7_holdWhole l_X7_282 (e_holdWhole mg9p (am := vN v) (show vN v ≤ vN v by omega)) (by decide) (Nat.le_of_ble_eq_true rfl) List.prefix_rfl (pfx_eq kg9p) rfl rfl (Nat.le_of_ble_eq_true rfl) rfl (dx dX7_holdAll 38 rfl) ?_
                                    rintro _ h80 ⟨rfl, m9h80, qh80⟩ kkh80
                                    have mh80 : MilAt h80 k (vcol (clr v (vP v)) 0 (hWR (clr v (vP v)) (vN v) (vF (clr v (vP v)) 0))) := m9h80
                                    have ph80 : Kp k h h80 := pg9p.tr (qh80)
                                    have kh80 : xK h80 = xK h := (kkh80).trans kg9p
                                    have eV : hAR v κ b = vcol (clr v (vP v)) 0 (hWR (clr v (vP v)) (vN v) (vF (clr v (vP v)) 0)) := by (unfold hAR; rw [if_pos (show κ = 1 ∨ κ = 5 by omega), if_neg (show ¬ (κ = 5 ∧ 0 < b ∧ b < vN v) from fun z => by omega)])
                                    exact F.2.2.1 _ _ _ rfl (dx dX7_holdAll 39 rfl) kh80 ⟨rfl, by rw [eV]; exact mh80, ph80⟩)
                              · first
                                | (omega; done)
                                | (
                                    have c79 : b < vN v := c79
                                    refine r_iload_n C (dx dX7_holdAll 34 rfl) rfl ?_
                                    refine r_goto (tgt := 66) C (dx dX7_holdAll 35 rfl) (by decide) ?_
                                    refine r_cv (as := [vi (nI b)]) (st := []) C X I_X7_holdWhole l_X7_282 (e_holdWhole mg9p (am := b) (show b ≤ vN v by omega)) (by decide) (Nat.le_of_ble_eq_true rfl) List.prefix_rfl (pfx_eq kg9p) rfl rfl (Nat.le_of_ble_eq_true rfl) rfl (dx dX7_holdAll 38 rfl) ?_
                                    rintro _ h81 ⟨rfl, m9h81, qh81⟩ kkh81
                                    have mh81 : MilAt h81 k (vcol (clr v (vP v)) 0 (hWR (clr v (vP v)) b (vF (clr v (vP v)) 0))) := m9h81
                                    have ph81 : Kp k h h81 := pg9p.tr (qh81)
                                    have kh81 : xK h81 = xK h := (kkh81).trans kg9p
                                    have eV : hAR v κ b = vcol (clr v (vP v)) 0 (hWR (clr v (vP v)) b (vF (clr v (vP v)) 0)) := by (unfold hAR; rw [if_pos (show κ = 1 ∨ κ = 5 by omega), if_pos (show κ = 5 ∧ 0 < b ∧ b < vN v from ⟨by omega, by omega, by omega⟩)])
                                    exact F.2.2.1 _ _ _ rfl (dx dX7_holdAll 39 rfl) kh81 ⟨rfl, by rw [eV]; exact mh81, ph81⟩)))))
    · first
      | (omega; done)
  ·
    intro p hp ihp g9p mg9p pg9p kg9p
    refine r_iload_n C (dx dX7_holdAll 2 rfl) rfl ?_
    refine r_aload_n C (dx dX7_holdAll 3 rfl) rfl ?_
    refine g_X7_64 (x := nI (vP v)) C (dx dX7_holdAll 4 rfl) mg9p.eP ?_
    refine rn_ge (a := p) (b := vP v) (tgt := 30) C (by omega) (by omega) (dx dX7_holdAll 5 rfl) (by decide) (fun c84 => ?_) (fun c84 => ?_)
    · first
      | (omega; done)
      | (
          have c84 : vP v ≤ p := c84
          refine r_iload_n C (dx dX7_holdAll 18 rfl) rfl ?_
          refine r_iconst (v := nI 1) C (dx dX7_holdAll 19 rfl) rfl ?_
          refine rn_eq (a := κ) (b := 1) (tgt := 40) C (by omega) (by omega) (dx dX7_holdAll 20 rfl) (by decide) (fun c85 => ?_) (fun c85 => ?_)
          · first
            | (omega; done)
            | (
                have c85 : κ = 1 := c85
                refine r_aload_n C (dx dX7_holdAll 24 rfl) rfl ?_
                refine r_iload_n C (dx dX7_holdAll 25 rfl) rfl ?_
                refine r_iconst (v := nI 5) C (dx dX7_holdAll 26 rfl) rfl ?_
                refine rn_ne (a := κ) (b := 5) (tgt := 62) C (by omega) (by omega) (dx dX7_holdAll 27 rfl) (by decide) (fun c86 => ?_) (fun c86 => ?_)
                · first
                  | (omega; done)
                  | (
                      have c86 : ¬ κ = 5 := c86
                      refine r_aload_n C (dx dX7_holdAll 36 rfl) rfl ?_
                      refine g_X7_74 (x := nI (vN v)) C (dx dX7_holdAll 37 rfl) mg9p.eN ?_
                      refine r_cv (as := [vi (nI (vN v))]) (st := []) C X I_X7_holdWhole l_X7_282 (e_holdWhole mg9p (am := vN v) (show vN v ≤ vN v by omega)) (by decide) (Nat.le_of_ble_eq_true rfl) List.prefix_rfl (pfx_eq kg9p) rfl rfl (Nat.le_of_ble_eq_true rfl) rfl (dx dX7_holdAll 38 rfl) ?_
                      rintro _ h87 ⟨rfl, m9h87, qh87⟩ kkh87
                      have mh87 : MilAt h87 k (vcol (clr v p) 0 (hWR (clr v p) (vN v) (vF (clr v p) 0))) := m9h87
                      have ph87 : Kp k h h87 := pg9p.tr (qh87)
                      have kh87 : xK h87 = xK h := (kkh87).trans kg9p
                      have eV : hAR v κ b = vcol (clr v p) 0 (hWR (clr v p) (vN v) (vF (clr v p) 0)) := by (unfold hAR; rw [if_pos (show κ = 1 ∨ κ = 5 by omega), if_neg (show ¬ (κ = 5 ∧ 0 < b ∧ b < vN v) from fun z => by omega)])
                      exact F.2.2.1 _ _ _ rfl (dx dX7_holdAll 39 rfl) kh87 ⟨rfl, by rw [eV]; exact mh87, ph87⟩)
                · first
                  | (omega; done)
                  | (
                      have c86 : κ = 5 := c86
                      refine r_iload_n C (dx dX7_holdAll 28 rfl) rfl ?_
                      refine r_if_le (tgt := 62) C (dx dX7_holdAll 29 rfl) (by decide) (fun c88 => ?_) (fun c88 => ?_)
                      ·
                        have c88 : nI b ≤ 0 := c88
                        have hb0 : b = 0 := nI_le0 (by omega) c88
                        refine r_aload_n C (dx dX7_holdAll 36 rfl) rfl ?_
                        refine g_X7_74 (x := nI (vN v)) C (dx dX7_holdAll 37 rfl) mg9p.eN ?_
                        refine r_cv (as := [vi (nI (vN v))]) (st := []) C X I_X7_holdWhole l_X7_282 (e_holdWhole mg9p (am := vN v) (show vN v ≤ vN v by omega)) (by decide) (Nat.le_of_ble_eq_true rfl) List.prefix_rfl (pfx_eq kg9p) rfl rfl (Nat.le_of_ble_eq_true rfl) rfl (dx dX7_holdAll 38 rfl) ?_
                        rintro _ h89 ⟨rfl, m9h89, qh89⟩ kkh89
                        have mh89 : MilAt h89 k (vcol (clr v p) 0 (hWR (clr v p) (vN v) (vF (clr v p) 0))) := m9h89
                        have ph89 : Kp k h h89 := pg9p.tr (qh89)
                        have kh89 : xK h89 = xK h := (kkh89).trans kg9p
                        have eV : hAR v κ b = vcol (clr v p) 0 (hWR (clr v p) (vN v) (vF (clr v p) 0)) := by (unfold hAR; rw [if_pos (show κ = 1 ∨ κ = 5 by omega), if_neg (show ¬ (κ = 5 ∧ 0 < b ∧ b < vN v) from fun z => by omega)])
                        exact F.2.2.1 _ _ _ rfl (dx dX7_holdAll 39 rfl) kh89 ⟨rfl, by rw [eV]; exact mh89, ph89⟩
                      ·
                        have c88 : ¬ nI b ≤ 0 := c88
                        have hb0 : 0 < b := nI_gt0 (by omega) c88
                        refine r_iload_n C (dx dX7_holdAll 30 rfl) rfl ?_
                        refine r_aload_n C (dx dX7_holdAll 31 rfl) rfl ?_
                        refine g_X7_74 (x := nI (vN v)) C (dx dX7_holdAll 32 rfl) mg9p.eN ?_
                        refine rn_ge (a := b) (b := vN v) (tgt := 62) C (by omega) (by omega) (dx dX7_holdAll 33 rfl) (by decide) (fun c90 => ?_) (fun c90 => ?_)
                        · first
                          | (omega; done)
                          | (
                              have c90 : vN v ≤ b := c90
                              refine r_aload_n C (dx dX7_holdAll 36 rfl) rfl ?_
                              refine g_X7_74 (x := nI (vN v)) C (dx dX7_holdAll 37 rfl) mg9p.eN ?_
                              refine r_cv (as := [vi (nI (vN v))]) (st := []) C X I_X7_holdWhole l_X7_282 (e_holdWhole mg9p (am := vN v) (show vN v ≤ vN v by omega)) (by decide) (Nat.le_of_ble_eq_true rfl) List.prefix_rfl (pfx_eq kg9p) rfl rfl (Nat.le_of_ble_eq_true rfl) rfl (dx dX7_holdAll 38 rfl) ?_
                              rintro _ h91 ⟨rfl, m9h91, qh91⟩ kkh91
                              have mh91 : MilAt h91 k (vcol (clr v p) 0 (hWR (clr v p) (vN v) (vF (clr v p) 0))) := m9h91
                              have ph91 : Kp k h h91 := pg9p.tr (qh91)
                              have kh91 : xK h91 = xK h := (kkh91).trans kg9p
                              have eV : hAR v κ b = vcol (clr v p) 0 (hWR (clr v p) (vN v) (vF (clr v p) 0)) := by (unfold hAR; rw [if_pos (show κ = 1 ∨ κ = 5 by omega), if_neg (show ¬ (κ = 5 ∧ 0 < b ∧ b < vN v) from fun z => by omega)])
                              exact F.2.2.1 _ _ _ rfl (dx dX7_holdAll 39 rfl) kh91 ⟨rfl, by rw [eV]; exact mh91, ph91⟩)
                        · first
                          | (omega; done)
                          | (
                              have c90 : b < vN v := c90
                              refine r_iload_n C (dx dX7_holdAll 34 rfl) rfl ?_
                              refine r_goto (tgt := 66) C (dx dX7_holdAll 35 rfl) (by decide) ?_
                              refine r_cv (as := [vi (nI b)]) (st := []) C X I_X7_holdWhole l_X7_282 (e_holdWhole mg9p (am := b) (show b ≤ vN v by omega)) (by decide) (Nat.le_of_ble_eq_true rfl) List.prefix_rfl (pfx_eq kg9p) rfl rfl (Nat.le_of_ble_eq_true rfl) rfl (dx dX7_holdAll 38 rfl) ?_
                              rintro _ h92 ⟨rfl, m9h92, qh92⟩ kkh92
                              have mh92 : MilAt h92 k (vcol (clr v p) 0 (hWR (clr v p) b (vF (clr v p) 0))) := m9h92
                              have ph92 : Kp k h h92 := pg9p.tr (qh92)
                              have kh92 : xK h92 = xK h := (kkh92).trans kg9p
                              have eV : hAR v κ b = vcol (clr v p) 0 (hWR (clr v p) b (vF (clr v p) 0)) := by (unfold hAR; rw [if_pos (show κ = 1 ∨ κ = 5 by omega), if_pos (show κ = 5 ∧ 0 < b ∧ b < vN v from ⟨by omega, by omega, by omega⟩)])
                              exact F.2.2.1 _ _ _ rfl (dx dX7_holdAll 39 rfl) kh92 ⟨rfl, by rw [eV]; exact mh92, ph92⟩)))
          · first
            | (omega; done)
            | (
                have c85 : ¬ κ = 1 := c85
                refine r_iload_n C (dx dX7_holdAll 21 rfl) rfl ?_
                refine r_iconst (v := nI 5) C (dx dX7_holdAll 22 rfl) rfl ?_
                refine rn_ne (a := κ) (b := 5) (tgt := 70) C (by omega) (by omega) (dx dX7_holdAll 23 rfl) (by decide) (fun c93 => ?_) (fun c93 => ?_)
                · first
                  | (omega; done)
                  | (
                      have c93 : ¬ κ = 5 := c93
                      refine r_aload_n C (dx dX7_holdAll 40 rfl) rfl ?_
                      refine g_X7_74 (x := nI (vN v)) C (dx dX7_holdAll 41 rfl) mg9p.eN ?_
                      refine r_if_ne (tgt := 81) C (dx dX7_holdAll 42 rfl) (by decide) (fun c94 => ?_) (fun c94 => ?_)
                      ·
                        have c94 : ¬ nI (vN v) = 0 := c94
                        have nc94 := nz_pos c94
                        refine r_iload_n C (dx dX7_holdAll 45 rfl) rfl ?_
                        refine r_aload_n C (dx dX7_holdAll 46 rfl) rfl ?_
                        refine g_X7_74 (x := nI (vN v)) C (dx dX7_holdAll 47 rfl) mg9p.eN ?_
                        refine r_irem C (dx dX7_holdAll 48 rfl) (fun z => by have := congrArg Int32.toInt z; rw [nI_toInt (by omega)] at this; have e0 : (0 : Int32).toInt = 0 := (by decide); omega) ?_
                        rw [pmod (by omega) (by omega) (by omega)]
                        have hmod : (b) % (vN v) < vN v := Nat.mod_lt _ (by omega)
                        have hp9 : plc v b < 200 := by unfold plc; split; omega; exact Nat.lt_of_lt_of_le (Nat.mod_lt _ (by omega)) (by omega)
                        have e91 : nI ((b) % (vN v)) = nI (plc v b) := by unfold plc; rw [if_neg (fun z => c94 (by rw [z]; rfl))]
                        rw [e91]
                        refine r_istore_n (ls' := [(0, vr 7 k), (1, vi (nI κ)), (2, vi (nI b)), (3, vi (nI (plc v b)))]) C (dx dX7_holdAll 49 rfl) (by decide) [1, 2, 3, 0] rfl ?_
                        refine r_iconst (v := nI 0) C (dx dX7_holdAll 50 rfl) rfl ?_
                        refine r_istore (ls' := [(0, vr 7 k), (1, vi (nI κ)), (2, vi (nI b)), (3, vi (nI (plc v b))), (4, vi (nI 0))]) C (dx dX7_holdAll 51 rfl) (by decide) [1, 2, 3, 4, 0] rfl ?_
                        refine loopU (Φ := fun q => ∀ g9q, MilAt g9q k (vcol (clr v (vP v)) 0 (rnF (clr v (vP v)) (decide (κ = 4)) (vF (clr v (vP v)) 0) (plc v b) q).1) → Kp k h g9q → xK g9q = xK h → Rr G 91 [(0, vr 7 k), (1, vi (nI κ)), (2, vi (nI b)), (3, vi (nI ((rnF (clr v (vP v)) (decide (κ = 4)) (vF (clr v (vP v)) 0) (plc v b) q).2))), (4, vi (nI q))] [] g9q) (N := vP v) ?_ ?_ 0 (Nat.zero_le _) g9p (by show MilAt _ k (vcol (clr v (vP v)) 0 (vF (clr v (vP v)) 0)); rw [vcol_id]; exact mg9p) pg9p kg9p
                        ·
                          intro g9q mg9q pg9q kg9q
                          refine r_iload C (dx dX7_holdAll 52 rfl) rfl ?_
                          refine r_aload_n C (dx dX7_holdAll 53 rfl) rfl ?_
                          refine g_X7_64 (x := nI (vP v)) C (dx dX7_holdAll 54 rfl) mg9q.eP ?_
                          refine rn_ge (a := vP v) (b := vP v) (tgt := 156) C (by omega) (by omega) (dx dX7_holdAll 55 rfl) (by decide) (fun c95 => ?_) (fun c95 => ?_)
                          · first
                            | (omega; done)
                            | (
                                have c95 : vP v ≤ vP v := c95
                                refine r_iconst (v := nI 0) C (dx dX7_holdAll 87 rfl) rfl ?_
                                refine r_istore (ls' := [(0, vr 7 k), (1, vi (nI κ)), (2, vi (nI b)), (3, vi (nI ((rnF (clr v (vP v)) (decide (κ = 4)) (vF (clr v (vP v)) 0) (plc v b) (vP v)).2))), (4, vi (nI 0))]) C (dx dX7_holdAll 88 rfl) (by decide) [1, 2, 3, 4, 0] rfl ?_
                                by_cases h3 : κ = 3
                                ·
                                  refine loopU (Φ := fun z => ∀ g9z, MilAt g9z k (vcol (vcol (clr v (vP v)) 0 (rnF (clr v (vP v)) (decide (κ = 4)) (vF (clr v (vP v)) 0) (plc v b) (vP v)).1) 1 (rsF (vcol (clr v (vP v)) 0 (rnF (clr v (vP v)) (decide (κ = 4)) (vF (clr v (vP v)) 0) (plc v b) (vP v)).1) (vF (clr v (vP v)) 1) (rnF (clr v (vP v)) (decide (κ = 4)) (vF (clr v (vP v)) 0) (plc v b) (vP v)).2 z).1) → Kp k h g9z → xK g9z = xK h → Rr G 159 [(0, vr 7 k), (1, vi (nI κ)), (2, vi (nI b)), (3, vi (nI ((rsF (vcol (clr v (vP v)) 0 (rnF (clr v (vP v)) (decide (κ = 4)) (vF (clr v (vP v)) 0) (plc v b) (vP v)).1) (vF (clr v (vP v)) 1) (rnF (clr v (vP v)) (decide (κ = 4)) (vF (clr v (vP v)) 0) (plc v b) (vP v)).2 z).2))), (4, vi (nI z))] [] g9z) (N := vP v) ?_ ?_ 0 (Nat.zero_le _) g9q (by show MilAt _ k (vcol (vcol (clr v (vP v)) 0 (rnF (clr v (vP v)) (decide (κ = 4)) (vF (clr v (vP v)) 0) (plc v b) (vP v)).1) 1 (vF (vcol (clr v (vP v)) 0 (rnF (clr v (vP v)) (decide (κ = 4)) (vF (clr v (vP v)) 0) (plc v b) (vP v)).1) 1)); rw [vcol_id]; exact mg9q) pg9q kg9q
                                  ·
                                    intro g9z mg9z pg9z kg9z
                                    refine r_iload C (dx dX7_holdAll 89 rfl) rfl ?_
                                    refine r_aload_n C (dx dX7_holdAll 90 rfl) rfl ?_
                                    refine g_X7_64 (x := nI (vP v)) C (dx dX7_holdAll 91 rfl) mg9z.eP ?_
                                    refine rn_ge (a := vP v) (b := vP v) (tgt := 223) C (by omega) (by omega) (dx dX7_holdAll 92 rfl) (by decide) (fun c96 => ?_) (fun c96 => ?_)
                                    · first
                                      | (omega; done)
                                      | (
                                          have c96 : vP v ≤ vP v := c96
                                          have eV : hAR v κ b = vcol (vcol (clr v (vP v)) 0 (rnF (clr v (vP v)) (decide (κ = 4)) (vF (clr v (vP v)) 0) (plc v b) (vP v)).1) 1 (rsF (vcol (clr v (vP v)) 0 (rnF (clr v (vP v)) (decide (κ = 4)) (vF (clr v (vP v)) 0) (plc v b) (vP v)).1) (vF (clr v (vP v)) 1) (rnF (clr v (vP v)) (decide (κ = 4)) (vF (clr v (vP v)) 0) (plc v b) (vP v)).2 (vP v)).1 := by (unfold hAR; rw [if_neg (show ¬ (κ = 1 ∨ κ = 5) by omega), if_pos h3, show decide (κ = 4) = false from decide_eq_false (by omega)])
                                          exact F.2.2.1 _ _ _ rfl (dx dX7_holdAll 124 rfl) kg9z ⟨rfl, by rw [eV]; exact mg9z, pg9z⟩)
                                    · first
                                      | (omega; done)
                                      | (
                                          have c96 : vP v < vP v := c96
                                          refine r_iload_n C (dx dX7_holdAll 93 rfl) rfl ?_
                                          refine r_iconst (v := nI 3) C (dx dX7_holdAll 94 rfl) rfl ?_
                                          refine rn_ne (a := κ) (b := 3) (tgt := 223) C (by omega) (by omega) (dx dX7_holdAll 95 rfl) (by decide) (fun c97 => ?_) (fun c97 => ?_)
                                          ·
                                            have c97 : ¬ κ = 3 := c97
                                            exact absurd h3 c97
                                          · first
                                            | (omega; done))
                                  ·
                                    intro z hz ihz g9z mg9z pg9z kg9z
                                    refine r_iload C (dx dX7_holdAll 89 rfl) rfl ?_
                                    refine r_aload_n C (dx dX7_holdAll 90 rfl) rfl ?_
                                    refine g_X7_64 (x := nI (vP v)) C (dx dX7_holdAll 91 rfl) mg9z.eP ?_
                                    refine rn_ge (a := z) (b := vP v) (tgt := 223) C (by omega) (by omega) (dx dX7_holdAll 92 rfl) (by decide) (fun c100 => ?_) (fun c100 => ?_)
                                    · first
                                      | (omega; done)
                                      | (
                                          have c100 : vP v ≤ z := c100
                                          have eV : hAR v κ b = vcol (vcol (clr v (vP v)) 0 (rnF (clr v (vP v)) (decide (κ = 4)) (vF (clr v (vP v)) 0) (plc v b) (vP v)).1) 1 (rsF (vcol (clr v (vP v)) 0 (rnF (clr v (vP v)) (decide (κ = 4)) (vF (clr v (vP v)) 0) (plc v b) (vP v)).1) (vF (clr v (vP v)) 1) (rnF (clr v (vP v)) (decide (κ = 4)) (vF (clr v (vP v)) 0) (plc v b) (vP v)).2 z).1 := by (unfold hAR; rw [if_neg (show ¬ (κ = 1 ∨ κ = 5) by omega), if_pos h3, show decide (κ = 4) = false from decide_eq_false (by omega)])
                                          exact F.2.2.1 _ _ _ rfl (dx dX7_holdAll 124 rfl) kg9z ⟨rfl, by rw [eV]; exact mg9z, pg9z⟩)
                                    · first
                                      | (omega; done)
                                      | (
                                          have c100 : z < vP v := c100
                                          refine r_iload_n C (dx dX7_holdAll 93 rfl) rfl ?_
                                          refine r_iconst (v := nI 3) C (dx dX7_holdAll 94 rfl) rfl ?_
                                          refine rn_ne (a := κ) (b := 3) (tgt := 223) C (by omega) (by omega) (dx dX7_holdAll 95 rfl) (by decide) (fun c101 => ?_) (fun c101 => ?_)
                                          ·
                                            have c101 : ¬ κ = 3 := c101
                                            exact absurd h3 c101
                                          · first
                                            | (omega; done)
                                            | (
                                                have c101 : κ = 3 := c101
                                                refine r_aload_n C (dx dX7_holdAll 96 rfl) rfl ?_
                                                refine g_X7_43 C (dx dX7_holdAll 97 rfl) ?_
                                                refine r_iload C (dx dX7_holdAll 98 rfl) rfl ?_
                                                refine r_aload_n C (dx dX7_holdAll 99 rfl) rfl ?_
                                                refine r_iload_n C (dx dX7_holdAll 100 rfl) rfl ?_
                                                refine r_aload_n C (dx dX7_holdAll 101 rfl) rfl ?_
                                                refine g_X7_40 C (dx dX7_holdAll 102 rfl) ?_
                                                refine r_iload C (dx dX7_holdAll 103 rfl) rfl ?_
                                                refine r_iald (j := z) (x := vF (vcol (clr v (vP v)) 0 (rnF (clr v (vP v)) (decide (κ = 4)) (vF (clr v (vP v)) 0) (plc v b) (vP v)).1) 0 z) C rfl rfl (by decide) rfl (by omega) (dx dX7_holdAll 104 rfl) (mg9z.e0 (by omega)) ?_
                                                refine r_cvP (as := [vi (nI ((rsF (vcol (clr v (vP v)) 0 (rnF (clr v (vP v)) (decide (κ = 4)) (vF (clr v (vP v)) 0) (plc v b) (vP v)).1) (vF (clr v (vP v)) 1) (rnF (clr v (vP v)) (decide (κ = 4)) (vF (clr v (vP v)) 0) (plc v b) (vP v)).2 z).2)), vi (vF (vcol (clr v (vP v)) 0 (rnF (clr v (vP v)) (decide (κ = 4)) (vF (clr v (vP v)) 0) (plc v b) (vP v)).1) 0 z)]) (st := [vi (nI z), vr 20 (k + 19)]) (v := vi (nwA (vcol (vcol (clr v (vP v)) 0 (rnF (clr v (vP v)) (decide (κ = 4)) (vF (clr v (vP v)) 0) (plc v b) (vP v)).1) 1 (rsF (vcol (clr v (vP v)) 0 (rnF (clr v (vP v)) (decide (κ = 4)) (vF (clr v (vP v)) 0) (plc v b) (vP v)).1) (vF (clr v (vP v)) 1) (rnF (clr v (vP v)) (decide (κ = 4)) (vF (clr v (vP v)) 0) (plc v b) (vP v)).2 z).1) ((rsF (vcol (clr v (vP v)) 0 (rnF (clr v (vP v)) (decide (κ = 4)) (vF (clr v (vP v)) 0) (plc v b) (vP v)).1) (vF (clr v (vP v)) 1) (rnF (clr v (vP v)) (decide (κ = 4)) (vF (clr v (vP v)) 0) (plc v b) (vP v)).2 z).2) (vF (vcol (clr v (vP v)) 0 (rnF (clr v (vP v)) (decide (κ = 4)) (vF (clr v (vP v)) 0) (plc v b) (vP v)).1) 0 z))) C X I_X7_nextWithRoom l_X7_289 (e_nw mg9z (a := (rsF (vcol (clr v (vP v)) 0 (rnF (clr v (vP v)) (decide (κ = 4)) (vF (clr v (vP v)) 0) (plc v b) (vP v)).1) (vF (clr v (vP v)) 1) (rnF (clr v (vP v)) (decide (κ = 4)) (vF (clr v (vP v)) 0) (plc v b) (vP v)).2 z).2) (Nat.lt_trans (rsF_lt _ _ _ (rnF_lt _ _ _ _ hp9 (show vN (clr v (vP v)) ≤ 8 from bN) _) (show vN (vcol (clr v (vP v)) 0 (rnF (clr v (vP v)) (decide (κ = 4)) (vF (clr v (vP v)) 0) (plc v b) (vP v)).1) ≤ 8 from bN) _) (by decide)) (vF (vcol (clr v (vP v)) 0 (rnF (clr v (vP v)) (decide (κ = 4)) (vF (clr v (vP v)) 0) (plc v b) (vP v)).1) 0 z)) (by decide) (Nat.le_of_ble_eq_true rfl) (pfx_eq kg9z) rfl rfl (Nat.le_of_ble_eq_true rfl) rfl (dx dX7_holdAll 105 rfl) ?_
                                                refine r_iast (j := z) C rfl rfl (by decide) rfl (by omega) (dx dX7_holdAll 106 rfl) ?_
                                                have mh102 : MilAt (sI g9z (k + 19) z (nwA (vcol (vcol (clr v (vP v)) 0 (rnF (clr v (vP v)) (decide (κ = 4)) (vF (clr v (vP v)) 0) (plc v b) (vP v)).1) 1 (rsF (vcol (clr v (vP v)) 0 (rnF (clr v (vP v)) (decide (κ = 4)) (vF (clr v (vP v)) 0) (plc v b) (vP v)).1) (vF (clr v (vP v)) 1) (rnF (clr v (vP v)) (decide (κ = 4)) (vF (clr v (vP v)) 0) (plc v b) (vP v)).2 z).1) ((rsF (vcol (clr v (vP v)) 0 (rnF (clr v (vP v)) (decide (κ = 4)) (vF (clr v (vP v)) 0) (plc v b) (vP v)).1) (vF (clr v (vP v)) 1) (rnF (clr v (vP v)) (decide (κ = 4)) (vF (clr v (vP v)) 0) (plc v b) (vP v)).2 z).2) (vF (vcol (clr v (vP v)) 0 (rnF (clr v (vP v)) (decide (κ = 4)) (vF (clr v (vP v)) 0) (plc v b) (vP v)).1) 0 z))) k (vset (vcol (vcol (clr v (vP v)) 0 (rnF (clr v (vP v)) (decide (κ = 4)) (vF (clr v (vP v)) 0) (plc v b) (vP v)).1) 1 (rsF (vcol (clr v (vP v)) 0 (rnF (clr v (vP v)) (decide (κ = 4)) (vF (clr v (vP v)) 0) (plc v b) (vP v)).1) (vF (clr v (vP v)) 1) (rnF (clr v (vP v)) (decide (κ = 4)) (vF (clr v (vP v)) 0) (plc v b) (vP v)).2 z).1) 1 z (nwA (vcol (vcol (clr v (vP v)) 0 (rnF (clr v (vP v)) (decide (κ = 4)) (vF (clr v (vP v)) 0) (plc v b) (vP v)).1) 1 (rsF (vcol (clr v (vP v)) 0 (rnF (clr v (vP v)) (decide (κ = 4)) (vF (clr v (vP v)) 0) (plc v b) (vP v)).1) (vF (clr v (vP v)) 1) (rnF (clr v (vP v)) (decide (κ = 4)) (vF (clr v (vP v)) 0) (plc v b) (vP v)).2 z).1) ((rsF (vcol (clr v (vP v)) 0 (rnF (clr v (vP v)) (decide (κ = 4)) (vF (clr v (vP v)) 0) (plc v b) (vP v)).1) (vF (clr v (vP v)) 1) (rnF (clr v (vP v)) (decide (κ = 4)) (vF (clr v (vP v)) 0) (plc v b) (vP v)).2 z).2) (vF (vcol (clr v (vP v)) 0 (rnF (clr v (vP v)) (decide (κ = 4)) (vF (clr v (vP v)) 0) (plc v b) (vP v)).1) 0 z))) := mg9z.s1
                                                have ph102 : Kp k h (sI g9z (k + 19) z (nwA (vcol (vcol (clr v (vP v)) 0 (rnF (clr v (vP v)) (decide (κ = 4)) (vF (clr v (vP v)) 0) (plc v b) (vP v)).1) 1 (rsF (vcol (clr v (vP v)) 0 (rnF (clr v (vP v)) (decide (κ = 4)) (vF (clr v (vP v)) 0) (plc v b) (vP v)).1) (vF (clr v (vP v)) 1) (rnF (clr v (vP v)) (decide (κ = 4)) (vF (clr v (vP v)) 0) (plc v b) (vP v)).2 z).1) ((rsF (vcol (clr v (vP v)) 0 (rnF (clr v (vP v)) (decide (κ = 4)) (vF (clr v (vP v)) 0) (plc v b) (vP v)).1) (vF (clr v (vP v)) 1) (rnF (clr v (vP v)) (decide (κ = 4)) (vF (clr v (vP v)) 0) (plc v b) (vP v)).2 z).2) (vF (vcol (clr v (vP v)) 0 (rnF (clr v (vP v)) (decide (κ = 4)) (vF (clr v (vP v)) 0) (plc v b) (vP v)).1) 0 z))) := pg9z.tr (Kp.c (by omega) (by omega))
                                                have kh102 : xK (sI g9z (k + 19) z (nwA (vcol (vcol (clr v (vP v)) 0 (rnF (clr v (vP v)) (decide (κ = 4)) (vF (clr v (vP v)) 0) (plc v b) (vP v)).1) 1 (rsF (vcol (clr v (vP v)) 0 (rnF (clr v (vP v)) (decide (κ = 4)) (vF (clr v (vP v)) 0) (plc v b) (vP v)).1) (vF (clr v (vP v)) 1) (rnF (clr v (vP v)) (decide (κ = 4)) (vF (clr v (vP v)) 0) (plc v b) (vP v)).2 z).1) ((rsF (vcol (clr v (vP v)) 0 (rnF (clr v (vP v)) (decide (κ = 4)) (vF (clr v (vP v)) 0) (plc v b) (vP v)).1) (vF (clr v (vP v)) 1) (rnF (clr v (vP v)) (decide (κ = 4)) (vF (clr v (vP v)) 0) (plc v b) (vP v)).2 z).2) (vF (vcol (clr v (vP v)) 0 (rnF (clr v (vP v)) (decide (κ = 4)) (vF (clr v (vP v)) 0) (plc v b) (vP v)).1) 0 z))) = xK h := kg9z
                                                generalize sI g9z (k + 19) z (nwA (vcol (vcol (clr v (vP v)) 0 (rnF (clr v (vP v)) (decide (κ = 4)) (vF (clr v (vP v)) 0) (plc v b) (vP v)).1) 1 (rsF (vcol (clr v (vP v)) 0 (rnF (clr v (vP v)) (decide (κ = 4)) (vF (clr v (vP v)) 0) (plc v b) (vP v)).1) (vF (clr v (vP v)) 1) (rnF (clr v (vP v)) (decide (κ = 4)) (vF (clr v (vP v)) 0) (plc v b) (vP v)).2 z).1) ((rsF (vcol (clr v (vP v)) 0 (rnF (clr v (vP v)) (decide (κ = 4)) (vF (clr v (vP v)) 0) (plc v b) (vP v)).1) (vF (clr v (vP v)) 1) (rnF (clr v (vP v)) (decide (κ = 4)) (vF (clr v (vP v)) 0) (plc v b) (vP v)).2 z).2) (vF (vcol (clr v (vP v)) 0 (rnF (clr v (vP v)) (decide (κ = 4)) (vF (clr v (vP v)) 0) (plc v b) (vP v)).1) 0 z)) = h102 at mh102 ph102 kh102 ⊢
                                                refine r_aload_n C (dx dX7_holdAll 107 rfl) rfl ?_
                                                refine g_X7_43 C (dx dX7_holdAll 108 rfl) ?_
                                                refine r_iload C (dx dX7_holdAll 109 rfl) rfl ?_
                                                refine r_iald (j := z) (x := nwA (vcol (vcol (clr v (vP v)) 0 (rnF (clr v (vP v)) (decide (κ = 4)) (vF (clr v (vP v)) 0) (plc v b) (vP v)).1) 1 (rsF (vcol (clr v (vP v)) 0 (rnF (clr v (vP v)) (decide (κ = 4)) (vF (clr v (vP v)) 0) (plc v b) (vP v)).1) (vF (clr v (vP v)) 1) (rnF (clr v (vP v)) (decide (κ = 4)) (vF (clr v (vP v)) 0) (plc v b) (vP v)).2 z).1) ((rsF (vcol (clr v (vP v)) 0 (rnF (clr v (vP v)) (decide (κ = 4)) (vF (clr v (vP v)) 0) (plc v b) (vP v)).1) (vF (clr v (vP v)) 1) (rnF (clr v (vP v)) (decide (κ = 4)) (vF (clr v (vP v)) 0) (plc v b) (vP v)).2 z).2) (vF (vcol (clr v (vP v)) 0 (rnF (clr v (vP v)) (decide (κ = 4)) (vF (clr v (vP v)) 0) (plc v b) (vP v)).1) 0 z)) C rfl rfl (by decide) rfl (by omega) (dx dX7_holdAll 110 rfl) ((mh102.e1 (by omega)).trans (by simp [vset, vF])) ?_
                                                refine r_iconst (v := -1) C (dx dX7_holdAll 111 rfl) rfl ?_
                                                refine r_icmp_ne (tgt := 207) C (dx dX7_holdAll 112 rfl) (by decide) (fun c103 => ?_) (fun c103 => ?_)
                                                ·
                                                  have c103 : ¬ nwA (vcol (vcol (clr v (vP v)) 0 (rnF (clr v (vP v)) (decide (κ = 4)) (vF (clr v (vP v)) 0) (plc v b) (vP v)).1) 1 (rsF (vcol (clr v (vP v)) 0 (rnF (clr v (vP v)) (decide (κ = 4)) (vF (clr v (vP v)) 0) (plc v b) (vP v)).1) (vF (clr v (vP v)) 1) (rnF (clr v (vP v)) (decide (κ = 4)) (vF (clr v (vP v)) 0) (plc v b) (vP v)).2 z).1) ((rsF (vcol (clr v (vP v)) 0 (rnF (clr v (vP v)) (decide (κ = 4)) (vF (clr v (vP v)) 0) (plc v b) (vP v)).1) (vF (clr v (vP v)) 1) (rnF (clr v (vP v)) (decide (κ = 4)) (vF (clr v (vP v)) 0) (plc v b) (vP v)).2 z).2) (vF (vcol (clr v (vP v)) 0 (rnF (clr v (vP v)) (decide (κ = 4)) (vF (clr v (vP v)) 0) (plc v b) (vP v)).1) 0 z) = -1 := c103
                                                  refine r_aload_n C (dx dX7_holdAll 115 rfl) rfl ?_
                                                  refine g_X7_43 C (dx dX7_holdAll 116 rfl) ?_
                                                  refine r_iload C (dx dX7_holdAll 117 rfl) rfl ?_
                                                  refine r_iald (j := z) (x := nwA (vcol (vcol (clr v (vP v)) 0 (rnF (clr v (vP v)) (decide (κ = 4)) (vF (clr v (vP v)) 0) (plc v b) (vP v)).1) 1 (rsF (vcol (clr v (vP v)) 0 (rnF (clr v (vP v)) (decide (κ = 4)) (vF (clr v (vP v)) 0) (plc v b) (vP v)).1) (vF (clr v (vP v)) 1) (rnF (clr v (vP v)) (decide (κ = 4)) (vF (clr v (vP v)) 0) (plc v b) (vP v)).2 z).1) ((rsF (vcol (clr v (vP v)) 0 (rnF (clr v (vP v)) (decide (κ = 4)) (vF (clr v (vP v)) 0) (plc v b) (vP v)).1) (vF (clr v (vP v)) 1) (rnF (clr v (vP v)) (decide (κ = 4)) (vF (clr v (vP v)) 0) (plc v b) (vP v)).2 z).2) (vF (vcol (clr v (vP v)) 0 (rnF (clr v (vP v)) (decide (κ = 4)) (vF (clr v (vP v)) 0) (plc v b) (vP v)).1) 0 z)) C rfl rfl (by decide) rfl (by omega) (dx dX7_holdAll 118 rfl) ((mh102.e1 (by omega)).trans (by simp [vset, vF])) ?_
                                                  refine r_iconst (v := nI 1) C (dx dX7_holdAll 119 rfl) rfl ?_
                                                  refine r_iadd C (dx dX7_holdAll 120 rfl) ?_
                                                  refine r_istore_n (ls' := [(0, vr 7 k), (1, vi (nI κ)), (2, vi (nI b)), (3, vi ((nwA (vcol (vcol (clr v (vP v)) 0 (rnF (clr v (vP v)) (decide (κ = 4)) (vF (clr v (vP v)) 0) (plc v b) (vP v)).1) 1 (rsF (vcol (clr v (vP v)) 0 (rnF (clr v (vP v)) (decide (κ = 4)) (vF (clr v (vP v)) 0) (plc v b) (vP v)).1) (vF (clr v (vP v)) 1) (rnF (clr v (vP v)) (decide (κ = 4)) (vF (clr v (vP v)) 0) (plc v b) (vP v)).2 z).1) ((rsF (vcol (clr v (vP v)) 0 (rnF (clr v (vP v)) (decide (κ = 4)) (vF (clr v (vP v)) 0) (plc v b) (vP v)).1) (vF (clr v (vP v)) 1) (rnF (clr v (vP v)) (decide (κ = 4)) (vF (clr v (vP v)) 0) (plc v b) (vP v)).2 z).2) (vF (vcol (clr v (vP v)) 0 (rnF (clr v (vP v)) (decide (κ = 4)) (vF (clr v (vP v)) 0) (plc v b) (vP v)).1) 0 z)) + (nI 1))), (4, vi (nI z))]) C (dx dX7_holdAll 121 rfl) (by decide) [1, 2, 3, 0, 4] rfl ?_
                                                  refine rn_iinc (a := z) (k := 1) (ls' := [(0, vr 7 k), (1, vi (nI κ)), (2, vi (nI b)), (3, vi ((nwA (vcol (vcol (clr v (vP v)) 0 (rnF (clr v (vP v)) (decide (κ = 4)) (vF (clr v (vP v)) 0) (plc v b) (vP v)).1) 1 (rsF (vcol (clr v (vP v)) 0 (rnF (clr v (vP v)) (decide (κ = 4)) (vF (clr v (vP v)) 0) (plc v b) (vP v)).1) (vF (clr v (vP v)) 1) (rnF (clr v (vP v)) (decide (κ = 4)) (vF (clr v (vP v)) 0) (plc v b) (vP v)).2 z).1) ((rsF (vcol (clr v (vP v)) 0 (rnF (clr v (vP v)) (decide (κ = 4)) (vF (clr v (vP v)) 0) (plc v b) (vP v)).1) (vF (clr v (vP v)) 1) (rnF (clr v (vP v)) (decide (κ = 4)) (vF (clr v (vP v)) 0) (plc v b) (vP v)).2 z).2) (vF (vcol (clr v (vP v)) 0 (rnF (clr v (vP v)) (decide (κ = 4)) (vF (clr v (vP v)) 0) (plc v b) (vP v)).1) 0 z)) + (nI 1))), (4, vi (nI (z + 1)))]) C (dx dX7_holdAll 122 rfl) rfl rfl (by decide) [1, 2, 3, 4, 0] rfl ?_
                                                  refine r_goto (tgt := 159) C (dx dX7_holdAll 123 rfl) (by decide) ?_
                                                  have ez3 : ((nwA (vcol (vcol (clr v (vP v)) 0 (rnF (clr v (vP v)) (decide (κ = 4)) (vF (clr v (vP v)) 0) (plc v b) (vP v)).1) 1 (rsF (vcol (clr v (vP v)) 0 (rnF (clr v (vP v)) (decide (κ = 4)) (vF (clr v (vP v)) 0) (plc v b) (vP v)).1) (vF (clr v (vP v)) 1) (rnF (clr v (vP v)) (decide (κ = 4)) (vF (clr v (vP v)) 0) (plc v b) (vP v)).2 z).1) ((rsF (vcol (clr v (vP v)) 0 (rnF (clr v (vP v)) (decide (κ = 4)) (vF (clr v (vP v)) 0) (plc v b) (vP v)).1) (vF (clr v (vP v)) 1) (rnF (clr v (vP v)) (decide (κ = 4)) (vF (clr v (vP v)) 0) (plc v b) (vP v)).2 z).2) (vF (vcol (clr v (vP v)) 0 (rnF (clr v (vP v)) (decide (κ = 4)) (vF (clr v (vP v)) 0) (plc v b) (vP v)).1) 0 z)) + (nI 1)) = (nI ((rsF (vcol (clr v (vP v)) 0 (rnF (clr v (vP v)) (decide (κ = 4)) (vF (clr v (vP v)) 0) (plc v b) (vP v)).1) (vF (clr v (vP v)) 1) (rnF (clr v (vP v)) (decide (κ = 4)) (vF (clr v (vP v)) 0) (plc v b) (vP v)).2 (z + 1)).2)) := by ((refine (pl_s (nw_ex2 (vcol (vcol (clr v (vP v)) 0 (rnF (clr v (vP v)) (decide (κ = 4)) (vF (clr v (vP v)) 0) (plc v b) (vP v)).1) 1 (rsF (vcol (clr v (vP v)) 0 (rnF (clr v (vP v)) (decide (κ = 4)) (vF (clr v (vP v)) 0) (plc v b) (vP v)).1) (vF (clr v (vP v)) 1) (rnF (clr v (vP v)) (decide (κ = 4)) (vF (clr v (vP v)) 0) (plc v b) (vP v)).2 z).1) _ _) c103 bN).trans ?_); exact congrArg nI (if_neg c103).symm)
                                                  rw [ez3]
                                                  have fz : (vset (vcol (vcol (clr v (vP v)) 0 (rnF (clr v (vP v)) (decide (κ = 4)) (vF (clr v (vP v)) 0) (plc v b) (vP v)).1) 1 (rsF (vcol (clr v (vP v)) 0 (rnF (clr v (vP v)) (decide (κ = 4)) (vF (clr v (vP v)) 0) (plc v b) (vP v)).1) (vF (clr v (vP v)) 1) (rnF (clr v (vP v)) (decide (κ = 4)) (vF (clr v (vP v)) 0) (plc v b) (vP v)).2 z).1) 1 z (nwA (vcol (vcol (clr v (vP v)) 0 (rnF (clr v (vP v)) (decide (κ = 4)) (vF (clr v (vP v)) 0) (plc v b) (vP v)).1) 1 (rsF (vcol (clr v (vP v)) 0 (rnF (clr v (vP v)) (decide (κ = 4)) (vF (clr v (vP v)) 0) (plc v b) (vP v)).1) (vF (clr v (vP v)) 1) (rnF (clr v (vP v)) (decide (κ = 4)) (vF (clr v (vP v)) 0) (plc v b) (vP v)).2 z).1) ((rsF (vcol (clr v (vP v)) 0 (rnF (clr v (vP v)) (decide (κ = 4)) (vF (clr v (vP v)) 0) (plc v b) (vP v)).1) (vF (clr v (vP v)) 1) (rnF (clr v (vP v)) (decide (κ = 4)) (vF (clr v (vP v)) 0) (plc v b) (vP v)).2 z).2) (vF (vcol (clr v (vP v)) 0 (rnF (clr v (vP v)) (decide (κ = 4)) (vF (clr v (vP v)) 0) (plc v b) (vP v)).1) 0 z))) = (vcol (vcol (clr v (vP v)) 0 (rnF (clr v (vP v)) (decide (κ = 4)) (vF (clr v (vP v)) 0) (plc v b) (vP v)).1) 1 (rsF (vcol (clr v (vP v)) 0 (rnF (clr v (vP v)) (decide (κ = 4)) (vF (clr v (vP v)) 0) (plc v b) (vP v)).1) (vF (clr v (vP v)) 1) (rnF (clr v (vP v)) (decide (κ = 4)) (vF (clr v (vP v)) 0) (plc v b) (vP v)).2 (z + 1)).1) := by exact rs_s
                                                  exact ihz h102 (fz ▸ mh102) ph102 kh102
                                                ·
                                                  have c103 : nwA (vcol (vcol (clr v (vP v)) 0 (rnF (clr v (vP v)) (decide (κ = 4)) (vF (clr v (vP v)) 0) (plc v b) (vP v)).1) 1 (rsF (vcol (clr v (vP v)) 0 (rnF (clr v (vP v)) (decide (κ = 4)) (vF (clr v (vP v)) 0) (plc v b) (vP v)).1) (vF (clr v (vP v)) 1) (rnF (clr v (vP v)) (decide (κ = 4)) (vF (clr v (vP v)) 0) (plc v b) (vP v)).2 z).1) ((rsF (vcol (clr v (vP v)) 0 (rnF (clr v (vP v)) (decide (κ = 4)) (vF (clr v (vP v)) 0) (plc v b) (vP v)).1) (vF (clr v (vP v)) 1) (rnF (clr v (vP v)) (decide (κ = 4)) (vF (clr v (vP v)) 0) (plc v b) (vP v)).2 z).2) (vF (vcol (clr v (vP v)) 0 (rnF (clr v (vP v)) (decide (κ = 4)) (vF (clr v (vP v)) 0) (plc v b) (vP v)).1) 0 z) = -1 := c103
                                                  refine r_iload_n C (dx dX7_holdAll 113 rfl) rfl ?_
                                                  refine r_goto (tgt := 216) C (dx dX7_holdAll 114 rfl) (by decide) ?_
                                                  refine r_istore_n (ls' := [(0, vr 7 k), (1, vi (nI κ)), (2, vi (nI b)), (3, vi (nI ((rsF (vcol (clr v (vP v)) 0 (rnF (clr v (vP v)) (decide (κ = 4)) (vF (clr v (vP v)) 0) (plc v b) (vP v)).1) (vF (clr v (vP v)) 1) (rnF (clr v (vP v)) (decide (κ = 4)) (vF (clr v (vP v)) 0) (plc v b) (vP v)).2 z).2))), (4, vi (nI z))]) C (dx dX7_holdAll 121 rfl) (by decide) [1, 2, 3, 0, 4] rfl ?_
                                                  refine rn_iinc (a := z) (k := 1) (ls' := [(0, vr 7 k), (1, vi (nI κ)), (2, vi (nI b)), (3, vi (nI ((rsF (vcol (clr v (vP v)) 0 (rnF (clr v (vP v)) (decide (κ = 4)) (vF (clr v (vP v)) 0) (plc v b) (vP v)).1) (vF (clr v (vP v)) 1) (rnF (clr v (vP v)) (decide (κ = 4)) (vF (clr v (vP v)) 0) (plc v b) (vP v)).2 z).2))), (4, vi (nI (z + 1)))]) C (dx dX7_holdAll 122 rfl) rfl rfl (by decide) [1, 2, 3, 4, 0] rfl ?_
                                                  refine r_goto (tgt := 159) C (dx dX7_holdAll 123 rfl) (by decide) ?_
                                                  have ez3 : (nI ((rsF (vcol (clr v (vP v)) 0 (rnF (clr v (vP v)) (decide (κ = 4)) (vF (clr v (vP v)) 0) (plc v b) (vP v)).1) (vF (clr v (vP v)) 1) (rnF (clr v (vP v)) (decide (κ = 4)) (vF (clr v (vP v)) 0) (plc v b) (vP v)).2 z).2)) = (nI ((rsF (vcol (clr v (vP v)) 0 (rnF (clr v (vP v)) (decide (κ = 4)) (vF (clr v (vP v)) 0) (plc v b) (vP v)).1) (vF (clr v (vP v)) 1) (rnF (clr v (vP v)) (decide (κ = 4)) (vF (clr v (vP v)) 0) (plc v b) (vP v)).2 (z + 1)).2)) := by exact congrArg nI (if_pos c103).symm
                                                  rw [ez3]
                                                  have fz : (vset (vcol (vcol (clr v (vP v)) 0 (rnF (clr v (vP v)) (decide (κ = 4)) (vF (clr v (vP v)) 0) (plc v b) (vP v)).1) 1 (rsF (vcol (clr v (vP v)) 0 (rnF (clr v (vP v)) (decide (κ = 4)) (vF (clr v (vP v)) 0) (plc v b) (vP v)).1) (vF (clr v (vP v)) 1) (rnF (clr v (vP v)) (decide (κ = 4)) (vF (clr v (vP v)) 0) (plc v b) (vP v)).2 z).1) 1 z (nwA (vcol (vcol (clr v (vP v)) 0 (rnF (clr v (vP v)) (decide (κ = 4)) (vF (clr v (vP v)) 0) (plc v b) (vP v)).1) 1 (rsF (vcol (clr v (vP v)) 0 (rnF (clr v (vP v)) (decide (κ = 4)) (vF (clr v (vP v)) 0) (plc v b) (vP v)).1) (vF (clr v (vP v)) 1) (rnF (clr v (vP v)) (decide (κ = 4)) (vF (clr v (vP v)) 0) (plc v b) (vP v)).2 z).1) ((rsF (vcol (clr v (vP v)) 0 (rnF (clr v (vP v)) (decide (κ = 4)) (vF (clr v (vP v)) 0) (plc v b) (vP v)).1) (vF (clr v (vP v)) 1) (rnF (clr v (vP v)) (decide (κ = 4)) (vF (clr v (vP v)) 0) (plc v b) (vP v)).2 z).2) (vF (vcol (clr v (vP v)) 0 (rnF (clr v (vP v)) (decide (κ = 4)) (vF (clr v (vP v)) 0) (plc v b) (vP v)).1) 0 z))) = (vcol (vcol (clr v (vP v)) 0 (rnF (clr v (vP v)) (decide (κ = 4)) (vF (clr v (vP v)) 0) (plc v b) (vP v)).1) 1 (rsF (vcol (clr v (vP v)) 0 (rnF (clr v (vP v)) (decide (κ = 4)) (vF (clr v (vP v)) 0) (plc v b) (vP v)).1) (vF (clr v (vP v)) 1) (rnF (clr v (vP v)) (decide (κ = 4)) (vF (clr v (vP v)) 0) (plc v b) (vP v)).2 (z + 1)).1) := by exact rs_s
                                                  exact ihz h102 (fz ▸ mh102) ph102 kh102))
                                ·
                                  refine r_iload C (dx dX7_holdAll 89 rfl) rfl ?_
                                  refine r_aload_n C (dx dX7_holdAll 90 rfl) rfl ?_
                                  refine g_X7_64 (x := nI (vP v)) C (dx dX7_holdAll 91 rfl) mg9q.eP ?_
                                  refine rn_ge (a := 0) (b := vP v) (tgt := 223) C (by omega) (by omega) (dx dX7_holdAll 92 rfl) (by decide) (fun c104 => ?_) (fun c104 => ?_)
                                  · first
                                    | (omega; done)
                                    | (
                                        have c104 : vP v ≤ 0 := c104
                                        have eV : hAR v κ b = vcol (clr v (vP v)) 0 (rnF (clr v (vP v)) (decide (κ = 4)) (vF (clr v (vP v)) 0) (plc v b) (vP v)).1 := by (unfold hAR; rw [if_neg (show ¬ (κ = 1 ∨ κ = 5) by omega), if_neg h3])
                                        exact F.2.2.1 _ _ _ rfl (dx dX7_holdAll 124 rfl) kg9q ⟨rfl, by rw [eV]; exact mg9q, pg9q⟩)
                                  · first
                                    | (omega; done)
                                    | (
                                        have c104 : 0 < vP v := c104
                                        refine r_iload_n C (dx dX7_holdAll 93 rfl) rfl ?_
                                        refine r_iconst (v := nI 3) C (dx dX7_holdAll 94 rfl) rfl ?_
                                        refine rn_ne (a := κ) (b := 3) (tgt := 223) C (by omega) (by omega) (dx dX7_holdAll 95 rfl) (by decide) (fun c105 => ?_) (fun c105 => ?_)
                                        · first
                                          | (omega; done)
                                          | (
                                              have c105 : ¬ κ = 3 := c105
                                              have eV : hAR v κ b = vcol (clr v (vP v)) 0 (rnF (clr v (vP v)) (decide (κ = 4)) (vF (clr v (vP v)) 0) (plc v b) (vP v)).1 := by (unfold hAR; rw [if_neg (show ¬ (κ = 1 ∨ κ = 5) by omega), if_neg h3])
                                              exact F.2.2.1 _ _ _ rfl (dx dX7_holdAll 124 rfl) kg9q ⟨rfl, by rw [eV]; exact mg9q, pg9q⟩)
                                        ·
                                          have c105 : κ = 3 := c105
                                          exact absurd c105 h3))
                          · first
                            | (omega; done)
                            | (
                                have c95 : vP v < vP v := c95
                                refine r_aload_n C (dx dX7_holdAll 56 rfl) rfl ?_
                                refine g_X7_40 C (dx dX7_holdAll 57 rfl) ?_
                                refine r_iload C (dx dX7_holdAll 58 rfl) rfl ?_
                                refine r_iload_n C (dx dX7_holdAll 59 rfl) rfl ?_
                                refine r_iconst (v := nI 4) C (dx dX7_holdAll 60 rfl) rfl ?_
                                refine rn_ne (a := κ) (b := 4) (tgt := 118) C (by omega) (by omega) (dx dX7_holdAll 61 rfl) (by decide) (fun c106 => ?_) (fun c106 => ?_)
                                · first
                                  | (omega; done)
                                · first
                                  | (omega; done))
                        ·
                          intro q hq ihq g9q mg9q pg9q kg9q
                          refine r_iload C (dx dX7_holdAll 52 rfl) rfl ?_
                          refine r_aload_n C (dx dX7_holdAll 53 rfl) rfl ?_
                          refine g_X7_64 (x := nI (vP v)) C (dx dX7_holdAll 54 rfl) mg9q.eP ?_
                          refine rn_ge (a := q) (b := vP v) (tgt := 156) C (by omega) (by omega) (dx dX7_holdAll 55 rfl) (by decide) (fun c111 => ?_) (fun c111 => ?_)
                          · first
                            | (omega; done)
                            | (
                                have c111 : vP v ≤ q := c111
                                refine r_iconst (v := nI 0) C (dx dX7_holdAll 87 rfl) rfl ?_
                                refine r_istore (ls' := [(0, vr 7 k), (1, vi (nI κ)), (2, vi (nI b)), (3, vi (nI ((rnF (clr v (vP v)) (decide (κ = 4)) (vF (clr v (vP v)) 0) (plc v b) q).2))), (4, vi (nI 0))]) C (dx dX7_holdAll 88 rfl) (by decide) [1, 2, 3, 4, 0] rfl ?_
                                by_cases h3 : κ = 3
                                ·
                                  refine loopU (Φ := fun z => ∀ g9z, MilAt g9z k (vcol (vcol (clr v (vP v)) 0 (rnF (clr v (vP v)) (decide (κ = 4)) (vF (clr v (vP v)) 0) (plc v b) (vP v)).1) 1 (rsF (vcol (clr v (vP v)) 0 (rnF (clr v (vP v)) (decide (κ = 4)) (vF (clr v (vP v)) 0) (plc v b) (vP v)).1) (vF (clr v (vP v)) 1) (rnF (clr v (vP v)) (decide (κ = 4)) (vF (clr v (vP v)) 0) (plc v b) (vP v)).2 z).1) → Kp k h g9z → xK g9z = xK h → Rr G 159 [(0, vr 7 k), (1, vi (nI κ)), (2, vi (nI b)), (3, vi (nI ((rsF (vcol (clr v (vP v)) 0 (rnF (clr v (vP v)) (decide (κ = 4)) (vF (clr v (vP v)) 0) (plc v b) (vP v)).1) (vF (clr v (vP v)) 1) (rnF (clr v (vP v)) (decide (κ = 4)) (vF (clr v (vP v)) 0) (plc v b) (vP v)).2 z).2))), (4, vi (nI z))] [] g9z) (N := vP v) ?_ ?_ 0 (Nat.zero_le _) g9q (by show MilAt _ k (vcol (vcol (clr v (vP v)) 0 (rnF (clr v (vP v)) (decide (κ = 4)) (vF (clr v (vP v)) 0) (plc v b) (vP v)).1) 1 (vF (vcol (clr v (vP v)) 0 (rnF (clr v (vP v)) (decide (κ = 4)) (vF (clr v (vP v)) 0) (plc v b) (vP v)).1) 1)); rw [vcol_id]; exact mg9q) pg9q kg9q
                                  ·
                                    intro g9z mg9z pg9z kg9z
                                    refine r_iload C (dx dX7_holdAll 89 rfl) rfl ?_
                                    refine r_aload_n C (dx dX7_holdAll 90 rfl) rfl ?_
                                    refine g_X7_64 (x := nI (vP v)) C (dx dX7_holdAll 91 rfl) mg9z.eP ?_
                                    refine rn_ge (a := vP v) (b := vP v) (tgt := 223) C (by omega) (by omega) (dx dX7_holdAll 92 rfl) (by decide) (fun c112 => ?_) (fun c112 => ?_)
                                    · first
                                      | (omega; done)
                                      | (
                                          have c112 : vP v ≤ vP v := c112
                                          have eV : hAR v κ b = vcol (vcol (clr v (vP v)) 0 (rnF (clr v (vP v)) (decide (κ = 4)) (vF (clr v (vP v)) 0) (plc v b) (vP v)).1) 1 (rsF (vcol (clr v (vP v)) 0 (rnF (clr v (vP v)) (decide (κ = 4)) (vF (clr v (vP v)) 0) (plc v b) (vP v)).1) (vF (clr v (vP v)) 1) (rnF (clr v (vP v)) (decide (κ = 4)) (vF (clr v (vP v)) 0) (plc v b) (vP v)).2 (vP v)).1 := by (unfold hAR; rw [if_neg (show ¬ (κ = 1 ∨ κ = 5) by omega), if_pos h3, show decide (κ = 4) = false from decide_eq_false (by omega)])
                                          exact F.2.2.1 _ _ _ rfl (dx dX7_holdAll 124 rfl) kg9z ⟨rfl, by rw [eV]; exact mg9z, pg9z⟩)
                                    · first
                                      | (omega; done)
                                      | (
                                          have c112 : vP v < vP v := c112
                                          refine r_iload_n C (dx dX7_holdAll 93 rfl) rfl ?_
                                          refine r_iconst (v := nI 3) C (dx dX7_holdAll 94 rfl) rfl ?_
                                          refine rn_ne (a := κ) (b := 3) (tgt := 223) C (by omega) (by omega) (dx dX7_holdAll 95 rfl) (by decide) (fun c113 => ?_) (fun c113 => ?_)
                                          ·
                                            have c113 : ¬ κ = 3 := c113
                                            exact absurd h3 c113
                                          · first
                                            | (omega; done))
                                  ·
                                    intro z hz ihz g9z mg9z pg9z kg9z
                                    refine r_iload C (dx dX7_holdAll 89 rfl) rfl ?_
                                    refine r_aload_n C (dx dX7_holdAll 90 rfl) rfl ?_
                                    refine g_X7_64 (x := nI (vP v)) C (dx dX7_holdAll 91 rfl) mg9z.eP ?_
                                    refine rn_ge (a := z) (b := vP v) (tgt := 223) C (by omega) (by omega) (dx dX7_holdAll 92 rfl) (by decide) (fun c116 => ?_) (fun c116 => ?_)
                                    · first
                                      | (omega; done)
                                      | (
                                          have c116 : vP v ≤ z := c116
                                          have eV : hAR v κ b = vcol (vcol (clr v (vP v)) 0 (rnF (clr v (vP v)) (decide (κ = 4)) (vF (clr v (vP v)) 0) (plc v b) (vP v)).1) 1 (rsF (vcol (clr v (vP v)) 0 (rnF (clr v (vP v)) (decide (κ = 4)) (vF (clr v (vP v)) 0) (plc v b) (vP v)).1) (vF (clr v (vP v)) 1) (rnF (clr v (vP v)) (decide (κ = 4)) (vF (clr v (vP v)) 0) (plc v b) (vP v)).2 z).1 := by (unfold hAR; rw [if_neg (show ¬ (κ = 1 ∨ κ = 5) by omega), if_pos h3, show decide (κ = 4) = false from decide_eq_false (by omega)])
                                          exact F.2.2.1 _ _ _ rfl (dx dX7_holdAll 124 rfl) kg9z ⟨rfl, by rw [eV]; exact mg9z, pg9z⟩)
                                    · first
                                      | (omega; done)
                                      | (
                                          have c116 : z < vP v := c116
                                          refine r_iload_n C (dx dX7_holdAll 93 rfl) rfl ?_
                                          refine r_iconst (v := nI 3) C (dx dX7_holdAll 94 rfl) rfl ?_
                                          refine rn_ne (a := κ) (b := 3) (tgt := 223) C (by omega) (by omega) (dx dX7_holdAll 95 rfl) (by decide) (fun c117 => ?_) (fun c117 => ?_)
                                          ·
                                            have c117 : ¬ κ = 3 := c117
                                            exact absurd h3 c117
                                          · first
                                            | (omega; done)
                                            | (
                                                have c117 : κ = 3 := c117
                                                refine r_aload_n C (dx dX7_holdAll 96 rfl) rfl ?_
                                                refine g_X7_43 C (dx dX7_holdAll 97 rfl) ?_
                                                refine r_iload C (dx dX7_holdAll 98 rfl) rfl ?_
                                                refine r_aload_n C (dx dX7_holdAll 99 rfl) rfl ?_
                                                refine r_iload_n C (dx dX7_holdAll 100 rfl) rfl ?_
                                                refine r_aload_n C (dx dX7_holdAll 101 rfl) rfl ?_
                                                refine g_X7_40 C (dx dX7_holdAll 102 rfl) ?_
                                                refine r_iload C (dx dX7_holdAll 103 rfl) rfl ?_
                                                refine r_iald (j := z) (x := vF (vcol (clr v (vP v)) 0 (rnF (clr v (vP v)) (decide (κ = 4)) (vF (clr v (vP v)) 0) (plc v b) (vP v)).1) 0 z) C rfl rfl (by decide) rfl (by omega) (dx dX7_holdAll 104 rfl) (mg9z.e0 (by omega)) ?_
                                                refine r_cvP (as := [vi (nI ((rsF (vcol (clr v (vP v)) 0 (rnF (clr v (vP v)) (decide (κ = 4)) (vF (clr v (vP v)) 0) (plc v b) (vP v)).1) (vF (clr v (vP v)) 1) (rnF (clr v (vP v)) (decide (κ = 4)) (vF (clr v (vP v)) 0) (plc v b) (vP v)).2 z).2)), vi (vF (vcol (clr v (vP v)) 0 (rnF (clr v (vP v)) (decide (κ = 4)) (vF (clr v (vP v)) 0) (plc v b) (vP v)).1) 0 z)]) (st := [vi (nI z), vr 20 (k + 19)]) (v := vi (nwA (vcol (vcol (clr v (vP v)) 0 (rnF (clr v (vP v)) (decide (κ = 4)) (vF (clr v (vP v)) 0) (plc v b) (vP v)).1) 1 (rsF (vcol (clr v (vP v)) 0 (rnF (clr v (vP v)) (decide (κ = 4)) (vF (clr v (vP v)) 0) (plc v b) (vP v)).1) (vF (clr v (vP v)) 1) (rnF (clr v (vP v)) (decide (κ = 4)) (vF (clr v (vP v)) 0) (plc v b) (vP v)).2 z).1) ((rsF (vcol (clr v (vP v)) 0 (rnF (clr v (vP v)) (decide (κ = 4)) (vF (clr v (vP v)) 0) (plc v b) (vP v)).1) (vF (clr v (vP v)) 1) (rnF (clr v (vP v)) (decide (κ = 4)) (vF (clr v (vP v)) 0) (plc v b) (vP v)).2 z).2) (vF (vcol (clr v (vP v)) 0 (rnF (clr v (vP v)) (decide (κ = 4)) (vF (clr v (vP v)) 0) (plc v b) (vP v)).1) 0 z))) C X I_X7_nextWithRoom l_X7_289 (e_nw mg9z (a := (rsF (vcol (clr v (vP v)) 0 (rnF (clr v (vP v)) (decide (κ = 4)) (vF (clr v (vP v)) 0) (plc v b) (vP v)).1) (vF (clr v (vP v)) 1) (rnF (clr v (vP v)) (decide (κ = 4)) (vF (clr v (vP v)) 0) (plc v b) (vP v)).2 z).2) (Nat.lt_trans (rsF_lt _ _ _ (rnF_lt _ _ _ _ hp9 (show vN (clr v (vP v)) ≤ 8 from bN) _) (show vN (vcol (clr v (vP v)) 0 (rnF (clr v (vP v)) (decide (κ = 4)) (vF (clr v (vP v)) 0) (plc v b) (vP v)).1) ≤ 8 from bN) _) (by decide)) (vF (vcol (clr v (vP v)) 0 (rnF (clr v (vP v)) (decide (κ = 4)) (vF (clr v (vP v)) 0) (plc v b) (vP v)).1) 0 z)) (by decide) (Nat.le_of_ble_eq_true rfl) (pfx_eq kg9z) rfl rfl (Nat.le_of_ble_eq_true rfl) rfl (dx dX7_holdAll 105 rfl) ?_
                                                refine r_iast (j := z) C rfl rfl (by decide) rfl (by omega) (dx dX7_holdAll 106 rfl) ?_
                                                have mh118 : MilAt (sI g9z (k + 19) z (nwA (vcol (vcol (clr v (vP v)) 0 (rnF (clr v (vP v)) (decide (κ = 4)) (vF (clr v (vP v)) 0) (plc v b) (vP v)).1) 1 (rsF (vcol (clr v (vP v)) 0 (rnF (clr v (vP v)) (decide (κ = 4)) (vF (clr v (vP v)) 0) (plc v b) (vP v)).1) (vF (clr v (vP v)) 1) (rnF (clr v (vP v)) (decide (κ = 4)) (vF (clr v (vP v)) 0) (plc v b) (vP v)).2 z).1) ((rsF (vcol (clr v (vP v)) 0 (rnF (clr v (vP v)) (decide (κ = 4)) (vF (clr v (vP v)) 0) (plc v b) (vP v)).1) (vF (clr v (vP v)) 1) (rnF (clr v (vP v)) (decide (κ = 4)) (vF (clr v (vP v)) 0) (plc v b) (vP v)).2 z).2) (vF (vcol (clr v (vP v)) 0 (rnF (clr v (vP v)) (decide (κ = 4)) (vF (clr v (vP v)) 0) (plc v b) (vP v)).1) 0 z))) k (vset (vcol (vcol (clr v (vP v)) 0 (rnF (clr v (vP v)) (decide (κ = 4)) (vF (clr v (vP v)) 0) (plc v b) (vP v)).1) 1 (rsF (vcol (clr v (vP v)) 0 (rnF (clr v (vP v)) (decide (κ = 4)) (vF (clr v (vP v)) 0) (plc v b) (vP v)).1) (vF (clr v (vP v)) 1) (rnF (clr v (vP v)) (decide (κ = 4)) (vF (clr v (vP v)) 0) (plc v b) (vP v)).2 z).1) 1 z (nwA (vcol (vcol (clr v (vP v)) 0 (rnF (clr v (vP v)) (decide (κ = 4)) (vF (clr v (vP v)) 0) (plc v b) (vP v)).1) 1 (rsF (vcol (clr v (vP v)) 0 (rnF (clr v (vP v)) (decide (κ = 4)) (vF (clr v (vP v)) 0) (plc v b) (vP v)).1) (vF (clr v (vP v)) 1) (rnF (clr v (vP v)) (decide (κ = 4)) (vF (clr v (vP v)) 0) (plc v b) (vP v)).2 z).1) ((rsF (vcol (clr v (vP v)) 0 (rnF (clr v (vP v)) (decide (κ = 4)) (vF (clr v (vP v)) 0) (plc v b) (vP v)).1) (vF (clr v (vP v)) 1) (rnF (clr v (vP v)) (decide (κ = 4)) (vF (clr v (vP v)) 0) (plc v b) (vP v)).2 z).2) (vF (vcol (clr v (vP v)) 0 (rnF (clr v (vP v)) (decide (κ = 4)) (vF (clr v (vP v)) 0) (plc v b) (vP v)).1) 0 z))) := mg9z.s1
                                                have ph118 : Kp k h (sI g9z (k + 19) z (nwA (vcol (vcol (clr v (vP v)) 0 (rnF (clr v (vP v)) (decide (κ = 4)) (vF (clr v (vP v)) 0) (plc v b) (vP v)).1) 1 (rsF (vcol (clr v (vP v)) 0 (rnF (clr v (vP v)) (decide (κ = 4)) (vF (clr v (vP v)) 0) (plc v b) (vP v)).1) (vF (clr v (vP v)) 1) (rnF (clr v (vP v)) (decide (κ = 4)) (vF (clr v (vP v)) 0) (plc v b) (vP v)).2 z).1) ((rsF (vcol (clr v (vP v)) 0 (rnF (clr v (vP v)) (decide (κ = 4)) (vF (clr v (vP v)) 0) (plc v b) (vP v)).1) (vF (clr v (vP v)) 1) (rnF (clr v (vP v)) (decide (κ = 4)) (vF (clr v (vP v)) 0) (plc v b) (vP v)).2 z).2) (vF (vcol (clr v (vP v)) 0 (rnF (clr v (vP v)) (decide (κ = 4)) (vF (clr v (vP v)) 0) (plc v b) (vP v)).1) 0 z))) := pg9z.tr (Kp.c (by omega) (by omega))
                                                have kh118 : xK (sI g9z (k + 19) z (nwA (vcol (vcol (clr v (vP v)) 0 (rnF (clr v (vP v)) (decide (κ = 4)) (vF (clr v (vP v)) 0) (plc v b) (vP v)).1) 1 (rsF (vcol (clr v (vP v)) 0 (rnF (clr v (vP v)) (decide (κ = 4)) (vF (clr v (vP v)) 0) (plc v b) (vP v)).1) (vF (clr v (vP v)) 1) (rnF (clr v (vP v)) (decide (κ = 4)) (vF (clr v (vP v)) 0) (plc v b) (vP v)).2 z).1) ((rsF (vcol (clr v (vP v)) 0 (rnF (clr v (vP v)) (decide (κ = 4)) (vF (clr v (vP v)) 0) (plc v b) (vP v)).1) (vF (clr v (vP v)) 1) (rnF (clr v (vP v)) (decide (κ = 4)) (vF (clr v (vP v)) 0) (plc v b) (vP v)).2 z).2) (vF (vcol (clr v (vP v)) 0 (rnF (clr v (vP v)) (decide (κ = 4)) (vF (clr v (vP v)) 0) (plc v b) (vP v)).1) 0 z))) = xK h := kg9z
                                                generalize sI g9z (k + 19) z (nwA (vcol (vcol (clr v (vP v)) 0 (rnF (clr v (vP v)) (decide (κ = 4)) (vF (clr v (vP v)) 0) (plc v b) (vP v)).1) 1 (rsF (vcol (clr v (vP v)) 0 (rnF (clr v (vP v)) (decide (κ = 4)) (vF (clr v (vP v)) 0) (plc v b) (vP v)).1) (vF (clr v (vP v)) 1) (rnF (clr v (vP v)) (decide (κ = 4)) (vF (clr v (vP v)) 0) (plc v b) (vP v)).2 z).1) ((rsF (vcol (clr v (vP v)) 0 (rnF (clr v (vP v)) (decide (κ = 4)) (vF (clr v (vP v)) 0) (plc v b) (vP v)).1) (vF (clr v (vP v)) 1) (rnF (clr v (vP v)) (decide (κ = 4)) (vF (clr v (vP v)) 0) (plc v b) (vP v)).2 z).2) (vF (vcol (clr v (vP v)) 0 (rnF (clr v (vP v)) (decide (κ = 4)) (vF (clr v (vP v)) 0) (plc v b) (vP v)).1) 0 z)) = h118 at mh118 ph118 kh118 ⊢
                                                refine r_aload_n C (dx dX7_holdAll 107 rfl) rfl ?_
                                                refine g_X7_43 C (dx dX7_holdAll 108 rfl) ?_
                                                refine r_iload C (dx dX7_holdAll 109 rfl) rfl ?_
                                                refine r_iald (j := z) (x := nwA (vcol (vcol (clr v (vP v)) 0 (rnF (clr v (vP v)) (decide (κ = 4)) (vF (clr v (vP v)) 0) (plc v b) (vP v)).1) 1 (rsF (vcol (clr v (vP v)) 0 (rnF (clr v (vP v)) (decide (κ = 4)) (vF (clr v (vP v)) 0) (plc v b) (vP v)).1) (vF (clr v (vP v)) 1) (rnF (clr v (vP v)) (decide (κ = 4)) (vF (clr v (vP v)) 0) (plc v b) (vP v)).2 z).1) ((rsF (vcol (clr v (vP v)) 0 (rnF (clr v (vP v)) (decide (κ = 4)) (vF (clr v (vP v)) 0) (plc v b) (vP v)).1) (vF (clr v (vP v)) 1) (rnF (clr v (vP v)) (decide (κ = 4)) (vF (clr v (vP v)) 0) (plc v b) (vP v)).2 z).2) (vF (vcol (clr v (vP v)) 0 (rnF (clr v (vP v)) (decide (κ = 4)) (vF (clr v (vP v)) 0) (plc v b) (vP v)).1) 0 z)) C rfl rfl (by decide) rfl (by omega) (dx dX7_holdAll 110 rfl) ((mh118.e1 (by omega)).trans (by simp [vset, vF])) ?_
                                                refine r_iconst (v := -1) C (dx dX7_holdAll 111 rfl) rfl ?_
                                                refine r_icmp_ne (tgt := 207) C (dx dX7_holdAll 112 rfl) (by decide) (fun c119 => ?_) (fun c119 => ?_)
                                                ·
                                                  have c119 : ¬ nwA (vcol (vcol (clr v (vP v)) 0 (rnF (clr v (vP v)) (decide (κ = 4)) (vF (clr v (vP v)) 0) (plc v b) (vP v)).1) 1 (rsF (vcol (clr v (vP v)) 0 (rnF (clr v (vP v)) (decide (κ = 4)) (vF (clr v (vP v)) 0) (plc v b) (vP v)).1) (vF (clr v (vP v)) 1) (rnF (clr v (vP v)) (decide (κ = 4)) (vF (clr v (vP v)) 0) (plc v b) (vP v)).2 z).1) ((rsF (vcol (clr v (vP v)) 0 (rnF (clr v (vP v)) (decide (κ = 4)) (vF (clr v (vP v)) 0) (plc v b) (vP v)).1) (vF (clr v (vP v)) 1) (rnF (clr v (vP v)) (decide (κ = 4)) (vF (clr v (vP v)) 0) (plc v b) (vP v)).2 z).2) (vF (vcol (clr v (vP v)) 0 (rnF (clr v (vP v)) (decide (κ = 4)) (vF (clr v (vP v)) 0) (plc v b) (vP v)).1) 0 z) = -1 := c119
                                                  refine r_aload_n C (dx dX7_holdAll 115 rfl) rfl ?_
                                                  refine g_X7_43 C (dx dX7_holdAll 116 rfl) ?_
                                                  refine r_iload C (dx dX7_holdAll 117 rfl) rfl ?_
                                                  refine r_iald (j := z) (x := nwA (vcol (vcol (clr v (vP v)) 0 (rnF (clr v (vP v)) (decide (κ = 4)) (vF (clr v (vP v)) 0) (plc v b) (vP v)).1) 1 (rsF (vcol (clr v (vP v)) 0 (rnF (clr v (vP v)) (decide (κ = 4)) (vF (clr v (vP v)) 0) (plc v b) (vP v)).1) (vF (clr v (vP v)) 1) (rnF (clr v (vP v)) (decide (κ = 4)) (vF (clr v (vP v)) 0) (plc v b) (vP v)).2 z).1) ((rsF (vcol (clr v (vP v)) 0 (rnF (clr v (vP v)) (decide (κ = 4)) (vF (clr v (vP v)) 0) (plc v b) (vP v)).1) (vF (clr v (vP v)) 1) (rnF (clr v (vP v)) (decide (κ = 4)) (vF (clr v (vP v)) 0) (plc v b) (vP v)).2 z).2) (vF (vcol (clr v (vP v)) 0 (rnF (clr v (vP v)) (decide (κ = 4)) (vF (clr v (vP v)) 0) (plc v b) (vP v)).1) 0 z)) C rfl rfl (by decide) rfl (by omega) (dx dX7_holdAll 118 rfl) ((mh118.e1 (by omega)).trans (by simp [vset, vF])) ?_
                                                  refine r_iconst (v := nI 1) C (dx dX7_holdAll 119 rfl) rfl ?_
                                                  refine r_iadd C (dx dX7_holdAll 120 rfl) ?_
                                                  refine r_istore_n (ls' := [(0, vr 7 k), (1, vi (nI κ)), (2, vi (nI b)), (3, vi ((nwA (vcol (vcol (clr v (vP v)) 0 (rnF (clr v (vP v)) (decide (κ = 4)) (vF (clr v (vP v)) 0) (plc v b) (vP v)).1) 1 (rsF (vcol (clr v (vP v)) 0 (rnF (clr v (vP v)) (decide (κ = 4)) (vF (clr v (vP v)) 0) (plc v b) (vP v)).1) (vF (clr v (vP v)) 1) (rnF (clr v (vP v)) (decide (κ = 4)) (vF (clr v (vP v)) 0) (plc v b) (vP v)).2 z).1) ((rsF (vcol (clr v (vP v)) 0 (rnF (clr v (vP v)) (decide (κ = 4)) (vF (clr v (vP v)) 0) (plc v b) (vP v)).1) (vF (clr v (vP v)) 1) (rnF (clr v (vP v)) (decide (κ = 4)) (vF (clr v (vP v)) 0) (plc v b) (vP v)).2 z).2) (vF (vcol (clr v (vP v)) 0 (rnF (clr v (vP v)) (decide (κ = 4)) (vF (clr v (vP v)) 0) (plc v b) (vP v)).1) 0 z)) + (nI 1))), (4, vi (nI z))]) C (dx dX7_holdAll 121 rfl) (by decide) [1, 2, 3, 0, 4] rfl ?_
                                                  refine rn_iinc (a := z) (k := 1) (ls' := [(0, vr 7 k), (1, vi (nI κ)), (2, vi (nI b)), (3, vi ((nwA (vcol (vcol (clr v (vP v)) 0 (rnF (clr v (vP v)) (decide (κ = 4)) (vF (clr v (vP v)) 0) (plc v b) (vP v)).1) 1 (rsF (vcol (clr v (vP v)) 0 (rnF (clr v (vP v)) (decide (κ = 4)) (vF (clr v (vP v)) 0) (plc v b) (vP v)).1) (vF (clr v (vP v)) 1) (rnF (clr v (vP v)) (decide (κ = 4)) (vF (clr v (vP v)) 0) (plc v b) (vP v)).2 z).1) ((rsF (vcol (clr v (vP v)) 0 (rnF (clr v (vP v)) (decide (κ = 4)) (vF (clr v (vP v)) 0) (plc v b) (vP v)).1) (vF (clr v (vP v)) 1) (rnF (clr v (vP v)) (decide (κ = 4)) (vF (clr v (vP v)) 0) (plc v b) (vP v)).2 z).2) (vF (vcol (clr v (vP v)) 0 (rnF (clr v (vP v)) (decide (κ = 4)) (vF (clr v (vP v)) 0) (plc v b) (vP v)).1) 0 z)) + (nI 1))), (4, vi (nI (z + 1)))]) C (dx dX7_holdAll 122 rfl) rfl rfl (by decide) [1, 2, 3, 4, 0] rfl ?_
                                                  refine r_goto (tgt := 159) C (dx dX7_holdAll 123 rfl) (by decide) ?_
                                                  have ez3 : ((nwA (vcol (vcol (clr v (vP v)) 0 (rnF (clr v (vP v)) (decide (κ = 4)) (vF (clr v (vP v)) 0) (plc v b) (vP v)).1) 1 (rsF (vcol (clr v (vP v)) 0 (rnF (clr v (vP v)) (decide (κ = 4)) (vF (clr v (vP v)) 0) (plc v b) (vP v)).1) (vF (clr v (vP v)) 1) (rnF (clr v (vP v)) (decide (κ = 4)) (vF (clr v (vP v)) 0) (plc v b) (vP v)).2 z).1) ((rsF (vcol (clr v (vP v)) 0 (rnF (clr v (vP v)) (decide (κ = 4)) (vF (clr v (vP v)) 0) (plc v b) (vP v)).1) (vF (clr v (vP v)) 1) (rnF (clr v (vP v)) (decide (κ = 4)) (vF (clr v (vP v)) 0) (plc v b) (vP v)).2 z).2) (vF (vcol (clr v (vP v)) 0 (rnF (clr v (vP v)) (decide (κ = 4)) (vF (clr v (vP v)) 0) (plc v b) (vP v)).1) 0 z)) + (nI 1)) = (nI ((rsF (vcol (clr v (vP v)) 0 (rnF (clr v (vP v)) (decide (κ = 4)) (vF (clr v (vP v)) 0) (plc v b) (vP v)).1) (vF (clr v (vP v)) 1) (rnF (clr v (vP v)) (decide (κ = 4)) (vF (clr v (vP v)) 0) (plc v b) (vP v)).2 (z + 1)).2)) := by ((refine (pl_s (nw_ex2 (vcol (vcol (clr v (vP v)) 0 (rnF (clr v (vP v)) (decide (κ = 4)) (vF (clr v (vP v)) 0) (plc v b) (vP v)).1) 1 (rsF (vcol (clr v (vP v)) 0 (rnF (clr v (vP v)) (decide (κ = 4)) (vF (clr v (vP v)) 0) (plc v b) (vP v)).1) (vF (clr v (vP v)) 1) (rnF (clr v (vP v)) (decide (κ = 4)) (vF (clr v (vP v)) 0) (plc v b) (vP v)).2 z).1) _ _) c119 bN).trans ?_); exact congrArg nI (if_neg c119).symm)
                                                  rw [ez3]
                                                  have fz : (vset (vcol (vcol (clr v (vP v)) 0 (rnF (clr v (vP v)) (decide (κ = 4)) (vF (clr v (vP v)) 0) (plc v b) (vP v)).1) 1 (rsF (vcol (clr v (vP v)) 0 (rnF (clr v (vP v)) (decide (κ = 4)) (vF (clr v (vP v)) 0) (plc v b) (vP v)).1) (vF (clr v (vP v)) 1) (rnF (clr v (vP v)) (decide (κ = 4)) (vF (clr v (vP v)) 0) (plc v b) (vP v)).2 z).1) 1 z (nwA (vcol (vcol (clr v (vP v)) 0 (rnF (clr v (vP v)) (decide (κ = 4)) (vF (clr v (vP v)) 0) (plc v b) (vP v)).1) 1 (rsF (vcol (clr v (vP v)) 0 (rnF (clr v (vP v)) (decide (κ = 4)) (vF (clr v (vP v)) 0) (plc v b) (vP v)).1) (vF (clr v (vP v)) 1) (rnF (clr v (vP v)) (decide (κ = 4)) (vF (clr v (vP v)) 0) (plc v b) (vP v)).2 z).1) ((rsF (vcol (clr v (vP v)) 0 (rnF (clr v (vP v)) (decide (κ = 4)) (vF (clr v (vP v)) 0) (plc v b) (vP v)).1) (vF (clr v (vP v)) 1) (rnF (clr v (vP v)) (decide (κ = 4)) (vF (clr v (vP v)) 0) (plc v b) (vP v)).2 z).2) (vF (vcol (clr v (vP v)) 0 (rnF (clr v (vP v)) (decide (κ = 4)) (vF (clr v (vP v)) 0) (plc v b) (vP v)).1) 0 z))) = (vcol (vcol (clr v (vP v)) 0 (rnF (clr v (vP v)) (decide (κ = 4)) (vF (clr v (vP v)) 0) (plc v b) (vP v)).1) 1 (rsF (vcol (clr v (vP v)) 0 (rnF (clr v (vP v)) (decide (κ = 4)) (vF (clr v (vP v)) 0) (plc v b) (vP v)).1) (vF (clr v (vP v)) 1) (rnF (clr v (vP v)) (decide (κ = 4)) (vF (clr v (vP v)) 0) (plc v b) (vP v)).2 (z + 1)).1) := by exact rs_s
                                                  exact ihz h118 (fz ▸ mh118) ph118 kh118
                                                ·
                                                  have c119 : nwA (vcol (vcol (clr v (vP v)) 0 (rnF (clr v (vP v)) (decide (κ = 4)) (vF (clr v (vP v)) 0) (plc v b) (vP v)).1) 1 (rsF (vcol (clr v (vP v)) 0 (rnF (clr v (vP v)) (decide (κ = 4)) (vF (clr v (vP v)) 0) (plc v b) (vP v)).1) (vF (clr v (vP v)) 1) (rnF (clr v (vP v)) (decide (κ = 4)) (vF (clr v (vP v)) 0) (plc v b) (vP v)).2 z).1) ((rsF (vcol (clr v (vP v)) 0 (rnF (clr v (vP v)) (decide (κ = 4)) (vF (clr v (vP v)) 0) (plc v b) (vP v)).1) (vF (clr v (vP v)) 1) (rnF (clr v (vP v)) (decide (κ = 4)) (vF (clr v (vP v)) 0) (plc v b) (vP v)).2 z).2) (vF (vcol (clr v (vP v)) 0 (rnF (clr v (vP v)) (decide (κ = 4)) (vF (clr v (vP v)) 0) (plc v b) (vP v)).1) 0 z) = -1 := c119
                                                  refine r_iload_n C (dx dX7_holdAll 113 rfl) rfl ?_
                                                  refine r_goto (tgt := 216) C (dx dX7_holdAll 114 rfl) (by decide) ?_
                                                  refine r_istore_n (ls' := [(0, vr 7 k), (1, vi (nI κ)), (2, vi (nI b)), (3, vi (nI ((rsF (vcol (clr v (vP v)) 0 (rnF (clr v (vP v)) (decide (κ = 4)) (vF (clr v (vP v)) 0) (plc v b) (vP v)).1) (vF (clr v (vP v)) 1) (rnF (clr v (vP v)) (decide (κ = 4)) (vF (clr v (vP v)) 0) (plc v b) (vP v)).2 z).2))), (4, vi (nI z))]) C (dx dX7_holdAll 121 rfl) (by decide) [1, 2, 3, 0, 4] rfl ?_
                                                  refine rn_iinc (a := z) (k := 1) (ls' := [(0, vr 7 k), (1, vi (nI κ)), (2, vi (nI b)), (3, vi (nI ((rsF (vcol (clr v (vP v)) 0 (rnF (clr v (vP v)) (decide (κ = 4)) (vF (clr v (vP v)) 0) (plc v b) (vP v)).1) (vF (clr v (vP v)) 1) (rnF (clr v (vP v)) (decide (κ = 4)) (vF (clr v (vP v)) 0) (plc v b) (vP v)).2 z).2))), (4, vi (nI (z + 1)))]) C (dx dX7_holdAll 122 rfl) rfl rfl (by decide) [1, 2, 3, 4, 0] rfl ?_
                                                  refine r_goto (tgt := 159) C (dx dX7_holdAll 123 rfl) (by decide) ?_
                                                  have ez3 : (nI ((rsF (vcol (clr v (vP v)) 0 (rnF (clr v (vP v)) (decide (κ = 4)) (vF (clr v (vP v)) 0) (plc v b) (vP v)).1) (vF (clr v (vP v)) 1) (rnF (clr v (vP v)) (decide (κ = 4)) (vF (clr v (vP v)) 0) (plc v b) (vP v)).2 z).2)) = (nI ((rsF (vcol (clr v (vP v)) 0 (rnF (clr v (vP v)) (decide (κ = 4)) (vF (clr v (vP v)) 0) (plc v b) (vP v)).1) (vF (clr v (vP v)) 1) (rnF (clr v (vP v)) (decide (κ = 4)) (vF (clr v (vP v)) 0) (plc v b) (vP v)).2 (z + 1)).2)) := by exact congrArg nI (if_pos c119).symm
                                                  rw [ez3]
                                                  have fz : (vset (vcol (vcol (clr v (vP v)) 0 (rnF (clr v (vP v)) (decide (κ = 4)) (vF (clr v (vP v)) 0) (plc v b) (vP v)).1) 1 (rsF (vcol (clr v (vP v)) 0 (rnF (clr v (vP v)) (decide (κ = 4)) (vF (clr v (vP v)) 0) (plc v b) (vP v)).1) (vF (clr v (vP v)) 1) (rnF (clr v (vP v)) (decide (κ = 4)) (vF (clr v (vP v)) 0) (plc v b) (vP v)).2 z).1) 1 z (nwA (vcol (vcol (clr v (vP v)) 0 (rnF (clr v (vP v)) (decide (κ = 4)) (vF (clr v (vP v)) 0) (plc v b) (vP v)).1) 1 (rsF (vcol (clr v (vP v)) 0 (rnF (clr v (vP v)) (decide (κ = 4)) (vF (clr v (vP v)) 0) (plc v b) (vP v)).1) (vF (clr v (vP v)) 1) (rnF (clr v (vP v)) (decide (κ = 4)) (vF (clr v (vP v)) 0) (plc v b) (vP v)).2 z).1) ((rsF (vcol (clr v (vP v)) 0 (rnF (clr v (vP v)) (decide (κ = 4)) (vF (clr v (vP v)) 0) (plc v b) (vP v)).1) (vF (clr v (vP v)) 1) (rnF (clr v (vP v)) (decide (κ = 4)) (vF (clr v (vP v)) 0) (plc v b) (vP v)).2 z).2) (vF (vcol (clr v (vP v)) 0 (rnF (clr v (vP v)) (decide (κ = 4)) (vF (clr v (vP v)) 0) (plc v b) (vP v)).1) 0 z))) = (vcol (vcol (clr v (vP v)) 0 (rnF (clr v (vP v)) (decide (κ = 4)) (vF (clr v (vP v)) 0) (plc v b) (vP v)).1) 1 (rsF (vcol (clr v (vP v)) 0 (rnF (clr v (vP v)) (decide (κ = 4)) (vF (clr v (vP v)) 0) (plc v b) (vP v)).1) (vF (clr v (vP v)) 1) (rnF (clr v (vP v)) (decide (κ = 4)) (vF (clr v (vP v)) 0) (plc v b) (vP v)).2 (z + 1)).1) := by exact rs_s
                                                  exact ihz h118 (fz ▸ mh118) ph118 kh118))
                                ·
                                  refine r_iload C (dx dX7_holdAll 89 rfl) rfl ?_
                                  refine r_aload_n C (dx dX7_holdAll 90 rfl) rfl ?_
                                  refine g_X7_64 (x := nI (vP v)) C (dx dX7_holdAll 91 rfl) mg9q.eP ?_
                                  refine rn_ge (a := 0) (b := vP v) (tgt := 223) C (by omega) (by omega) (dx dX7_holdAll 92 rfl) (by decide) (fun c120 => ?_) (fun c120 => ?_)
                                  · first
                                    | (omega; done)
                                    | (
                                        have c120 : vP v ≤ 0 := c120
                                        have eV : hAR v κ b = vcol (clr v (vP v)) 0 (rnF (clr v (vP v)) (decide (κ = 4)) (vF (clr v (vP v)) 0) (plc v b) q).1 := by (unfold hAR; rw [if_neg (show ¬ (κ = 1 ∨ κ = 5) by omega), if_neg h3])
                                        exact F.2.2.1 _ _ _ rfl (dx dX7_holdAll 124 rfl) kg9q ⟨rfl, by rw [eV]; exact mg9q, pg9q⟩)
                                  · first
                                    | (omega; done)
                                    | (
                                        have c120 : 0 < vP v := c120
                                        refine r_iload_n C (dx dX7_holdAll 93 rfl) rfl ?_
                                        refine r_iconst (v := nI 3) C (dx dX7_holdAll 94 rfl) rfl ?_
                                        refine rn_ne (a := κ) (b := 3) (tgt := 223) C (by omega) (by omega) (dx dX7_holdAll 95 rfl) (by decide) (fun c121 => ?_) (fun c121 => ?_)
                                        · first
                                          | (omega; done)
                                          | (
                                              have c121 : ¬ κ = 3 := c121
                                              have eV : hAR v κ b = vcol (clr v (vP v)) 0 (rnF (clr v (vP v)) (decide (κ = 4)) (vF (clr v (vP v)) 0) (plc v b) q).1 := by (unfold hAR; rw [if_neg (show ¬ (κ = 1 ∨ κ = 5) by omega), if_neg h3])
                                              exact F.2.2.1 _ _ _ rfl (dx dX7_holdAll 124 rfl) kg9q ⟨rfl, by rw [eV]; exact mg9q, pg9q⟩)
                                        ·
                                          have c121 : κ = 3 := c121
                                          exact absurd c121 h3))
                          · first
                            | (omega; done)
                            | (
                                have c111 : q < vP v := c111
                                refine r_aload_n C (dx dX7_holdAll 56 rfl) rfl ?_
                                refine g_X7_40 C (dx dX7_holdAll 57 rfl) ?_
                                refine r_iload C (dx dX7_holdAll 58 rfl) rfl ?_
                                refine r_iload_n C (dx dX7_holdAll 59 rfl) rfl ?_
                                refine r_iconst (v := nI 4) C (dx dX7_holdAll 60 rfl) rfl ?_
                                refine rn_ne (a := κ) (b := 4) (tgt := 118) C (by omega) (by omega) (dx dX7_holdAll 61 rfl) (by decide) (fun c122 => ?_) (fun c122 => ?_)
                                · first
                                  | (omega; done)
                                  | (
                                      have c122 : ¬ κ = 4 := c122
                                      refine r_aload_n C (dx dX7_holdAll 65 rfl) rfl ?_
                                      refine r_iload_n C (dx dX7_holdAll 66 rfl) rfl ?_
                                      refine r_iconst (v := -1) C (dx dX7_holdAll 67 rfl) rfl ?_
                                      refine r_cvP (as := [vi (nI ((rnF (clr v (vP v)) (decide (κ = 4)) (vF (clr v (vP v)) 0) (plc v b) q).2)), vi (-1)]) (st := [vi (nI q), vr 20 (k + 18)]) (v := vi (nwA (vcol (clr v (vP v)) 0 (rnF (clr v (vP v)) (decide (κ = 4)) (vF (clr v (vP v)) 0) (plc v b) q).1) ((rnF (clr v (vP v)) (decide (κ = 4)) (vF (clr v (vP v)) 0) (plc v b) q).2) (-1))) C X I_X7_nextWithRoom l_X7_289 (e_nw mg9q (a := (rnF (clr v (vP v)) (decide (κ = 4)) (vF (clr v (vP v)) 0) (plc v b) q).2) (Nat.lt_trans (rnF_lt _ _ _ _ hp9 (show vN (clr v (vP v)) ≤ 8 from bN) _) (by decide)) (-1)) (by decide) (Nat.le_of_ble_eq_true rfl) (pfx_eq kg9q) rfl rfl (Nat.le_of_ble_eq_true rfl) rfl (dx dX7_holdAll 68 rfl) ?_
                                      refine r_iast (j := q) C rfl rfl (by decide) rfl (by omega) (dx dX7_holdAll 69 rfl) ?_
                                      have mh123 : MilAt (sI g9q (k + 18) q (nwA (vcol (clr v (vP v)) 0 (rnF (clr v (vP v)) (decide (κ = 4)) (vF (clr v (vP v)) 0) (plc v b) q).1) ((rnF (clr v (vP v)) (decide (κ = 4)) (vF (clr v (vP v)) 0) (plc v b) q).2) (-1))) k (vset (vcol (clr v (vP v)) 0 (rnF (clr v (vP v)) (decide (κ = 4)) (vF (clr v (vP v)) 0) (plc v b) q).1) 0 q (nwA (vcol (clr v (vP v)) 0 (rnF (clr v (vP v)) (decide (κ = 4)) (vF (clr v (vP v)) 0) (plc v b) q).1) ((rnF (clr v (vP v)) (decide (κ = 4)) (vF (clr v (vP v)) 0) (plc v b) q).2) (-1))) := mg9q.s0
                                      have ph123 : Kp k h (sI g9q (k + 18) q (nwA (vcol (clr v (vP v)) 0 (rnF (clr v (vP v)) (decide (κ = 4)) (vF (clr v (vP v)) 0) (plc v b) q).1) ((rnF (clr v (vP v)) (decide (κ = 4)) (vF (clr v (vP v)) 0) (plc v b) q).2) (-1))) := pg9q.tr (Kp.c (by omega) (by omega))
                                      have kh123 : xK (sI g9q (k + 18) q (nwA (vcol (clr v (vP v)) 0 (rnF (clr v (vP v)) (decide (κ = 4)) (vF (clr v (vP v)) 0) (plc v b) q).1) ((rnF (clr v (vP v)) (decide (κ = 4)) (vF (clr v (vP v)) 0) (plc v b) q).2) (-1))) = xK h := kg9q
                                      generalize sI g9q (k + 18) q (nwA (vcol (clr v (vP v)) 0 (rnF (clr v (vP v)) (decide (κ = 4)) (vF (clr v (vP v)) 0) (plc v b) q).1) ((rnF (clr v (vP v)) (decide (κ = 4)) (vF (clr v (vP v)) 0) (plc v b) q).2) (-1)) = h123 at mh123 ph123 kh123 ⊢
                                      refine r_aload_n C (dx dX7_holdAll 70 rfl) rfl ?_
                                      refine g_X7_40 C (dx dX7_holdAll 71 rfl) ?_
                                      refine r_iload C (dx dX7_holdAll 72 rfl) rfl ?_
                                      refine r_iald (j := q) (x := nwA (vcol (clr v (vP v)) 0 (rnF (clr v (vP v)) (decide (κ = 4)) (vF (clr v (vP v)) 0) (plc v b) q).1) ((rnF (clr v (vP v)) (decide (κ = 4)) (vF (clr v (vP v)) 0) (plc v b) q).2) (-1)) C rfl rfl (by decide) rfl (by omega) (dx dX7_holdAll 73 rfl) ((mh123.e0 (by omega)).trans (by simp [vset, vF])) ?_
                                      refine r_iconst (v := -1) C (dx dX7_holdAll 74 rfl) rfl ?_
                                      refine r_icmp_ne (tgt := 140) C (dx dX7_holdAll 75 rfl) (by decide) (fun c124 => ?_) (fun c124 => ?_)
                                      ·
                                        have c124 : ¬ nwA (vcol (clr v (vP v)) 0 (rnF (clr v (vP v)) (decide (κ = 4)) (vF (clr v (vP v)) 0) (plc v b) q).1) ((rnF (clr v (vP v)) (decide (κ = 4)) (vF (clr v (vP v)) 0) (plc v b) q).2) (-1) = -1 := c124
                                        refine r_aload_n C (dx dX7_holdAll 78 rfl) rfl ?_
                                        refine g_X7_40 C (dx dX7_holdAll 79 rfl) ?_
                                        refine r_iload C (dx dX7_holdAll 80 rfl) rfl ?_
                                        refine r_iald (j := q) (x := nwA (vcol (clr v (vP v)) 0 (rnF (clr v (vP v)) (decide (κ = 4)) (vF (clr v (vP v)) 0) (plc v b) q).1) ((rnF (clr v (vP v)) (decide (κ = 4)) (vF (clr v (vP v)) 0) (plc v b) q).2) (-1)) C rfl rfl (by decide) rfl (by omega) (dx dX7_holdAll 81 rfl) ((mh123.e0 (by omega)).trans (by simp [vset, vF])) ?_
                                        refine r_iconst (v := nI 1) C (dx dX7_holdAll 82 rfl) rfl ?_
                                        refine r_iadd C (dx dX7_holdAll 83 rfl) ?_
                                        refine r_istore_n (ls' := [(0, vr 7 k), (1, vi (nI κ)), (2, vi (nI b)), (3, vi ((nwA (vcol (clr v (vP v)) 0 (rnF (clr v (vP v)) (decide (κ = 4)) (vF (clr v (vP v)) 0) (plc v b) q).1) ((rnF (clr v (vP v)) (decide (κ = 4)) (vF (clr v (vP v)) 0) (plc v b) q).2) (-1)) + (nI 1))), (4, vi (nI q))]) C (dx dX7_holdAll 84 rfl) (by decide) [1, 2, 3, 0, 4] rfl ?_
                                        refine rn_iinc (a := q) (k := 1) (ls' := [(0, vr 7 k), (1, vi (nI κ)), (2, vi (nI b)), (3, vi ((nwA (vcol (clr v (vP v)) 0 (rnF (clr v (vP v)) (decide (κ = 4)) (vF (clr v (vP v)) 0) (plc v b) q).1) ((rnF (clr v (vP v)) (decide (κ = 4)) (vF (clr v (vP v)) 0) (plc v b) q).2) (-1)) + (nI 1))), (4, vi (nI (q + 1)))]) C (dx dX7_holdAll 85 rfl) rfl rfl (by decide) [1, 2, 3, 4, 0] rfl ?_
                                        refine r_goto (tgt := 91) C (dx dX7_holdAll 86 rfl) (by decide) ?_
                                        have eq3 : ((nwA (vcol (clr v (vP v)) 0 (rnF (clr v (vP v)) (decide (κ = 4)) (vF (clr v (vP v)) 0) (plc v b) q).1) ((rnF (clr v (vP v)) (decide (κ = 4)) (vF (clr v (vP v)) 0) (plc v b) q).2) (-1)) + (nI 1)) = (nI ((rnF (clr v (vP v)) (decide (κ = 4)) (vF (clr v (vP v)) 0) (plc v b) (q + 1)).2)) := by ((refine (pl_s (rn_e (su_n c122)) c124 bN).trans ?_); exact congrArg nI ((rn_p (su_n c122)).trans (if_neg c124)).symm)
                                        rw [eq3]
                                        have fq : (vset (vcol (clr v (vP v)) 0 (rnF (clr v (vP v)) (decide (κ = 4)) (vF (clr v (vP v)) 0) (plc v b) q).1) 0 q (nwA (vcol (clr v (vP v)) 0 (rnF (clr v (vP v)) (decide (κ = 4)) (vF (clr v (vP v)) 0) (plc v b) q).1) ((rnF (clr v (vP v)) (decide (κ = 4)) (vF (clr v (vP v)) 0) (plc v b) q).2) (-1))) = (vcol (clr v (vP v)) 0 (rnF (clr v (vP v)) (decide (κ = 4)) (vF (clr v (vP v)) 0) (plc v b) (q + 1)).1) := by exact rn_s (su_n c122)
                                        exact ihq h123 (fq ▸ mh123) ph123 kh123
                                      ·
                                        have c124 : nwA (vcol (clr v (vP v)) 0 (rnF (clr v (vP v)) (decide (κ = 4)) (vF (clr v (vP v)) 0) (plc v b) q).1) ((rnF (clr v (vP v)) (decide (κ = 4)) (vF (clr v (vP v)) 0) (plc v b) q).2) (-1) = -1 := c124
                                        refine r_iload_n C (dx dX7_holdAll 76 rfl) rfl ?_
                                        refine r_goto (tgt := 149) C (dx dX7_holdAll 77 rfl) (by decide) ?_
                                        refine r_istore_n (ls' := [(0, vr 7 k), (1, vi (nI κ)), (2, vi (nI b)), (3, vi (nI ((rnF (clr v (vP v)) (decide (κ = 4)) (vF (clr v (vP v)) 0) (plc v b) q).2))), (4, vi (nI q))]) C (dx dX7_holdAll 84 rfl) (by decide) [1, 2, 3, 0, 4] rfl ?_
                                        refine rn_iinc (a := q) (k := 1) (ls' := [(0, vr 7 k), (1, vi (nI κ)), (2, vi (nI b)), (3, vi (nI ((rnF (clr v (vP v)) (decide (κ = 4)) (vF (clr v (vP v)) 0) (plc v b) q).2))), (4, vi (nI (q + 1)))]) C (dx dX7_holdAll 85 rfl) rfl rfl (by decide) [1, 2, 3, 4, 0] rfl ?_
                                        refine r_goto (tgt := 91) C (dx dX7_holdAll 86 rfl) (by decide) ?_
                                        have eq3 : (nI ((rnF (clr v (vP v)) (decide (κ = 4)) (vF (clr v (vP v)) 0) (plc v b) q).2)) = (nI ((rnF (clr v (vP v)) (decide (κ = 4)) (vF (clr v (vP v)) 0) (plc v b) (q + 1)).2)) := by (exact congrArg nI ((rn_p (su_n c122)).trans (if_pos c124)).symm)
                                        rw [eq3]
                                        have fq : (vset (vcol (clr v (vP v)) 0 (rnF (clr v (vP v)) (decide (κ = 4)) (vF (clr v (vP v)) 0) (plc v b) q).1) 0 q (nwA (vcol (clr v (vP v)) 0 (rnF (clr v (vP v)) (decide (κ = 4)) (vF (clr v (vP v)) 0) (plc v b) q).1) ((rnF (clr v (vP v)) (decide (κ = 4)) (vF (clr v (vP v)) 0) (plc v b) q).2) (-1))) = (vcol (clr v (vP v)) 0 (rnF (clr v (vP v)) (decide (κ = 4)) (vF (clr v (vP v)) 0) (plc v b) (q + 1)).1) := by exact rn_s (su_n c122)
                                        exact ihq h123 (fq ▸ mh123) ph123 kh123)
                                · first
                                  | (omega; done)
                                  | (
                                      have c122 : κ = 4 := c122
                                      refine r_aload_n C (dx dX7_holdAll 62 rfl) rfl ?_
                                      refine r_cvP (as := []) (st := [vi (nI q), vr 20 (k + 18)]) (v := vi (srA (vcol (clr v (vP v)) 0 (rnF (clr v (vP v)) (decide (κ = 4)) (vF (clr v (vP v)) 0) (plc v b) q).1) (vN v))) C X I_X7_surest l_X7_286 (e_sr mg9q) (by decide) (Nat.le_of_ble_eq_true rfl) (pfx_eq kg9q) rfl rfl (Nat.le_of_ble_eq_true rfl) rfl (dx dX7_holdAll 63 rfl) ?_
                                      refine r_goto (tgt := 124) C (dx dX7_holdAll 64 rfl) (by decide) ?_
                                      refine r_iast (j := q) C rfl rfl (by decide) rfl (by omega) (dx dX7_holdAll 69 rfl) ?_
                                      have mh125 : MilAt (sI g9q (k + 18) q (srA (vcol (clr v (vP v)) 0 (rnF (clr v (vP v)) (decide (κ = 4)) (vF (clr v (vP v)) 0) (plc v b) q).1) (vN v))) k (vset (vcol (clr v (vP v)) 0 (rnF (clr v (vP v)) (decide (κ = 4)) (vF (clr v (vP v)) 0) (plc v b) q).1) 0 q (srA (vcol (clr v (vP v)) 0 (rnF (clr v (vP v)) (decide (κ = 4)) (vF (clr v (vP v)) 0) (plc v b) q).1) (vN v))) := mg9q.s0
                                      have ph125 : Kp k h (sI g9q (k + 18) q (srA (vcol (clr v (vP v)) 0 (rnF (clr v (vP v)) (decide (κ = 4)) (vF (clr v (vP v)) 0) (plc v b) q).1) (vN v))) := pg9q.tr (Kp.c (by omega) (by omega))
                                      have kh125 : xK (sI g9q (k + 18) q (srA (vcol (clr v (vP v)) 0 (rnF (clr v (vP v)) (decide (κ = 4)) (vF (clr v (vP v)) 0) (plc v b) q).1) (vN v))) = xK h := kg9q
                                      generalize sI g9q (k + 18) q (srA (vcol (clr v (vP v)) 0 (rnF (clr v (vP v)) (decide (κ = 4)) (vF (clr v (vP v)) 0) (plc v b) q).1) (vN v)) = h125 at mh125 ph125 kh125 ⊢
                                      refine r_aload_n C (dx dX7_holdAll 70 rfl) rfl ?_
                                      refine g_X7_40 C (dx dX7_holdAll 71 rfl) ?_
                                      refine r_iload C (dx dX7_holdAll 72 rfl) rfl ?_
                                      refine r_iald (j := q) (x := srA (vcol (clr v (vP v)) 0 (rnF (clr v (vP v)) (decide (κ = 4)) (vF (clr v (vP v)) 0) (plc v b) q).1) (vN v)) C rfl rfl (by decide) rfl (by omega) (dx dX7_holdAll 73 rfl) ((mh125.e0 (by omega)).trans (by simp [vset, vF])) ?_
                                      refine r_iconst (v := -1) C (dx dX7_holdAll 74 rfl) rfl ?_
                                      refine r_icmp_ne (tgt := 140) C (dx dX7_holdAll 75 rfl) (by decide) (fun c126 => ?_) (fun c126 => ?_)
                                      ·
                                        have c126 : ¬ srA (vcol (clr v (vP v)) 0 (rnF (clr v (vP v)) (decide (κ = 4)) (vF (clr v (vP v)) 0) (plc v b) q).1) (vN v) = -1 := c126
                                        refine r_aload_n C (dx dX7_holdAll 78 rfl) rfl ?_
                                        refine g_X7_40 C (dx dX7_holdAll 79 rfl) ?_
                                        refine r_iload C (dx dX7_holdAll 80 rfl) rfl ?_
                                        refine r_iald (j := q) (x := srA (vcol (clr v (vP v)) 0 (rnF (clr v (vP v)) (decide (κ = 4)) (vF (clr v (vP v)) 0) (plc v b) q).1) (vN v)) C rfl rfl (by decide) rfl (by omega) (dx dX7_holdAll 81 rfl) ((mh125.e0 (by omega)).trans (by simp [vset, vF])) ?_
                                        refine r_iconst (v := nI 1) C (dx dX7_holdAll 82 rfl) rfl ?_
                                        refine r_iadd C (dx dX7_holdAll 83 rfl) ?_
                                        refine r_istore_n (ls' := [(0, vr 7 k), (1, vi (nI κ)), (2, vi (nI b)), (3, vi ((srA (vcol (clr v (vP v)) 0 (rnF (clr v (vP v)) (decide (κ = 4)) (vF (clr v (vP v)) 0) (plc v b) q).1) (vN v)) + (nI 1))), (4, vi (nI q))]) C (dx dX7_holdAll 84 rfl) (by decide) [1, 2, 3, 0, 4] rfl ?_
                                        refine rn_iinc (a := q) (k := 1) (ls' := [(0, vr 7 k), (1, vi (nI κ)), (2, vi (nI b)), (3, vi ((srA (vcol (clr v (vP v)) 0 (rnF (clr v (vP v)) (decide (κ = 4)) (vF (clr v (vP v)) 0) (plc v b) q).1) (vN v)) + (nI 1))), (4, vi (nI (q + 1)))]) C (dx dX7_holdAll 85 rfl) rfl rfl (by decide) [1, 2, 3, 4, 0] rfl ?_
                                        refine r_goto (tgt := 91) C (dx dX7_holdAll 86 rfl) (by decide) ?_
                                        have eq3 : ((srA (vcol (clr v (vP v)) 0 (rnF (clr v (vP v)) (decide (κ = 4)) (vF (clr v (vP v)) 0) (plc v b) q).1) (vN v)) + (nI 1)) = (nI ((rnF (clr v (vP v)) (decide (κ = 4)) (vF (clr v (vP v)) 0) (plc v b) (q + 1)).2)) := by ((refine (pl_s (rn_e (su_y c122)) c126 bN).trans ?_); exact congrArg nI ((rn_p (su_y c122)).trans (if_neg c126)).symm)
                                        rw [eq3]
                                        have fq : (vset (vcol (clr v (vP v)) 0 (rnF (clr v (vP v)) (decide (κ = 4)) (vF (clr v (vP v)) 0) (plc v b) q).1) 0 q (srA (vcol (clr v (vP v)) 0 (rnF (clr v (vP v)) (decide (κ = 4)) (vF (clr v (vP v)) 0) (plc v b) q).1) (vN v))) = (vcol (clr v (vP v)) 0 (rnF (clr v (vP v)) (decide (κ = 4)) (vF (clr v (vP v)) 0) (plc v b) (q + 1)).1) := by exact rn_s (su_y c122)
                                        exact ihq h125 (fq ▸ mh125) ph125 kh125
                                      ·
                                        have c126 : srA (vcol (clr v (vP v)) 0 (rnF (clr v (vP v)) (decide (κ = 4)) (vF (clr v (vP v)) 0) (plc v b) q).1) (vN v) = -1 := c126
                                        refine r_iload_n C (dx dX7_holdAll 76 rfl) rfl ?_
                                        refine r_goto (tgt := 149) C (dx dX7_holdAll 77 rfl) (by decide) ?_
                                        refine r_istore_n (ls' := [(0, vr 7 k), (1, vi (nI κ)), (2, vi (nI b)), (3, vi (nI ((rnF (clr v (vP v)) (decide (κ = 4)) (vF (clr v (vP v)) 0) (plc v b) q).2))), (4, vi (nI q))]) C (dx dX7_holdAll 84 rfl) (by decide) [1, 2, 3, 0, 4] rfl ?_
                                        refine rn_iinc (a := q) (k := 1) (ls' := [(0, vr 7 k), (1, vi (nI κ)), (2, vi (nI b)), (3, vi (nI ((rnF (clr v (vP v)) (decide (κ = 4)) (vF (clr v (vP v)) 0) (plc v b) q).2))), (4, vi (nI (q + 1)))]) C (dx dX7_holdAll 85 rfl) rfl rfl (by decide) [1, 2, 3, 4, 0] rfl ?_
                                        refine r_goto (tgt := 91) C (dx dX7_holdAll 86 rfl) (by decide) ?_
                                        have eq3 : (nI ((rnF (clr v (vP v)) (decide (κ = 4)) (vF (clr v (vP v)) 0) (plc v b) q).2)) = (nI ((rnF (clr v (vP v)) (decide (κ = 4)) (vF (clr v (vP v)) 0) (plc v b) (q + 1)).2)) := by (exact congrArg nI ((rn_p (su_y c122)).trans (if_pos c126)).symm)
                                        rw [eq3]
                                        have fq : (vset (vcol (clr v (vP v)) 0 (rnF (clr v (vP v)) (decide (κ = 4)) (vF (clr v (vP v)) 0) (plc v b) q).1) 0 q (srA (vcol (clr v (vP v)) 0 (rnF (clr v (vP v)) (decide (κ = 4)) (vF (clr v (vP v)) 0) (plc v b) q).1) (vN v))) = (vcol (clr v (vP v)) 0 (rnF (clr v (vP v)) (decide (κ = 4)) (vF (clr v (vP v)) 0) (plc v b) (q + 1)).1) := by exact rn_s (su_y c122)
                                        exact ihq h125 (fq ▸ mh125) ph125 kh125))
                      ·
                        have c94 : nI (vN v) = 0 := c94
                        refine r_iconst (v := nI 0) C (dx dX7_holdAll 43 rfl) rfl ?_
                        refine r_goto (tgt := 87) C (dx dX7_holdAll 44 rfl) (by decide) ?_
                        have hp9 : plc v b < 200 := by unfold plc; split; omega; exact Nat.lt_of_lt_of_le (Nat.mod_lt _ (by omega)) (by omega)
                        have e91 : nI 0 = nI (plc v b) := by unfold plc; rw [if_pos (by have := nI_zz c94; omega)]
                        rw [e91]
                        refine r_istore_n (ls' := [(0, vr 7 k), (1, vi (nI κ)), (2, vi (nI b)), (3, vi (nI (plc v b)))]) C (dx dX7_holdAll 49 rfl) (by decide) [1, 2, 3, 0] rfl ?_
                        refine r_iconst (v := nI 0) C (dx dX7_holdAll 50 rfl) rfl ?_
                        refine r_istore (ls' := [(0, vr 7 k), (1, vi (nI κ)), (2, vi (nI b)), (3, vi (nI (plc v b))), (4, vi (nI 0))]) C (dx dX7_holdAll 51 rfl) (by decide) [1, 2, 3, 4, 0] rfl ?_
                        refine loopU (Φ := fun q => ∀ g9q, MilAt g9q k (vcol (clr v (vP v)) 0 (rnF (clr v (vP v)) (decide (κ = 4)) (vF (clr v (vP v)) 0) (plc v b) q).1) → Kp k h g9q → xK g9q = xK h → Rr G 91 [(0, vr 7 k), (1, vi (nI κ)), (2, vi (nI b)), (3, vi (nI ((rnF (clr v (vP v)) (decide (κ = 4)) (vF (clr v (vP v)) 0) (plc v b) q).2))), (4, vi (nI q))] [] g9q) (N := vP v) ?_ ?_ 0 (Nat.zero_le _) g9p (by show MilAt _ k (vcol (clr v (vP v)) 0 (vF (clr v (vP v)) 0)); rw [vcol_id]; exact mg9p) pg9p kg9p
                        ·
                          intro g9q mg9q pg9q kg9q
                          refine r_iload C (dx dX7_holdAll 52 rfl) rfl ?_
                          refine r_aload_n C (dx dX7_holdAll 53 rfl) rfl ?_
                          refine g_X7_64 (x := nI (vP v)) C (dx dX7_holdAll 54 rfl) mg9q.eP ?_
                          refine rn_ge (a := vP v) (b := vP v) (tgt := 156) C (by omega) (by omega) (dx dX7_holdAll 55 rfl) (by decide) (fun c127 => ?_) (fun c127 => ?_)
                          · first
                            | (omega; done)
                            | (
                                have c127 : vP v ≤ vP v := c127
                                refine r_iconst (v := nI 0) C (dx dX7_holdAll 87 rfl) rfl ?_
                                refine r_istore (ls' := [(0, vr 7 k), (1, vi (nI κ)), (2, vi (nI b)), (3, vi (nI ((rnF (clr v (vP v)) (decide (κ = 4)) (vF (clr v (vP v)) 0) (plc v b) (vP v)).2))), (4, vi (nI 0))]) C (dx dX7_holdAll 88 rfl) (by decide) [1, 2, 3, 4, 0] rfl ?_
                                by_cases h3 : κ = 3
                                ·
                                  refine loopU (Φ := fun z => ∀ g9z, MilAt g9z k (vcol (vcol (clr v (vP v)) 0 (rnF (clr v (vP v)) (decide (κ = 4)) (vF (clr v (vP v)) 0) (plc v b) (vP v)).1) 1 (rsF (vcol (clr v (vP v)) 0 (rnF (clr v (vP v)) (decide (κ = 4)) (vF (clr v (vP v)) 0) (plc v b) (vP v)).1) (vF (clr v (vP v)) 1) (rnF (clr v (vP v)) (decide (κ = 4)) (vF (clr v (vP v)) 0) (plc v b) (vP v)).2 z).1) → Kp k h g9z → xK g9z = xK h → Rr G 159 [(0, vr 7 k), (1, vi (nI κ)), (2, vi (nI b)), (3, vi (nI ((rsF (vcol (clr v (vP v)) 0 (rnF (clr v (vP v)) (decide (κ = 4)) (vF (clr v (vP v)) 0) (plc v b) (vP v)).1) (vF (clr v (vP v)) 1) (rnF (clr v (vP v)) (decide (κ = 4)) (vF (clr v (vP v)) 0) (plc v b) (vP v)).2 z).2))), (4, vi (nI z))] [] g9z) (N := vP v) ?_ ?_ 0 (Nat.zero_le _) g9q (by show MilAt _ k (vcol (vcol (clr v (vP v)) 0 (rnF (clr v (vP v)) (decide (κ = 4)) (vF (clr v (vP v)) 0) (plc v b) (vP v)).1) 1 (vF (vcol (clr v (vP v)) 0 (rnF (clr v (vP v)) (decide (κ = 4)) (vF (clr v (vP v)) 0) (plc v b) (vP v)).1) 1)); rw [vcol_id]; exact mg9q) pg9q kg9q
                                  ·
                                    intro g9z mg9z pg9z kg9z
                                    refine r_iload C (dx dX7_holdAll 89 rfl) rfl ?_
                                    refine r_aload_n C (dx dX7_holdAll 90 rfl) rfl ?_
                                    refine g_X7_64 (x := nI (vP v)) C (dx dX7_holdAll 91 rfl) mg9z.eP ?_
                                    refine rn_ge (a := vP v) (b := vP v) (tgt := 223) C (by omega) (by omega) (dx dX7_holdAll 92 rfl) (by decide) (fun c128 => ?_) (fun c128 => ?_)
                                    · first
                                      | (omega; done)
                                      | (
                                          have c128 : vP v ≤ vP v := c128
                                          have eV : hAR v κ b = vcol (vcol (clr v (vP v)) 0 (rnF (clr v (vP v)) (decide (κ = 4)) (vF (clr v (vP v)) 0) (plc v b) (vP v)).1) 1 (rsF (vcol (clr v (vP v)) 0 (rnF (clr v (vP v)) (decide (κ = 4)) (vF (clr v (vP v)) 0) (plc v b) (vP v)).1) (vF (clr v (vP v)) 1) (rnF (clr v (vP v)) (decide (κ = 4)) (vF (clr v (vP v)) 0) (plc v b) (vP v)).2 (vP v)).1 := by (unfold hAR; rw [if_neg (show ¬ (κ = 1 ∨ κ = 5) by omega), if_pos h3, show decide (κ = 4) = false from decide_eq_false (by omega)])
                                          exact F.2.2.1 _ _ _ rfl (dx dX7_holdAll 124 rfl) kg9z ⟨rfl, by rw [eV]; exact mg9z, pg9z⟩)
                                    · first
                                      | (omega; done)
                                      | (
                                          have c128 : vP v < vP v := c128
                                          refine r_iload_n C (dx dX7_holdAll 93 rfl) rfl ?_
                                          refine r_iconst (v := nI 3) C (dx dX7_holdAll 94 rfl) rfl ?_
                                          refine rn_ne (a := κ) (b := 3) (tgt := 223) C (by omega) (by omega) (dx dX7_holdAll 95 rfl) (by decide) (fun c129 => ?_) (fun c129 => ?_)
                                          ·
                                            have c129 : ¬ κ = 3 := c129
                                            exact absurd h3 c129
                                          · first
                                            | (omega; done))
                                  ·
                                    intro z hz ihz g9z mg9z pg9z kg9z
                                    refine r_iload C (dx dX7_holdAll 89 rfl) rfl ?_
                                    refine r_aload_n C (dx dX7_holdAll 90 rfl) rfl ?_
                                    refine g_X7_64 (x := nI (vP v)) C (dx dX7_holdAll 91 rfl) mg9z.eP ?_
                                    refine rn_ge (a := z) (b := vP v) (tgt := 223) C (by omega) (by omega) (dx dX7_holdAll 92 rfl) (by decide) (fun c132 => ?_) (fun c132 => ?_)
                                    · first
                                      | (omega; done)
                                      | (
                                          have c132 : vP v ≤ z := c132
                                          have eV : hAR v κ b = vcol (vcol (clr v (vP v)) 0 (rnF (clr v (vP v)) (decide (κ = 4)) (vF (clr v (vP v)) 0) (plc v b) (vP v)).1) 1 (rsF (vcol (clr v (vP v)) 0 (rnF (clr v (vP v)) (decide (κ = 4)) (vF (clr v (vP v)) 0) (plc v b) (vP v)).1) (vF (clr v (vP v)) 1) (rnF (clr v (vP v)) (decide (κ = 4)) (vF (clr v (vP v)) 0) (plc v b) (vP v)).2 z).1 := by (unfold hAR; rw [if_neg (show ¬ (κ = 1 ∨ κ = 5) by omega), if_pos h3, show decide (κ = 4) = false from decide_eq_false (by omega)])
                                          exact F.2.2.1 _ _ _ rfl (dx dX7_holdAll 124 rfl) kg9z ⟨rfl, by rw [eV]; exact mg9z, pg9z⟩)
                                    · first
                                      | (omega; done)
                                      | (
                                          have c132 : z < vP v := c132
                                          refine r_iload_n C (dx dX7_holdAll 93 rfl) rfl ?_
                                          refine r_iconst (v := nI 3) C (dx dX7_holdAll 94 rfl) rfl ?_
                                          refine rn_ne (a := κ) (b := 3) (tgt := 223) C (by omega) (by omega) (dx dX7_holdAll 95 rfl) (by decide) (fun c133 => ?_) (fun c133 => ?_)
                                          ·
                                            have c133 : ¬ κ = 3 := c133
                                            exact absurd h3 c133
                                          · first
                                            | (omega; done)
                                            | (
                                                have c133 : κ = 3 := c133
                                                refine r_aload_n C (dx dX7_holdAll 96 rfl) rfl ?_
                                                refine g_X7_43 C (dx dX7_holdAll 97 rfl) ?_
                                                refine r_iload C (dx dX7_holdAll 98 rfl) rfl ?_
                                                refine r_aload_n C (dx dX7_holdAll 99 rfl) rfl ?_
                                                refine r_iload_n C (dx dX7_holdAll 100 rfl) rfl ?_
                                                refine r_aload_n C (dx dX7_holdAll 101 rfl) rfl ?_
                                                refine g_X7_40 C (dx dX7_holdAll 102 rfl) ?_
                                                refine r_iload C (dx dX7_holdAll 103 rfl) rfl ?_
                                                refine r_iald (j := z) (x := vF (vcol (clr v (vP v)) 0 (rnF (clr v (vP v)) (decide (κ = 4)) (vF (clr v (vP v)) 0) (plc v b) (vP v)).1) 0 z) C rfl rfl (by decide) rfl (by omega) (dx dX7_holdAll 104 rfl) (mg9z.e0 (by omega)) ?_
                                                refine r_cvP (as := [vi (nI ((rsF (vcol (clr v (vP v)) 0 (rnF (clr v (vP v)) (decide (κ = 4)) (vF (clr v (vP v)) 0) (plc v b) (vP v)).1) (vF (clr v (vP v)) 1) (rnF (clr v (vP v)) (decide (κ = 4)) (vF (clr v (vP v)) 0) (plc v b) (vP v)).2 z).2)), vi (vF (vcol (clr v (vP v)) 0 (rnF (clr v (vP v)) (decide (κ = 4)) (vF (clr v (vP v)) 0) (plc v b) (vP v)).1) 0 z)]) (st := [vi (nI z), vr 20 (k + 19)]) (v := vi (nwA (vcol (vcol (clr v (vP v)) 0 (rnF (clr v (vP v)) (decide (κ = 4)) (vF (clr v (vP v)) 0) (plc v b) (vP v)).1) 1 (rsF (vcol (clr v (vP v)) 0 (rnF (clr v (vP v)) (decide (κ = 4)) (vF (clr v (vP v)) 0) (plc v b) (vP v)).1) (vF (clr v (vP v)) 1) (rnF (clr v (vP v)) (decide (κ = 4)) (vF (clr v (vP v)) 0) (plc v b) (vP v)).2 z).1) ((rsF (vcol (clr v (vP v)) 0 (rnF (clr v (vP v)) (decide (κ = 4)) (vF (clr v (vP v)) 0) (plc v b) (vP v)).1) (vF (clr v (vP v)) 1) (rnF (clr v (vP v)) (decide (κ = 4)) (vF (clr v (vP v)) 0) (plc v b) (vP v)).2 z).2) (vF (vcol (clr v (vP v)) 0 (rnF (clr v (vP v)) (decide (κ = 4)) (vF (clr v (vP v)) 0) (plc v b) (vP v)).1) 0 z))) C X I_X7_nextWithRoom l_X7_289 (e_nw mg9z (a := (rsF (vcol (clr v (vP v)) 0 (rnF (clr v (vP v)) (decide (κ = 4)) (vF (clr v (vP v)) 0) (plc v b) (vP v)).1) (vF (clr v (vP v)) 1) (rnF (clr v (vP v)) (decide (κ = 4)) (vF (clr v (vP v)) 0) (plc v b) (vP v)).2 z).2) (Nat.lt_trans (rsF_lt _ _ _ (rnF_lt _ _ _ _ hp9 (show vN (clr v (vP v)) ≤ 8 from bN) _) (show vN (vcol (clr v (vP v)) 0 (rnF (clr v (vP v)) (decide (κ = 4)) (vF (clr v (vP v)) 0) (plc v b) (vP v)).1) ≤ 8 from bN) _) (by decide)) (vF (vcol (clr v (vP v)) 0 (rnF (clr v (vP v)) (decide (κ = 4)) (vF (clr v (vP v)) 0) (plc v b) (vP v)).1) 0 z)) (by decide) (Nat.le_of_ble_eq_true rfl) (pfx_eq kg9z) rfl rfl (Nat.le_of_ble_eq_true rfl) rfl (dx dX7_holdAll 105 rfl) ?_
                                                refine r_iast (j := z) C rfl rfl (by decide) rfl (by omega) (dx dX7_holdAll 106 rfl) ?_
                                                have mh134 : MilAt (sI g9z (k + 19) z (nwA (vcol (vcol (clr v (vP v)) 0 (rnF (clr v (vP v)) (decide (κ = 4)) (vF (clr v (vP v)) 0) (plc v b) (vP v)).1) 1 (rsF (vcol (clr v (vP v)) 0 (rnF (clr v (vP v)) (decide (κ = 4)) (vF (clr v (vP v)) 0) (plc v b) (vP v)).1) (vF (clr v (vP v)) 1) (rnF (clr v (vP v)) (decide (κ = 4)) (vF (clr v (vP v)) 0) (plc v b) (vP v)).2 z).1) ((rsF (vcol (clr v (vP v)) 0 (rnF (clr v (vP v)) (decide (κ = 4)) (vF (clr v (vP v)) 0) (plc v b) (vP v)).1) (vF (clr v (vP v)) 1) (rnF (clr v (vP v)) (decide (κ = 4)) (vF (clr v (vP v)) 0) (plc v b) (vP v)).2 z).2) (vF (vcol (clr v (vP v)) 0 (rnF (clr v (vP v)) (decide (κ = 4)) (vF (clr v (vP v)) 0) (plc v b) (vP v)).1) 0 z))) k (vset (vcol (vcol (clr v (vP v)) 0 (rnF (clr v (vP v)) (decide (κ = 4)) (vF (clr v (vP v)) 0) (plc v b) (vP v)).1) 1 (rsF (vcol (clr v (vP v)) 0 (rnF (clr v (vP v)) (decide (κ = 4)) (vF (clr v (vP v)) 0) (plc v b) (vP v)).1) (vF (clr v (vP v)) 1) (rnF (clr v (vP v)) (decide (κ = 4)) (vF (clr v (vP v)) 0) (plc v b) (vP v)).2 z).1) 1 z (nwA (vcol (vcol (clr v (vP v)) 0 (rnF (clr v (vP v)) (decide (κ = 4)) (vF (clr v (vP v)) 0) (plc v b) (vP v)).1) 1 (rsF (vcol (clr v (vP v)) 0 (rnF (clr v (vP v)) (decide (κ = 4)) (vF (clr v (vP v)) 0) (plc v b) (vP v)).1) (vF (clr v (vP v)) 1) (rnF (clr v (vP v)) (decide (κ = 4)) (vF (clr v (vP v)) 0) (plc v b) (vP v)).2 z).1) ((rsF (vcol (clr v (vP v)) 0 (rnF (clr v (vP v)) (decide (κ = 4)) (vF (clr v (vP v)) 0) (plc v b) (vP v)).1) (vF (clr v (vP v)) 1) (rnF (clr v (vP v)) (decide (κ = 4)) (vF (clr v (vP v)) 0) (plc v b) (vP v)).2 z).2) (vF (vcol (clr v (vP v)) 0 (rnF (clr v (vP v)) (decide (κ = 4)) (vF (clr v (vP v)) 0) (plc v b) (vP v)).1) 0 z))) := mg9z.s1
                                                have ph134 : Kp k h (sI g9z (k + 19) z (nwA (vcol (vcol (clr v (vP v)) 0 (rnF (clr v (vP v)) (decide (κ = 4)) (vF (clr v (vP v)) 0) (plc v b) (vP v)).1) 1 (rsF (vcol (clr v (vP v)) 0 (rnF (clr v (vP v)) (decide (κ = 4)) (vF (clr v (vP v)) 0) (plc v b) (vP v)).1) (vF (clr v (vP v)) 1) (rnF (clr v (vP v)) (decide (κ = 4)) (vF (clr v (vP v)) 0) (plc v b) (vP v)).2 z).1) ((rsF (vcol (clr v (vP v)) 0 (rnF (clr v (vP v)) (decide (κ = 4)) (vF (clr v (vP v)) 0) (plc v b) (vP v)).1) (vF (clr v (vP v)) 1) (rnF (clr v (vP v)) (decide (κ = 4)) (vF (clr v (vP v)) 0) (plc v b) (vP v)).2 z).2) (vF (vcol (clr v (vP v)) 0 (rnF (clr v (vP v)) (decide (κ = 4)) (vF (clr v (vP v)) 0) (plc v b) (vP v)).1) 0 z))) := pg9z.tr (Kp.c (by omega) (by omega))
                                                have kh134 : xK (sI g9z (k + 19) z (nwA (vcol (vcol (clr v (vP v)) 0 (rnF (clr v (vP v)) (decide (κ = 4)) (vF (clr v (vP v)) 0) (plc v b) (vP v)).1) 1 (rsF (vcol (clr v (vP v)) 0 (rnF (clr v (vP v)) (decide (κ = 4)) (vF (clr v (vP v)) 0) (plc v b) (vP v)).1) (vF (clr v (vP v)) 1) (rnF (clr v (vP v)) (decide (κ = 4)) (vF (clr v (vP v)) 0) (plc v b) (vP v)).2 z).1) ((rsF (vcol (clr v (vP v)) 0 (rnF (clr v (vP v)) (decide (κ = 4)) (vF (clr v (vP v)) 0) (plc v b) (vP v)).1) (vF (clr v (vP v)) 1) (rnF (clr v (vP v)) (decide (κ = 4)) (vF (clr v (vP v)) 0) (plc v b) (vP v)).2 z).2) (vF (vcol (clr v (vP v)) 0 (rnF (clr v (vP v)) (decide (κ = 4)) (vF (clr v (vP v)) 0) (plc v b) (vP v)).1) 0 z))) = xK h := kg9z
                                                generalize sI g9z (k + 19) z (nwA (vcol (vcol (clr v (vP v)) 0 (rnF (clr v (vP v)) (decide (κ = 4)) (vF (clr v (vP v)) 0) (plc v b) (vP v)).1) 1 (rsF (vcol (clr v (vP v)) 0 (rnF (clr v (vP v)) (decide (κ = 4)) (vF (clr v (vP v)) 0) (plc v b) (vP v)).1) (vF (clr v (vP v)) 1) (rnF (clr v (vP v)) (decide (κ = 4)) (vF (clr v (vP v)) 0) (plc v b) (vP v)).2 z).1) ((rsF (vcol (clr v (vP v)) 0 (rnF (clr v (vP v)) (decide (κ = 4)) (vF (clr v (vP v)) 0) (plc v b) (vP v)).1) (vF (clr v (vP v)) 1) (rnF (clr v (vP v)) (decide (κ = 4)) (vF (clr v (vP v)) 0) (plc v b) (vP v)).2 z).2) (vF (vcol (clr v (vP v)) 0 (rnF (clr v (vP v)) (decide (κ = 4)) (vF (clr v (vP v)) 0) (plc v b) (vP v)).1) 0 z)) = h134 at mh134 ph134 kh134 ⊢
                                                refine r_aload_n C (dx dX7_holdAll 107 rfl) rfl ?_
                                                refine g_X7_43 C (dx dX7_holdAll 108 rfl) ?_
                                                refine r_iload C (dx dX7_holdAll 109 rfl) rfl ?_
                                                refine r_iald (j := z) (x := nwA (vcol (vcol (clr v (vP v)) 0 (rnF (clr v (vP v)) (decide (κ = 4)) (vF (clr v (vP v)) 0) (plc v b) (vP v)).1) 1 (rsF (vcol (clr v (vP v)) 0 (rnF (clr v (vP v)) (decide (κ = 4)) (vF (clr v (vP v)) 0) (plc v b) (vP v)).1) (vF (clr v (vP v)) 1) (rnF (clr v (vP v)) (decide (κ = 4)) (vF (clr v (vP v)) 0) (plc v b) (vP v)).2 z).1) ((rsF (vcol (clr v (vP v)) 0 (rnF (clr v (vP v)) (decide (κ = 4)) (vF (clr v (vP v)) 0) (plc v b) (vP v)).1) (vF (clr v (vP v)) 1) (rnF (clr v (vP v)) (decide (κ = 4)) (vF (clr v (vP v)) 0) (plc v b) (vP v)).2 z).2) (vF (vcol (clr v (vP v)) 0 (rnF (clr v (vP v)) (decide (κ = 4)) (vF (clr v (vP v)) 0) (plc v b) (vP v)).1) 0 z)) C rfl rfl (by decide) rfl (by omega) (dx dX7_holdAll 110 rfl) ((mh134.e1 (by omega)).trans (by simp [vset, vF])) ?_
                                                refine r_iconst (v := -1) C (dx dX7_holdAll 111 rfl) rfl ?_
                                                refine r_icmp_ne (tgt := 207) C (dx dX7_holdAll 112 rfl) (by decide) (fun c135 => ?_) (fun c135 => ?_)
                                                ·
                                                  have c135 : ¬ nwA (vcol (vcol (clr v (vP v)) 0 (rnF (clr v (vP v)) (decide (κ = 4)) (vF (clr v (vP v)) 0) (plc v b) (vP v)).1) 1 (rsF (vcol (clr v (vP v)) 0 (rnF (clr v (vP v)) (decide (κ = 4)) (vF (clr v (vP v)) 0) (plc v b) (vP v)).1) (vF (clr v (vP v)) 1) (rnF (clr v (vP v)) (decide (κ = 4)) (vF (clr v (vP v)) 0) (plc v b) (vP v)).2 z).1) ((rsF (vcol (clr v (vP v)) 0 (rnF (clr v (vP v)) (decide (κ = 4)) (vF (clr v (vP v)) 0) (plc v b) (vP v)).1) (vF (clr v (vP v)) 1) (rnF (clr v (vP v)) (decide (κ = 4)) (vF (clr v (vP v)) 0) (plc v b) (vP v)).2 z).2) (vF (vcol (clr v (vP v)) 0 (rnF (clr v (vP v)) (decide (κ = 4)) (vF (clr v (vP v)) 0) (plc v b) (vP v)).1) 0 z) = -1 := c135
                                                  refine r_aload_n C (dx dX7_holdAll 115 rfl) rfl ?_
                                                  refine g_X7_43 C (dx dX7_holdAll 116 rfl) ?_
                                                  refine r_iload C (dx dX7_holdAll 117 rfl) rfl ?_
                                                  refine r_iald (j := z) (x := nwA (vcol (vcol (clr v (vP v)) 0 (rnF (clr v (vP v)) (decide (κ = 4)) (vF (clr v (vP v)) 0) (plc v b) (vP v)).1) 1 (rsF (vcol (clr v (vP v)) 0 (rnF (clr v (vP v)) (decide (κ = 4)) (vF (clr v (vP v)) 0) (plc v b) (vP v)).1) (vF (clr v (vP v)) 1) (rnF (clr v (vP v)) (decide (κ = 4)) (vF (clr v (vP v)) 0) (plc v b) (vP v)).2 z).1) ((rsF (vcol (clr v (vP v)) 0 (rnF (clr v (vP v)) (decide (κ = 4)) (vF (clr v (vP v)) 0) (plc v b) (vP v)).1) (vF (clr v (vP v)) 1) (rnF (clr v (vP v)) (decide (κ = 4)) (vF (clr v (vP v)) 0) (plc v b) (vP v)).2 z).2) (vF (vcol (clr v (vP v)) 0 (rnF (clr v (vP v)) (decide (κ = 4)) (vF (clr v (vP v)) 0) (plc v b) (vP v)).1) 0 z)) C rfl rfl (by decide) rfl (by omega) (dx dX7_holdAll 118 rfl) ((mh134.e1 (by omega)).trans (by simp [vset, vF])) ?_
                                                  refine r_iconst (v := nI 1) C (dx dX7_holdAll 119 rfl) rfl ?_
                                                  refine r_iadd C (dx dX7_holdAll 120 rfl) ?_
                                                  refine r_istore_n (ls' := [(0, vr 7 k), (1, vi (nI κ)), (2, vi (nI b)), (3, vi ((nwA (vcol (vcol (clr v (vP v)) 0 (rnF (clr v (vP v)) (decide (κ = 4)) (vF (clr v (vP v)) 0) (plc v b) (vP v)).1) 1 (rsF (vcol (clr v (vP v)) 0 (rnF (clr v (vP v)) (decide (κ = 4)) (vF (clr v (vP v)) 0) (plc v b) (vP v)).1) (vF (clr v (vP v)) 1) (rnF (clr v (vP v)) (decide (κ = 4)) (vF (clr v (vP v)) 0) (plc v b) (vP v)).2 z).1) ((rsF (vcol (clr v (vP v)) 0 (rnF (clr v (vP v)) (decide (κ = 4)) (vF (clr v (vP v)) 0) (plc v b) (vP v)).1) (vF (clr v (vP v)) 1) (rnF (clr v (vP v)) (decide (κ = 4)) (vF (clr v (vP v)) 0) (plc v b) (vP v)).2 z).2) (vF (vcol (clr v (vP v)) 0 (rnF (clr v (vP v)) (decide (κ = 4)) (vF (clr v (vP v)) 0) (plc v b) (vP v)).1) 0 z)) + (nI 1))), (4, vi (nI z))]) C (dx dX7_holdAll 121 rfl) (by decide) [1, 2, 3, 0, 4] rfl ?_
                                                  refine rn_iinc (a := z) (k := 1) (ls' := [(0, vr 7 k), (1, vi (nI κ)), (2, vi (nI b)), (3, vi ((nwA (vcol (vcol (clr v (vP v)) 0 (rnF (clr v (vP v)) (decide (κ = 4)) (vF (clr v (vP v)) 0) (plc v b) (vP v)).1) 1 (rsF (vcol (clr v (vP v)) 0 (rnF (clr v (vP v)) (decide (κ = 4)) (vF (clr v (vP v)) 0) (plc v b) (vP v)).1) (vF (clr v (vP v)) 1) (rnF (clr v (vP v)) (decide (κ = 4)) (vF (clr v (vP v)) 0) (plc v b) (vP v)).2 z).1) ((rsF (vcol (clr v (vP v)) 0 (rnF (clr v (vP v)) (decide (κ = 4)) (vF (clr v (vP v)) 0) (plc v b) (vP v)).1) (vF (clr v (vP v)) 1) (rnF (clr v (vP v)) (decide (κ = 4)) (vF (clr v (vP v)) 0) (plc v b) (vP v)).2 z).2) (vF (vcol (clr v (vP v)) 0 (rnF (clr v (vP v)) (decide (κ = 4)) (vF (clr v (vP v)) 0) (plc v b) (vP v)).1) 0 z)) + (nI 1))), (4, vi (nI (z + 1)))]) C (dx dX7_holdAll 122 rfl) rfl rfl (by decide) [1, 2, 3, 4, 0] rfl ?_
                                                  refine r_goto (tgt := 159) C (dx dX7_holdAll 123 rfl) (by decide) ?_
                                                  have ez3 : ((nwA (vcol (vcol (clr v (vP v)) 0 (rnF (clr v (vP v)) (decide (κ = 4)) (vF (clr v (vP v)) 0) (plc v b) (vP v)).1) 1 (rsF (vcol (clr v (vP v)) 0 (rnF (clr v (vP v)) (decide (κ = 4)) (vF (clr v (vP v)) 0) (plc v b) (vP v)).1) (vF (clr v (vP v)) 1) (rnF (clr v (vP v)) (decide (κ = 4)) (vF (clr v (vP v)) 0) (plc v b) (vP v)).2 z).1) ((rsF (vcol (clr v (vP v)) 0 (rnF (clr v (vP v)) (decide (κ = 4)) (vF (clr v (vP v)) 0) (plc v b) (vP v)).1) (vF (clr v (vP v)) 1) (rnF (clr v (vP v)) (decide (κ = 4)) (vF (clr v (vP v)) 0) (plc v b) (vP v)).2 z).2) (vF (vcol (clr v (vP v)) 0 (rnF (clr v (vP v)) (decide (κ = 4)) (vF (clr v (vP v)) 0) (plc v b) (vP v)).1) 0 z)) + (nI 1)) = (nI ((rsF (vcol (clr v (vP v)) 0 (rnF (clr v (vP v)) (decide (κ = 4)) (vF (clr v (vP v)) 0) (plc v b) (vP v)).1) (vF (clr v (vP v)) 1) (rnF (clr v (vP v)) (decide (κ = 4)) (vF (clr v (vP v)) 0) (plc v b) (vP v)).2 (z + 1)).2)) := by ((refine (pl_s (nw_ex2 (vcol (vcol (clr v (vP v)) 0 (rnF (clr v (vP v)) (decide (κ = 4)) (vF (clr v (vP v)) 0) (plc v b) (vP v)).1) 1 (rsF (vcol (clr v (vP v)) 0 (rnF (clr v (vP v)) (decide (κ = 4)) (vF (clr v (vP v)) 0) (plc v b) (vP v)).1) (vF (clr v (vP v)) 1) (rnF (clr v (vP v)) (decide (κ = 4)) (vF (clr v (vP v)) 0) (plc v b) (vP v)).2 z).1) _ _) c135 bN).trans ?_); exact congrArg nI (if_neg c135).symm)
                                                  rw [ez3]
                                                  have fz : (vset (vcol (vcol (clr v (vP v)) 0 (rnF (clr v (vP v)) (decide (κ = 4)) (vF (clr v (vP v)) 0) (plc v b) (vP v)).1) 1 (rsF (vcol (clr v (vP v)) 0 (rnF (clr v (vP v)) (decide (κ = 4)) (vF (clr v (vP v)) 0) (plc v b) (vP v)).1) (vF (clr v (vP v)) 1) (rnF (clr v (vP v)) (decide (κ = 4)) (vF (clr v (vP v)) 0) (plc v b) (vP v)).2 z).1) 1 z (nwA (vcol (vcol (clr v (vP v)) 0 (rnF (clr v (vP v)) (decide (κ = 4)) (vF (clr v (vP v)) 0) (plc v b) (vP v)).1) 1 (rsF (vcol (clr v (vP v)) 0 (rnF (clr v (vP v)) (decide (κ = 4)) (vF (clr v (vP v)) 0) (plc v b) (vP v)).1) (vF (clr v (vP v)) 1) (rnF (clr v (vP v)) (decide (κ = 4)) (vF (clr v (vP v)) 0) (plc v b) (vP v)).2 z).1) ((rsF (vcol (clr v (vP v)) 0 (rnF (clr v (vP v)) (decide (κ = 4)) (vF (clr v (vP v)) 0) (plc v b) (vP v)).1) (vF (clr v (vP v)) 1) (rnF (clr v (vP v)) (decide (κ = 4)) (vF (clr v (vP v)) 0) (plc v b) (vP v)).2 z).2) (vF (vcol (clr v (vP v)) 0 (rnF (clr v (vP v)) (decide (κ = 4)) (vF (clr v (vP v)) 0) (plc v b) (vP v)).1) 0 z))) = (vcol (vcol (clr v (vP v)) 0 (rnF (clr v (vP v)) (decide (κ = 4)) (vF (clr v (vP v)) 0) (plc v b) (vP v)).1) 1 (rsF (vcol (clr v (vP v)) 0 (rnF (clr v (vP v)) (decide (κ = 4)) (vF (clr v (vP v)) 0) (plc v b) (vP v)).1) (vF (clr v (vP v)) 1) (rnF (clr v (vP v)) (decide (κ = 4)) (vF (clr v (vP v)) 0) (plc v b) (vP v)).2 (z + 1)).1) := by exact rs_s
                                                  exact ihz h134 (fz ▸ mh134) ph134 kh134
                                                ·
                                                  have c135 : nwA (vcol (vcol (clr v (vP v)) 0 (rnF (clr v (vP v)) (decide (κ = 4)) (vF (clr v (vP v)) 0) (plc v b) (vP v)).1) 1 (rsF (vcol (clr v (vP v)) 0 (rnF (clr v (vP v)) (decide (κ = 4)) (vF (clr v (vP v)) 0) (plc v b) (vP v)).1) (vF (clr v (vP v)) 1) (rnF (clr v (vP v)) (decide (κ = 4)) (vF (clr v (vP v)) 0) (plc v b) (vP v)).2 z).1) ((rsF (vcol (clr v (vP v)) 0 (rnF (clr v (vP v)) (decide (κ = 4)) (vF (clr v (vP v)) 0) (plc v b) (vP v)).1) (vF (clr v (vP v)) 1) (rnF (clr v (vP v)) (decide (κ = 4)) (vF (clr v (vP v)) 0) (plc v b) (vP v)).2 z).2) (vF (vcol (clr v (vP v)) 0 (rnF (clr v (vP v)) (decide (κ = 4)) (vF (clr v (vP v)) 0) (plc v b) (vP v)).1) 0 z) = -1 := c135
                                                  refine r_iload_n C (dx dX7_holdAll 113 rfl) rfl ?_
                                                  refine r_goto (tgt := 216) C (dx dX7_holdAll 114 rfl) (by decide) ?_
                                                  refine r_istore_n (ls' := [(0, vr 7 k), (1, vi (nI κ)), (2, vi (nI b)), (3, vi (nI ((rsF (vcol (clr v (vP v)) 0 (rnF (clr v (vP v)) (decide (κ = 4)) (vF (clr v (vP v)) 0) (plc v b) (vP v)).1) (vF (clr v (vP v)) 1) (rnF (clr v (vP v)) (decide (κ = 4)) (vF (clr v (vP v)) 0) (plc v b) (vP v)).2 z).2))), (4, vi (nI z))]) C (dx dX7_holdAll 121 rfl) (by decide) [1, 2, 3, 0, 4] rfl ?_
                                                  refine rn_iinc (a := z) (k := 1) (ls' := [(0, vr 7 k), (1, vi (nI κ)), (2, vi (nI b)), (3, vi (nI ((rsF (vcol (clr v (vP v)) 0 (rnF (clr v (vP v)) (decide (κ = 4)) (vF (clr v (vP v)) 0) (plc v b) (vP v)).1) (vF (clr v (vP v)) 1) (rnF (clr v (vP v)) (decide (κ = 4)) (vF (clr v (vP v)) 0) (plc v b) (vP v)).2 z).2))), (4, vi (nI (z + 1)))]) C (dx dX7_holdAll 122 rfl) rfl rfl (by decide) [1, 2, 3, 4, 0] rfl ?_
                                                  refine r_goto (tgt := 159) C (dx dX7_holdAll 123 rfl) (by decide) ?_
                                                  have ez3 : (nI ((rsF (vcol (clr v (vP v)) 0 (rnF (clr v (vP v)) (decide (κ = 4)) (vF (clr v (vP v)) 0) (plc v b) (vP v)).1) (vF (clr v (vP v)) 1) (rnF (clr v (vP v)) (decide (κ = 4)) (vF (clr v (vP v)) 0) (plc v b) (vP v)).2 z).2)) = (nI ((rsF (vcol (clr v (vP v)) 0 (rnF (clr v (vP v)) (decide (κ = 4)) (vF (clr v (vP v)) 0) (plc v b) (vP v)).1) (vF (clr v (vP v)) 1) (rnF (clr v (vP v)) (decide (κ = 4)) (vF (clr v (vP v)) 0) (plc v b) (vP v)).2 (z + 1)).2)) := by exact congrArg nI (if_pos c135).symm
                                                  rw [ez3]
                                                  have fz : (vset (vcol (vcol (clr v (vP v)) 0 (rnF (clr v (vP v)) (decide (κ = 4)) (vF (clr v (vP v)) 0) (plc v b) (vP v)).1) 1 (rsF (vcol (clr v (vP v)) 0 (rnF (clr v (vP v)) (decide (κ = 4)) (vF (clr v (vP v)) 0) (plc v b) (vP v)).1) (vF (clr v (vP v)) 1) (rnF (clr v (vP v)) (decide (κ = 4)) (vF (clr v (vP v)) 0) (plc v b) (vP v)).2 z).1) 1 z (nwA (vcol (vcol (clr v (vP v)) 0 (rnF (clr v (vP v)) (decide (κ = 4)) (vF (clr v (vP v)) 0) (plc v b) (vP v)).1) 1 (rsF (vcol (clr v (vP v)) 0 (rnF (clr v (vP v)) (decide (κ = 4)) (vF (clr v (vP v)) 0) (plc v b) (vP v)).1) (vF (clr v (vP v)) 1) (rnF (clr v (vP v)) (decide (κ = 4)) (vF (clr v (vP v)) 0) (plc v b) (vP v)).2 z).1) ((rsF (vcol (clr v (vP v)) 0 (rnF (clr v (vP v)) (decide (κ = 4)) (vF (clr v (vP v)) 0) (plc v b) (vP v)).1) (vF (clr v (vP v)) 1) (rnF (clr v (vP v)) (decide (κ = 4)) (vF (clr v (vP v)) 0) (plc v b) (vP v)).2 z).2) (vF (vcol (clr v (vP v)) 0 (rnF (clr v (vP v)) (decide (κ = 4)) (vF (clr v (vP v)) 0) (plc v b) (vP v)).1) 0 z))) = (vcol (vcol (clr v (vP v)) 0 (rnF (clr v (vP v)) (decide (κ = 4)) (vF (clr v (vP v)) 0) (plc v b) (vP v)).1) 1 (rsF (vcol (clr v (vP v)) 0 (rnF (clr v (vP v)) (decide (κ = 4)) (vF (clr v (vP v)) 0) (plc v b) (vP v)).1) (vF (clr v (vP v)) 1) (rnF (clr v (vP v)) (decide (κ = 4)) (vF (clr v (vP v)) 0) (plc v b) (vP v)).2 (z + 1)).1) := by exact rs_s
                                                  exact ihz h134 (fz ▸ mh134) ph134 kh134))
                                ·
                                  refine r_iload C (dx dX7_holdAll 89 rfl) rfl ?_
                                  refine r_aload_n C (dx dX7_holdAll 90 rfl) rfl ?_
                                  refine g_X7_64 (x := nI (vP v)) C (dx dX7_holdAll 91 rfl) mg9q.eP ?_
                                  refine rn_ge (a := 0) (b := vP v) (tgt := 223) C (by omega) (by omega) (dx dX7_holdAll 92 rfl) (by decide) (fun c136 => ?_) (fun c136 => ?_)
                                  · first
                                    | (omega; done)
                                    | (
                                        have c136 : vP v ≤ 0 := c136
                                        have eV : hAR v κ b = vcol (clr v (vP v)) 0 (rnF (clr v (vP v)) (decide (κ = 4)) (vF (clr v (vP v)) 0) (plc v b) (vP v)).1 := by (unfold hAR; rw [if_neg (show ¬ (κ = 1 ∨ κ = 5) by omega), if_neg h3])
                                        exact F.2.2.1 _ _ _ rfl (dx dX7_holdAll 124 rfl) kg9q ⟨rfl, by rw [eV]; exact mg9q, pg9q⟩)
                                  · first
                                    | (omega; done)
                                    | (
                                        have c136 : 0 < vP v := c136
                                        refine r_iload_n C (dx dX7_holdAll 93 rfl) rfl ?_
                                        refine r_iconst (v := nI 3) C (dx dX7_holdAll 94 rfl) rfl ?_
                                        refine rn_ne (a := κ) (b := 3) (tgt := 223) C (by omega) (by omega) (dx dX7_holdAll 95 rfl) (by decide) (fun c137 => ?_) (fun c137 => ?_)
                                        · first
                                          | (omega; done)
                                          | (
                                              have c137 : ¬ κ = 3 := c137
                                              have eV : hAR v κ b = vcol (clr v (vP v)) 0 (rnF (clr v (vP v)) (decide (κ = 4)) (vF (clr v (vP v)) 0) (plc v b) (vP v)).1 := by (unfold hAR; rw [if_neg (show ¬ (κ = 1 ∨ κ = 5) by omega), if_neg h3])
                                              exact F.2.2.1 _ _ _ rfl (dx dX7_holdAll 124 rfl) kg9q ⟨rfl, by rw [eV]; exact mg9q, pg9q⟩)
                                        ·
                                          have c137 : κ = 3 := c137
                                          exact absurd c137 h3))
                          · first
                            | (omega; done)
                            | (
                                have c127 : vP v < vP v := c127
                                refine r_aload_n C (dx dX7_holdAll 56 rfl) rfl ?_
                                refine g_X7_40 C (dx dX7_holdAll 57 rfl) ?_
                                refine r_iload C (dx dX7_holdAll 58 rfl) rfl ?_
                                refine r_iload_n C (dx dX7_holdAll 59 rfl) rfl ?_
                                refine r_iconst (v := nI 4) C (dx dX7_holdAll 60 rfl) rfl ?_
                                refine rn_ne (a := κ) (b := 4) (tgt := 118) C (by omega) (by omega) (dx dX7_holdAll 61 rfl) (by decide) (fun c138 => ?_) (fun c138 => ?_)
                                · first
                                  | (omega; done)
                                · first
                                  | (omega; done))
                        ·
                          intro q hq ihq g9q mg9q pg9q kg9q
                          refine r_iload C (dx dX7_holdAll 52 rfl) rfl ?_
                          refine r_aload_n C (dx dX7_holdAll 53 rfl) rfl ?_
                          refine g_X7_64 (x := nI (vP v)) C (dx dX7_holdAll 54 rfl) mg9q.eP ?_
                          refine rn_ge (a := q) (b := vP v) (tgt := 156) C (by omega) (by omega) (dx dX7_holdAll 55 rfl) (by decide) (fun c143 => ?_) (fun c143 => ?_)
                          · first
                            | (omega; done)
                            | (
                                have c143 : vP v ≤ q := c143
                                refine r_iconst (v := nI 0) C (dx dX7_holdAll 87 rfl) rfl ?_
                                refine r_istore (ls' := [(0, vr 7 k), (1, vi (nI κ)), (2, vi (nI b)), (3, vi (nI ((rnF (clr v (vP v)) (decide (κ = 4)) (vF (clr v (vP v)) 0) (plc v b) q).2))), (4, vi (nI 0))]) C (dx dX7_holdAll 88 rfl) (by decide) [1, 2, 3, 4, 0] rfl ?_
                                by_cases h3 : κ = 3
                                ·
                                  refine loopU (Φ := fun z => ∀ g9z, MilAt g9z k (vcol (vcol (clr v (vP v)) 0 (rnF (clr v (vP v)) (decide (κ = 4)) (vF (clr v (vP v)) 0) (plc v b) (vP v)).1) 1 (rsF (vcol (clr v (vP v)) 0 (rnF (clr v (vP v)) (decide (κ = 4)) (vF (clr v (vP v)) 0) (plc v b) (vP v)).1) (vF (clr v (vP v)) 1) (rnF (clr v (vP v)) (decide (κ = 4)) (vF (clr v (vP v)) 0) (plc v b) (vP v)).2 z).1) → Kp k h g9z → xK g9z = xK h → Rr G 159 [(0, vr 7 k), (1, vi (nI κ)), (2, vi (nI b)), (3, vi (nI ((rsF (vcol (clr v (vP v)) 0 (rnF (clr v (vP v)) (decide (κ = 4)) (vF (clr v (vP v)) 0) (plc v b) (vP v)).1) (vF (clr v (vP v)) 1) (rnF (clr v (vP v)) (decide (κ = 4)) (vF (clr v (vP v)) 0) (plc v b) (vP v)).2 z).2))), (4, vi (nI z))] [] g9z) (N := vP v) ?_ ?_ 0 (Nat.zero_le _) g9q (by show MilAt _ k (vcol (vcol (clr v (vP v)) 0 (rnF (clr v (vP v)) (decide (κ = 4)) (vF (clr v (vP v)) 0) (plc v b) (vP v)).1) 1 (vF (vcol (clr v (vP v)) 0 (rnF (clr v (vP v)) (decide (κ = 4)) (vF (clr v (vP v)) 0) (plc v b) (vP v)).1) 1)); rw [vcol_id]; exact mg9q) pg9q kg9q
                                  ·
                                    intro g9z mg9z pg9z kg9z
                                    refine r_iload C (dx dX7_holdAll 89 rfl) rfl ?_
                                    refine r_aload_n C (dx dX7_holdAll 90 rfl) rfl ?_
                                    refine g_X7_64 (x := nI (vP v)) C (dx dX7_holdAll 91 rfl) mg9z.eP ?_
                                    refine rn_ge (a := vP v) (b := vP v) (tgt := 223) C (by omega) (by omega) (dx dX7_holdAll 92 rfl) (by decide) (fun c144 => ?_) (fun c144 => ?_)
                                    · first
                                      | (omega; done)
                                      | (
                                          have c144 : vP v ≤ vP v := c144
                                          have eV : hAR v κ b = vcol (vcol (clr v (vP v)) 0 (rnF (clr v (vP v)) (decide (κ = 4)) (vF (clr v (vP v)) 0) (plc v b) (vP v)).1) 1 (rsF (vcol (clr v (vP v)) 0 (rnF (clr v (vP v)) (decide (κ = 4)) (vF (clr v (vP v)) 0) (plc v b) (vP v)).1) (vF (clr v (vP v)) 1) (rnF (clr v (vP v)) (decide (κ = 4)) (vF (clr v (vP v)) 0) (plc v b) (vP v)).2 (vP v)).1 := by (unfold hAR; rw [if_neg (show ¬ (κ = 1 ∨ κ = 5) by omega), if_pos h3, show decide (κ = 4) = false from decide_eq_false (by omega)])
                                          exact F.2.2.1 _ _ _ rfl (dx dX7_holdAll 124 rfl) kg9z ⟨rfl, by rw [eV]; exact mg9z, pg9z⟩)
                                    · first
                                      | (omega; done)
                                      | (
                                          have c144 : vP v < vP v := c144
                                          refine r_iload_n C (dx dX7_holdAll 93 rfl) rfl ?_
                                          refine r_iconst (v := nI 3) C (dx dX7_holdAll 94 rfl) rfl ?_
                                          refine rn_ne (a := κ) (b := 3) (tgt := 223) C (by omega) (by omega) (dx dX7_holdAll 95 rfl) (by decide) (fun c145 => ?_) (fun c145 => ?_)
                                          ·
                                            have c145 : ¬ κ = 3 := c145
                                            exact absurd h3 c145
                                          · first
                                            | (omega; done))
                                  ·
                                    intro z hz ihz g9z mg9z pg9z kg9z
                                    refine r_iload C (dx dX7_holdAll 89 rfl) rfl ?_
                                    refine r_aload_n C (dx dX7_holdAll 90 rfl) rfl ?_
                                    refine g_X7_64 (x := nI (vP v)) C (dx dX7_holdAll 91 rfl) mg9z.eP ?_
                                    refine rn_ge (a := z) (b := vP v) (tgt := 223) C (by omega) (by omega) (dx dX7_holdAll 92 rfl) (by decide) (fun c148 => ?_) (fun c148 => ?_)
                                    · first
                                      | (omega; done)
                                      | (
                                          have c148 : vP v ≤ z := c148
                                          have eV : hAR v κ b = vcol (vcol (clr v (vP v)) 0 (rnF (clr v (vP v)) (decide (κ = 4)) (vF (clr v (vP v)) 0) (plc v b) (vP v)).1) 1 (rsF (vcol (clr v (vP v)) 0 (rnF (clr v (vP v)) (decide (κ = 4)) (vF (clr v (vP v)) 0) (plc v b) (vP v)).1) (vF (clr v (vP v)) 1) (rnF (clr v (vP v)) (decide (κ = 4)) (vF (clr v (vP v)) 0) (plc v b) (vP v)).2 z).1 := by (unfold hAR; rw [if_neg (show ¬ (κ = 1 ∨ κ = 5) by omega), if_pos h3, show decide (κ = 4) = false from decide_eq_false (by omega)])
                                          exact F.2.2.1 _ _ _ rfl (dx dX7_holdAll 124 rfl) kg9z ⟨rfl, by rw [eV]; exact mg9z, pg9z⟩)
                                    · first
                                      | (omega; done)
                                      | (
                                          have c148 : z < vP v := c148
                                          refine r_iload_n C (dx dX7_holdAll 93 rfl) rfl ?_
                                          refine r_iconst (v := nI 3) C (dx dX7_holdAll 94 rfl) rfl ?_
                                          refine rn_ne (a := κ) (b := 3) (tgt := 223) C (by omega) (by omega) (dx dX7_holdAll 95 rfl) (by decide) (fun c149 => ?_) (fun c149 => ?_)
                                          ·
                                            have c149 : ¬ κ = 3 := c149
                                            exact absurd h3 c149
                                          · first
                                            | (omega; done)
                                            | (
                                                have c149 : κ = 3 := c149
                                                refine r_aload_n C (dx dX7_holdAll 96 rfl) rfl ?_
                                                refine g_X7_43 C (dx dX7_holdAll 97 rfl) ?_
                                                refine r_iload C (dx dX7_holdAll 98 rfl) rfl ?_
                                                refine r_aload_n C (dx dX7_holdAll 99 rfl) rfl ?_
                                                refine r_iload_n C (dx dX7_holdAll 100 rfl) rfl ?_
                                                refine r_aload_n C (dx dX7_holdAll 101 rfl) rfl ?_
                                                refine g_X7_40 C (dx dX7_holdAll 102 rfl) ?_
                                                refine r_iload C (dx dX7_holdAll 103 rfl) rfl ?_
                                                refine r_iald (j := z) (x := vF (vcol (clr v (vP v)) 0 (rnF (clr v (vP v)) (decide (κ = 4)) (vF (clr v (vP v)) 0) (plc v b) (vP v)).1) 0 z) C rfl rfl (by decide) rfl (by omega) (dx dX7_holdAll 104 rfl) (mg9z.e0 (by omega)) ?_
                                                refine r_cvP (as := [vi (nI ((rsF (vcol (clr v (vP v)) 0 (rnF (clr v (vP v)) (decide (κ = 4)) (vF (clr v (vP v)) 0) (plc v b) (vP v)).1) (vF (clr v (vP v)) 1) (rnF (clr v (vP v)) (decide (κ = 4)) (vF (clr v (vP v)) 0) (plc v b) (vP v)).2 z).2)), vi (vF (vcol (clr v (vP v)) 0 (rnF (clr v (vP v)) (decide (κ = 4)) (vF (clr v (vP v)) 0) (plc v b) (vP v)).1) 0 z)]) (st := [vi (nI z), vr 20 (k + 19)]) (v := vi (nwA (vcol (vcol (clr v (vP v)) 0 (rnF (clr v (vP v)) (decide (κ = 4)) (vF (clr v (vP v)) 0) (plc v b) (vP v)).1) 1 (rsF (vcol (clr v (vP v)) 0 (rnF (clr v (vP v)) (decide (κ = 4)) (vF (clr v (vP v)) 0) (plc v b) (vP v)).1) (vF (clr v (vP v)) 1) (rnF (clr v (vP v)) (decide (κ = 4)) (vF (clr v (vP v)) 0) (plc v b) (vP v)).2 z).1) ((rsF (vcol (clr v (vP v)) 0 (rnF (clr v (vP v)) (decide (κ = 4)) (vF (clr v (vP v)) 0) (plc v b) (vP v)).1) (vF (clr v (vP v)) 1) (rnF (clr v (vP v)) (decide (κ = 4)) (vF (clr v (vP v)) 0) (plc v b) (vP v)).2 z).2) (vF (vcol (clr v (vP v)) 0 (rnF (clr v (vP v)) (decide (κ = 4)) (vF (clr v (vP v)) 0) (plc v b) (vP v)).1) 0 z))) C X I_X7_nextWithRoom l_X7_289 (e_nw mg9z (a := (rsF (vcol (clr v (vP v)) 0 (rnF (clr v (vP v)) (decide (κ = 4)) (vF (clr v (vP v)) 0) (plc v b) (vP v)).1) (vF (clr v (vP v)) 1) (rnF (clr v (vP v)) (decide (κ = 4)) (vF (clr v (vP v)) 0) (plc v b) (vP v)).2 z).2) (Nat.lt_trans (rsF_lt _ _ _ (rnF_lt _ _ _ _ hp9 (show vN (clr v (vP v)) ≤ 8 from bN) _) (show vN (vcol (clr v (vP v)) 0 (rnF (clr v (vP v)) (decide (κ = 4)) (vF (clr v (vP v)) 0) (plc v b) (vP v)).1) ≤ 8 from bN) _) (by decide)) (vF (vcol (clr v (vP v)) 0 (rnF (clr v (vP v)) (decide (κ = 4)) (vF (clr v (vP v)) 0) (plc v b) (vP v)).1) 0 z)) (by decide) (Nat.le_of_ble_eq_true rfl) (pfx_eq kg9z) rfl rfl (Nat.le_of_ble_eq_true rfl) rfl (dx dX7_holdAll 105 rfl) ?_
                                                refine r_iast (j := z) C rfl rfl (by decide) rfl (by omega) (dx dX7_holdAll 106 rfl) ?_
                                                have mh150 : MilAt (sI g9z (k + 19) z (nwA (vcol (vcol (clr v (vP v)) 0 (rnF (clr v (vP v)) (decide (κ = 4)) (vF (clr v (vP v)) 0) (plc v b) (vP v)).1) 1 (rsF (vcol (clr v (vP v)) 0 (rnF (clr v (vP v)) (decide (κ = 4)) (vF (clr v (vP v)) 0) (plc v b) (vP v)).1) (vF (clr v (vP v)) 1) (rnF (clr v (vP v)) (decide (κ = 4)) (vF (clr v (vP v)) 0) (plc v b) (vP v)).2 z).1) ((rsF (vcol (clr v (vP v)) 0 (rnF (clr v (vP v)) (decide (κ = 4)) (vF (clr v (vP v)) 0) (plc v b) (vP v)).1) (vF (clr v (vP v)) 1) (rnF (clr v (vP v)) (decide (κ = 4)) (vF (clr v (vP v)) 0) (plc v b) (vP v)).2 z).2) (vF (vcol (clr v (vP v)) 0 (rnF (clr v (vP v)) (decide (κ = 4)) (vF (clr v (vP v)) 0) (plc v b) (vP v)).1) 0 z))) k (vset (vcol (vcol (clr v (vP v)) 0 (rnF (clr v (vP v)) (decide (κ = 4)) (vF (clr v (vP v)) 0) (plc v b) (vP v)).1) 1 (rsF (vcol (clr v (vP v)) 0 (rnF (clr v (vP v)) (decide (κ = 4)) (vF (clr v (vP v)) 0) (plc v b) (vP v)).1) (vF (clr v (vP v)) 1) (rnF (clr v (vP v)) (decide (κ = 4)) (vF (clr v (vP v)) 0) (plc v b) (vP v)).2 z).1) 1 z (nwA (vcol (vcol (clr v (vP v)) 0 (rnF (clr v (vP v)) (decide (κ = 4)) (vF (clr v (vP v)) 0) (plc v b) (vP v)).1) 1 (rsF (vcol (clr v (vP v)) 0 (rnF (clr v (vP v)) (decide (κ = 4)) (vF (clr v (vP v)) 0) (plc v b) (vP v)).1) (vF (clr v (vP v)) 1) (rnF (clr v (vP v)) (decide (κ = 4)) (vF (clr v (vP v)) 0) (plc v b) (vP v)).2 z).1) ((rsF (vcol (clr v (vP v)) 0 (rnF (clr v (vP v)) (decide (κ = 4)) (vF (clr v (vP v)) 0) (plc v b) (vP v)).1) (vF (clr v (vP v)) 1) (rnF (clr v (vP v)) (decide (κ = 4)) (vF (clr v (vP v)) 0) (plc v b) (vP v)).2 z).2) (vF (vcol (clr v (vP v)) 0 (rnF (clr v (vP v)) (decide (κ = 4)) (vF (clr v (vP v)) 0) (plc v b) (vP v)).1) 0 z))) := mg9z.s1
                                                have ph150 : Kp k h (sI g9z (k + 19) z (nwA (vcol (vcol (clr v (vP v)) 0 (rnF (clr v (vP v)) (decide (κ = 4)) (vF (clr v (vP v)) 0) (plc v b) (vP v)).1) 1 (rsF (vcol (clr v (vP v)) 0 (rnF (clr v (vP v)) (decide (κ = 4)) (vF (clr v (vP v)) 0) (plc v b) (vP v)).1) (vF (clr v (vP v)) 1) (rnF (clr v (vP v)) (decide (κ = 4)) (vF (clr v (vP v)) 0) (plc v b) (vP v)).2 z).1) ((rsF (vcol (clr v (vP v)) 0 (rnF (clr v (vP v)) (decide (κ = 4)) (vF (clr v (vP v)) 0) (plc v b) (vP v)).1) (vF (clr v (vP v)) 1) (rnF (clr v (vP v)) (decide (κ = 4)) (vF (clr v (vP v)) 0) (plc v b) (vP v)).2 z).2) (vF (vcol (clr v (vP v)) 0 (rnF (clr v (vP v)) (decide (κ = 4)) (vF (clr v (vP v)) 0) (plc v b) (vP v)).1) 0 z))) := pg9z.tr (Kp.c (by omega) (by omega))
                                                have kh150 : xK (sI g9z (k + 19) z (nwA (vcol (vcol (clr v (vP v)) 0 (rnF (clr v (vP v)) (decide (κ = 4)) (vF (clr v (vP v)) 0) (plc v b) (vP v)).1) 1 (rsF (vcol (clr v (vP v)) 0 (rnF (clr v (vP v)) (decide (κ = 4)) (vF (clr v (vP v)) 0) (plc v b) (vP v)).1) (vF (clr v (vP v)) 1) (rnF (clr v (vP v)) (decide (κ = 4)) (vF (clr v (vP v)) 0) (plc v b) (vP v)).2 z).1) ((rsF (vcol (clr v (vP v)) 0 (rnF (clr v (vP v)) (decide (κ = 4)) (vF (clr v (vP v)) 0) (plc v b) (vP v)).1) (vF (clr v (vP v)) 1) (rnF (clr v (vP v)) (decide (κ = 4)) (vF (clr v (vP v)) 0) (plc v b) (vP v)).2 z).2) (vF (vcol (clr v (vP v)) 0 (rnF (clr v (vP v)) (decide (κ = 4)) (vF (clr v (vP v)) 0) (plc v b) (vP v)).1) 0 z))) = xK h := kg9z
                                                generalize sI g9z (k + 19) z (nwA (vcol (vcol (clr v (vP v)) 0 (rnF (clr v (vP v)) (decide (κ = 4)) (vF (clr v (vP v)) 0) (plc v b) (vP v)).1) 1 (rsF (vcol (clr v (vP v)) 0 (rnF (clr v (vP v)) (decide (κ = 4)) (vF (clr v (vP v)) 0) (plc v b) (vP v)).1) (vF (clr v (vP v)) 1) (rnF (clr v (vP v)) (decide (κ = 4)) (vF (clr v (vP v)) 0) (plc v b) (vP v)).2 z).1) ((rsF (vcol (clr v (vP v)) 0 (rnF (clr v (vP v)) (decide (κ = 4)) (vF (clr v (vP v)) 0) (plc v b) (vP v)).1) (vF (clr v (vP v)) 1) (rnF (clr v (vP v)) (decide (κ = 4)) (vF (clr v (vP v)) 0) (plc v b) (vP v)).2 z).2) (vF (vcol (clr v (vP v)) 0 (rnF (clr v (vP v)) (decide (κ = 4)) (vF (clr v (vP v)) 0) (plc v b) (vP v)).1) 0 z)) = h150 at mh150 ph150 kh150 ⊢
                                                refine r_aload_n C (dx dX7_holdAll 107 rfl) rfl ?_
                                                refine g_X7_43 C (dx dX7_holdAll 108 rfl) ?_
                                                refine r_iload C (dx dX7_holdAll 109 rfl) rfl ?_
                                                refine r_iald (j := z) (x := nwA (vcol (vcol (clr v (vP v)) 0 (rnF (clr v (vP v)) (decide (κ = 4)) (vF (clr v (vP v)) 0) (plc v b) (vP v)).1) 1 (rsF (vcol (clr v (vP v)) 0 (rnF (clr v (vP v)) (decide (κ = 4)) (vF (clr v (vP v)) 0) (plc v b) (vP v)).1) (vF (clr v (vP v)) 1) (rnF (clr v (vP v)) (decide (κ = 4)) (vF (clr v (vP v)) 0) (plc v b) (vP v)).2 z).1) ((rsF (vcol (clr v (vP v)) 0 (rnF (clr v (vP v)) (decide (κ = 4)) (vF (clr v (vP v)) 0) (plc v b) (vP v)).1) (vF (clr v (vP v)) 1) (rnF (clr v (vP v)) (decide (κ = 4)) (vF (clr v (vP v)) 0) (plc v b) (vP v)).2 z).2) (vF (vcol (clr v (vP v)) 0 (rnF (clr v (vP v)) (decide (κ = 4)) (vF (clr v (vP v)) 0) (plc v b) (vP v)).1) 0 z)) C rfl rfl (by decide) rfl (by omega) (dx dX7_holdAll 110 rfl) ((mh150.e1 (by omega)).trans (by simp [vset, vF])) ?_
                                                refine r_iconst (v := -1) C (dx dX7_holdAll 111 rfl) rfl ?_
                                                refine r_icmp_ne (tgt := 207) C (dx dX7_holdAll 112 rfl) (by decide) (fun c151 => ?_) (fun c151 => ?_)
                                                ·
                                                  have c151 : ¬ nwA (vcol (vcol (clr v (vP v)) 0 (rnF (clr v (vP v)) (decide (κ = 4)) (vF (clr v (vP v)) 0) (plc v b) (vP v)).1) 1 (rsF (vcol (clr v (vP v)) 0 (rnF (clr v (vP v)) (decide (κ = 4)) (vF (clr v (vP v)) 0) (plc v b) (vP v)).1) (vF (clr v (vP v)) 1) (rnF (clr v (vP v)) (decide (κ = 4)) (vF (clr v (vP v)) 0) (plc v b) (vP v)).2 z).1) ((rsF (vcol (clr v (vP v)) 0 (rnF (clr v (vP v)) (decide (κ = 4)) (vF (clr v (vP v)) 0) (plc v b) (vP v)).1) (vF (clr v (vP v)) 1) (rnF (clr v (vP v)) (decide (κ = 4)) (vF (clr v (vP v)) 0) (plc v b) (vP v)).2 z).2) (vF (vcol (clr v (vP v)) 0 (rnF (clr v (vP v)) (decide (κ = 4)) (vF (clr v (vP v)) 0) (plc v b) (vP v)).1) 0 z) = -1 := c151
                                                  refine r_aload_n C (dx dX7_holdAll 115 rfl) rfl ?_
                                                  refine g_X7_43 C (dx dX7_holdAll 116 rfl) ?_
                                                  refine r_iload C (dx dX7_holdAll 117 rfl) rfl ?_
                                                  refine r_iald (j := z) (x := nwA (vcol (vcol (clr v (vP v)) 0 (rnF (clr v (vP v)) (decide (κ = 4)) (vF (clr v (vP v)) 0) (plc v b) (vP v)).1) 1 (rsF (vcol (clr v (vP v)) 0 (rnF (clr v (vP v)) (decide (κ = 4)) (vF (clr v (vP v)) 0) (plc v b) (vP v)).1) (vF (clr v (vP v)) 1) (rnF (clr v (vP v)) (decide (κ = 4)) (vF (clr v (vP v)) 0) (plc v b) (vP v)).2 z).1) ((rsF (vcol (clr v (vP v)) 0 (rnF (clr v (vP v)) (decide (κ = 4)) (vF (clr v (vP v)) 0) (plc v b) (vP v)).1) (vF (clr v (vP v)) 1) (rnF (clr v (vP v)) (decide (κ = 4)) (vF (clr v (vP v)) 0) (plc v b) (vP v)).2 z).2) (vF (vcol (clr v (vP v)) 0 (rnF (clr v (vP v)) (decide (κ = 4)) (vF (clr v (vP v)) 0) (plc v b) (vP v)).1) 0 z)) C rfl rfl (by decide) rfl (by omega) (dx dX7_holdAll 118 rfl) ((mh150.e1 (by omega)).trans (by simp [vset, vF])) ?_
                                                  refine r_iconst (v := nI 1) C (dx dX7_holdAll 119 rfl) rfl ?_
                                                  refine r_iadd C (dx dX7_holdAll 120 rfl) ?_
                                                  refine r_istore_n (ls' := [(0, vr 7 k), (1, vi (nI κ)), (2, vi (nI b)), (3, vi ((nwA (vcol (vcol (clr v (vP v)) 0 (rnF (clr v (vP v)) (decide (κ = 4)) (vF (clr v (vP v)) 0) (plc v b) (vP v)).1) 1 (rsF (vcol (clr v (vP v)) 0 (rnF (clr v (vP v)) (decide (κ = 4)) (vF (clr v (vP v)) 0) (plc v b) (vP v)).1) (vF (clr v (vP v)) 1) (rnF (clr v (vP v)) (decide (κ = 4)) (vF (clr v (vP v)) 0) (plc v b) (vP v)).2 z).1) ((rsF (vcol (clr v (vP v)) 0 (rnF (clr v (vP v)) (decide (κ = 4)) (vF (clr v (vP v)) 0) (plc v b) (vP v)).1) (vF (clr v (vP v)) 1) (rnF (clr v (vP v)) (decide (κ = 4)) (vF (clr v (vP v)) 0) (plc v b) (vP v)).2 z).2) (vF (vcol (clr v (vP v)) 0 (rnF (clr v (vP v)) (decide (κ = 4)) (vF (clr v (vP v)) 0) (plc v b) (vP v)).1) 0 z)) + (nI 1))), (4, vi (nI z))]) C (dx dX7_holdAll 121 rfl) (by decide) [1, 2, 3, 0, 4] rfl ?_
                                                  refine rn_iinc (a := z) (k := 1) (ls' := [(0, vr 7 k), (1, vi (nI κ)), (2, vi (nI b)), (3, vi ((nwA (vcol (vcol (clr v (vP v)) 0 (rnF (clr v (vP v)) (decide (κ = 4)) (vF (clr v (vP v)) 0) (plc v b) (vP v)).1) 1 (rsF (vcol (clr v (vP v)) 0 (rnF (clr v (vP v)) (decide (κ = 4)) (vF (clr v (vP v)) 0) (plc v b) (vP v)).1) (vF (clr v (vP v)) 1) (rnF (clr v (vP v)) (decide (κ = 4)) (vF (clr v (vP v)) 0) (plc v b) (vP v)).2 z).1) ((rsF (vcol (clr v (vP v)) 0 (rnF (clr v (vP v)) (decide (κ = 4)) (vF (clr v (vP v)) 0) (plc v b) (vP v)).1) (vF (clr v (vP v)) 1) (rnF (clr v (vP v)) (decide (κ = 4)) (vF (clr v (vP v)) 0) (plc v b) (vP v)).2 z).2) (vF (vcol (clr v (vP v)) 0 (rnF (clr v (vP v)) (decide (κ = 4)) (vF (clr v (vP v)) 0) (plc v b) (vP v)).1) 0 z)) + (nI 1))), (4, vi (nI (z + 1)))]) C (dx dX7_holdAll 122 rfl) rfl rfl (by decide) [1, 2, 3, 4, 0] rfl ?_
                                                  refine r_goto (tgt := 159) C (dx dX7_holdAll 123 rfl) (by decide) ?_
                                                  have ez3 : ((nwA (vcol (vcol (clr v (vP v)) 0 (rnF (clr v (vP v)) (decide (κ = 4)) (vF (clr v (vP v)) 0) (plc v b) (vP v)).1) 1 (rsF (vcol (clr v (vP v)) 0 (rnF (clr v (vP v)) (decide (κ = 4)) (vF (clr v (vP v)) 0) (plc v b) (vP v)).1) (vF (clr v (vP v)) 1) (rnF (clr v (vP v)) (decide (κ = 4)) (vF (clr v (vP v)) 0) (plc v b) (vP v)).2 z).1) ((rsF (vcol (clr v (vP v)) 0 (rnF (clr v (vP v)) (decide (κ = 4)) (vF (clr v (vP v)) 0) (plc v b) (vP v)).1) (vF (clr v (vP v)) 1) (rnF (clr v (vP v)) (decide (κ = 4)) (vF (clr v (vP v)) 0) (plc v b) (vP v)).2 z).2) (vF (vcol (clr v (vP v)) 0 (rnF (clr v (vP v)) (decide (κ = 4)) (vF (clr v (vP v)) 0) (plc v b) (vP v)).1) 0 z)) + (nI 1)) = (nI ((rsF (vcol (clr v (vP v)) 0 (rnF (clr v (vP v)) (decide (κ = 4)) (vF (clr v (vP v)) 0) (plc v b) (vP v)).1) (vF (clr v (vP v)) 1) (rnF (clr v (vP v)) (decide (κ = 4)) (vF (clr v (vP v)) 0) (plc v b) (vP v)).2 (z + 1)).2)) := by ((refine (pl_s (nw_ex2 (vcol (vcol (clr v (vP v)) 0 (rnF (clr v (vP v)) (decide (κ = 4)) (vF (clr v (vP v)) 0) (plc v b) (vP v)).1) 1 (rsF (vcol (clr v (vP v)) 0 (rnF (clr v (vP v)) (decide (κ = 4)) (vF (clr v (vP v)) 0) (plc v b) (vP v)).1) (vF (clr v (vP v)) 1) (rnF (clr v (vP v)) (decide (κ = 4)) (vF (clr v (vP v)) 0) (plc v b) (vP v)).2 z).1) _ _) c151 bN).trans ?_); exact congrArg nI (if_neg c151).symm)
                                                  rw [ez3]
                                                  have fz : (vset (vcol (vcol (clr v (vP v)) 0 (rnF (clr v (vP v)) (decide (κ = 4)) (vF (clr v (vP v)) 0) (plc v b) (vP v)).1) 1 (rsF (vcol (clr v (vP v)) 0 (rnF (clr v (vP v)) (decide (κ = 4)) (vF (clr v (vP v)) 0) (plc v b) (vP v)).1) (vF (clr v (vP v)) 1) (rnF (clr v (vP v)) (decide (κ = 4)) (vF (clr v (vP v)) 0) (plc v b) (vP v)).2 z).1) 1 z (nwA (vcol (vcol (clr v (vP v)) 0 (rnF (clr v (vP v)) (decide (κ = 4)) (vF (clr v (vP v)) 0) (plc v b) (vP v)).1) 1 (rsF (vcol (clr v (vP v)) 0 (rnF (clr v (vP v)) (decide (κ = 4)) (vF (clr v (vP v)) 0) (plc v b) (vP v)).1) (vF (clr v (vP v)) 1) (rnF (clr v (vP v)) (decide (κ = 4)) (vF (clr v (vP v)) 0) (plc v b) (vP v)).2 z).1) ((rsF (vcol (clr v (vP v)) 0 (rnF (clr v (vP v)) (decide (κ = 4)) (vF (clr v (vP v)) 0) (plc v b) (vP v)).1) (vF (clr v (vP v)) 1) (rnF (clr v (vP v)) (decide (κ = 4)) (vF (clr v (vP v)) 0) (plc v b) (vP v)).2 z).2) (vF (vcol (clr v (vP v)) 0 (rnF (clr v (vP v)) (decide (κ = 4)) (vF (clr v (vP v)) 0) (plc v b) (vP v)).1) 0 z))) = (vcol (vcol (clr v (vP v)) 0 (rnF (clr v (vP v)) (decide (κ = 4)) (vF (clr v (vP v)) 0) (plc v b) (vP v)).1) 1 (rsF (vcol (clr v (vP v)) 0 (rnF (clr v (vP v)) (decide (κ = 4)) (vF (clr v (vP v)) 0) (plc v b) (vP v)).1) (vF (clr v (vP v)) 1) (rnF (clr v (vP v)) (decide (κ = 4)) (vF (clr v (vP v)) 0) (plc v b) (vP v)).2 (z + 1)).1) := by exact rs_s
                                                  exact ihz h150 (fz ▸ mh150) ph150 kh150
                                                ·
                                                  have c151 : nwA (vcol (vcol (clr v (vP v)) 0 (rnF (clr v (vP v)) (decide (κ = 4)) (vF (clr v (vP v)) 0) (plc v b) (vP v)).1) 1 (rsF (vcol (clr v (vP v)) 0 (rnF (clr v (vP v)) (decide (κ = 4)) (vF (clr v (vP v)) 0) (plc v b) (vP v)).1) (vF (clr v (vP v)) 1) (rnF (clr v (vP v)) (decide (κ = 4)) (vF (clr v (vP v)) 0) (plc v b) (vP v)).2 z).1) ((rsF (vcol (clr v (vP v)) 0 (rnF (clr v (vP v)) (decide (κ = 4)) (vF (clr v (vP v)) 0) (plc v b) (vP v)).1) (vF (clr v (vP v)) 1) (rnF (clr v (vP v)) (decide (κ = 4)) (vF (clr v (vP v)) 0) (plc v b) (vP v)).2 z).2) (vF (vcol (clr v (vP v)) 0 (rnF (clr v (vP v)) (decide (κ = 4)) (vF (clr v (vP v)) 0) (plc v b) (vP v)).1) 0 z) = -1 := c151
                                                  refine r_iload_n C (dx dX7_holdAll 113 rfl) rfl ?_
                                                  refine r_goto (tgt := 216) C (dx dX7_holdAll 114 rfl) (by decide) ?_
                                                  refine r_istore_n (ls' := [(0, vr 7 k), (1, vi (nI κ)), (2, vi (nI b)), (3, vi (nI ((rsF (vcol (clr v (vP v)) 0 (rnF (clr v (vP v)) (decide (κ = 4)) (vF (clr v (vP v)) 0) (plc v b) (vP v)).1) (vF (clr v (vP v)) 1) (rnF (clr v (vP v)) (decide (κ = 4)) (vF (clr v (vP v)) 0) (plc v b) (vP v)).2 z).2))), (4, vi (nI z))]) C (dx dX7_holdAll 121 rfl) (by decide) [1, 2, 3, 0, 4] rfl ?_
                                                  refine rn_iinc (a := z) (k := 1) (ls' := [(0, vr 7 k), (1, vi (nI κ)), (2, vi (nI b)), (3, vi (nI ((rsF (vcol (clr v (vP v)) 0 (rnF (clr v (vP v)) (decide (κ = 4)) (vF (clr v (vP v)) 0) (plc v b) (vP v)).1) (vF (clr v (vP v)) 1) (rnF (clr v (vP v)) (decide (κ = 4)) (vF (clr v (vP v)) 0) (plc v b) (vP v)).2 z).2))), (4, vi (nI (z + 1)))]) C (dx dX7_holdAll 122 rfl) rfl rfl (by decide) [1, 2, 3, 4, 0] rfl ?_
                                                  refine r_goto (tgt := 159) C (dx dX7_holdAll 123 rfl) (by decide) ?_
                                                  have ez3 : (nI ((rsF (vcol (clr v (vP v)) 0 (rnF (clr v (vP v)) (decide (κ = 4)) (vF (clr v (vP v)) 0) (plc v b) (vP v)).1) (vF (clr v (vP v)) 1) (rnF (clr v (vP v)) (decide (κ = 4)) (vF (clr v (vP v)) 0) (plc v b) (vP v)).2 z).2)) = (nI ((rsF (vcol (clr v (vP v)) 0 (rnF (clr v (vP v)) (decide (κ = 4)) (vF (clr v (vP v)) 0) (plc v b) (vP v)).1) (vF (clr v (vP v)) 1) (rnF (clr v (vP v)) (decide (κ = 4)) (vF (clr v (vP v)) 0) (plc v b) (vP v)).2 (z + 1)).2)) := by exact congrArg nI (if_pos c151).symm
                                                  rw [ez3]
                                                  have fz : (vset (vcol (vcol (clr v (vP v)) 0 (rnF (clr v (vP v)) (decide (κ = 4)) (vF (clr v (vP v)) 0) (plc v b) (vP v)).1) 1 (rsF (vcol (clr v (vP v)) 0 (rnF (clr v (vP v)) (decide (κ = 4)) (vF (clr v (vP v)) 0) (plc v b) (vP v)).1) (vF (clr v (vP v)) 1) (rnF (clr v (vP v)) (decide (κ = 4)) (vF (clr v (vP v)) 0) (plc v b) (vP v)).2 z).1) 1 z (nwA (vcol (vcol (clr v (vP v)) 0 (rnF (clr v (vP v)) (decide (κ = 4)) (vF (clr v (vP v)) 0) (plc v b) (vP v)).1) 1 (rsF (vcol (clr v (vP v)) 0 (rnF (clr v (vP v)) (decide (κ = 4)) (vF (clr v (vP v)) 0) (plc v b) (vP v)).1) (vF (clr v (vP v)) 1) (rnF (clr v (vP v)) (decide (κ = 4)) (vF (clr v (vP v)) 0) (plc v b) (vP v)).2 z).1) ((rsF (vcol (clr v (vP v)) 0 (rnF (clr v (vP v)) (decide (κ = 4)) (vF (clr v (vP v)) 0) (plc v b) (vP v)).1) (vF (clr v (vP v)) 1) (rnF (clr v (vP v)) (decide (κ = 4)) (vF (clr v (vP v)) 0) (plc v b) (vP v)).2 z).2) (vF (vcol (clr v (vP v)) 0 (rnF (clr v (vP v)) (decide (κ = 4)) (vF (clr v (vP v)) 0) (plc v b) (vP v)).1) 0 z))) = (vcol (vcol (clr v (vP v)) 0 (rnF (clr v (vP v)) (decide (κ = 4)) (vF (clr v (vP v)) 0) (plc v b) (vP v)).1) 1 (rsF (vcol (clr v (vP v)) 0 (rnF (clr v (vP v)) (decide (κ = 4)) (vF (clr v (vP v)) 0) (plc v b) (vP v)).1) (vF (clr v (vP v)) 1) (rnF (clr v (vP v)) (decide (κ = 4)) (vF (clr v (vP v)) 0) (plc v b) (vP v)).2 (z + 1)).1) := by exact rs_s
                                                  exact ihz h150 (fz ▸ mh150) ph150 kh150))
                                ·
                                  refine r_iload C (dx dX7_holdAll 89 rfl) rfl ?_
                                  refine r_aload_n C (dx dX7_holdAll 90 rfl) rfl ?_
                                  refine g_X7_64 (x := nI (vP v)) C (dx dX7_holdAll 91 rfl) mg9q.eP ?_
                                  refine rn_ge (a := 0) (b := vP v) (tgt := 223) C (by omega) (by omega) (dx dX7_holdAll 92 rfl) (by decide) (fun c152 => ?_) (fun c152 => ?_)
                                  · first
                                    | (omega; done)
                                    | (
                                        have c152 : vP v ≤ 0 := c152
                                        have eV : hAR v κ b = vcol (clr v (vP v)) 0 (rnF (clr v (vP v)) (decide (κ = 4)) (vF (clr v (vP v)) 0) (plc v b) q).1 := by (unfold hAR; rw [if_neg (show ¬ (κ = 1 ∨ κ = 5) by omega), if_neg h3])
                                        exact F.2.2.1 _ _ _ rfl (dx dX7_holdAll 124 rfl) kg9q ⟨rfl, by rw [eV]; exact mg9q, pg9q⟩)
                                  · first
                                    | (omega; done)
                                    | (
                                        have c152 : 0 < vP v := c152
                                        refine r_iload_n C (dx dX7_holdAll 93 rfl) rfl ?_
                                        refine r_iconst (v := nI 3) C (dx dX7_holdAll 94 rfl) rfl ?_
                                        refine rn_ne (a := κ) (b := 3) (tgt := 223) C (by omega) (by omega) (dx dX7_holdAll 95 rfl) (by decide) (fun c153 => ?_) (fun c153 => ?_)
                                        · first
                                          | (omega; done)
                                          | (
                                              have c153 : ¬ κ = 3 := c153
                                              have eV : hAR v κ b = vcol (clr v (vP v)) 0 (rnF (clr v (vP v)) (decide (κ = 4)) (vF (clr v (vP v)) 0) (plc v b) q).1 := by (unfold hAR; rw [if_neg (show ¬ (κ = 1 ∨ κ = 5) by omega), if_neg h3])
                                              exact F.2.2.1 _ _ _ rfl (dx dX7_holdAll 124 rfl) kg9q ⟨rfl, by rw [eV]; exact mg9q, pg9q⟩)
                                        ·
                                          have c153 : κ = 3 := c153
                                          exact absurd c153 h3))
                          · first
                            | (omega; done)
                            | (
                                have c143 : q < vP v := c143
                                refine r_aload_n C (dx dX7_holdAll 56 rfl) rfl ?_
                                refine g_X7_40 C (dx dX7_holdAll 57 rfl) ?_
                                refine r_iload C (dx dX7_holdAll 58 rfl) rfl ?_
                                refine r_iload_n C (dx dX7_holdAll 59 rfl) rfl ?_
                                refine r_iconst (v := nI 4) C (dx dX7_holdAll 60 rfl) rfl ?_
                                refine rn_ne (a := κ) (b := 4) (tgt := 118) C (by omega) (by omega) (dx dX7_holdAll 61 rfl) (by decide) (fun c154 => ?_) (fun c154 => ?_)
                                · first
                                  | (omega; done)
                                  | (
                                      have c154 : ¬ κ = 4 := c154
                                      refine r_aload_n C (dx dX7_holdAll 65 rfl) rfl ?_
                                      refine r_iload_n C (dx dX7_holdAll 66 rfl) rfl ?_
                                      refine r_iconst (v := -1) C (dx dX7_holdAll 67 rfl) rfl ?_
                                      refine r_cvP (as := [vi (nI ((rnF (clr v (vP v)) (decide (κ = 4)) (vF (clr v (vP v)) 0) (plc v b) q).2)), vi (-1)]) (st := [vi (nI q), vr 20 (k + 18)]) (v := vi (nwA (vcol (clr v (vP v)) 0 (rnF (clr v (vP v)) (decide (κ = 4)) (vF (clr v (vP v)) 0) (plc v b) q).1) ((rnF (clr v (vP v)) (decide (κ = 4)) (vF (clr v (vP v)) 0) (plc v b) q).2) (-1))) C X I_X7_nextWithRoom l_X7_289 (e_nw mg9q (a := (rnF (clr v (vP v)) (decide (κ = 4)) (vF (clr v (vP v)) 0) (plc v b) q).2) (Nat.lt_trans (rnF_lt _ _ _ _ hp9 (show vN (clr v (vP v)) ≤ 8 from bN) _) (by decide)) (-1)) (by decide) (Nat.le_of_ble_eq_true rfl) (pfx_eq kg9q) rfl rfl (Nat.le_of_ble_eq_true rfl) rfl (dx dX7_holdAll 68 rfl) ?_
                                      refine r_iast (j := q) C rfl rfl (by decide) rfl (by omega) (dx dX7_holdAll 69 rfl) ?_
                                      have mh155 : MilAt (sI g9q (k + 18) q (nwA (vcol (clr v (vP v)) 0 (rnF (clr v (vP v)) (decide (κ = 4)) (vF (clr v (vP v)) 0) (plc v b) q).1) ((rnF (clr v (vP v)) (decide (κ = 4)) (vF (clr v (vP v)) 0) (plc v b) q).2) (-1))) k (vset (vcol (clr v (vP v)) 0 (rnF (clr v (vP v)) (decide (κ = 4)) (vF (clr v (vP v)) 0) (plc v b) q).1) 0 q (nwA (vcol (clr v (vP v)) 0 (rnF (clr v (vP v)) (decide (κ = 4)) (vF (clr v (vP v)) 0) (plc v b) q).1) ((rnF (clr v (vP v)) (decide (κ = 4)) (vF (clr v (vP v)) 0) (plc v b) q).2) (-1))) := mg9q.s0
                                      have ph155 : Kp k h (sI g9q (k + 18) q (nwA (vcol (clr v (vP v)) 0 (rnF (clr v (vP v)) (decide (κ = 4)) (vF (clr v (vP v)) 0) (plc v b) q).1) ((rnF (clr v (vP v)) (decide (κ = 4)) (vF (clr v (vP v)) 0) (plc v b) q).2) (-1))) := pg9q.tr (Kp.c (by omega) (by omega))
                                      have kh155 : xK (sI g9q (k + 18) q (nwA (vcol (clr v (vP v)) 0 (rnF (clr v (vP v)) (decide (κ = 4)) (vF (clr v (vP v)) 0) (plc v b) q).1) ((rnF (clr v (vP v)) (decide (κ = 4)) (vF (clr v (vP v)) 0) (plc v b) q).2) (-1))) = xK h := kg9q
                                      generalize sI g9q (k + 18) q (nwA (vcol (clr v (vP v)) 0 (rnF (clr v (vP v)) (decide (κ = 4)) (vF (clr v (vP v)) 0) (plc v b) q).1) ((rnF (clr v (vP v)) (decide (κ = 4)) (vF (clr v (vP v)) 0) (plc v b) q).2) (-1)) = h155 at mh155 ph155 kh155 ⊢
                                      refine r_aload_n C (dx dX7_holdAll 70 rfl) rfl ?_
                                      refine g_X7_40 C (dx dX7_holdAll 71 rfl) ?_
                                      refine r_iload C (dx dX7_holdAll 72 rfl) rfl ?_
                                      refine r_iald (j := q) (x := nwA (vcol (clr v (vP v)) 0 (rnF (clr v (vP v)) (decide (κ = 4)) (vF (clr v (vP v)) 0) (plc v b) q).1) ((rnF (clr v (vP v)) (decide (κ = 4)) (vF (clr v (vP v)) 0) (plc v b) q).2) (-1)) C rfl rfl (by decide) rfl (by omega) (dx dX7_holdAll 73 rfl) ((mh155.e0 (by omega)).trans (by simp [vset, vF])) ?_
                                      refine r_iconst (v := -1) C (dx dX7_holdAll 74 rfl) rfl ?_
                                      refine r_icmp_ne (tgt := 140) C (dx dX7_holdAll 75 rfl) (by decide) (fun c156 => ?_) (fun c156 => ?_)
                                      ·
                                        have c156 : ¬ nwA (vcol (clr v (vP v)) 0 (rnF (clr v (vP v)) (decide (κ = 4)) (vF (clr v (vP v)) 0) (plc v b) q).1) ((rnF (clr v (vP v)) (decide (κ = 4)) (vF (clr v (vP v)) 0) (plc v b) q).2) (-1) = -1 := c156
                                        refine r_aload_n C (dx dX7_holdAll 78 rfl) rfl ?_
                                        refine g_X7_40 C (dx dX7_holdAll 79 rfl) ?_
                                        refine r_iload C (dx dX7_holdAll 80 rfl) rfl ?_
                                        refine r_iald (j := q) (x := nwA (vcol (clr v (vP v)) 0 (rnF (clr v (vP v)) (decide (κ = 4)) (vF (clr v (vP v)) 0) (plc v b) q).1) ((rnF (clr v (vP v)) (decide (κ = 4)) (vF (clr v (vP v)) 0) (plc v b) q).2) (-1)) C rfl rfl (by decide) rfl (by omega) (dx dX7_holdAll 81 rfl) ((mh155.e0 (by omega)).trans (by simp [vset, vF])) ?_
                                        refine r_iconst (v := nI 1) C (dx dX7_holdAll 82 rfl) rfl ?_
                                        refine r_iadd C (dx dX7_holdAll 83 rfl) ?_
                                        refine r_istore_n (ls' := [(0, vr 7 k), (1, vi (nI κ)), (2, vi (nI b)), (3, vi ((nwA (vcol (clr v (vP v)) 0 (rnF (clr v (vP v)) (decide (κ = 4)) (vF (clr v (vP v)) 0) (plc v b) q).1) ((rnF (clr v (vP v)) (decide (κ = 4)) (vF (clr v (vP v)) 0) (plc v b) q).2) (-1)) + (nI 1))), (4, vi (nI q))]) C (dx dX7_holdAll 84 rfl) (by decide) [1, 2, 3, 0, 4] rfl ?_
                                        refine rn_iinc (a := q) (k := 1) (ls' := [(0, vr 7 k), (1, vi (nI κ)), (2, vi (nI b)), (3, vi ((nwA (vcol (clr v (vP v)) 0 (rnF (clr v (vP v)) (decide (κ = 4)) (vF (clr v (vP v)) 0) (plc v b) q).1) ((rnF (clr v (vP v)) (decide (κ = 4)) (vF (clr v (vP v)) 0) (plc v b) q).2) (-1)) + (nI 1))), (4, vi (nI (q + 1)))]) C (dx dX7_holdAll 85 rfl) rfl rfl (by decide) [1, 2, 3, 4, 0] rfl ?_
                                        refine r_goto (tgt := 91) C (dx dX7_holdAll 86 rfl) (by decide) ?_
                                        have eq3 : ((nwA (vcol (clr v (vP v)) 0 (rnF (clr v (vP v)) (decide (κ = 4)) (vF (clr v (vP v)) 0) (plc v b) q).1) ((rnF (clr v (vP v)) (decide (κ = 4)) (vF (clr v (vP v)) 0) (plc v b) q).2) (-1)) + (nI 1)) = (nI ((rnF (clr v (vP v)) (decide (κ = 4)) (vF (clr v (vP v)) 0) (plc v b) (q + 1)).2)) := by ((refine (pl_s (rn_e (su_n c154)) c156 bN).trans ?_); exact congrArg nI ((rn_p (su_n c154)).trans (if_neg c156)).symm)
                                        rw [eq3]
                                        have fq : (vset (vcol (clr v (vP v)) 0 (rnF (clr v (vP v)) (decide (κ = 4)) (vF (clr v (vP v)) 0) (plc v b) q).1) 0 q (nwA (vcol (clr v (vP v)) 0 (rnF (clr v (vP v)) (decide (κ = 4)) (vF (clr v (vP v)) 0) (plc v b) q).1) ((rnF (clr v (vP v)) (decide (κ = 4)) (vF (clr v (vP v)) 0) (plc v b) q).2) (-1))) = (vcol (clr v (vP v)) 0 (rnF (clr v (vP v)) (decide (κ = 4)) (vF (clr v (vP v)) 0) (plc v b) (q + 1)).1) := by exact rn_s (su_n c154)
                                        exact ihq h155 (fq ▸ mh155) ph155 kh155
                                      ·
                                        have c156 : nwA (vcol (clr v (vP v)) 0 (rnF (clr v (vP v)) (decide (κ = 4)) (vF (clr v (vP v)) 0) (plc v b) q).1) ((rnF (clr v (vP v)) (decide (κ = 4)) (vF (clr v (vP v)) 0) (plc v b) q).2) (-1) = -1 := c156
                                        refine r_iload_n C (dx dX7_holdAll 76 rfl) rfl ?_
                                        refine r_goto (tgt := 149) C (dx dX7_holdAll 77 rfl) (by decide) ?_
                                        refine r_istore_n (ls' := [(0, vr 7 k), (1, vi (nI κ)), (2, vi (nI b)), (3, vi (nI ((rnF (clr v (vP v)) (decide (κ = 4)) (vF (clr v (vP v)) 0) (plc v b) q).2))), (4, vi (nI q))]) C (dx dX7_holdAll 84 rfl) (by decide) [1, 2, 3, 0, 4] rfl ?_
                                        refine rn_iinc (a := q) (k := 1) (ls' := [(0, vr 7 k), (1, vi (nI κ)), (2, vi (nI b)), (3, vi (nI ((rnF (clr v (vP v)) (decide (κ = 4)) (vF (clr v (vP v)) 0) (plc v b) q).2))), (4, vi (nI (q + 1)))]) C (dx dX7_holdAll 85 rfl) rfl rfl (by decide) [1, 2, 3, 4, 0] rfl ?_
                                        refine r_goto (tgt := 91) C (dx dX7_holdAll 86 rfl) (by decide) ?_
                                        have eq3 : (nI ((rnF (clr v (vP v)) (decide (κ = 4)) (vF (clr v (vP v)) 0) (plc v b) q).2)) = (nI ((rnF (clr v (vP v)) (decide (κ = 4)) (vF (clr v (vP v)) 0) (plc v b) (q + 1)).2)) := by (exact congrArg nI ((rn_p (su_n c154)).trans (if_pos c156)).symm)
                                        rw [eq3]
                                        have fq : (vset (vcol (clr v (vP v)) 0 (rnF (clr v (vP v)) (decide (κ = 4)) (vF (clr v (vP v)) 0) (plc v b) q).1) 0 q (nwA (vcol (clr v (vP v)) 0 (rnF (clr v (vP v)) (decide (κ = 4)) (vF (clr v (vP v)) 0) (plc v b) q).1) ((rnF (clr v (vP v)) (decide (κ = 4)) (vF (clr v (vP v)) 0) (plc v b) q).2) (-1))) = (vcol (clr v (vP v)) 0 (rnF (clr v (vP v)) (decide (κ = 4)) (vF (clr v (vP v)) 0) (plc v b) (q + 1)).1) := by exact rn_s (su_n c154)
                                        exact ihq h155 (fq ▸ mh155) ph155 kh155)
                                · first
                                  | (omega; done)
                                  | (
                                      have c154 : κ = 4 := c154
                                      refine r_aload_n C (dx dX7_holdAll 62 rfl) rfl ?_
                                      refine r_cvP (as := []) (st := [vi (nI q), vr 20 (k + 18)]) (v := vi (srA (vcol (clr v (vP v)) 0 (rnF (clr v (vP v)) (decide (κ = 4)) (vF (clr v (vP v)) 0) (plc v b) q).1) (vN v))) C X I_X7_surest l_X7_286 (e_sr mg9q) (by decide) (Nat.le_of_ble_eq_true rfl) (pfx_eq kg9q) rfl rfl (Nat.le_of_ble_eq_true rfl) rfl (dx dX7_holdAll 63 rfl) ?_
                                      refine r_goto (tgt := 124) C (dx dX7_holdAll 64 rfl) (by decide) ?_
                                      refine r_iast (j := q) C rfl rfl (by decide) rfl (by omega) (dx dX7_holdAll 69 rfl) ?_
                                      have mh157 : MilAt (sI g9q (k + 18) q (srA (vcol (clr v (vP v)) 0 (rnF (clr v (vP v)) (decide (κ = 4)) (vF (clr v (vP v)) 0) (plc v b) q).1) (vN v))) k (vset (vcol (clr v (vP v)) 0 (rnF (clr v (vP v)) (decide (κ = 4)) (vF (clr v (vP v)) 0) (plc v b) q).1) 0 q (srA (vcol (clr v (vP v)) 0 (rnF (clr v (vP v)) (decide (κ = 4)) (vF (clr v (vP v)) 0) (plc v b) q).1) (vN v))) := mg9q.s0
                                      have ph157 : Kp k h (sI g9q (k + 18) q (srA (vcol (clr v (vP v)) 0 (rnF (clr v (vP v)) (decide (κ = 4)) (vF (clr v (vP v)) 0) (plc v b) q).1) (vN v))) := pg9q.tr (Kp.c (by omega) (by omega))
                                      have kh157 : xK (sI g9q (k + 18) q (srA (vcol (clr v (vP v)) 0 (rnF (clr v (vP v)) (decide (κ = 4)) (vF (clr v (vP v)) 0) (plc v b) q).1) (vN v))) = xK h := kg9q
                                      generalize sI g9q (k + 18) q (srA (vcol (clr v (vP v)) 0 (rnF (clr v (vP v)) (decide (κ = 4)) (vF (clr v (vP v)) 0) (plc v b) q).1) (vN v)) = h157 at mh157 ph157 kh157 ⊢
                                      refine r_aload_n C (dx dX7_holdAll 70 rfl) rfl ?_
                                      refine g_X7_40 C (dx dX7_holdAll 71 rfl) ?_
                                      refine r_iload C (dx dX7_holdAll 72 rfl) rfl ?_
                                      refine r_iald (j := q) (x := srA (vcol (clr v (vP v)) 0 (rnF (clr v (vP v)) (decide (κ = 4)) (vF (clr v (vP v)) 0) (plc v b) q).1) (vN v)) C rfl rfl (by decide) rfl (by omega) (dx dX7_holdAll 73 rfl) ((mh157.e0 (by omega)).trans (by simp [vset, vF])) ?_
                                      refine r_iconst (v := -1) C (dx dX7_holdAll 74 rfl) rfl ?_
                                      refine r_icmp_ne (tgt := 140) C (dx dX7_holdAll 75 rfl) (by decide) (fun c158 => ?_) (fun c158 => ?_)
                                      ·
                                        have c158 : ¬ srA (vcol (clr v (vP v)) 0 (rnF (clr v (vP v)) (decide (κ = 4)) (vF (clr v (vP v)) 0) (plc v b) q).1) (vN v) = -1 := c158
                                        refine r_aload_n C (dx dX7_holdAll 78 rfl) rfl ?_
                                        refine g_X7_40 C (dx dX7_holdAll 79 rfl) ?_
                                        refine r_iload C (dx dX7_holdAll 80 rfl) rfl ?_
                                        refine r_iald (j := q) (x := srA (vcol (clr v (vP v)) 0 (rnF (clr v (vP v)) (decide (κ = 4)) (vF (clr v (vP v)) 0) (plc v b) q).1) (vN v)) C rfl rfl (by decide) rfl (by omega) (dx dX7_holdAll 81 rfl) ((mh157.e0 (by omega)).trans (by simp [vset, vF])) ?_
                                        refine r_iconst (v := nI 1) C (dx dX7_holdAll 82 rfl) rfl ?_
                                        refine r_iadd C (dx dX7_holdAll 83 rfl) ?_
                                        refine r_istore_n (ls' := [(0, vr 7 k), (1, vi (nI κ)), (2, vi (nI b)), (3, vi ((srA (vcol (clr v (vP v)) 0 (rnF (clr v (vP v)) (decide (κ = 4)) (vF (clr v (vP v)) 0) (plc v b) q).1) (vN v)) + (nI 1))), (4, vi (nI q))]) C (dx dX7_holdAll 84 rfl) (by decide) [1, 2, 3, 0, 4] rfl ?_
                                        refine rn_iinc (a := q) (k := 1) (ls' := [(0, vr 7 k), (1, vi (nI κ)), (2, vi (nI b)), (3, vi ((srA (vcol (clr v (vP v)) 0 (rnF (clr v (vP v)) (decide (κ = 4)) (vF (clr v (vP v)) 0) (plc v b) q).1) (vN v)) + (nI 1))), (4, vi (nI (q + 1)))]) C (dx dX7_holdAll 85 rfl) rfl rfl (by decide) [1, 2, 3, 4, 0] rfl ?_
                                        refine r_goto (tgt := 91) C (dx dX7_holdAll 86 rfl) (by decide) ?_
                                        have eq3 : ((srA (vcol (clr v (vP v)) 0 (rnF (clr v (vP v)) (decide (κ = 4)) (vF (clr v (vP v)) 0) (plc v b) q).1) (vN v)) + (nI 1)) = (nI ((rnF (clr v (vP v)) (decide (κ = 4)) (vF (clr v (vP v)) 0) (plc v b) (q + 1)).2)) := by ((refine (pl_s (rn_e (su_y c154)) c158 bN).trans ?_); exact congrArg nI ((rn_p (su_y c154)).trans (if_neg c158)).symm)
                                        rw [eq3]
                                        have fq : (vset (vcol (clr v (vP v)) 0 (rnF (clr v (vP v)) (decide (κ = 4)) (vF (clr v (vP v)) 0) (plc v b) q).1) 0 q (srA (vcol (clr v (vP v)) 0 (rnF (clr v (vP v)) (decide (κ = 4)) (vF (clr v (vP v)) 0) (plc v b) q).1) (vN v))) = (vcol (clr v (vP v)) 0 (rnF (clr v (vP v)) (decide (κ = 4)) (vF (clr v (vP v)) 0) (plc v b) (q + 1)).1) := by exact rn_s (su_y c154)
                                        exact ihq h157 (fq ▸ mh157) ph157 kh157
                                      ·
                                        have c158 : srA (vcol (clr v (vP v)) 0 (rnF (clr v (vP v)) (decide (κ = 4)) (vF (clr v (vP v)) 0) (plc v b) q).1) (vN v) = -1 := c158
                                        refine r_iload_n C (dx dX7_holdAll 76 rfl) rfl ?_
                                        refine r_goto (tgt := 149) C (dx dX7_holdAll 77 rfl) (by decide) ?_
                                        refine r_istore_n (ls' := [(0, vr 7 k), (1, vi (nI κ)), (2, vi (nI b)), (3, vi (nI ((rnF (clr v (vP v)) (decide (κ = 4)) (vF (clr v (vP v)) 0) (plc v b) q).2))), (4, vi (nI q))]) C (dx dX7_holdAll 84 rfl) (by decide) [1, 2, 3, 0, 4] rfl ?_
                                        refine rn_iinc (a := q) (k := 1) (ls' := [(0, vr 7 k), (1, vi (nI κ)), (2, vi (nI b)), (3, vi (nI ((rnF (clr v (vP v)) (decide (κ = 4)) (vF (clr v (vP v)) 0) (plc v b) q).2))), (4, vi (nI (q + 1)))]) C (dx dX7_holdAll 85 rfl) rfl rfl (by decide) [1, 2, 3, 4, 0] rfl ?_
                                        refine r_goto (tgt := 91) C (dx dX7_holdAll 86 rfl) (by decide) ?_
                                        have eq3 : (nI ((rnF (clr v (vP v)) (decide (κ = 4)) (vF (clr v (vP v)) 0) (plc v b) q).2)) = (nI ((rnF (clr v (vP v)) (decide (κ = 4)) (vF (clr v (vP v)) 0) (plc v b) (q + 1)).2)) := by (exact congrArg nI ((rn_p (su_y c154)).trans (if_pos c158)).symm)
                                        rw [eq3]
                                        have fq : (vset (vcol (clr v (vP v)) 0 (rnF (clr v (vP v)) (decide (κ = 4)) (vF (clr v (vP v)) 0) (plc v b) q).1) 0 q (srA (vcol (clr v (vP v)) 0 (rnF (clr v (vP v)) (decide (κ = 4)) (vF (clr v (vP v)) 0) (plc v b) q).1) (vN v))) = (vcol (clr v (vP v)) 0 (rnF (clr v (vP v)) (decide (κ = 4)) (vF (clr v (vP v)) 0) (plc v b) (q + 1)).1) := by exact rn_s (su_y c154)
                                        exact ihq h157 (fq ▸ mh157) ph157 kh157)))
                · first
                  | (omega; done)
                  | (
                      have c93 : κ = 5 := c93
                      refine r_aload_n C (dx dX7_holdAll 24 rfl) rfl ?_
                      refine r_iload_n C (dx dX7_holdAll 25 rfl) rfl ?_
                      refine r_iconst (v := nI 5) C (dx dX7_holdAll 26 rfl) rfl ?_
                      refine rn_ne (a := κ) (b := 5) (tgt := 62) C (by omega) (by omega) (dx dX7_holdAll 27 rfl) (by decide) (fun c159 => ?_) (fun c159 => ?_)
                      ·
                        have c159 : ¬ κ = 5 := c159
                        exact absurd c93 c159
                      · first
                        | (omega; done)
                        | (
                            have c159 : κ = 5 := c159
                            refine r_iload_n C (dx dX7_holdAll 28 rfl) rfl ?_
                            refine r_if_le (tgt := 62) C (dx dX7_holdAll 29 rfl) (by decide) (fun c160 => ?_) (fun c160 => ?_)
                            ·
                              have c160 : nI b ≤ 0 := c160
                              have hb0 : b = 0 := nI_le0 (by omega) c160
                              refine r_aload_n C (dx dX7_holdAll 36 rfl) rfl ?_
                              refine g_X7_74 (x := nI (vN v)) C (dx dX7_holdAll 37 rfl) mg9p.eN ?_
                              refine r_cv (as := [vi (nI (vN v))]) (st := []) C X I_X7_holdWhole l_X7_282 (e_holdWhole mg9p (am := vN v) (show vN v ≤ vN v by omega)) (by decide) (Nat.le_of_ble_eq_true rfl) List.prefix_rfl (pfx_eq kg9p) rfl rfl (Nat.le_of_ble_eq_true rfl) rfl (dx dX7_holdAll 38 rfl) ?_
                              rintro _ h161 ⟨rfl, m9h161, qh161⟩ kkh161
                              have mh161 : MilAt h161 k (vcol (clr v p) 0 (hWR (clr v p) (vN v) (vF (clr v p) 0))) := m9h161
                              have ph161 : Kp k h h161 := pg9p.tr (qh161)
                              have kh161 : xK h161 = xK h := (kkh161).trans kg9p
                              have eV : hAR v κ b = vcol (clr v p) 0 (hWR (clr v p) (vN v) (vF (clr v p) 0)) := by (unfold hAR; rw [if_pos (show κ = 1 ∨ κ = 5 by omega), if_neg (show ¬ (κ = 5 ∧ 0 < b ∧ b < vN v) from fun z => by omega)])
                              exact F.2.2.1 _ _ _ rfl (dx dX7_holdAll 39 rfl) kh161 ⟨rfl, by rw [eV]; exact mh161, ph161⟩
                            ·
                              have c160 : ¬ nI b ≤ 0 := c160
                              have hb0 : 0 < b := nI_gt0 (by omega) c160
                              refine r_iload_n C (dx dX7_holdAll 30 rfl) rfl ?_
                              refine r_aload_n C (dx dX7_holdAll 31 rfl) rfl ?_
                              refine g_X7_74 (x := nI (vN v)) C (dx dX7_holdAll 32 rfl) mg9p.eN ?_
                              refine rn_ge (a := b) (b := vN v) (tgt := 62) C (by omega) (by omega) (dx dX7_holdAll 33 rfl) (by decide) (fun c162 => ?_) (fun c162 => ?_)
                              · first
                                | (omega; done)
                                | (
                                    have c162 : vN v ≤ b := c162
                                    refine r_aload_n C (dx dX7_holdAll 36 rfl) rfl ?_
                                    refine g_X7_74 (x := nI (vN v)) C (dx dX7_holdAll 37 rfl) mg9p.eN ?_
                                    refine r_cv (as := [vi (nI (vN v))]) (st := []) C X I_X7_holdWhole l_X7_282 (e_holdWhole mg9p (am := vN v) (show vN v ≤ vN v by omega)) (by decide) (Nat.le_of_ble_eq_true rfl) List.prefix_rfl (pfx_eq kg9p) rfl rfl (Nat.le_of_ble_eq_true rfl) rfl (dx dX7_holdAll 38 rfl) ?_
                                    rintro _ h163 ⟨rfl, m9h163, qh163⟩ kkh163
                                    have mh163 : MilAt h163 k (vcol (clr v p) 0 (hWR (clr v p) (vN v) (vF (clr v p) 0))) := m9h163
                                    have ph163 : Kp k h h163 := pg9p.tr (qh163)
                                    have kh163 : xK h163 = xK h := (kkh163).trans kg9p
                                    have eV : hAR v κ b = vcol (clr v p) 0 (hWR (clr v p) (vN v) (vF (clr v p) 0)) := by (unfold hAR; rw [if_pos (show κ = 1 ∨ κ = 5 by omega), if_neg (show ¬ (κ = 5 ∧ 0 < b ∧ b < vN v) from fun z => by omega)])
                                    exact F.2.2.1 _ _ _ rfl (dx dX7_holdAll 39 rfl) kh163 ⟨rfl, by rw [eV]; exact mh163, ph163⟩)
                              · first
                                | (omega; done)
                                | (
                                    have c162 : b < vN v := c162
                                    refine r_iload_n C (dx dX7_holdAll 34 rfl) rfl ?_
                                    refine r_goto (tgt := 66) C (dx dX7_holdAll 35 rfl) (by decide) ?_
                                    refine r_cv (as := [vi (nI b)]) (st := []) C X I_X7_holdWhole l_X7_282 (e_holdWhole mg9p (am := b) (show b ≤ vN v by omega)) (by decide) (Nat.le_of_ble_eq_true rfl) List.prefix_rfl (pfx_eq kg9p) rfl rfl (Nat.le_of_ble_eq_true rfl) rfl (dx dX7_holdAll 38 rfl) ?_
                                    rintro _ h164 ⟨rfl, m9h164, qh164⟩ kkh164
                                    have mh164 : MilAt h164 k (vcol (clr v p) 0 (hWR (clr v p) b (vF (clr v p) 0))) := m9h164
                                    have ph164 : Kp k h h164 := pg9p.tr (qh164)
                                    have kh164 : xK h164 = xK h := (kkh164).trans kg9p
                                    have eV : hAR v κ b = vcol (clr v p) 0 (hWR (clr v p) b (vF (clr v p) 0)) := by (unfold hAR; rw [if_pos (show κ = 1 ∨ κ = 5 by omega), if_pos (show κ = 5 ∧ 0 < b ∧ b < vN v from ⟨by omega, by omega, by omega⟩)])
                                    exact F.2.2.1 _ _ _ rfl (dx dX7_holdAll 39 rfl) kh164 ⟨rfl, by rw [eV]; exact mh164, ph164⟩)))))
    · first
      | (omega; done)
      | (
          have c84 : p < vP v := c84
          refine r_aload_n C (dx dX7_holdAll 6 rfl) rfl ?_
          refine g_X7_40 C (dx dX7_holdAll 7 rfl) ?_
          refine r_iload_n C (dx dX7_holdAll 8 rfl) rfl ?_
          refine r_iconst (v := -1) C (dx dX7_holdAll 9 rfl) rfl ?_
          refine r_iast (j := p) C rfl rfl (by decide) rfl (by omega) (dx dX7_holdAll 10 rfl) ?_
          have mh165 : MilAt (sI g9p (k + 18) p (-1)) k (vset (clr v p) 0 p (-1)) := mg9p.s0
          have ph165 : Kp k h (sI g9p (k + 18) p (-1)) := pg9p.tr (Kp.c (by omega) (by omega))
          have kh165 : xK (sI g9p (k + 18) p (-1)) = xK h := kg9p
          generalize sI g9p (k + 18) p (-1) = h165 at mh165 ph165 kh165 ⊢
          refine r_aload_n C (dx dX7_holdAll 11 rfl) rfl ?_
          refine g_X7_43 C (dx dX7_holdAll 12 rfl) ?_
          refine r_iload_n C (dx dX7_holdAll 13 rfl) rfl ?_
          refine r_iconst (v := -1) C (dx dX7_holdAll 14 rfl) rfl ?_
          refine r_iast (j := p) C rfl rfl (by decide) rfl (by omega) (dx dX7_holdAll 15 rfl) ?_
          have mh166 : MilAt (sI h165 (k + 19) p (-1)) k (vset (vset (clr v p) 0 p (-1)) 1 p (-1)) := mh165.s1
          have ph166 : Kp k h (sI h165 (k + 19) p (-1)) := ph165.tr (Kp.c (by omega) (by omega))
          have kh166 : xK (sI h165 (k + 19) p (-1)) = xK h := kh165
          generalize sI h165 (k + 19) p (-1) = h166 at mh166 ph166 kh166 ⊢
          refine rn_iinc (a := p) (k := 1) (ls' := [(0, vr 7 k), (1, vi (nI κ)), (2, vi (nI b)), (3, vi (nI (p + 1)))]) C (dx dX7_holdAll 16 rfl) rfl rfl (by decide) [1, 2, 3, 0] rfl ?_
          refine r_goto (tgt := 2) C (dx dX7_holdAll 17 rfl) (by decide) ?_
          have fp : (vset (vset (clr v p) 0 p (-1)) 1 p (-1)) = (clr v (p + 1)) := by exact clr_if_s.symm
          exact ihp h166 (fp ▸ mh166) ph166 kh166)

