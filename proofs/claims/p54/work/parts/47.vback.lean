/-! PART 52: the reference: what is tried and taken back -/
set_option maxHeartbeats 4000000 in
theorem v_X7_harms {l : Launch} {h : Hp} {k : Nat} {v : Vg} (hm : MilAt h k v)  : Ms l yX7_harms cX7_harms 7 (some .int) 8 [vr 7 k] h (xK h) (fun r h' => PI r ∧ MilAt h' k v ∧ Kp k h h') := by
  refine Ms.of (by decide) (Nat.le_of_ble_eq_true rfl) (fun G C X F => ?_)
  have C : Cx G cX7_harms 7 RX7 := C
  show Rr G 0 [(0, vr 7 k)] [] h
  have bP := hm.bP
  have bM := hm.bM
  have bN := hm.bN
  refine r_iconst (v := -1) C (dx dX7_harms 0 rfl) rfl ?_
  refine r_istore_n (ls' := [(0, vr 7 k), (1, vi (-1))]) C (dx dX7_harms 1 rfl) (by decide) [1, 0] rfl ?_
  refine r_lconst (v := 0) C (dx dX7_harms 2 rfl) rfl ?_
  refine r_lstore_n (ls' := [(0, vr 7 k), (1, vi (-1)), (2, vl 0)]) C (dx dX7_harms 3 rfl) (by decide) [1, 2, 0] rfl ?_
  refine r_iconst (v := nI 0) C (dx dX7_harms 4 rfl) rfl ?_
  refine r_istore (ls' := [(0, vr 7 k), (1, vi (-1)), (2, vl 0), (4, vi (nI 0))]) C (dx dX7_harms 5 rfl) (by decide) [1, 2, 3, 0] rfl ?_
  refine loopU (Φ := fun p => ∀ (x1 : Int32), ∀ (x2 : Int64), ∀ (h9p : Hp), MilAt h9p k v → Kp k h h9p → xK h9p = xK h → Rr G 7 [(0, vr 7 k), (1, vi x1), (2, vl x2), (4, vi (nI p))] [] h9p) (N := vN v) ?_ ?_ 0 (by omega) (-1) 0 h hm Kp.rf rfl
  ·
    intro  x1 x2 h9p mh9p ph9p kh9p
    refine r_iload C (dx dX7_harms 6 rfl) rfl ?_
    refine r_aload_n C (dx dX7_harms 7 rfl) rfl ?_
    refine g_X7_74 (x := nI (vN v)) C (dx dX7_harms 8 rfl) mh9p.eN ?_
    refine rn_ge (a := vN v) (b := vN v) (tgt := 78) C (by omega) (by omega) (dx dX7_harms 9 rfl) (by decide) (fun c1 => ?_) (fun c1 => ?_)
    · first
      | (omega; done)
      | (
          have c1 : vN v ≤ vN v := c1
          refine r_iload_n C (dx dX7_harms 47 rfl) rfl ?_
          refine r_iconst (v := -1) C (dx dX7_harms 48 rfl) rfl ?_
          refine r_icmp_ne (tgt := 92) C (dx dX7_harms 49 rfl) (by decide) (fun c2 => ?_) (fun c2 => ?_)
          ·
            have c2 : ¬ x1 = -1 := c2
            refine r_iload_n C (dx dX7_harms 54 rfl) rfl ?_
            exact F.1 _ _ _ _ .int rfl rfl (dx dX7_harms 55 rfl) kh9p ⟨⟨_, rfl⟩, mh9p, ph9p⟩
          ·
            have c2 : x1 = -1 := c2
            refine r_aload_n C (dx dX7_harms 50 rfl) rfl ?_
            refine r_bipush (v := -5) C (dx dX7_harms 51 rfl) rfl ?_
            refine r_cv (as := [vi (-5)]) (st := []) C X I_X7_refuse l_X7_83 (e_refuse mh9p (x := -5) (j := 5) (by decide) (by decide)) (by decide) (Nat.le_of_ble_eq_true rfl) List.prefix_rfl (pfx_eq kh9p) rfl rfl (Nat.le_of_ble_eq_true rfl) rfl (dx dX7_harms 52 rfl) ?_
            rintro _ h3 ⟨rfl, m9h3, qh3⟩ kkh3
            have mh3 : MilAt h3 k v := m9h3
            have ph3 : Kp k h h3 := ph9p.tr (qh3)
            have kh3 : xK h3 = xK h := (kkh3).trans kh9p
            refine r_goto (tgt := 93) C (dx dX7_harms 53 rfl) (by decide) ?_
            exact F.1 _ _ _ _ .int rfl rfl (dx dX7_harms 55 rfl) kh3 ⟨⟨_, rfl⟩, mh3, ph3⟩)
    · first
      | (omega; done)
  ·
    intro p hp ihp x1 x2 h9p mh9p ph9p kh9p
    refine r_iload C (dx dX7_harms 6 rfl) rfl ?_
    refine r_aload_n C (dx dX7_harms 7 rfl) rfl ?_
    refine g_X7_74 (x := nI (vN v)) C (dx dX7_harms 8 rfl) mh9p.eN ?_
    refine rn_ge (a := p) (b := vN v) (tgt := 78) C (by omega) (by omega) (dx dX7_harms 9 rfl) (by decide) (fun c5 => ?_) (fun c5 => ?_)
    · first
      | (omega; done)
      | (
          have c5 : vN v ≤ p := c5
          refine r_iload_n C (dx dX7_harms 47 rfl) rfl ?_
          refine r_iconst (v := -1) C (dx dX7_harms 48 rfl) rfl ?_
          refine r_icmp_ne (tgt := 92) C (dx dX7_harms 49 rfl) (by decide) (fun c6 => ?_) (fun c6 => ?_)
          ·
            have c6 : ¬ x1 = -1 := c6
            refine r_iload_n C (dx dX7_harms 54 rfl) rfl ?_
            exact F.1 _ _ _ _ .int rfl rfl (dx dX7_harms 55 rfl) kh9p ⟨⟨_, rfl⟩, mh9p, ph9p⟩
          ·
            have c6 : x1 = -1 := c6
            refine r_aload_n C (dx dX7_harms 50 rfl) rfl ?_
            refine r_bipush (v := -5) C (dx dX7_harms 51 rfl) rfl ?_
            refine r_cv (as := [vi (-5)]) (st := []) C X I_X7_refuse l_X7_83 (e_refuse mh9p (x := -5) (j := 5) (by decide) (by decide)) (by decide) (Nat.le_of_ble_eq_true rfl) List.prefix_rfl (pfx_eq kh9p) rfl rfl (Nat.le_of_ble_eq_true rfl) rfl (dx dX7_harms 52 rfl) ?_
            rintro _ h7 ⟨rfl, m9h7, qh7⟩ kkh7
            have mh7 : MilAt h7 k v := m9h7
            have ph7 : Kp k h h7 := ph9p.tr (qh7)
            have kh7 : xK h7 = xK h := (kkh7).trans kh9p
            refine r_goto (tgt := 93) C (dx dX7_harms 53 rfl) (by decide) ?_
            exact F.1 _ _ _ _ .int rfl rfl (dx dX7_harms 55 rfl) kh7 ⟨⟨_, rfl⟩, mh7, ph7⟩)
    · first
      | (omega; done)
      | (
          have c5 : p < vN v := c5
          refine r_aload_n C (dx dX7_harms 10 rfl) rfl ?_
          refine g_X7_54 C (dx dX7_harms 11 rfl) ?_
          refine r_iload C (dx dX7_harms 12 rfl) rfl ?_
          refine r_aald4 (j := p) C rfl rfl (by decide) rfl (by omega) (dx dX7_harms 13 rfl) ?_
          refine r_iconst (v := nI 2) C (dx dX7_harms 14 rfl) rfl ?_
          refine r_iald (j := 2) (x := vF v 6 p) C rfl rfl (by decide) rfl (by omega) (dx dX7_harms 15 rfl) (mh9p.eo (by omega) (by omega)) ?_
          refine r_if_ne (tgt := 72) C (dx dX7_harms 16 rfl) (by decide) (fun c8 => ?_) (fun c8 => ?_)
          ·
            have c8 : ¬ vF v 6 p = 0 := c8
            refine rn_iinc (a := p) (k := 1) (ls' := [(0, vr 7 k), (1, vi x1), (2, vl x2), (4, vi (nI (p + 1)))]) C (dx dX7_harms 45 rfl) rfl rfl (by decide) [1, 2, 3, 0] rfl ?_
            refine r_goto (tgt := 7) C (dx dX7_harms 46 rfl) (by decide) ?_
            exact ihp x1 x2 h9p mh9p ph9p kh9p
          ·
            have c8 : vF v 6 p = 0 := c8
            refine r_aload_n C (dx dX7_harms 17 rfl) rfl ?_
            refine g_X7_54 C (dx dX7_harms 18 rfl) ?_
            refine r_iload C (dx dX7_harms 19 rfl) rfl ?_
            refine r_aald4 (j := p) C rfl rfl (by decide) rfl (by omega) (dx dX7_harms 20 rfl) ?_
            refine r_iconst (v := nI 2) C (dx dX7_harms 21 rfl) rfl ?_
            refine r_iconst (v := nI 1) C (dx dX7_harms 22 rfl) rfl ?_
            refine r_iast (j := 2) C rfl rfl (by decide) rfl (by omega) (dx dX7_harms 23 rfl) ?_
            have mh9 : MilAt (sI h9p (k + 23 + p) 2 (nI 1)) k (vset v 6 p (nI 1)) := mh9p.so (by omega) (by omega)
            have ah9 : vP (vset v 6 p (nI 1)) = vP v := rfl
            have bh9 : vM (vset v 6 p (nI 1)) = vM v := rfl
            have ch9 : vN (vset v 6 p (nI 1)) = vN v := rfl
            have ph9 : Kp k h (sI h9p (k + 23 + p) 2 (nI 1)) := ph9p.tr (Kp.c (by omega) (by omega))
            have kh9 : xK (sI h9p (k + 23 + p) 2 (nI 1)) = xK h := kh9p
            generalize sI h9p (k + 23 + p) 2 (nI 1) = h9 at mh9 ph9 kh9 ⊢
            refine r_aload_n C (dx dX7_harms 24 rfl) rfl ?_
            refine r_cvW (as := []) (st := []) C X I_X7_day l_X7_295 (c_X7_day mh9) (by decide) (Nat.le_of_ble_eq_true rfl) (pfx_eq kh9) rfl rfl (Nat.le_of_ble_eq_true rfl) rfl (dx dX7_harms 25 rfl) ?_
            rintro _ ⟨x10, rfl⟩
            refine r_lstore (ls' := [(0, vr 7 k), (1, vi x1), (2, vl x2), (4, vi (nI p)), (5, vl x10)]) C (dx dX7_harms 26 rfl) (by decide) [1, 2, 3, 4, 0] rfl ?_
            refine r_aload_n C (dx dX7_harms 27 rfl) rfl ?_
            refine g_X7_54 C (dx dX7_harms 28 rfl) ?_
            refine r_iload C (dx dX7_harms 29 rfl) rfl ?_
            refine r_aald4 (j := p) C rfl rfl (by decide) rfl (by omega) (dx dX7_harms 30 rfl) ?_
            refine r_iconst (v := nI 2) C (dx dX7_harms 31 rfl) rfl ?_
            refine r_iconst (v := nI 0) C (dx dX7_harms 32 rfl) rfl ?_
            refine r_iast (j := 2) C rfl rfl (by decide) rfl (by omega) (dx dX7_harms 33 rfl) ?_
            have e9h11 : vset (vset v 6 p (nI 1)) 6 p (nI 0) = v := by rw [vset_two, show (nI 0) = vF v 6 p from (by first | rfl | exact Eq.symm (by assumption) | exact nI_0.trans (Eq.symm (by assumption))), vset_same]
            have mh11 : MilAt (sI h9 (k + 23 + p) 2 (nI 0)) k v := by have m9 : MilAt (sI h9 (k + 23 + p) 2 (nI 0)) k (vset (vset v 6 p (nI 1)) 6 p (nI 0)) := mh9.so (by omega) (by omega); rw [e9h11] at m9; exact m9
            have ah11 : vP (v) = vP v := rfl
            have bh11 : vM (v) = vM v := rfl
            have ch11 : vN (v) = vN v := rfl
            have ph11 : Kp k h (sI h9 (k + 23 + p) 2 (nI 0)) := ph9.tr (Kp.c (by omega) (by omega))
            have kh11 : xK (sI h9 (k + 23 + p) 2 (nI 0)) = xK h := kh9
            generalize sI h9 (k + 23 + p) 2 (nI 0) = h11 at mh11 ph11 kh11 ⊢
            refine r_iload_n C (dx dX7_harms 34 rfl) rfl ?_
            refine r_iconst (v := -1) C (dx dX7_harms 35 rfl) rfl ?_
            refine r_icmp_eq (tgt := 66) C (dx dX7_harms 36 rfl) (by decide) (fun c12 => ?_) (fun c12 => ?_)
            ·
              have c12 : x1 = -1 := c12
              refine r_iload C (dx dX7_harms 41 rfl) rfl ?_
              refine r_istore_n (ls' := [(0, vr 7 k), (1, vi (nI p)), (2, vl x2), (4, vi (nI p)), (5, vl x10)]) C (dx dX7_harms 42 rfl) (by decide) [1, 0, 2, 3, 4] rfl ?_
              refine r_lload C (dx dX7_harms 43 rfl) rfl ?_
              refine r_lstore_n (ls' := [(0, vr 7 k), (1, vi (nI p)), (2, vl x10), (4, vi (nI p)), (5, vl x10)]) C (dx dX7_harms 44 rfl) (by decide) [1, 2, 0, 3, 4] rfl ?_
              refine rn_iinc (a := p) (k := 1) (ls' := [(0, vr 7 k), (1, vi (nI p)), (2, vl x10), (4, vi (nI (p + 1))), (5, vl x10)]) C (dx dX7_harms 45 rfl) rfl rfl (by decide) [1, 2, 3, 0, 4] rfl ?_
              refine r_goto (tgt := 7) C (dx dX7_harms 46 rfl) (by decide) ?_
              refine r_weak C [0, 1, 2, 3] rfl ?_
              exact ihp (nI p) x10 h11 mh11 ph11 kh11
            ·
              have c12 : ¬ x1 = -1 := c12
              refine r_lload C (dx dX7_harms 37 rfl) rfl ?_
              refine r_lload_n C (dx dX7_harms 38 rfl) rfl ?_
              refine r_lcmp C (dx dX7_harms 39 rfl) ?_
              refine r_if_ge (tgt := 72) C (dx dX7_harms 40 rfl) (by decide) (fun c13 => ?_) (fun c13 => ?_)
              ·
                have c13 : x2 ≤ x10 := (lg_cmp_ge _ _).mp c13
                refine rn_iinc (a := p) (k := 1) (ls' := [(0, vr 7 k), (1, vi x1), (2, vl x2), (4, vi (nI (p + 1))), (5, vl x10)]) C (dx dX7_harms 45 rfl) rfl rfl (by decide) [1, 2, 3, 0, 4] rfl ?_
                refine r_goto (tgt := 7) C (dx dX7_harms 46 rfl) (by decide) ?_
                refine r_weak C [0, 1, 2, 3] rfl ?_
                exact ihp x1 x2 h11 mh11 ph11 kh11
              ·
                have c13 : ¬ (x2 ≤ x10) := fun q => c13 ((lg_cmp_ge _ _).mpr q)
                refine r_iload C (dx dX7_harms 41 rfl) rfl ?_
                refine r_istore_n (ls' := [(0, vr 7 k), (1, vi (nI p)), (2, vl x2), (4, vi (nI p)), (5, vl x10)]) C (dx dX7_harms 42 rfl) (by decide) [1, 0, 2, 3, 4] rfl ?_
                refine r_lload C (dx dX7_harms 43 rfl) rfl ?_
                refine r_lstore_n (ls' := [(0, vr 7 k), (1, vi (nI p)), (2, vl x10), (4, vi (nI p)), (5, vl x10)]) C (dx dX7_harms 44 rfl) (by decide) [1, 2, 0, 3, 4] rfl ?_
                refine rn_iinc (a := p) (k := 1) (ls' := [(0, vr 7 k), (1, vi (nI p)), (2, vl x10), (4, vi (nI (p + 1))), (5, vl x10)]) C (dx dX7_harms 45 rfl) rfl rfl (by decide) [1, 2, 3, 0, 4] rfl ?_
                refine r_goto (tgt := 7) C (dx dX7_harms 46 rfl) (by decide) ?_
                refine r_weak C [0, 1, 2, 3] rfl ?_
                exact ihp (nI p) x10 h11 mh11 ph11 kh11)
set_option maxHeartbeats 4000000 in
theorem v_X7_spare {l : Launch} {h : Hp} {k : Nat} {v : Vg} (hm : MilAt h k v)  : Ms l yX7_spare cX7_spare 8 (some .int) 8 [vr 7 k] h (xK h) (fun r h' => PI r ∧ MilAt h' k v ∧ Kp k h h') := by
  refine Ms.of (by decide) (Nat.le_of_ble_eq_true rfl) (fun G C X F => ?_)
  have C : Cx G cX7_spare 8 RX7 := C
  show Rr G 0 [(0, vr 7 k)] [] h
  have bP := hm.bP
  have bM := hm.bM
  have bN := hm.bN
  refine r_iconst (v := -1) C (dx dX7_spare 0 rfl) rfl ?_
  refine r_istore_n (ls' := [(0, vr 7 k), (1, vi (-1))]) C (dx dX7_spare 1 rfl) (by decide) [1, 0] rfl ?_
  refine r_aload_n C (dx dX7_spare 2 rfl) rfl ?_
  refine r_cvW (as := []) (st := []) C X I_X7_day l_X7_295 (c_X7_day hm) (by decide) (Nat.le_of_ble_eq_true rfl) List.prefix_rfl rfl rfl (Nat.le_of_ble_eq_true rfl) rfl (dx dX7_spare 3 rfl) ?_
  rintro _ ⟨x1, rfl⟩
  refine r_lstore_n (ls' := [(0, vr 7 k), (1, vi (-1)), (2, vl x1)]) C (dx dX7_spare 4 rfl) (by decide) [1, 2, 0] rfl ?_
  refine r_iconst (v := nI 0) C (dx dX7_spare 5 rfl) rfl ?_
  refine r_istore (ls' := [(0, vr 7 k), (1, vi (-1)), (2, vl x1), (4, vi (nI 0))]) C (dx dX7_spare 6 rfl) (by decide) [1, 2, 3, 0] rfl ?_
  refine loopU (Φ := fun p => ∀ (x1 : Int32), ∀ (x2 : Int64), ∀ (h9p : Hp), MilAt h9p k v → Kp k h h9p → xK h9p = xK h → Rr G 10 [(0, vr 7 k), (1, vi x1), (2, vl x2), (4, vi (nI p))] [] h9p) (N := vP v) ?_ ?_ 0 (by omega) (-1) x1 h hm Kp.rf rfl
  ·
    intro  x1 x2 h9p mh9p ph9p kh9p
    refine r_iload C (dx dX7_spare 7 rfl) rfl ?_
    refine r_aload_n C (dx dX7_spare 8 rfl) rfl ?_
    refine g_X7_64 (x := nI (vP v)) C (dx dX7_spare 9 rfl) mh9p.eP ?_
    refine rn_ge (a := vP v) (b := vP v) (tgt := 117) C (by omega) (by omega) (dx dX7_spare 10 rfl) (by decide) (fun c2 => ?_) (fun c2 => ?_)
    · first
      | (omega; done)
      | (
          have c2 : vP v ≤ vP v := c2
          refine r_iload_n C (dx dX7_spare 62 rfl) rfl ?_
          exact F.1 _ _ _ _ .int rfl rfl (dx dX7_spare 63 rfl) kh9p ⟨⟨_, rfl⟩, mh9p, ph9p⟩)
    · first
      | (omega; done)
      | (
          have c2 : vP v < vP v := c2
          refine r_iconst (v := nI 0) C (dx dX7_spare 11 rfl) rfl ?_
          refine r_istore (ls' := [(0, vr 7 k), (1, vi x1), (2, vl x2), (4, vi (nI (vP v))), (5, vi (nI 0))]) C (dx dX7_spare 12 rfl) (by decide) [1, 2, 3, 4, 0] rfl ?_
          refine loopU (Φ := fun q => ∀ (x1 : Int32), ∀ (x2 : Int64), ∀ (h9q : Hp), MilAt h9q k v → Kp k h h9q → xK h9q = xK h → Rr G 22 [(0, vr 7 k), (1, vi x1), (2, vl x2), (4, vi (nI (vP v))), (5, vi (nI q))] [] h9q) (N := vN v) ?_ ?_ 0 (by omega) x1 x2 h9p mh9p ph9p kh9p
          ·
            intro  x1 x2 h9q mh9q ph9q kh9q
            refine r_iload C (dx dX7_spare 13 rfl) rfl ?_
            refine r_aload_n C (dx dX7_spare 14 rfl) rfl ?_
            refine g_X7_74 (x := nI (vN v)) C (dx dX7_spare 15 rfl) mh9q.eN ?_
            refine rn_ge (a := vN v) (b := vN v) (tgt := 111) C (by omega) (by omega) (dx dX7_spare 16 rfl) (by decide) (fun c3 => ?_) (fun c3 => ?_)
            · first
              | (omega; done)
            · first
              | (omega; done)
          ·
            intro q hq ihq x1 x2 h9q mh9q ph9q kh9q
            refine r_iload C (dx dX7_spare 13 rfl) rfl ?_
            refine r_aload_n C (dx dX7_spare 14 rfl) rfl ?_
            refine g_X7_74 (x := nI (vN v)) C (dx dX7_spare 15 rfl) mh9q.eN ?_
            refine rn_ge (a := q) (b := vN v) (tgt := 111) C (by omega) (by omega) (dx dX7_spare 16 rfl) (by decide) (fun c5 => ?_) (fun c5 => ?_)
            · first
              | (omega; done)
            · first
              | (omega; done))
  ·
    intro p hp ihp x1 x2 h9p mh9p ph9p kh9p
    refine r_iload C (dx dX7_spare 7 rfl) rfl ?_
    refine r_aload_n C (dx dX7_spare 8 rfl) rfl ?_
    refine g_X7_64 (x := nI (vP v)) C (dx dX7_spare 9 rfl) mh9p.eP ?_
    refine rn_ge (a := p) (b := vP v) (tgt := 117) C (by omega) (by omega) (dx dX7_spare 10 rfl) (by decide) (fun c7 => ?_) (fun c7 => ?_)
    · first
      | (omega; done)
      | (
          have c7 : vP v ≤ p := c7
          refine r_iload_n C (dx dX7_spare 62 rfl) rfl ?_
          exact F.1 _ _ _ _ .int rfl rfl (dx dX7_spare 63 rfl) kh9p ⟨⟨_, rfl⟩, mh9p, ph9p⟩)
    · first
      | (omega; done)
      | (
          have c7 : p < vP v := c7
          refine r_iconst (v := nI 0) C (dx dX7_spare 11 rfl) rfl ?_
          refine r_istore (ls' := [(0, vr 7 k), (1, vi x1), (2, vl x2), (4, vi (nI p)), (5, vi (nI 0))]) C (dx dX7_spare 12 rfl) (by decide) [1, 2, 3, 4, 0] rfl ?_
          refine loopU (Φ := fun q => ∀ (x1 : Int32), ∀ (x2 : Int64), ∀ (h9q : Hp), MilAt h9q k v → Kp k h h9q → xK h9q = xK h → Rr G 22 [(0, vr 7 k), (1, vi x1), (2, vl x2), (4, vi (nI p)), (5, vi (nI q))] [] h9q) (N := vN v) ?_ ?_ 0 (by omega) x1 x2 h9p mh9p ph9p kh9p
          ·
            intro  x1 x2 h9q mh9q ph9q kh9q
            refine r_iload C (dx dX7_spare 13 rfl) rfl ?_
            refine r_aload_n C (dx dX7_spare 14 rfl) rfl ?_
            refine g_X7_74 (x := nI (vN v)) C (dx dX7_spare 15 rfl) mh9q.eN ?_
            refine rn_ge (a := vN v) (b := vN v) (tgt := 111) C (by omega) (by omega) (dx dX7_spare 16 rfl) (by decide) (fun c8 => ?_) (fun c8 => ?_)
            · first
              | (omega; done)
              | (
                  have c8 : vN v ≤ vN v := c8
                  refine rn_iinc (a := p) (k := 1) (ls' := [(0, vr 7 k), (1, vi x1), (2, vl x2), (4, vi (nI (p + 1))), (5, vi (nI (vN v)))]) C (dx dX7_spare 60 rfl) rfl rfl (by decide) [1, 2, 3, 0, 4] rfl ?_
                  refine r_goto (tgt := 10) C (dx dX7_spare 61 rfl) (by decide) ?_
                  refine r_weak C [0, 1, 2, 3] rfl ?_
                  exact ihp x1 x2 h9q mh9q ph9q kh9q)
            · first
              | (omega; done)
          ·
            intro q hq ihq x1 x2 h9q mh9q ph9q kh9q
            refine r_iload C (dx dX7_spare 13 rfl) rfl ?_
            refine r_aload_n C (dx dX7_spare 14 rfl) rfl ?_
            refine g_X7_74 (x := nI (vN v)) C (dx dX7_spare 15 rfl) mh9q.eN ?_
            refine rn_ge (a := q) (b := vN v) (tgt := 111) C (by omega) (by omega) (dx dX7_spare 16 rfl) (by decide) (fun c11 => ?_) (fun c11 => ?_)
            · first
              | (omega; done)
              | (
                  have c11 : vN v ≤ q := c11
                  refine rn_iinc (a := p) (k := 1) (ls' := [(0, vr 7 k), (1, vi x1), (2, vl x2), (4, vi (nI (p + 1))), (5, vi (nI q))]) C (dx dX7_spare 60 rfl) rfl rfl (by decide) [1, 2, 3, 0, 4] rfl ?_
                  refine r_goto (tgt := 10) C (dx dX7_spare 61 rfl) (by decide) ?_
                  refine r_weak C [0, 1, 2, 3] rfl ?_
                  exact ihp x1 x2 h9q mh9q ph9q kh9q)
            · first
              | (omega; done)
              | (
                  have c11 : q < vN v := c11
                  refine r_aload_n C (dx dX7_spare 17 rfl) rfl ?_
                  refine g_X7_43 C (dx dX7_spare 18 rfl) ?_
                  refine r_iload C (dx dX7_spare 19 rfl) rfl ?_
                  refine r_iald (j := p) (x := vF v 1 p) C rfl rfl (by decide) rfl (by omega) (dx dX7_spare 20 rfl) (mh9q.e1 (by omega)) ?_
                  refine r_iconst (v := -1) C (dx dX7_spare 21 rfl) rfl ?_
                  refine r_icmp_ne (tgt := 111) C (dx dX7_spare 22 rfl) (by decide) (fun c12 => ?_) (fun c12 => ?_)
                  ·
                    have c12 : ¬ vF v 1 p = -1 := c12
                    refine rn_iinc (a := p) (k := 1) (ls' := [(0, vr 7 k), (1, vi x1), (2, vl x2), (4, vi (nI (p + 1))), (5, vi (nI q))]) C (dx dX7_spare 60 rfl) rfl rfl (by decide) [1, 2, 3, 0, 4] rfl ?_
                    refine r_goto (tgt := 10) C (dx dX7_spare 61 rfl) (by decide) ?_
                    refine r_weak C [0, 1, 2, 3] rfl ?_
                    exact ihp x1 x2 h9q mh9q ph9q kh9q
                  ·
                    have c12 : vF v 1 p = -1 := c12
                    refine r_iload C (dx dX7_spare 23 rfl) rfl ?_
                    refine r_aload_n C (dx dX7_spare 24 rfl) rfl ?_
                    refine g_X7_40 C (dx dX7_spare 25 rfl) ?_
                    refine r_iload C (dx dX7_spare 26 rfl) rfl ?_
                    refine r_iald (j := p) (x := vF v 0 p) C rfl rfl (by decide) rfl (by omega) (dx dX7_spare 27 rfl) (mh9q.e0 (by omega)) ?_
                    refine r_icmp_eq (tgt := 105) C (dx dX7_spare 28 rfl) (by decide) (fun c13 => ?_) (fun c13 => ?_)
                    ·
                      have c13 : nI q = vF v 0 p := c13
                      refine rn_iinc (a := q) (k := 1) (ls' := [(0, vr 7 k), (1, vi x1), (2, vl x2), (4, vi (nI p)), (5, vi (nI (q + 1)))]) C (dx dX7_spare 58 rfl) rfl rfl (by decide) [1, 2, 3, 4, 0] rfl ?_
                      refine r_goto (tgt := 22) C (dx dX7_spare 59 rfl) (by decide) ?_
                      exact ihq x1 x2 h9q mh9q ph9q kh9q
                    ·
                      have c13 : ¬ nI q = vF v 0 p := c13
                      refine r_aload_n C (dx dX7_spare 29 rfl) rfl ?_
                      refine r_iload C (dx dX7_spare 30 rfl) rfl ?_
                      refine r_cvW (as := [vi (nI q)]) (st := []) C X I_X7_hasRoom l_X7_135 (c_X7_hasRoom mh9q (j := q) (by omega)) (by decide) (Nat.le_of_ble_eq_true rfl) (pfx_eq kh9q) rfl rfl (Nat.le_of_ble_eq_true rfl) rfl (dx dX7_spare 31 rfl) ?_
                      rintro _ ⟨x14, rfl⟩
                      refine rb_eq (b := x14) (tgt := 105) C (dx dX7_spare 32 rfl) (by decide) (fun c15 => ?_) (fun c15 => ?_)
                      ·
                        have c15 : x14 = false := c15
                        refine rn_iinc (a := q) (k := 1) (ls' := [(0, vr 7 k), (1, vi x1), (2, vl x2), (4, vi (nI p)), (5, vi (nI (q + 1)))]) C (dx dX7_spare 58 rfl) rfl rfl (by decide) [1, 2, 3, 4, 0] rfl ?_
                        refine r_goto (tgt := 22) C (dx dX7_spare 59 rfl) (by decide) ?_
                        exact ihq x1 x2 h9q mh9q ph9q kh9q
                      ·
                        have c15 : x14 = true := c15
                        refine r_aload_n C (dx dX7_spare 33 rfl) rfl ?_
                        refine g_X7_43 C (dx dX7_spare 34 rfl) ?_
                        refine r_iload C (dx dX7_spare 35 rfl) rfl ?_
                        refine r_iload C (dx dX7_spare 36 rfl) rfl ?_
                        refine r_iast (j := p) C rfl rfl (by decide) rfl (by omega) (dx dX7_spare 37 rfl) ?_
                        have mh16 : MilAt (sI h9q (k + 19) p (nI q)) k (vset v 1 p (nI q)) := mh9q.s1
                        have ah16 : vP (vset v 1 p (nI q)) = vP v := rfl
                        have bh16 : vM (vset v 1 p (nI q)) = vM v := rfl
                        have ch16 : vN (vset v 1 p (nI q)) = vN v := rfl
                        have ph16 : Kp k h (sI h9q (k + 19) p (nI q)) := ph9q.tr (Kp.c (by omega) (by omega))
                        have kh16 : xK (sI h9q (k + 19) p (nI q)) = xK h := kh9q
                        generalize sI h9q (k + 19) p (nI q) = h16 at mh16 ph16 kh16 ⊢
                        refine r_aload_n C (dx dX7_spare 38 rfl) rfl ?_
                        refine r_cvW (as := []) (st := []) C X I_X7_day l_X7_295 (c_X7_day mh16) (by decide) (Nat.le_of_ble_eq_true rfl) (pfx_eq kh16) rfl rfl (Nat.le_of_ble_eq_true rfl) rfl (dx dX7_spare 39 rfl) ?_
                        rintro _ ⟨x17, rfl⟩
                        refine r_lstore (ls' := [(0, vr 7 k), (1, vi x1), (2, vl x2), (4, vi (nI p)), (5, vi (nI q)), (6, vl x17)]) C (dx dX7_spare 40 rfl) (by decide) [1, 2, 3, 4, 5, 0] rfl ?_
                        refine r_aload_n C (dx dX7_spare 41 rfl) rfl ?_
                        refine g_X7_43 C (dx dX7_spare 42 rfl) ?_
                        refine r_iload C (dx dX7_spare 43 rfl) rfl ?_
                        refine r_iconst (v := -1) C (dx dX7_spare 44 rfl) rfl ?_
                        refine r_iast (j := p) C rfl rfl (by decide) rfl (by omega) (dx dX7_spare 45 rfl) ?_
                        have e9h18 : vset (vset v 1 p (nI q)) 1 p (-1) = v := by rw [vset_two, show (-1) = vF v 1 p from (by first | rfl | exact Eq.symm (by assumption) | exact nI_0.trans (Eq.symm (by assumption))), vset_same]
                        have mh18 : MilAt (sI h16 (k + 19) p (-1)) k v := by have m9 : MilAt (sI h16 (k + 19) p (-1)) k (vset (vset v 1 p (nI q)) 1 p (-1)) := mh16.s1; rw [e9h18] at m9; exact m9
                        have ah18 : vP (v) = vP v := rfl
                        have bh18 : vM (v) = vM v := rfl
                        have ch18 : vN (v) = vN v := rfl
                        have ph18 : Kp k h (sI h16 (k + 19) p (-1)) := ph16.tr (Kp.c (by omega) (by omega))
                        have kh18 : xK (sI h16 (k + 19) p (-1)) = xK h := kh16
                        generalize sI h16 (k + 19) p (-1) = h18 at mh18 ph18 kh18 ⊢
                        refine r_lload C (dx dX7_spare 46 rfl) rfl ?_
                        refine r_lload_n C (dx dX7_spare 47 rfl) rfl ?_
                        refine r_lcmp C (dx dX7_spare 48 rfl) ?_
                        refine r_if_le (tgt := 105) C (dx dX7_spare 49 rfl) (by decide) (fun c19 => ?_) (fun c19 => ?_)
                        ·
                          have c19 : x17 ≤ x2 := (lg_cmp_le _ _).mp c19
                          refine rn_iinc (a := q) (k := 1) (ls' := [(0, vr 7 k), (1, vi x1), (2, vl x2), (4, vi (nI p)), (5, vi (nI (q + 1))), (6, vl x17)]) C (dx dX7_spare 58 rfl) rfl rfl (by decide) [1, 2, 3, 4, 0, 5] rfl ?_
                          refine r_goto (tgt := 22) C (dx dX7_spare 59 rfl) (by decide) ?_
                          refine r_weak C [0, 1, 2, 3, 4] rfl ?_
                          exact ihq x1 x2 h18 mh18 ph18 kh18
                        ·
                          have c19 : ¬ (x17 ≤ x2) := fun q => c19 ((lg_cmp_le _ _).mpr q)
                          refine r_bipush (v := nI 10) C (dx dX7_spare 50 rfl) rfl ?_
                          refine r_iload C (dx dX7_spare 51 rfl) rfl ?_
                          refine rn_imul (a := 10) (b := p) C (dx dX7_spare 52 rfl) ?_
                          refine r_iload C (dx dX7_spare 53 rfl) rfl ?_
                          refine rn_iadd (a := 10 * p) (b := q) C (dx dX7_spare 54 rfl) ?_
                          refine r_istore_n (ls' := [(0, vr 7 k), (1, vi (nI (10 * p + q))), (2, vl x2), (4, vi (nI p)), (5, vi (nI q)), (6, vl x17)]) C (dx dX7_spare 55 rfl) (by decide) [1, 0, 2, 3, 4, 5] rfl ?_
                          refine r_lload C (dx dX7_spare 56 rfl) rfl ?_
                          refine r_lstore_n (ls' := [(0, vr 7 k), (1, vi (nI (10 * p + q))), (2, vl x17), (4, vi (nI p)), (5, vi (nI q)), (6, vl x17)]) C (dx dX7_spare 57 rfl) (by decide) [1, 2, 0, 3, 4, 5] rfl ?_
                          refine rn_iinc (a := q) (k := 1) (ls' := [(0, vr 7 k), (1, vi (nI (10 * p + q))), (2, vl x17), (4, vi (nI p)), (5, vi (nI (q + 1))), (6, vl x17)]) C (dx dX7_spare 58 rfl) rfl rfl (by decide) [1, 2, 3, 4, 0, 5] rfl ?_
                          refine r_goto (tgt := 22) C (dx dX7_spare 59 rfl) (by decide) ?_
                          refine r_weak C [0, 1, 2, 3, 4] rfl ?_
                          exact ihq (nI (10 * p + q)) x17 h18 mh18 ph18 kh18))
set_option maxHeartbeats 4000000 in
theorem v_X7_gift {l : Launch} {h : Hp} {k : Nat} {v : Vg} (hm : MilAt h k v) (p o1 : Int32) : Ms l yX7_gift cX7_gift 8 (some .long) 8 [vr 7 k, vi p, vi o1] h (xK h) (fun r h' => PL r ∧ MilAt h' k v ∧ Kp k h h') := by
  refine Ms.of (by decide) (Nat.le_of_ble_eq_true rfl) (fun G C X F => ?_)
  have C : Cx G cX7_gift 8 RX7 := C
  show Rr G 0 [(0, vr 7 k), (1, vi p), (2, vi o1)] [] h
  have bP := hm.bP
  have bM := hm.bM
  have bN := hm.bN
  refine r_aload_n C (dx dX7_gift 0 rfl) rfl ?_
  refine r_iload_n C (dx dX7_gift 1 rfl) rfl ?_
  refine r_cvP (as := [vi p]) (st := []) (v := vi (b2i (inR p (vP v)))) C X I_X7_isPart l_X7_132 (c_X7_isPart hm _) (by decide) (Nat.le_of_ble_eq_true rfl) List.prefix_rfl rfl rfl (Nat.le_of_ble_eq_true rfl) rfl (dx dX7_gift 2 rfl) ?_
  refine rb_eq (b := inR p (vP v)) (tgt := 16) C (dx dX7_gift 3 rfl) (by decide) (fun c1 => ?_) (fun c1 => ?_)
  ·
    have c1 : (inR p (vP v)) = false := c1
    refine r_aload_n C (dx dX7_gift 8 rfl) rfl ?_
    refine r_bipush (v := -2) C (dx dX7_gift 9 rfl) rfl ?_
    refine r_cv (as := [vi (-2)]) (st := []) C X I_X7_refuse l_X7_83 (e_refuse hm (x := -2) (j := 2) (by decide) (by decide)) (by decide) (Nat.le_of_ble_eq_true rfl) List.prefix_rfl List.prefix_rfl rfl rfl (Nat.le_of_ble_eq_true rfl) rfl (dx dX7_gift 10 rfl) ?_
    rintro _ h2 ⟨rfl, m9h2, qh2⟩ kkh2
    have mh2 : MilAt h2 k v := m9h2
    have ph2 : Kp k h h2 := qh2
    have kh2 : xK h2 = xK h := kkh2
    refine r_i2l C (dx dX7_gift 11 rfl) ?_
    refine r_ldc2 C n_X7_320 (dx dX7_gift 12 rfl) ?_
    refine r_lsub C (dx dX7_gift 13 rfl) ?_
    exact F.2.1 _ _ _ _ rfl (dx dX7_gift 14 rfl) kh2 ⟨⟨_, rfl⟩, mh2, ph2⟩
  ·
    have c1 : (inR p (vP v)) = true := c1
    obtain ⟨π, hπ, rfl⟩ := inR_ex (n := (vP v)) (by omega) c1
    refine r_aload_n C (dx dX7_gift 4 rfl) rfl ?_
    refine r_iload_n C (dx dX7_gift 5 rfl) rfl ?_
    refine r_cvP (as := [vi o1]) (st := []) (v := vi (b2i (inR o1 (vN v)))) C X I_X7_isOne l_X7_125 (c_X7_isOne hm _) (by decide) (Nat.le_of_ble_eq_true rfl) List.prefix_rfl rfl rfl (Nat.le_of_ble_eq_true rfl) rfl (dx dX7_gift 6 rfl) ?_
    refine rb_ne (b := inR o1 (vN v)) (tgt := 28) C (dx dX7_gift 7 rfl) (by decide) (fun c3 => ?_) (fun c3 => ?_)
    ·
      have c3 : (inR o1 (vN v)) = true := c3
      obtain ⟨o19, ho19, rfl⟩ := inR_ex (n := (vN v)) (by omega) c3
      refine r_aload_n C (dx dX7_gift 15 rfl) rfl ?_
      refine g_X7_40 C (dx dX7_gift 16 rfl) ?_
      refine r_iload_n C (dx dX7_gift 17 rfl) rfl ?_
      refine r_iald (j := π) (x := vF v 0 π) C rfl rfl (by decide) rfl (by omega) (dx dX7_gift 18 rfl) (hm.e0 (by omega)) ?_
      refine r_istore_n (ls' := [(0, vr 7 k), (1, vi (nI π)), (2, vi (nI o19)), (3, vi (vF v 0 π))]) C (dx dX7_gift 19 rfl) (by decide) [1, 2, 3, 0] rfl ?_
      refine r_iload_n C (dx dX7_gift 20 rfl) rfl ?_
      refine r_iload_n C (dx dX7_gift 21 rfl) rfl ?_
      refine r_icmp_eq (tgt := 60) C (dx dX7_gift 22 rfl) (by decide) (fun c4 => ?_) (fun c4 => ?_)
      ·
        have c4 : vF v 0 π = nI o19 := c4
        refine r_aload_n C (dx dX7_gift 34 rfl) rfl ?_
        refine r_cvW (as := []) (st := []) C X I_X7_day l_X7_295 (c_X7_day hm) (by decide) (Nat.le_of_ble_eq_true rfl) List.prefix_rfl rfl rfl (Nat.le_of_ble_eq_true rfl) rfl (dx dX7_gift 35 rfl) ?_
        rintro _ ⟨x5, rfl⟩
        refine r_lstore (ls' := [(0, vr 7 k), (1, vi (nI π)), (2, vi (nI o19)), (3, vi (vF v 0 π)), (4, vl x5)]) C (dx dX7_gift 36 rfl) (by decide) [1, 2, 3, 4, 0] rfl ?_
        refine r_aload_n C (dx dX7_gift 37 rfl) rfl ?_
        refine g_X7_40 C (dx dX7_gift 38 rfl) ?_
        refine r_iload_n C (dx dX7_gift 39 rfl) rfl ?_
        refine r_iload_n C (dx dX7_gift 40 rfl) rfl ?_
        refine r_iast (j := π) C rfl rfl (by decide) rfl (by omega) (dx dX7_gift 41 rfl) ?_
        have mh6 : MilAt (sI h (k + 18) π (nI o19)) k (vset v 0 π (nI o19)) := hm.s0
        have ah6 : vP (vset v 0 π (nI o19)) = vP v := rfl
        have bh6 : vM (vset v 0 π (nI o19)) = vM v := rfl
        have ch6 : vN (vset v 0 π (nI o19)) = vN v := rfl
        have ph6 : Kp k h (sI h (k + 18) π (nI o19)) := Kp.c (by omega) (by omega)
        have kh6 : xK (sI h (k + 18) π (nI o19)) = xK h := rfl
        generalize sI h (k + 18) π (nI o19) = h6 at mh6 ph6 kh6 ⊢
        refine r_aload_n C (dx dX7_gift 42 rfl) rfl ?_
        refine r_cvW (as := []) (st := []) C X I_X7_day l_X7_295 (c_X7_day mh6) (by decide) (Nat.le_of_ble_eq_true rfl) (pfx_eq kh6) rfl rfl (Nat.le_of_ble_eq_true rfl) rfl (dx dX7_gift 43 rfl) ?_
        rintro _ ⟨x7, rfl⟩
        refine r_lstore (ls' := [(0, vr 7 k), (1, vi (nI π)), (2, vi (nI o19)), (3, vi (vF v 0 π)), (4, vl x5), (6, vl x7)]) C (dx dX7_gift 44 rfl) (by decide) [1, 2, 3, 4, 5, 0] rfl ?_
        refine r_aload_n C (dx dX7_gift 45 rfl) rfl ?_
        refine g_X7_40 C (dx dX7_gift 46 rfl) ?_
        refine r_iload_n C (dx dX7_gift 47 rfl) rfl ?_
        refine r_iload_n C (dx dX7_gift 48 rfl) rfl ?_
        refine r_iast (j := π) C rfl rfl (by decide) rfl (by omega) (dx dX7_gift 49 rfl) ?_
        have e9h8 : vset (vset v 0 π (nI o19)) 0 π (vF v 0 π) = v := by rw [vset_two, show (vF v 0 π) = vF v 0 π from (by first | rfl | exact Eq.symm (by assumption) | exact nI_0.trans (Eq.symm (by assumption))), vset_same]
        have mh8 : MilAt (sI h6 (k + 18) π (vF v 0 π)) k v := by have m9 : MilAt (sI h6 (k + 18) π (vF v 0 π)) k (vset (vset v 0 π (nI o19)) 0 π (vF v 0 π)) := mh6.s0; rw [e9h8] at m9; exact m9
        have ah8 : vP (v) = vP v := rfl
        have bh8 : vM (v) = vM v := rfl
        have ch8 : vN (v) = vN v := rfl
        have ph8 : Kp k h (sI h6 (k + 18) π (vF v 0 π)) := ph6.tr (Kp.c (by omega) (by omega))
        have kh8 : xK (sI h6 (k + 18) π (vF v 0 π)) = xK h := kh6
        generalize sI h6 (k + 18) π (vF v 0 π) = h8 at mh8 ph8 kh8 ⊢
        refine r_lload C (dx dX7_gift 50 rfl) rfl ?_
        refine r_lload C (dx dX7_gift 51 rfl) rfl ?_
        refine r_lsub C (dx dX7_gift 52 rfl) ?_
        exact F.2.1 _ _ _ _ rfl (dx dX7_gift 53 rfl) kh8 ⟨⟨_, rfl⟩, mh8, ph8⟩
      ·
        have c4 : ¬ vF v 0 π = nI o19 := c4
        refine r_aload_n C (dx dX7_gift 23 rfl) rfl ?_
        refine r_iload_n C (dx dX7_gift 24 rfl) rfl ?_
        refine r_cvW (as := [vi (nI o19)]) (st := []) C X I_X7_hasRoom l_X7_135 (c_X7_hasRoom hm (j := o19) (by omega)) (by decide) (Nat.le_of_ble_eq_true rfl) List.prefix_rfl rfl rfl (Nat.le_of_ble_eq_true rfl) rfl (dx dX7_gift 25 rfl) ?_
        rintro _ ⟨x9, rfl⟩
        refine rb_ne (b := x9) (tgt := 60) C (dx dX7_gift 26 rfl) (by decide) (fun c10 => ?_) (fun c10 => ?_)
        ·
          have c10 : x9 = true := c10
          refine r_aload_n C (dx dX7_gift 34 rfl) rfl ?_
          refine r_cvW (as := []) (st := []) C X I_X7_day l_X7_295 (c_X7_day hm) (by decide) (Nat.le_of_ble_eq_true rfl) List.prefix_rfl rfl rfl (Nat.le_of_ble_eq_true rfl) rfl (dx dX7_gift 35 rfl) ?_
          rintro _ ⟨x11, rfl⟩
          refine r_lstore (ls' := [(0, vr 7 k), (1, vi (nI π)), (2, vi (nI o19)), (3, vi (vF v 0 π)), (4, vl x11)]) C (dx dX7_gift 36 rfl) (by decide) [1, 2, 3, 4, 0] rfl ?_
          refine r_aload_n C (dx dX7_gift 37 rfl) rfl ?_
          refine g_X7_40 C (dx dX7_gift 38 rfl) ?_
          refine r_iload_n C (dx dX7_gift 39 rfl) rfl ?_
          refine r_iload_n C (dx dX7_gift 40 rfl) rfl ?_
          refine r_iast (j := π) C rfl rfl (by decide) rfl (by omega) (dx dX7_gift 41 rfl) ?_
          have mh12 : MilAt (sI h (k + 18) π (nI o19)) k (vset v 0 π (nI o19)) := hm.s0
          have ah12 : vP (vset v 0 π (nI o19)) = vP v := rfl
          have bh12 : vM (vset v 0 π (nI o19)) = vM v := rfl
          have ch12 : vN (vset v 0 π (nI o19)) = vN v := rfl
          have ph12 : Kp k h (sI h (k + 18) π (nI o19)) := Kp.c (by omega) (by omega)
          have kh12 : xK (sI h (k + 18) π (nI o19)) = xK h := rfl
          generalize sI h (k + 18) π (nI o19) = h12 at mh12 ph12 kh12 ⊢
          refine r_aload_n C (dx dX7_gift 42 rfl) rfl ?_
          refine r_cvW (as := []) (st := []) C X I_X7_day l_X7_295 (c_X7_day mh12) (by decide) (Nat.le_of_ble_eq_true rfl) (pfx_eq kh12) rfl rfl (Nat.le_of_ble_eq_true rfl) rfl (dx dX7_gift 43 rfl) ?_
          rintro _ ⟨x13, rfl⟩
          refine r_lstore (ls' := [(0, vr 7 k), (1, vi (nI π)), (2, vi (nI o19)), (3, vi (vF v 0 π)), (4, vl x11), (6, vl x13)]) C (dx dX7_gift 44 rfl) (by decide) [1, 2, 3, 4, 5, 0] rfl ?_
          refine r_aload_n C (dx dX7_gift 45 rfl) rfl ?_
          refine g_X7_40 C (dx dX7_gift 46 rfl) ?_
          refine r_iload_n C (dx dX7_gift 47 rfl) rfl ?_
          refine r_iload_n C (dx dX7_gift 48 rfl) rfl ?_
          refine r_iast (j := π) C rfl rfl (by decide) rfl (by omega) (dx dX7_gift 49 rfl) ?_
          have e9h14 : vset (vset v 0 π (nI o19)) 0 π (vF v 0 π) = v := by rw [vset_two, show (vF v 0 π) = vF v 0 π from (by first | rfl | exact Eq.symm (by assumption) | exact nI_0.trans (Eq.symm (by assumption))), vset_same]
          have mh14 : MilAt (sI h12 (k + 18) π (vF v 0 π)) k v := by have m9 : MilAt (sI h12 (k + 18) π (vF v 0 π)) k (vset (vset v 0 π (nI o19)) 0 π (vF v 0 π)) := mh12.s0; rw [e9h14] at m9; exact m9
          have ah14 : vP (v) = vP v := rfl
          have bh14 : vM (v) = vM v := rfl
          have ch14 : vN (v) = vN v := rfl
          have ph14 : Kp k h (sI h12 (k + 18) π (vF v 0 π)) := ph12.tr (Kp.c (by omega) (by omega))
          have kh14 : xK (sI h12 (k + 18) π (vF v 0 π)) = xK h := kh12
          generalize sI h12 (k + 18) π (vF v 0 π) = h14 at mh14 ph14 kh14 ⊢
          refine r_lload C (dx dX7_gift 50 rfl) rfl ?_
          refine r_lload C (dx dX7_gift 51 rfl) rfl ?_
          refine r_lsub C (dx dX7_gift 52 rfl) ?_
          exact F.2.1 _ _ _ _ rfl (dx dX7_gift 53 rfl) kh14 ⟨⟨_, rfl⟩, mh14, ph14⟩
        ·
          have c10 : x9 = false := c10
          refine r_aload_n C (dx dX7_gift 27 rfl) rfl ?_
          refine r_bipush (v := -5) C (dx dX7_gift 28 rfl) rfl ?_
          refine r_cv (as := [vi (-5)]) (st := []) C X I_X7_refuse l_X7_83 (e_refuse hm (x := -5) (j := 5) (by decide) (by decide)) (by decide) (Nat.le_of_ble_eq_true rfl) List.prefix_rfl List.prefix_rfl rfl rfl (Nat.le_of_ble_eq_true rfl) rfl (dx dX7_gift 29 rfl) ?_
          rintro _ h15 ⟨rfl, m9h15, qh15⟩ kkh15
          have mh15 : MilAt h15 k v := m9h15
          have ph15 : Kp k h h15 := qh15
          have kh15 : xK h15 = xK h := kkh15
          refine r_i2l C (dx dX7_gift 30 rfl) ?_
          refine r_ldc2 C n_X7_320 (dx dX7_gift 31 rfl) ?_
          refine r_lsub C (dx dX7_gift 32 rfl) ?_
          exact F.2.1 _ _ _ _ rfl (dx dX7_gift 33 rfl) kh15 ⟨⟨_, rfl⟩, mh15, ph15⟩
    ·
      have c3 : (inR o1 (vN v)) = false := c3
      refine r_aload_n C (dx dX7_gift 8 rfl) rfl ?_
      refine r_bipush (v := -2) C (dx dX7_gift 9 rfl) rfl ?_
      refine r_cv (as := [vi (-2)]) (st := []) C X I_X7_refuse l_X7_83 (e_refuse hm (x := -2) (j := 2) (by decide) (by decide)) (by decide) (Nat.le_of_ble_eq_true rfl) List.prefix_rfl List.prefix_rfl rfl rfl (Nat.le_of_ble_eq_true rfl) rfl (dx dX7_gift 10 rfl) ?_
      rintro _ h16 ⟨rfl, m9h16, qh16⟩ kkh16
      have mh16 : MilAt h16 k v := m9h16
      have ph16 : Kp k h h16 := qh16
      have kh16 : xK h16 = xK h := kkh16
      refine r_i2l C (dx dX7_gift 11 rfl) ?_
      refine r_ldc2 C n_X7_320 (dx dX7_gift 12 rfl) ?_
      refine r_lsub C (dx dX7_gift 13 rfl) ?_
      exact F.2.1 _ _ _ _ rfl (dx dX7_gift 14 rfl) kh16 ⟨⟨_, rfl⟩, mh16, ph16⟩

