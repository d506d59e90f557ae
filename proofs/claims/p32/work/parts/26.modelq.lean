/-! PART 26: the reference: questions -/
theorem pmod {a b : Nat} (ha : a < 2 ^ 31) (hb : b < 2 ^ 31) (h0 : 0 < b) : nI a - nI a / nI b * nI b = nI (a % b) := by
  have e : nI a / nI b = nI (a / b) := by
    apply Int32.toInt_inj.mp
    have h1 : a / b ≤ a := Nat.div_le_self a b
    rw [Int32.toInt_div, nI_toInt ha, nI_toInt hb, nI_toInt (by omega)]
    rw [show (a : Int).tdiv (b : Int) = ((a / b : Nat) : Int) from (Int.ofNat_tdiv a b).symm ▸ rfl]
    generalize a / b = q at h1 ⊢
    exact Int.bmod_eq_of_le (by omega) (by omega)
  rw [e, pk_mul, pk_sub (Nat.div_mul_le_self a b)]
  congr 1
  have := Nat.div_add_mod a b
  rw [Nat.mul_comm] at this
  omega
theorem btw_ex {x : Int32} {a b : Nat} (ha : a < 2 ^ 30) (hb : b < 2 ^ 30) (h : btwB x a b = true) : ∃ j, a ≤ j ∧ j ≤ b ∧ x = nI j := by
  unfold btwB at h
  simp only [Bool.and_eq_true, decide_eq_true_eq] at h
  exact btw ha hb h.1 h.2
theorem Sz.sS {v : Vg} {x : Int32} : Sz v (vsS v x) := ⟨rfl, rfl, rfl⟩
theorem mi {x : Int32} {n : Nat} (hn : n < 2 ^ 31) (a : x = -1 ∨ ∃ a, a < n ∧ x = nI a) (h : ¬ x = -1) : x = nI x.toNatClampNeg ∧ x.toNatClampNeg < n := by
  rcases a with a | ⟨q, h1, h2⟩
  · exact absurd a h
  · subst h2; rw [clN (by omega)]; exact ⟨rfl, h1⟩
set_option maxHeartbeats 4000000 in
theorem c_X7_first {l : Launch} {h : Hp} {k : Nat} {v : Vg} (hm : MilAt h k v)  : Ms l yX7_first cX7_first 6 (some .int) 8 [vr 7 k] h (xK h) (fun r h' => PI r ∧ (∃ v', MilAt h' k v') ∧ Kp k h h') := by
  refine Ms.of (by decide) (Nat.le_of_ble_eq_true rfl) (fun G C X F => ?_)
  have C : Cx G cX7_first 6 RX7 := C
  show Rr G 0 [(0, vr 7 k)] [] h
  have bP := hm.bP
  have bM := hm.bM
  have bN := hm.bN
  refine r_iconst (v := -1) C (dx dX7_first 0 rfl) rfl ?_
  refine r_istore_n (ls' := [(0, vr 7 k), (1, vi (-1))]) C (dx dX7_first 1 rfl) (by decide) [1, 0] rfl ?_
  refine r_iconst (v := nI 0) C (dx dX7_first 2 rfl) rfl ?_
  refine r_istore_n (ls' := [(0, vr 7 k), (1, vi (-1)), (2, vi (nI 0))]) C (dx dX7_first 3 rfl) (by decide) [1, 2, 0] rfl ?_
  refine r_iconst (v := nI 0) C (dx dX7_first 4 rfl) rfl ?_
  refine r_istore_n (ls' := [(0, vr 7 k), (1, vi (-1)), (2, vi (nI 0)), (3, vi (nI 0))]) C (dx dX7_first 5 rfl) (by decide) [1, 2, 3, 0] rfl ?_
  refine loopU (Φ := fun p => ∀ (x1 : Int32), ∀ (x2 : Int32), Rr G 6 [(0, vr 7 k), (1, vi x1), (2, vi x2), (3, vi (nI p))] [] h) (N := vN v) ?_ ?_ 0 (by omega) (-1) (nI 0)
  ·
    intro  x1 x2
    refine r_iload_n C (dx dX7_first 6 rfl) rfl ?_
    refine r_aload_n C (dx dX7_first 7 rfl) rfl ?_
    refine g_X7_74 (x := nI (vN v)) C (dx dX7_first 8 rfl) hm.eN ?_
    refine rn_ge (a := vN v) (b := vN v) (tgt := 77) C (by omega) (by omega) (dx dX7_first 9 rfl) (by decide) (fun c1 => ?_) (fun c1 => ?_)
    · first
      | (omega; done)
      | (
          have c1 : vN v ≤ vN v := c1
          refine r_iload_n C (dx dX7_first 44 rfl) rfl ?_
          refine r_iconst (v := -1) C (dx dX7_first 45 rfl) rfl ?_
          refine r_icmp_ne (tgt := 91) C (dx dX7_first 46 rfl) (by decide) (fun c2 => ?_) (fun c2 => ?_)
          ·
            have c2 : ¬ x1 = -1 := c2
            refine r_iload_n C (dx dX7_first 51 rfl) rfl ?_
            exact F.1 _ _ _ _ .int rfl rfl (dx dX7_first 52 rfl) rfl ⟨⟨_, rfl⟩, ⟨_, hm⟩, Kp.rf⟩
          ·
            have c2 : x1 = -1 := c2
            refine r_aload_n C (dx dX7_first 47 rfl) rfl ?_
            refine r_bipush (v := -5) C (dx dX7_first 48 rfl) rfl ?_
            refine r_cv (as := [vi (-5)]) (st := []) C X I_X7_refuse l_X7_83 (c_X7_refuse hm (x := -5) (j := 5) (by decide) (by decide)) (by decide) (Nat.le_of_ble_eq_true rfl) List.prefix_rfl List.prefix_rfl rfl rfl (Nat.le_of_ble_eq_true rfl) rfl (dx dX7_first 49 rfl) ?_
            rintro _ h3 ⟨rfl, ⟨wh3, m9h3, s9h3⟩, qh3⟩ kkh3
            obtain ⟨vh3, mh3, zh3⟩ : ∃ v9, MilAt h3 k v9 ∧ Sz v v9 := ⟨_, m9h3, s9h3⟩
            have ph3 : Kp k h h3 := qh3
            have kh3 : xK h3 = xK h := kkh3
            obtain ⟨ah3, bh3, ch3⟩ := zh3
            refine r_goto (tgt := 92) C (dx dX7_first 50 rfl) (by decide) ?_
            exact F.1 _ _ _ _ .int rfl rfl (dx dX7_first 52 rfl) kh3 ⟨⟨_, rfl⟩, ⟨_, mh3⟩, ph3⟩)
    · first
      | (omega; done)
      | (
          have c1 : vN v < vN v := c1
          refine r_iconst (v := nI 0) C (dx dX7_first 10 rfl) rfl ?_
          refine r_istore (ls' := [(0, vr 7 k), (1, vi x1), (2, vi x2), (3, vi (nI (vN v))), (4, vi (nI 0))]) C (dx dX7_first 11 rfl) (by decide) [1, 2, 3, 4, 0] rfl ?_
          refine r_iconst (v := nI 0) C (dx dX7_first 12 rfl) rfl ?_
          refine r_istore (ls' := [(0, vr 7 k), (1, vi x1), (2, vi x2), (3, vi (nI (vN v))), (4, vi (nI 0)), (5, vi (nI 0))]) C (dx dX7_first 13 rfl) (by decide) [1, 2, 3, 4, 5, 0] rfl ?_
          refine loopU (Φ := fun q => ∀ (x4 : Int32), Rr G 20 [(0, vr 7 k), (1, vi x1), (2, vi x2), (3, vi (nI (vN v))), (4, vi x4), (5, vi (nI q))] [] h) (N := vM v) ?_ ?_ 0 (by omega) (nI 0)
          ·
            intro  x4
            refine r_iload C (dx dX7_first 14 rfl) rfl ?_
            refine r_aload_n C (dx dX7_first 15 rfl) rfl ?_
            refine g_X7_71 (x := nI (vM v)) C (dx dX7_first 16 rfl) hm.eM ?_
            refine rn_ge (a := vM v) (b := vM v) (tgt := 55) C (by omega) (by omega) (dx dX7_first 17 rfl) (by decide) (fun c4 => ?_) (fun c4 => ?_)
            · first
              | (omega; done)
            · first
              | (omega; done)
          ·
            intro q hq ihq x4
            refine r_iload C (dx dX7_first 14 rfl) rfl ?_
            refine r_aload_n C (dx dX7_first 15 rfl) rfl ?_
            refine g_X7_71 (x := nI (vM v)) C (dx dX7_first 16 rfl) hm.eM ?_
            refine rn_ge (a := q) (b := vM v) (tgt := 55) C (by omega) (by omega) (dx dX7_first 17 rfl) (by decide) (fun c7 => ?_) (fun c7 => ?_)
            · first
              | (omega; done)
            · first
              | (omega; done)
              | (
                  have c7 : q < vM v := c7
                  refine r_iload C (dx dX7_first 18 rfl) rfl ?_
                  refine r_aload_n C (dx dX7_first 19 rfl) rfl ?_
                  refine g_X7_49 C (dx dX7_first 20 rfl) ?_
                  refine r_iload C (dx dX7_first 21 rfl) rfl ?_
                  refine r_iald (j := q) (x := vF v 3 q) C rfl rfl (by decide) rfl (by omega) (dx dX7_first 22 rfl) (hm.e3 (by omega)) ?_
                  refine r_aload_n C (dx dX7_first 23 rfl) rfl ?_
                  refine r_iload C (dx dX7_first 24 rfl) rfl ?_
                  refine r_iload_n C (dx dX7_first 25 rfl) rfl ?_
                  refine r_cvW (as := [vi (nI q), vi (nI (vN v))]) (st := [vi (vF v 3 q), vi x4]) C X I_X7_powerOf l_X7_274 (c_X7_powerOf hm (m := q) (o := vN v) (by omega) (by omega)) (by decide) (Nat.le_of_ble_eq_true rfl) List.prefix_rfl rfl rfl (Nat.le_of_ble_eq_true rfl) rfl (dx dX7_first 26 rfl) ?_
                  rintro _ ⟨x9, rfl⟩
                  refine r_imul C (dx dX7_first 27 rfl) ?_
                  refine r_iadd C (dx dX7_first 28 rfl) ?_
                  refine r_istore (ls' := [(0, vr 7 k), (1, vi x1), (2, vi x2), (3, vi (nI (vN v))), (4, vi (x4 + ((vF v 3 q) * x9))), (5, vi (nI q))]) C (dx dX7_first 29 rfl) (by decide) [1, 2, 3, 4, 0, 5] rfl ?_
                  refine rn_iinc (a := q) (k := 1) (ls' := [(0, vr 7 k), (1, vi x1), (2, vi x2), (3, vi (nI (vN v))), (4, vi (x4 + ((vF v 3 q) * x9))), (5, vi (nI (q + 1)))]) C (dx dX7_first 30 rfl) rfl rfl (by decide) [1, 2, 3, 4, 5, 0] rfl ?_
                  refine r_goto (tgt := 20) C (dx dX7_first 31 rfl) (by decide) ?_
                  exact ihq (x4 + ((vF v 3 q) * x9))))
  ·
    intro p hp ihp x1 x2
    refine r_iload_n C (dx dX7_first 6 rfl) rfl ?_
    refine r_aload_n C (dx dX7_first 7 rfl) rfl ?_
    refine g_X7_74 (x := nI (vN v)) C (dx dX7_first 8 rfl) hm.eN ?_
    refine rn_ge (a := p) (b := vN v) (tgt := 77) C (by omega) (by omega) (dx dX7_first 9 rfl) (by decide) (fun c10 => ?_) (fun c10 => ?_)
    · first
      | (omega; done)
      | (
          have c10 : vN v ≤ p := c10
          refine r_iload_n C (dx dX7_first 44 rfl) rfl ?_
          refine r_iconst (v := -1) C (dx dX7_first 45 rfl) rfl ?_
          refine r_icmp_ne (tgt := 91) C (dx dX7_first 46 rfl) (by decide) (fun c11 => ?_) (fun c11 => ?_)
          ·
            have c11 : ¬ x1 = -1 := c11
            refine r_iload_n C (dx dX7_first 51 rfl) rfl ?_
            exact F.1 _ _ _ _ .int rfl rfl (dx dX7_first 52 rfl) rfl ⟨⟨_, rfl⟩, ⟨_, hm⟩, Kp.rf⟩
          ·
            have c11 : x1 = -1 := c11
            refine r_aload_n C (dx dX7_first 47 rfl) rfl ?_
            refine r_bipush (v := -5) C (dx dX7_first 48 rfl) rfl ?_
            refine r_cv (as := [vi (-5)]) (st := []) C X I_X7_refuse l_X7_83 (c_X7_refuse hm (x := -5) (j := 5) (by decide) (by decide)) (by decide) (Nat.le_of_ble_eq_true rfl) List.prefix_rfl List.prefix_rfl rfl rfl (Nat.le_of_ble_eq_true rfl) rfl (dx dX7_first 49 rfl) ?_
            rintro _ h12 ⟨rfl, ⟨wh12, m9h12, s9h12⟩, qh12⟩ kkh12
            obtain ⟨vh12, mh12, zh12⟩ : ∃ v9, MilAt h12 k v9 ∧ Sz v v9 := ⟨_, m9h12, s9h12⟩
            have ph12 : Kp k h h12 := qh12
            have kh12 : xK h12 = xK h := kkh12
            obtain ⟨ah12, bh12, ch12⟩ := zh12
            refine r_goto (tgt := 92) C (dx dX7_first 50 rfl) (by decide) ?_
            exact F.1 _ _ _ _ .int rfl rfl (dx dX7_first 52 rfl) kh12 ⟨⟨_, rfl⟩, ⟨_, mh12⟩, ph12⟩)
    · first
      | (omega; done)
      | (
          have c10 : p < vN v := c10
          refine r_iconst (v := nI 0) C (dx dX7_first 10 rfl) rfl ?_
          refine r_istore (ls' := [(0, vr 7 k), (1, vi x1), (2, vi x2), (3, vi (nI p)), (4, vi (nI 0))]) C (dx dX7_first 11 rfl) (by decide) [1, 2, 3, 4, 0] rfl ?_
          refine r_iconst (v := nI 0) C (dx dX7_first 12 rfl) rfl ?_
          refine r_istore (ls' := [(0, vr 7 k), (1, vi x1), (2, vi x2), (3, vi (nI p)), (4, vi (nI 0)), (5, vi (nI 0))]) C (dx dX7_first 13 rfl) (by decide) [1, 2, 3, 4, 5, 0] rfl ?_
          refine loopU (Φ := fun q => ∀ (x4 : Int32), Rr G 20 [(0, vr 7 k), (1, vi x1), (2, vi x2), (3, vi (nI p)), (4, vi x4), (5, vi (nI q))] [] h) (N := vM v) ?_ ?_ 0 (by omega) (nI 0)
          ·
            intro  x4
            refine r_iload C (dx dX7_first 14 rfl) rfl ?_
            refine r_aload_n C (dx dX7_first 15 rfl) rfl ?_
            refine g_X7_71 (x := nI (vM v)) C (dx dX7_first 16 rfl) hm.eM ?_
            refine rn_ge (a := vM v) (b := vM v) (tgt := 55) C (by omega) (by omega) (dx dX7_first 17 rfl) (by decide) (fun c13 => ?_) (fun c13 => ?_)
            · first
              | (omega; done)
              | (
                  have c13 : vM v ≤ vM v := c13
                  refine r_iload_n C (dx dX7_first 32 rfl) rfl ?_
                  refine r_iconst (v := -1) C (dx dX7_first 33 rfl) rfl ?_
                  refine r_icmp_eq (tgt := 66) C (dx dX7_first 34 rfl) (by decide) (fun c14 => ?_) (fun c14 => ?_)
                  ·
                    have c14 : x1 = -1 := c14
                    refine r_iload_n C (dx dX7_first 38 rfl) rfl ?_
                    refine r_istore_n (ls' := [(0, vr 7 k), (1, vi (nI p)), (2, vi x2), (3, vi (nI p)), (4, vi x4), (5, vi (nI (vM v)))]) C (dx dX7_first 39 rfl) (by decide) [1, 0, 2, 3, 4, 5] rfl ?_
                    refine r_iload C (dx dX7_first 40 rfl) rfl ?_
                    refine r_istore_n (ls' := [(0, vr 7 k), (1, vi (nI p)), (2, vi x4), (3, vi (nI p)), (4, vi x4), (5, vi (nI (vM v)))]) C (dx dX7_first 41 rfl) (by decide) [1, 2, 0, 3, 4, 5] rfl ?_
                    refine rn_iinc (a := p) (k := 1) (ls' := [(0, vr 7 k), (1, vi (nI p)), (2, vi x4), (3, vi (nI (p + 1))), (4, vi x4), (5, vi (nI (vM v)))]) C (dx dX7_first 42 rfl) rfl rfl (by decide) [1, 2, 3, 0, 4, 5] rfl ?_
                    refine r_goto (tgt := 6) C (dx dX7_first 43 rfl) (by decide) ?_
                    refine r_weak C [0, 1, 2, 3] rfl ?_
                    exact ihp (nI p) x4
                  ·
                    have c14 : ¬ x1 = -1 := c14
                    refine r_iload C (dx dX7_first 35 rfl) rfl ?_
                    refine r_iload_n C (dx dX7_first 36 rfl) rfl ?_
                    refine r_icmp_le (tgt := 71) C (dx dX7_first 37 rfl) (by decide) (fun c15 => ?_) (fun c15 => ?_)
                    ·
                      have c15 : x4 ≤ x2 := c15
                      refine rn_iinc (a := p) (k := 1) (ls' := [(0, vr 7 k), (1, vi x1), (2, vi x2), (3, vi (nI (p + 1))), (4, vi x4), (5, vi (nI (vM v)))]) C (dx dX7_first 42 rfl) rfl rfl (by decide) [1, 2, 3, 0, 4, 5] rfl ?_
                      refine r_goto (tgt := 6) C (dx dX7_first 43 rfl) (by decide) ?_
                      refine r_weak C [0, 1, 2, 3] rfl ?_
                      exact ihp x1 x2
                    ·
                      have c15 : ¬ x4 ≤ x2 := c15
                      refine r_iload_n C (dx dX7_first 38 rfl) rfl ?_
                      refine r_istore_n (ls' := [(0, vr 7 k), (1, vi (nI p)), (2, vi x2), (3, vi (nI p)), (4, vi x4), (5, vi (nI (vM v)))]) C (dx dX7_first 39 rfl) (by decide) [1, 0, 2, 3, 4, 5] rfl ?_
                      refine r_iload C (dx dX7_first 40 rfl) rfl ?_
                      refine r_istore_n (ls' := [(0, vr 7 k), (1, vi (nI p)), (2, vi x4), (3, vi (nI p)), (4, vi x4), (5, vi (nI (vM v)))]) C (dx dX7_first 41 rfl) (by decide) [1, 2, 0, 3, 4, 5] rfl ?_
                      refine rn_iinc (a := p) (k := 1) (ls' := [(0, vr 7 k), (1, vi (nI p)), (2, vi x4), (3, vi (nI (p + 1))), (4, vi x4), (5, vi (nI (vM v)))]) C (dx dX7_first 42 rfl) rfl rfl (by decide) [1, 2, 3, 0, 4, 5] rfl ?_
                      refine r_goto (tgt := 6) C (dx dX7_first 43 rfl) (by decide) ?_
                      refine r_weak C [0, 1, 2, 3] rfl ?_
                      exact ihp (nI p) x4)
            · first
              | (omega; done)
          ·
            intro q hq ihq x4
            refine r_iload C (dx dX7_first 14 rfl) rfl ?_
            refine r_aload_n C (dx dX7_first 15 rfl) rfl ?_
            refine g_X7_71 (x := nI (vM v)) C (dx dX7_first 16 rfl) hm.eM ?_
            refine rn_ge (a := q) (b := vM v) (tgt := 55) C (by omega) (by omega) (dx dX7_first 17 rfl) (by decide) (fun c17 => ?_) (fun c17 => ?_)
            · first
              | (omega; done)
              | (
                  have c17 : vM v ≤ q := c17
                  refine r_iload_n C (dx dX7_first 32 rfl) rfl ?_
                  refine r_iconst (v := -1) C (dx dX7_first 33 rfl) rfl ?_
                  refine r_icmp_eq (tgt := 66) C (dx dX7_first 34 rfl) (by decide) (fun c18 => ?_) (fun c18 => ?_)
                  ·
                    have c18 : x1 = -1 := c18
                    refine r_iload_n C (dx dX7_first 38 rfl) rfl ?_
                    refine r_istore_n (ls' := [(0, vr 7 k), (1, vi (nI p)), (2, vi x2), (3, vi (nI p)), (4, vi x4), (5, vi (nI q))]) C (dx dX7_first 39 rfl) (by decide) [1, 0, 2, 3, 4, 5] rfl ?_
                    refine r_iload C (dx dX7_first 40 rfl) rfl ?_
                    refine r_istore_n (ls' := [(0, vr 7 k), (1, vi (nI p)), (2, vi x4), (3, vi (nI p)), (4, vi x4), (5, vi (nI q))]) C (dx dX7_first 41 rfl) (by decide) [1, 2, 0, 3, 4, 5] rfl ?_
                    refine rn_iinc (a := p) (k := 1) (ls' := [(0, vr 7 k), (1, vi (nI p)), (2, vi x4), (3, vi (nI (p + 1))), (4, vi x4), (5, vi (nI q))]) C (dx dX7_first 42 rfl) rfl rfl (by decide) [1, 2, 3, 0, 4, 5] rfl ?_
                    refine r_goto (tgt := 6) C (dx dX7_first 43 rfl) (by decide) ?_
                    refine r_weak C [0, 1, 2, 3] rfl ?_
                    exact ihp (nI p) x4
                  ·
                    have c18 : ¬ x1 = -1 := c18
                    refine r_iload C (dx dX7_first 35 rfl) rfl ?_
                    refine r_iload_n C (dx dX7_first 36 rfl) rfl ?_
                    refine r_icmp_le (tgt := 71) C (dx dX7_first 37 rfl) (by decide) (fun c19 => ?_) (fun c19 => ?_)
                    ·
                      have c19 : x4 ≤ x2 := c19
                      refine rn_iinc (a := p) (k := 1) (ls' := [(0, vr 7 k), (1, vi x1), (2, vi x2), (3, vi (nI (p + 1))), (4, vi x4), (5, vi (nI q))]) C (dx dX7_first 42 rfl) rfl rfl (by decide) [1, 2, 3, 0, 4, 5] rfl ?_
                      refine r_goto (tgt := 6) C (dx dX7_first 43 rfl) (by decide) ?_
                      refine r_weak C [0, 1, 2, 3] rfl ?_
                      exact ihp x1 x2
                    ·
                      have c19 : ¬ x4 ≤ x2 := c19
                      refine r_iload_n C (dx dX7_first 38 rfl) rfl ?_
                      refine r_istore_n (ls' := [(0, vr 7 k), (1, vi (nI p)), (2, vi x2), (3, vi (nI p)), (4, vi x4), (5, vi (nI q))]) C (dx dX7_first 39 rfl) (by decide) [1, 0, 2, 3, 4, 5] rfl ?_
                      refine r_iload C (dx dX7_first 40 rfl) rfl ?_
                      refine r_istore_n (ls' := [(0, vr 7 k), (1, vi (nI p)), (2, vi x4), (3, vi (nI p)), (4, vi x4), (5, vi (nI q))]) C (dx dX7_first 41 rfl) (by decide) [1, 2, 0, 3, 4, 5] rfl ?_
                      refine rn_iinc (a := p) (k := 1) (ls' := [(0, vr 7 k), (1, vi (nI p)), (2, vi x4), (3, vi (nI (p + 1))), (4, vi x4), (5, vi (nI q))]) C (dx dX7_first 42 rfl) rfl rfl (by decide) [1, 2, 3, 0, 4, 5] rfl ?_
                      refine r_goto (tgt := 6) C (dx dX7_first 43 rfl) (by decide) ?_
                      refine r_weak C [0, 1, 2, 3] rfl ?_
                      exact ihp (nI p) x4)
            · first
              | (omega; done)
              | (
                  have c17 : q < vM v := c17
                  refine r_iload C (dx dX7_first 18 rfl) rfl ?_
                  refine r_aload_n C (dx dX7_first 19 rfl) rfl ?_
                  refine g_X7_49 C (dx dX7_first 20 rfl) ?_
                  refine r_iload C (dx dX7_first 21 rfl) rfl ?_
                  refine r_iald (j := q) (x := vF v 3 q) C rfl rfl (by decide) rfl (by omega) (dx dX7_first 22 rfl) (hm.e3 (by omega)) ?_
                  refine r_aload_n C (dx dX7_first 23 rfl) rfl ?_
                  refine r_iload C (dx dX7_first 24 rfl) rfl ?_
                  refine r_iload_n C (dx dX7_first 25 rfl) rfl ?_
                  refine r_cvW (as := [vi (nI q), vi (nI p)]) (st := [vi (vF v 3 q), vi x4]) C X I_X7_powerOf l_X7_274 (c_X7_powerOf hm (m := q) (o := p) (by omega) (by omega)) (by decide) (Nat.le_of_ble_eq_true rfl) List.prefix_rfl rfl rfl (Nat.le_of_ble_eq_true rfl) rfl (dx dX7_first 26 rfl) ?_
                  rintro _ ⟨x20, rfl⟩
                  refine r_imul C (dx dX7_first 27 rfl) ?_
                  refine r_iadd C (dx dX7_first 28 rfl) ?_
                  refine r_istore (ls' := [(0, vr 7 k), (1, vi x1), (2, vi x2), (3, vi (nI p)), (4, vi (x4 + ((vF v 3 q) * x20))), (5, vi (nI q))]) C (dx dX7_first 29 rfl) (by decide) [1, 2, 3, 4, 0, 5] rfl ?_
                  refine rn_iinc (a := q) (k := 1) (ls' := [(0, vr 7 k), (1, vi x1), (2, vi x2), (3, vi (nI p)), (4, vi (x4 + ((vF v 3 q) * x20))), (5, vi (nI (q + 1)))]) C (dx dX7_first 30 rfl) rfl rfl (by decide) [1, 2, 3, 4, 5, 0] rfl ?_
                  refine r_goto (tgt := 20) C (dx dX7_first 31 rfl) (by decide) ?_
                  exact ihq (x4 + ((vF v 3 q) * x20))))
set_option maxHeartbeats 4000000 in
theorem c_X7_bears {l : Launch} {h : Hp} {k : Nat} {v : Vg} (hm : MilAt h k v) (m : Int32) : Ms l yX7_bears cX7_bears 3 (some .int) 8 [vr 7 k, vi m] h (xK h) (fun r h' => PI r ∧ (∃ v', MilAt h' k v') ∧ Kp k h h') := by
  refine Ms.of (by decide) (Nat.le_of_ble_eq_true rfl) (fun G C X F => ?_)
  have C : Cx G cX7_bears 3 RX7 := C
  show Rr G 0 [(0, vr 7 k), (1, vi m)] [] h
  have bP := hm.bP
  have bM := hm.bM
  have bN := hm.bN
  refine r_aload_n C (dx dX7_bears 0 rfl) rfl ?_
  refine r_iload_n C (dx dX7_bears 1 rfl) rfl ?_
  refine r_cvP (as := [vi m]) (st := []) (v := vi (b2i (inR m (vM v)))) C X I_X7_isMachine l_X7_241 (c_X7_isMachine hm _) (by decide) (Nat.le_of_ble_eq_true rfl) List.prefix_rfl rfl rfl (Nat.le_of_ble_eq_true rfl) rfl (dx dX7_bears 2 rfl) ?_
  refine rb_ne (b := inR m (vM v)) (tgt := 15) C (dx dX7_bears 3 rfl) (by decide) (fun c1 => ?_) (fun c1 => ?_)
  ·
    have c1 : (inR m (vM v)) = true := c1
    obtain ⟨μ, hμ, rfl⟩ := inR_ex (n := (vM v)) (by omega) c1
    refine r_aload_n C (dx dX7_bears 8 rfl) rfl ?_
    refine r_iload_n C (dx dX7_bears 9 rfl) rfl ?_
    refine r_cvW (as := [vi (nI μ)]) (st := []) C X I_X7_worstOf l_X7_314 (c_X7_worstOf hm (m := μ) (by omega)) (by decide) (Nat.le_of_ble_eq_true rfl) List.prefix_rfl rfl rfl (Nat.le_of_ble_eq_true rfl) rfl (dx dX7_bears 10 rfl) ?_
    rintro _ ⟨x2, rfl⟩
    refine r_istore_n (ls' := [(0, vr 7 k), (1, vi (nI μ)), (2, vi x2)]) C (dx dX7_bears 11 rfl) (by decide) [1, 2, 0] rfl ?_
    refine r_iload_n C (dx dX7_bears 12 rfl) rfl ?_
    refine r_if_ne (tgt := 34) C (dx dX7_bears 13 rfl) (by decide) (fun c3 => ?_) (fun c3 => ?_)
    ·
      have c3 : ¬ x2 = 0 := c3
      refine r_iload_n C (dx dX7_bears 18 rfl) rfl ?_
      refine r_iconst (v := nI 1) C (dx dX7_bears 19 rfl) rfl ?_
      refine r_isub C (dx dX7_bears 20 rfl) ?_
      exact F.1 _ _ _ _ .int rfl rfl (dx dX7_bears 21 rfl) rfl ⟨⟨_, rfl⟩, ⟨_, hm⟩, Kp.rf⟩
    ·
      have c3 : x2 = 0 := c3
      refine r_aload_n C (dx dX7_bears 14 rfl) rfl ?_
      refine r_bipush (v := -5) C (dx dX7_bears 15 rfl) rfl ?_
      refine r_cv (as := [vi (-5)]) (st := []) C X I_X7_refuse l_X7_83 (c_X7_refuse hm (x := -5) (j := 5) (by decide) (by decide)) (by decide) (Nat.le_of_ble_eq_true rfl) List.prefix_rfl List.prefix_rfl rfl rfl (Nat.le_of_ble_eq_true rfl) rfl (dx dX7_bears 16 rfl) ?_
      rintro _ h4 ⟨rfl, ⟨wh4, m9h4, s9h4⟩, qh4⟩ kkh4
      obtain ⟨vh4, mh4, zh4⟩ : ∃ v9, MilAt h4 k v9 ∧ Sz v v9 := ⟨_, m9h4, s9h4⟩
      have ph4 : Kp k h h4 := qh4
      have kh4 : xK h4 = xK h := kkh4
      obtain ⟨ah4, bh4, ch4⟩ := zh4
      refine r_goto (tgt := 37) C (dx dX7_bears 17 rfl) (by decide) ?_
      exact F.1 _ _ _ _ .int rfl rfl (dx dX7_bears 21 rfl) kh4 ⟨⟨_, rfl⟩, ⟨_, mh4⟩, ph4⟩
  ·
    have c1 : (inR m (vM v)) = false := c1
    refine r_aload_n C (dx dX7_bears 4 rfl) rfl ?_
    refine r_bipush (v := -2) C (dx dX7_bears 5 rfl) rfl ?_
    refine r_cv (as := [vi (-2)]) (st := []) C X I_X7_refuse l_X7_83 (c_X7_refuse hm (x := -2) (j := 2) (by decide) (by decide)) (by decide) (Nat.le_of_ble_eq_true rfl) List.prefix_rfl List.prefix_rfl rfl rfl (Nat.le_of_ble_eq_true rfl) rfl (dx dX7_bears 6 rfl) ?_
    rintro _ h5 ⟨rfl, ⟨wh5, m9h5, s9h5⟩, qh5⟩ kkh5
    obtain ⟨vh5, mh5, zh5⟩ : ∃ v9, MilAt h5 k v9 ∧ Sz v v9 := ⟨_, m9h5, s9h5⟩
    have ph5 : Kp k h h5 := qh5
    have kh5 : xK h5 = xK h := kkh5
    obtain ⟨ah5, bh5, ch5⟩ := zh5
    exact F.1 _ _ _ _ .int rfl rfl (dx dX7_bears 7 rfl) kh5 ⟨⟨_, rfl⟩, ⟨_, mh5⟩, ph5⟩
set_option maxHeartbeats 4000000 in
theorem c_X7_harms {l : Launch} {h : Hp} {k : Nat} {v : Vg} (hm : MilAt h k v)  : Ms l yX7_harms cX7_harms 7 (some .int) 8 [vr 7 k] h (xK h) (fun r h' => PI r ∧ (∃ v', MilAt h' k v') ∧ Kp k h h') := by
  refine Ms.of (by decide) (Nat.le_of_ble_eq_true rfl) (fun G C X F => ?_)
  have C : Cx G cX7_harms 7 RX7 := C
  show Rr G 0 [(0, vr 7 k)] [] h
  have bP := hm.bP
  have bM := hm.bM
  have bN := hm.bN
  refine r_iconst (v := -1) C (dx dX7_harms 0 rfl) rfl ?_
  refine r_istore_n (ls' := [(0, vr 7 k), (1, vi (-1))]) C (dx dX7_harms 1 rfl) (by decide) [1, 0] rfl ?_
  refine r_lconst (v := 0) C (dx dX7_harms 2 rfl) rfl ?_
  refine r_lstore_n (ls' := [(0, vr 7 k), (1, vi (-1)), (2, vl 0)]) C (dx dX7_harms 3 rfl) (by decide) [1, 2, 0] rfl ?_
  refine r_iconst (v := nI 0) C (dx dX7_harms 4 rfl) rfl ?_
  refine r_istore (ls' := [(0, vr 7 k), (1, vi (-1)), (2, vl 0), (4, vi (nI 0))]) C (dx dX7_harms 5 rfl) (by decide) [1, 2, 3, 0] rfl ?_
  refine loopU (Φ := fun p => ∀ (x1 : Int32), ∀ (x2 : Int64), ∀ (h9p : Hp) (u9p : Vg), MilAt h9p k u9p → Sz v u9p → Kp k h h9p → xK h9p = xK h → Rr G 7 [(0, vr 7 k), (1, vi x1), (2, vl x2), (4, vi (nI p))] [] h9p) (N := vN v) ?_ ?_ 0 (by omega) (-1) 0 h v hm (⟨by omega, by omega, by omega⟩) Kp.rf rfl
  ·
    intro  x1 x2 h9p u9p mh9p zh9p ph9p kh9p
    obtain ⟨ah9p, bh9p, ch9p⟩ := zh9p
    refine r_iload C (dx dX7_harms 6 rfl) rfl ?_
    refine r_aload_n C (dx dX7_harms 7 rfl) rfl ?_
    refine g_X7_74 (x := nI (vN u9p)) C (dx dX7_harms 8 rfl) mh9p.eN ?_
    refine rn_ge (a := vN v) (b := vN u9p) (tgt := 78) C (by omega) (by omega) (dx dX7_harms 9 rfl) (by decide) (fun c1 => ?_) (fun c1 => ?_)
    · first
      | (omega; done)
      | (
          have c1 : vN u9p ≤ vN v := c1
          refine r_iload_n C (dx dX7_harms 47 rfl) rfl ?_
          refine r_iconst (v := -1) C (dx dX7_harms 48 rfl) rfl ?_
          refine r_icmp_ne (tgt := 92) C (dx dX7_harms 49 rfl) (by decide) (fun c2 => ?_) (fun c2 => ?_)
          ·
            have c2 : ¬ x1 = -1 := c2
            refine r_iload_n C (dx dX7_harms 54 rfl) rfl ?_
            exact F.1 _ _ _ _ .int rfl rfl (dx dX7_harms 55 rfl) kh9p ⟨⟨_, rfl⟩, ⟨_, mh9p⟩, ph9p⟩
          ·
            have c2 : x1 = -1 := c2
            refine r_aload_n C (dx dX7_harms 50 rfl) rfl ?_
            refine r_bipush (v := -5) C (dx dX7_harms 51 rfl) rfl ?_
            refine r_cv (as := [vi (-5)]) (st := []) C X I_X7_refuse l_X7_83 (c_X7_refuse mh9p (x := -5) (j := 5) (by decide) (by decide)) (by decide) (Nat.le_of_ble_eq_true rfl) List.prefix_rfl (pfx_eq kh9p) rfl rfl (Nat.le_of_ble_eq_true rfl) rfl (dx dX7_harms 52 rfl) ?_
            rintro _ h3 ⟨rfl, ⟨wh3, m9h3, s9h3⟩, qh3⟩ kkh3
            obtain ⟨vh3, mh3, zh3⟩ : ∃ v9, MilAt h3 k v9 ∧ Sz u9p v9 := ⟨_, m9h3, s9h3⟩
            have ph3 : Kp k h h3 := ph9p.tr (qh3)
            have kh3 : xK h3 = xK h := (kkh3).trans kh9p
            obtain ⟨ah3, bh3, ch3⟩ := zh3
            refine r_goto (tgt := 93) C (dx dX7_harms 53 rfl) (by decide) ?_
            exact F.1 _ _ _ _ .int rfl rfl (dx dX7_harms 55 rfl) kh3 ⟨⟨_, rfl⟩, ⟨_, mh3⟩, ph3⟩)
    · first
      | (omega; done)
  ·
    intro p hp ihp x1 x2 h9p u9p mh9p zh9p ph9p kh9p
    obtain ⟨ah9p, bh9p, ch9p⟩ := zh9p
    refine r_iload C (dx dX7_harms 6 rfl) rfl ?_
    refine r_aload_n C (dx dX7_harms 7 rfl) rfl ?_
    refine g_X7_74 (x := nI (vN u9p)) C (dx dX7_harms 8 rfl) mh9p.eN ?_
    refine rn_ge (a := p) (b := vN u9p) (tgt := 78) C (by omega) (by omega) (dx dX7_harms 9 rfl) (by decide) (fun c5 => ?_) (fun c5 => ?_)
    · first
      | (omega; done)
      | (
          have c5 : vN u9p ≤ p := c5
          refine r_iload_n C (dx dX7_harms 47 rfl) rfl ?_
          refine r_iconst (v := -1) C (dx dX7_harms 48 rfl) rfl ?_
          refine r_icmp_ne (tgt := 92) C (dx dX7_harms 49 rfl) (by decide) (fun c6 => ?_) (fun c6 => ?_)
          ·
            have c6 : ¬ x1 = -1 := c6
            refine r_iload_n C (dx dX7_harms 54 rfl) rfl ?_
            exact F.1 _ _ _ _ .int rfl rfl (dx dX7_harms 55 rfl) kh9p ⟨⟨_, rfl⟩, ⟨_, mh9p⟩, ph9p⟩
          ·
            have c6 : x1 = -1 := c6
            refine r_aload_n C (dx dX7_harms 50 rfl) rfl ?_
            refine r_bipush (v := -5) C (dx dX7_harms 51 rfl) rfl ?_
            refine r_cv (as := [vi (-5)]) (st := []) C X I_X7_refuse l_X7_83 (c_X7_refuse mh9p (x := -5) (j := 5) (by decide) (by decide)) (by decide) (Nat.le_of_ble_eq_true rfl) List.prefix_rfl (pfx_eq kh9p) rfl rfl (Nat.le_of_ble_eq_true rfl) rfl (dx dX7_harms 52 rfl) ?_
            rintro _ h7 ⟨rfl, ⟨wh7, m9h7, s9h7⟩, qh7⟩ kkh7
            obtain ⟨vh7, mh7, zh7⟩ : ∃ v9, MilAt h7 k v9 ∧ Sz u9p v9 := ⟨_, m9h7, s9h7⟩
            have ph7 : Kp k h h7 := ph9p.tr (qh7)
            have kh7 : xK h7 = xK h := (kkh7).trans kh9p
            obtain ⟨ah7, bh7, ch7⟩ := zh7
            refine r_goto (tgt := 93) C (dx dX7_harms 53 rfl) (by decide) ?_
            exact F.1 _ _ _ _ .int rfl rfl (dx dX7_harms 55 rfl) kh7 ⟨⟨_, rfl⟩, ⟨_, mh7⟩, ph7⟩)
    · first
      | (omega; done)
      | (
          have c5 : p < vN u9p := c5
          refine r_aload_n C (dx dX7_harms 10 rfl) rfl ?_
          refine g_X7_54 C (dx dX7_harms 11 rfl) ?_
          refine r_iload C (dx dX7_harms 12 rfl) rfl ?_
          refine r_aald4 (j := p) C rfl rfl (by decide) rfl (by omega) (dx dX7_harms 13 rfl) ?_
          refine r_iconst (v := nI 2) C (dx dX7_harms 14 rfl) rfl ?_
          refine r_iald (j := 2) (x := vF u9p 6 p) C rfl rfl (by decide) rfl (by omega) (dx dX7_harms 15 rfl) (mh9p.eo (by omega) (by omega)) ?_
          refine r_if_ne (tgt := 72) C (dx dX7_harms 16 rfl) (by decide) (fun c8 => ?_) (fun c8 => ?_)
          ·
            have c8 : ¬ vF u9p 6 p = 0 := c8
            refine rn_iinc (a := p) (k := 1) (ls' := [(0, vr 7 k), (1, vi x1), (2, vl x2), (4, vi (nI (p + 1)))]) C (dx dX7_harms 45 rfl) rfl rfl (by decide) [1, 2, 3, 0] rfl ?_
            refine r_goto (tgt := 7) C (dx dX7_harms 46 rfl) (by decide) ?_
            exact ihp x1 x2 h9p u9p mh9p (⟨by omega, by omega, by omega⟩) ph9p kh9p
          ·
            have c8 : vF u9p 6 p = 0 := c8
            refine r_aload_n C (dx dX7_harms 17 rfl) rfl ?_
            refine g_X7_54 C (dx dX7_harms 18 rfl) ?_
            refine r_iload C (dx dX7_harms 19 rfl) rfl ?_
            refine r_aald4 (j := p) C rfl rfl (by decide) rfl (by omega) (dx dX7_harms 20 rfl) ?_
            refine r_iconst (v := nI 2) C (dx dX7_harms 21 rfl) rfl ?_
            refine r_iconst (v := nI 1) C (dx dX7_harms 22 rfl) rfl ?_
            refine r_iast (j := 2) C rfl rfl (by decide) rfl (by omega) (dx dX7_harms 23 rfl) ?_
            obtain ⟨vh9, mh9, zh9⟩ : ∃ v9, MilAt (sI h9p (k + 23 + p) 2 (nI 1)) k v9 ∧ Sz u9p v9 := ⟨vset u9p (4 + 2) p (nI 1), mh9p.so (by omega) (by omega), ⟨rfl, rfl, rfl⟩⟩
            have ph9 : Kp k h (sI h9p (k + 23 + p) 2 (nI 1)) := ph9p.tr (Kp.c (by omega) (by omega))
            have kh9 : xK (sI h9p (k + 23 + p) 2 (nI 1)) = xK h := kh9p
            generalize sI h9p (k + 23 + p) 2 (nI 1) = h9 at mh9 ph9 kh9 ⊢
            obtain ⟨ah9, bh9, ch9⟩ := zh9
            refine r_aload_n C (dx dX7_harms 24 rfl) rfl ?_
            refine r_cvW (as := []) (st := []) C X I_X7_day l_X7_295 (c_X7_day mh9) (by decide) (Nat.le_of_ble_eq_true rfl) (pfx_eq kh9) rfl rfl (Nat.le_of_ble_eq_true rfl) rfl (dx dX7_harms 25 rfl) ?_
            rintro _ ⟨x10, rfl⟩
            refine r_lstore (ls' := [(0, vr 7 k), (1, vi x1), (2, vl x2), (4, vi (nI p)), (5, vl x10)]) C (dx dX7_harms 26 rfl) (by decide) [1, 2, 3, 4, 0] rfl ?_
            refine r_aload_n C (dx dX7_harms 27 rfl) rfl ?_
            refine g_X7_54 C (dx dX7_harms 28 rfl) ?_
            refine r_iload C (dx dX7_harms 29 rfl) rfl ?_
            refine r_aald4 (j := p) C rfl rfl (by decide) rfl (by omega) (dx dX7_harms 30 rfl) ?_
            refine r_iconst (v := nI 2) C (dx dX7_harms 31 rfl) rfl ?_
            refine r_iconst (v := nI 0) C (dx dX7_harms 32 rfl) rfl ?_
            refine r_iast (j := 2) C rfl rfl (by decide) rfl (by omega) (dx dX7_harms 33 rfl) ?_
            obtain ⟨vh11, mh11, zh11⟩ : ∃ v9, MilAt (sI h9 (k + 23 + p) 2 (nI 0)) k v9 ∧ Sz vh9 v9 := ⟨vset vh9 (4 + 2) p (nI 0), mh9.so (by omega) (by omega), ⟨rfl, rfl, rfl⟩⟩
            have ph11 : Kp k h (sI h9 (k + 23 + p) 2 (nI 0)) := ph9.tr (Kp.c (by omega) (by omega))
            have kh11 : xK (sI h9 (k + 23 + p) 2 (nI 0)) = xK h := kh9
            generalize sI h9 (k + 23 + p) 2 (nI 0) = h11 at mh11 ph11 kh11 ⊢
            obtain ⟨ah11, bh11, ch11⟩ := zh11
            refine r_iload_n C (dx dX7_harms 34 rfl) rfl ?_
            refine r_iconst (v := -1) C (dx dX7_harms 35 rfl) rfl ?_
            refine r_icmp_eq (tgt := 66) C (dx dX7_harms 36 rfl) (by decide) (fun c12 => ?_) (fun c12 => ?_)
            ·
              have c12 : x1 = -1 := c12
              refine r_iload C (dx dX7_harms 41 rfl) rfl ?_
              refine r_istore_n (ls' := [(0, vr 7 k), (1, vi (nI p)), (2, vl x2), (4, vi (nI p)), (5, vl x10)]) C (dx dX7_harms 42 rfl) (by decide) [1, 0, 2, 3, 4] rfl ?_
              refine r_lload C (dx dX7_harms 43 rfl) rfl ?_
              refine r_lstore_n (ls' := [(0, vr 7 k), (1, vi (nI p)), (2, vl x10), (4, vi (nI p)), (5, vl x10)]) C (dx dX7_harms 44 rfl) (by decide) [1, 2, 0, 3, 4] rfl ?_
              refine rn_iinc (a := p) (k := 1) (ls' := [(0, vr 7 k), (1, vi (nI p)), (2, vl x10), (4, vi (nI (p + 1))), (5, vl x10)]) C (dx dX7_harms 45 rfl) rfl rfl (by decide) [1, 2, 3, 0, 4] rfl ?_
              refine r_goto (tgt := 7) C (dx dX7_harms 46 rfl) (by decide) ?_
              refine r_weak C [0, 1, 2, 3] rfl ?_
              exact ihp (nI p) x10 h11 vh11 mh11 (⟨by omega, by omega, by omega⟩) ph11 kh11
            ·
              have c12 : ¬ x1 = -1 := c12
              refine r_lload C (dx dX7_harms 37 rfl) rfl ?_
              refine r_lload_n C (dx dX7_harms 38 rfl) rfl ?_
              refine r_lcmp C (dx dX7_harms 39 rfl) ?_
              refine r_if_ge (tgt := 72) C (dx dX7_harms 40 rfl) (by decide) (fun c13 => ?_) (fun c13 => ?_)
              ·
                have c13 : x2 ≤ x10 := (lg_cmp_ge _ _).mp c13
                refine rn_iinc (a := p) (k := 1) (ls' := [(0, vr 7 k), (1, vi x1), (2, vl x2), (4, vi (nI (p + 1))), (5, vl x10)]) C (dx dX7_harms 45 rfl) rfl rfl (by decide) [1, 2, 3, 0, 4] rfl ?_
                refine r_goto (tgt := 7) C (dx dX7_harms 46 rfl) (by decide) ?_
                refine r_weak C [0, 1, 2, 3] rfl ?_
                exact ihp x1 x2 h11 vh11 mh11 (⟨by omega, by omega, by omega⟩) ph11 kh11
              ·
                have c13 : ¬ (x2 ≤ x10) := fun q => c13 ((lg_cmp_ge _ _).mpr q)
                refine r_iload C (dx dX7_harms 41 rfl) rfl ?_
                refine r_istore_n (ls' := [(0, vr 7 k), (1, vi (nI p)), (2, vl x2), (4, vi (nI p)), (5, vl x10)]) C (dx dX7_harms 42 rfl) (by decide) [1, 0, 2, 3, 4] rfl ?_
                refine r_lload C (dx dX7_harms 43 rfl) rfl ?_
                refine r_lstore_n (ls' := [(0, vr 7 k), (1, vi (nI p)), (2, vl x10), (4, vi (nI p)), (5, vl x10)]) C (dx dX7_harms 44 rfl) (by decide) [1, 2, 0, 3, 4] rfl ?_
                refine rn_iinc (a := p) (k := 1) (ls' := [(0, vr 7 k), (1, vi (nI p)), (2, vl x10), (4, vi (nI (p + 1))), (5, vl x10)]) C (dx dX7_harms 45 rfl) rfl rfl (by decide) [1, 2, 3, 0, 4] rfl ?_
                refine r_goto (tgt := 7) C (dx dX7_harms 46 rfl) (by decide) ?_
                refine r_weak C [0, 1, 2, 3] rfl ?_
                exact ihp (nI p) x10 h11 vh11 mh11 (⟨by omega, by omega, by omega⟩) ph11 kh11)
set_option maxHeartbeats 4000000 in
theorem c_X7_least {l : Launch} {h : Hp} {k : Nat} {v : Vg} (hm : MilAt h k v)  : Ms l yX7_least cX7_least 3 (some .int) 8 [vr 7 k] h (xK h) (fun r h' => PI r ∧ (∃ v', MilAt h' k v') ∧ Kp k h h') := by
  refine Ms.of (by decide) (Nat.le_of_ble_eq_true rfl) (fun G C X F => ?_)
  have C : Cx G cX7_least 3 RX7 := C
  show Rr G 0 [(0, vr 7 k)] [] h
  have bP := hm.bP
  have bM := hm.bM
  have bN := hm.bN
  obtain ⟨S, hS⟩ : ∃ S, S = 2 ^ vN v := ⟨_, rfl⟩
  have p8 := pow8 bN
  rw [← hS] at p8
  refine r_aload_n C (dx dX7_least 0 rfl) rfl ?_
  refine r_cvP (as := []) (st := []) (v := vi (nI (S - 1))) C X I_X7_all l_X7_253 (c_mallS hm hS) (by decide) (Nat.le_of_ble_eq_true rfl) List.prefix_rfl rfl rfl (Nat.le_of_ble_eq_true rfl) rfl (dx dX7_least 1 rfl) ?_
  refine r_istore_n (ls' := [(0, vr 7 k), (1, vi (nI (S - 1)))]) C (dx dX7_least 2 rfl) (by decide) [1, 0] rfl ?_
  refine r_aload_n C (dx dX7_least 3 rfl) rfl ?_
  refine r_cvP (as := []) (st := []) (v := vi (nI (S - 1))) C X I_X7_all l_X7_253 (c_mallS hm hS) (by decide) (Nat.le_of_ble_eq_true rfl) List.prefix_rfl rfl rfl (Nat.le_of_ble_eq_true rfl) rfl (dx dX7_least 4 rfl) ?_
  refine r_istore_n (ls' := [(0, vr 7 k), (1, vi (nI (S - 1))), (2, vi (nI (S - 1)))]) C (dx dX7_least 5 rfl) (by decide) [1, 2, 0] rfl ?_
  have key : ∀ j, j ≤ S → ∀ (x1 : Int32), Rr G 10 [(0, vr 7 k), (1, vi x1), (2, vi (nI j - nI 1))] [] h := by
    refine loopDn (Φ := fun j => j ≤ S → ∀ (x1 : Int32), Rr G 10 [(0, vr 7 k), (1, vi x1), (2, vi (nI j - nI 1))] [] h) ?_ ?_
    ·
      intro hj x1
      rw [show nI 0 - nI 1 = -1 from by decide]
      refine r_iload_n C (dx dX7_least 6 rfl) rfl ?_
      refine r_if_lt (tgt := 53) C (dx dX7_least 7 rfl) (by decide) (fun c1 => ?_) (fun c1 => ?_)
      ·
        have c1 : (-1 : Int32) < 0 := c1
        refine r_iload_n C (dx dX7_least 29 rfl) rfl ?_
        exact F.1 _ _ _ _ .int rfl rfl (dx dX7_least 30 rfl) rfl ⟨⟨_, rfl⟩, ⟨_, hm⟩, Kp.rf⟩
      · exact absurd (show (-1 : Int32) < 0 by decide) c1
    ·
      intro j ihj hj x1
      rw [show nI (j + 1) - nI 1 = nI j from pk_sub (a := j + 1) (b := 1) (by omega)]
      refine r_iload_n C (dx dX7_least 6 rfl) rfl ?_
      refine r_if_lt (tgt := 53) C (dx dX7_least 7 rfl) (by decide) (fun c2 => ?_) (fun c2 => ?_)
      · exact absurd c2 (nI_pos (by omega))
      ·
        have c2 : ¬ nI j < 0 := c2
        refine r_aload_n C (dx dX7_least 8 rfl) rfl ?_
        refine r_aload_n C (dx dX7_least 9 rfl) rfl ?_
        refine r_cvP (as := []) (st := [vr 7 k]) (v := vi (nI (S - 1))) C X I_X7_all l_X7_253 (c_mallS hm hS) (by decide) (Nat.le_of_ble_eq_true rfl) List.prefix_rfl rfl rfl (Nat.le_of_ble_eq_true rfl) rfl (dx dX7_least 10 rfl) ?_
        refine r_iload_n C (dx dX7_least 11 rfl) rfl ?_
        refine r_iconst (v := -1) C (dx dX7_least 12 rfl) rfl ?_
        refine r_ixor C (dx dX7_least 13 rfl) ?_
        refine r_iand C (dx dX7_least 14 rfl) ?_
        refine r_iconst (v := nI 0) C (dx dX7_least 15 rfl) rfl ?_
        refine r_cvW (as := [vi ((nI (S - 1)) &&& ((nI j) ^^^ (-1))), vi (nI 0)]) (st := []) C X I_X7_anyWorks l_X7_317 (c_X7_anyWorks hm _ _) (by decide) (Nat.le_of_ble_eq_true rfl) List.prefix_rfl rfl rfl (Nat.le_of_ble_eq_true rfl) rfl (dx dX7_least 16 rfl) ?_
        rintro _ ⟨x3, rfl⟩
        refine rb_ne (b := x3) (tgt := 45) C (dx dX7_least 17 rfl) (by decide) (fun c4 => ?_) (fun c4 => ?_)
        ·
          have c4 : x3 = true := c4
          refine r_iload_n C (dx dX7_least 25 rfl) rfl ?_
          refine r_istore_n (ls' := [(0, vr 7 k), (1, vi x1), (2, vi (nI j))]) C (dx dX7_least 26 rfl) (by decide) [1, 0, 2] rfl ?_
          refine r_iinc (ls' := [(0, vr 7 k), (1, vi x1), (2, vi (nI j + (-1)))]) C (dx dX7_least 27 rfl) rfl rfl (by decide) [1, 2, 0] rfl ?_
          refine r_goto (tgt := 10) C (dx dX7_least 28 rfl) (by decide) ?_
          rw [add_m1]
          exact ihj (by omega) x1
        ·
          have c4 : x3 = false := c4
          refine r_iload_n C (dx dX7_least 18 rfl) rfl ?_
          refine r_csW (as := [vi (nI j)]) (st := []) C X I_X7_bits l_X7_268 (c_X7_bits _) (by decide) (Nat.le_of_ble_eq_true rfl) List.prefix_rfl (Nat.le_of_ble_eq_true rfl) rfl (dx dX7_least 19 rfl) ?_
          rintro _ ⟨x5, hx5, rfl⟩
          refine r_iload_n C (dx dX7_least 20 rfl) rfl ?_
          refine r_csW (as := [vi x1]) (st := [vi (nI x5)]) C X I_X7_bits l_X7_268 (c_X7_bits _) (by decide) (Nat.le_of_ble_eq_true rfl) List.prefix_rfl (Nat.le_of_ble_eq_true rfl) rfl (dx dX7_least 21 rfl) ?_
          rintro _ ⟨x6, hx6, rfl⟩
          refine rn_gt (a := x5) (b := x6) (tgt := 45) C (by omega) (by omega) (dx dX7_least 22 rfl) (by decide) (fun c7 => ?_) (fun c7 => ?_)
          · first
            | (omega; done)
            | (
                have c7 : x6 < x5 := c7
                refine r_iload_n C (dx dX7_least 25 rfl) rfl ?_
                refine r_istore_n (ls' := [(0, vr 7 k), (1, vi x1), (2, vi (nI j))]) C (dx dX7_least 26 rfl) (by decide) [1, 0, 2] rfl ?_
                refine r_iinc (ls' := [(0, vr 7 k), (1, vi x1), (2, vi (nI j + (-1)))]) C (dx dX7_least 27 rfl) rfl rfl (by decide) [1, 2, 0] rfl ?_
                refine r_goto (tgt := 10) C (dx dX7_least 28 rfl) (by decide) ?_
                rw [add_m1]
                exact ihj (by omega) x1)
          · first
            | (omega; done)
            | (
                have c7 : x5 ≤ x6 := c7
                refine r_iload_n C (dx dX7_least 23 rfl) rfl ?_
                refine r_goto (tgt := 46) C (dx dX7_least 24 rfl) (by decide) ?_
                refine r_istore_n (ls' := [(0, vr 7 k), (1, vi (nI j)), (2, vi (nI j))]) C (dx dX7_least 26 rfl) (by decide) [1, 0, 2] rfl ?_
                refine r_iinc (ls' := [(0, vr 7 k), (1, vi (nI j)), (2, vi (nI j + (-1)))]) C (dx dX7_least 27 rfl) rfl rfl (by decide) [1, 2, 0] rfl ?_
                refine r_goto (tgt := 10) C (dx dX7_least 28 rfl) (by decide) ?_
                rw [add_m1]
                exact ihj (by omega) (nI j))
  have k9 := key S (Nat.le_refl _) (nI (S - 1))
  rw [pk_sub (a := S) (b := 1) (by omega)] at k9
  exact k9
set_option maxHeartbeats 4000000 in
theorem c_X7_stolen {l : Launch} {h : Hp} {k : Nat} {v : Vg} (hm : MilAt h k v)  : Ms l yX7_stolen cX7_stolen 3 (some .int) 8 [vr 7 k] h (xK h) (fun r h' => PI r ∧ (∃ v', MilAt h' k v') ∧ Kp k h h') := by
  refine Ms.of (by decide) (Nat.le_of_ble_eq_true rfl) (fun G C X F => ?_)
  have C : Cx G cX7_stolen 3 RX7 := C
  show Rr G 0 [(0, vr 7 k)] [] h
  have bP := hm.bP
  have bM := hm.bM
  have bN := hm.bN
  obtain ⟨S, hS⟩ : ∃ S, S = 2 ^ vP v := ⟨_, rfl⟩
  have p12 := pow12 bP
  rw [← hS] at p12
  refine r_iconst (v := nI 1) C (dx dX7_stolen 0 rfl) rfl ?_
  refine r_aload_n C (dx dX7_stolen 1 rfl) rfl ?_
  refine g_X7_64 (x := nI (vP v)) C (dx dX7_stolen 2 rfl) hm.eP ?_
  refine r_ishl C (dx dX7_stolen 3 rfl) ?_
  refine r_iconst (v := nI 1) C (dx dX7_stolen 4 rfl) rfl ?_
  refine r_isub C (dx dX7_stolen 5 rfl) ?_
  rw [show (nI 1 <<< (nI (vP v) &&& 31)) - nI 1 = nI (S - 1) from by rw [full_sh bP, hS]; rfl]
  refine r_istore_n (ls' := [(0, vr 7 k), (1, vi (nI (S - 1)))]) C (dx dX7_stolen 6 rfl) (by decide) [1, 0] rfl ?_
  refine r_iload_n C (dx dX7_stolen 7 rfl) rfl ?_
  refine r_istore_n (ls' := [(0, vr 7 k), (1, vi (nI (S - 1))), (2, vi (nI (S - 1)))]) C (dx dX7_stolen 8 rfl) (by decide) [1, 2, 0] rfl ?_
  have key : ∀ j, j ≤ S → ∀ (x1 : Int32), Rr G 11 [(0, vr 7 k), (1, vi x1), (2, vi (nI j - nI 1))] [] h := by
    refine loopDn (Φ := fun j => j ≤ S → ∀ (x1 : Int32), Rr G 11 [(0, vr 7 k), (1, vi x1), (2, vi (nI j - nI 1))] [] h) ?_ ?_
    ·
      intro hj x1
      rw [show nI 0 - nI 1 = -1 from by decide]
      refine r_iload_n C (dx dX7_stolen 9 rfl) rfl ?_
      refine r_if_lt (tgt := 50) C (dx dX7_stolen 10 rfl) (by decide) (fun c1 => ?_) (fun c1 => ?_)
      ·
        have c1 : (-1 : Int32) < 0 := c1
        refine r_iload_n C (dx dX7_stolen 28 rfl) rfl ?_
        exact F.1 _ _ _ _ .int rfl rfl (dx dX7_stolen 29 rfl) rfl ⟨⟨_, rfl⟩, ⟨_, hm⟩, Kp.rf⟩
      · exact absurd (show (-1 : Int32) < 0 by decide) c1
    ·
      intro j ihj hj x1
      rw [show nI (j + 1) - nI 1 = nI j from pk_sub (a := j + 1) (b := 1) (by omega)]
      refine r_iload_n C (dx dX7_stolen 9 rfl) rfl ?_
      refine r_if_lt (tgt := 50) C (dx dX7_stolen 10 rfl) (by decide) (fun c2 => ?_) (fun c2 => ?_)
      · exact absurd c2 (nI_pos (by omega))
      ·
        have c2 : ¬ nI j < 0 := c2
        refine r_iload_n C (dx dX7_stolen 11 rfl) rfl ?_
        refine r_csW (as := [vi (nI j)]) (st := []) C X I_X7_bits l_X7_268 (c_X7_bits _) (by decide) (Nat.le_of_ble_eq_true rfl) List.prefix_rfl (Nat.le_of_ble_eq_true rfl) rfl (dx dX7_stolen 12 rfl) ?_
        rintro _ ⟨x3, hx3, rfl⟩
        refine r_iload_n C (dx dX7_stolen 13 rfl) rfl ?_
        refine r_csW (as := [vi x1]) (st := [vi (nI x3)]) C X I_X7_bits l_X7_268 (c_X7_bits _) (by decide) (Nat.le_of_ble_eq_true rfl) List.prefix_rfl (Nat.le_of_ble_eq_true rfl) rfl (dx dX7_stolen 14 rfl) ?_
        rintro _ ⟨x4, hx4, rfl⟩
        refine rn_gt (a := x3) (b := x4) (tgt := 42) C (by omega) (by omega) (dx dX7_stolen 15 rfl) (by decide) (fun c5 => ?_) (fun c5 => ?_)
        · first
          | (omega; done)
          | (
              have c5 : x4 < x3 := c5
              refine r_iload_n C (dx dX7_stolen 24 rfl) rfl ?_
              refine r_istore_n (ls' := [(0, vr 7 k), (1, vi x1), (2, vi (nI j))]) C (dx dX7_stolen 25 rfl) (by decide) [1, 0, 2] rfl ?_
              refine r_iinc (ls' := [(0, vr 7 k), (1, vi x1), (2, vi (nI j + (-1)))]) C (dx dX7_stolen 26 rfl) rfl rfl (by decide) [1, 2, 0] rfl ?_
              refine r_goto (tgt := 11) C (dx dX7_stolen 27 rfl) (by decide) ?_
              rw [add_m1]
              exact ihj (by omega) x1)
        · first
          | (omega; done)
          | (
              have c5 : x3 ≤ x4 := c5
              refine r_aload_n C (dx dX7_stolen 16 rfl) rfl ?_
              refine r_aload_n C (dx dX7_stolen 17 rfl) rfl ?_
              refine r_cvP (as := []) (st := [vr 7 k]) (v := vi (full (vN v))) C X I_X7_all l_X7_253 (c_X7_all hm) (by decide) (Nat.le_of_ble_eq_true rfl) List.prefix_rfl rfl rfl (Nat.le_of_ble_eq_true rfl) rfl (dx dX7_stolen 18 rfl) ?_
              refine r_iload_n C (dx dX7_stolen 19 rfl) rfl ?_
              refine r_cvW (as := [vi (full (vN v)), vi (nI j)]) (st := []) C X I_X7_anyWorks l_X7_317 (c_X7_anyWorks hm _ _) (by decide) (Nat.le_of_ble_eq_true rfl) List.prefix_rfl rfl rfl (Nat.le_of_ble_eq_true rfl) rfl (dx dX7_stolen 20 rfl) ?_
              rintro _ ⟨x6, rfl⟩
              refine rb_ne (b := x6) (tgt := 42) C (dx dX7_stolen 21 rfl) (by decide) (fun c7 => ?_) (fun c7 => ?_)
              ·
                have c7 : x6 = true := c7
                refine r_iload_n C (dx dX7_stolen 24 rfl) rfl ?_
                refine r_istore_n (ls' := [(0, vr 7 k), (1, vi x1), (2, vi (nI j))]) C (dx dX7_stolen 25 rfl) (by decide) [1, 0, 2] rfl ?_
                refine r_iinc (ls' := [(0, vr 7 k), (1, vi x1), (2, vi (nI j + (-1)))]) C (dx dX7_stolen 26 rfl) rfl rfl (by decide) [1, 2, 0] rfl ?_
                refine r_goto (tgt := 11) C (dx dX7_stolen 27 rfl) (by decide) ?_
                rw [add_m1]
                exact ihj (by omega) x1
              ·
                have c7 : x6 = false := c7
                refine r_iload_n C (dx dX7_stolen 22 rfl) rfl ?_
                refine r_goto (tgt := 43) C (dx dX7_stolen 23 rfl) (by decide) ?_
                refine r_istore_n (ls' := [(0, vr 7 k), (1, vi (nI j)), (2, vi (nI j))]) C (dx dX7_stolen 25 rfl) (by decide) [1, 0, 2] rfl ?_
                refine r_iinc (ls' := [(0, vr 7 k), (1, vi (nI j)), (2, vi (nI j + (-1)))]) C (dx dX7_stolen 26 rfl) rfl rfl (by decide) [1, 2, 0] rfl ?_
                refine r_goto (tgt := 11) C (dx dX7_stolen 27 rfl) (by decide) ?_
                rw [add_m1]
                exact ihj (by omega) (nI j))
  have k9 := key S (Nat.le_refl _) (nI (S - 1))
  rw [pk_sub (a := S) (b := 1) (by omega)] at k9
  exact k9
set_option maxHeartbeats 4000000 in
theorem c_X7_spare {l : Launch} {h : Hp} {k : Nat} {v : Vg} (hm : MilAt h k v)  : Ms l yX7_spare cX7_spare 8 (some .int) 8 [vr 7 k] h (xK h) (fun r h' => PI r ∧ (∃ v', MilAt h' k v') ∧ Kp k h h') := by
  refine Ms.of (by decide) (Nat.le_of_ble_eq_true rfl) (fun G C X F => ?_)
  have C : Cx G cX7_spare 8 RX7 := C
  show Rr G 0 [(0, vr 7 k)] [] h
  have bP := hm.bP
  have bM := hm.bM
  have bN := hm.bN
  refine r_iconst (v := -1) C (dx dX7_spare 0 rfl) rfl ?_
  refine r_istore_n (ls' := [(0, vr 7 k), (1, vi (-1))]) C (dx dX7_spare 1 rfl) (by decide) [1, 0] rfl ?_
  refine r_aload_n C (dx dX7_spare 2 rfl) rfl ?_
  refine r_cvW (as := []) (st := []) C X I_X7_day l_X7_295 (c_X7_day hm) (by decide) (Nat.le_of_ble_eq_true rfl) List.prefix_rfl rfl rfl (Nat.le_of_ble_eq_true rfl) rfl (dx dX7_spare 3 rfl) ?_
  rintro _ ⟨x1, rfl⟩
  refine r_lstore_n (ls' := [(0, vr 7 k), (1, vi (-1)), (2, vl x1)]) C (dx dX7_spare 4 rfl) (by decide) [1, 2, 0] rfl ?_
  refine r_iconst (v := nI 0) C (dx dX7_spare 5 rfl) rfl ?_
  refine r_istore (ls' := [(0, vr 7 k), (1, vi (-1)), (2, vl x1), (4, vi (nI 0))]) C (dx dX7_spare 6 rfl) (by decide) [1, 2, 3, 0] rfl ?_
  refine loopU (Φ := fun p => ∀ (x1 : Int32), ∀ (x2 : Int64), ∀ (h9p : Hp) (u9p : Vg), MilAt h9p k u9p → Sz v u9p → Kp k h h9p → xK h9p = xK h → Rr G 10 [(0, vr 7 k), (1, vi x1), (2, vl x2), (4, vi (nI p))] [] h9p) (N := vP v) ?_ ?_ 0 (by omega) (-1) x1 h v hm (⟨by omega, by omega, by omega⟩) Kp.rf rfl
  ·
    intro  x1 x2 h9p u9p mh9p zh9p ph9p kh9p
    obtain ⟨ah9p, bh9p, ch9p⟩ := zh9p
    refine r_iload C (dx dX7_spare 7 rfl) rfl ?_
    refine r_aload_n C (dx dX7_spare 8 rfl) rfl ?_
    refine g_X7_64 (x := nI (vP u9p)) C (dx dX7_spare 9 rfl) mh9p.eP ?_
    refine rn_ge (a := vP v) (b := vP u9p) (tgt := 117) C (by omega) (by omega) (dx dX7_spare 10 rfl) (by decide) (fun c2 => ?_) (fun c2 => ?_)
    · first
      | (omega; done)
      | (
          have c2 : vP u9p ≤ vP v := c2
          refine r_iload_n C (dx dX7_spare 62 rfl) rfl ?_
          exact F.1 _ _ _ _ .int rfl rfl (dx dX7_spare 63 rfl) kh9p ⟨⟨_, rfl⟩, ⟨_, mh9p⟩, ph9p⟩)
    · first
      | (omega; done)
      | (
          have c2 : vP v < vP u9p := c2
          refine r_iconst (v := nI 0) C (dx dX7_spare 11 rfl) rfl ?_
          refine r_istore (ls' := [(0, vr 7 k), (1, vi x1), (2, vl x2), (4, vi (nI (vP v))), (5, vi (nI 0))]) C (dx dX7_spare 12 rfl) (by decide) [1, 2, 3, 4, 0] rfl ?_
          refine loopU (Φ := fun q => ∀ (x1 : Int32), ∀ (x2 : Int64), ∀ (h9q : Hp) (u9q : Vg), MilAt h9q k u9q → Sz v u9q → Kp k h h9q → xK h9q = xK h → Rr G 22 [(0, vr 7 k), (1, vi x1), (2, vl x2), (4, vi (nI (vP v))), (5, vi (nI q))] [] h9q) (N := vN v) ?_ ?_ 0 (by omega) x1 x2 h9p u9p mh9p (⟨by omega, by omega, by omega⟩) ph9p kh9p
          ·
            intro  x1 x2 h9q u9q mh9q zh9q ph9q kh9q
            obtain ⟨ah9q, bh9q, ch9q⟩ := zh9q
            refine r_iload C (dx dX7_spare 13 rfl) rfl ?_
            refine r_aload_n C (dx dX7_spare 14 rfl) rfl ?_
            refine g_X7_74 (x := nI (vN u9q)) C (dx dX7_spare 15 rfl) mh9q.eN ?_
            refine rn_ge (a := vN v) (b := vN u9q) (tgt := 111) C (by omega) (by omega) (dx dX7_spare 16 rfl) (by decide) (fun c3 => ?_) (fun c3 => ?_)
            · first
              | (omega; done)
            · first
              | (omega; done)
          ·
            intro q hq ihq x1 x2 h9q u9q mh9q zh9q ph9q kh9q
            obtain ⟨ah9q, bh9q, ch9q⟩ := zh9q
            refine r_iload C (dx dX7_spare 13 rfl) rfl ?_
            refine r_aload_n C (dx dX7_spare 14 rfl) rfl ?_
            refine g_X7_74 (x := nI (vN u9q)) C (dx dX7_spare 15 rfl) mh9q.eN ?_
            refine rn_ge (a := q) (b := vN u9q) (tgt := 111) C (by omega) (by omega) (dx dX7_spare 16 rfl) (by decide) (fun c5 => ?_) (fun c5 => ?_)
            · first
              | (omega; done)
            · first
              | (omega; done))
  ·
    intro p hp ihp x1 x2 h9p u9p mh9p zh9p ph9p kh9p
    obtain ⟨ah9p, bh9p, ch9p⟩ := zh9p
    refine r_iload C (dx dX7_spare 7 rfl) rfl ?_
    refine r_aload_n C (dx dX7_spare 8 rfl) rfl ?_
    refine g_X7_64 (x := nI (vP u9p)) C (dx dX7_spare 9 rfl) mh9p.eP ?_
    refine rn_ge (a := p) (b := vP u9p) (tgt := 117) C (by omega) (by omega) (dx dX7_spare 10 rfl) (by decide) (fun c7 => ?_) (fun c7 => ?_)
    · first
      | (omega; done)
      | (
          have c7 : vP u9p ≤ p := c7
          refine r_iload_n C (dx dX7_spare 62 rfl) rfl ?_
          exact F.1 _ _ _ _ .int rfl rfl (dx dX7_spare 63 rfl) kh9p ⟨⟨_, rfl⟩, ⟨_, mh9p⟩, ph9p⟩)
    · first
      | (omega; done)
      | (
          have c7 : p < vP u9p := c7
          refine r_iconst (v := nI 0) C (dx dX7_spare 11 rfl) rfl ?_
          refine r_istore (ls' := [(0, vr 7 k), (1, vi x1), (2, vl x2), (4, vi (nI p)), (5, vi (nI 0))]) C (dx dX7_spare 12 rfl) (by decide) [1, 2, 3, 4, 0] rfl ?_
          refine loopU (Φ := fun q => ∀ (x1 : Int32), ∀ (x2 : Int64), ∀ (h9q : Hp) (u9q : Vg), MilAt h9q k u9q → Sz v u9q → Kp k h h9q → xK h9q = xK h → Rr G 22 [(0, vr 7 k), (1, vi x1), (2, vl x2), (4, vi (nI p)), (5, vi (nI q))] [] h9q) (N := vN v) ?_ ?_ 0 (by omega) x1 x2 h9p u9p mh9p (⟨by omega, by omega, by omega⟩) ph9p kh9p
          ·
            intro  x1 x2 h9q u9q mh9q zh9q ph9q kh9q
            obtain ⟨ah9q, bh9q, ch9q⟩ := zh9q
            refine r_iload C (dx dX7_spare 13 rfl) rfl ?_
            refine r_aload_n C (dx dX7_spare 14 rfl) rfl ?_
            refine g_X7_74 (x := nI (vN u9q)) C (dx dX7_spare 15 rfl) mh9q.eN ?_
            refine rn_ge (a := vN v) (b := vN u9q) (tgt := 111) C (by omega) (by omega) (dx dX7_spare 16 rfl) (by decide) (fun c8 => ?_) (fun c8 => ?_)
            · first
              | (omega; done)
              | (
                  have c8 : vN u9q ≤ vN v := c8
                  refine rn_iinc (a := p) (k := 1) (ls' := [(0, vr 7 k), (1, vi x1), (2, vl x2), (4, vi (nI (p + 1))), (5, vi (nI (vN v)))]) C (dx dX7_spare 60 rfl) rfl rfl (by decide) [1, 2, 3, 0, 4] rfl ?_
                  refine r_goto (tgt := 10) C (dx dX7_spare 61 rfl) (by decide) ?_
                  refine r_weak C [0, 1, 2, 3] rfl ?_
                  exact ihp x1 x2 h9q u9q mh9q (⟨by omega, by omega, by omega⟩) ph9q kh9q)
            · first
              | (omega; done)
          ·
            intro q hq ihq x1 x2 h9q u9q mh9q zh9q ph9q kh9q
            obtain ⟨ah9q, bh9q, ch9q⟩ := zh9q
            refine r_iload C (dx dX7_spare 13 rfl) rfl ?_
            refine r_aload_n C (dx dX7_spare 14 rfl) rfl ?_
            refine g_X7_74 (x := nI (vN u9q)) C (dx dX7_spare 15 rfl) mh9q.eN ?_
            refine rn_ge (a := q) (b := vN u9q) (tgt := 111) C (by omega) (by omega) (dx dX7_spare 16 rfl) (by decide) (fun c11 => ?_) (fun c11 => ?_)
            · first
              | (omega; done)
              | (
                  have c11 : vN u9q ≤ q := c11
                  refine rn_iinc (a := p) (k := 1) (ls' := [(0, vr 7 k), (1, vi x1), (2, vl x2), (4, vi (nI (p + 1))), (5, vi (nI q))]) C (dx dX7_spare 60 rfl) rfl rfl (by decide) [1, 2, 3, 0, 4] rfl ?_
                  refine r_goto (tgt := 10) C (dx dX7_spare 61 rfl) (by decide) ?_
                  refine r_weak C [0, 1, 2, 3] rfl ?_
                  exact ihp x1 x2 h9q u9q mh9q (⟨by omega, by omega, by omega⟩) ph9q kh9q)
            · first
              | (omega; done)
              | (
                  have c11 : q < vN u9q := c11
                  refine r_aload_n C (dx dX7_spare 17 rfl) rfl ?_
                  refine g_X7_43 C (dx dX7_spare 18 rfl) ?_
                  refine r_iload C (dx dX7_spare 19 rfl) rfl ?_
                  refine r_iald (j := p) (x := vF u9q 1 p) C rfl rfl (by decide) rfl (by omega) (dx dX7_spare 20 rfl) (mh9q.e1 (by omega)) ?_
                  refine r_iconst (v := -1) C (dx dX7_spare 21 rfl) rfl ?_
                  refine r_icmp_ne (tgt := 111) C (dx dX7_spare 22 rfl) (by decide) (fun c12 => ?_) (fun c12 => ?_)
                  ·
                    have c12 : ¬ vF u9q 1 p = -1 := c12
                    refine rn_iinc (a := p) (k := 1) (ls' := [(0, vr 7 k), (1, vi x1), (2, vl x2), (4, vi (nI (p + 1))), (5, vi (nI q))]) C (dx dX7_spare 60 rfl) rfl rfl (by decide) [1, 2, 3, 0, 4] rfl ?_
                    refine r_goto (tgt := 10) C (dx dX7_spare 61 rfl) (by decide) ?_
                    refine r_weak C [0, 1, 2, 3] rfl ?_
                    exact ihp x1 x2 h9q u9q mh9q (⟨by omega, by omega, by omega⟩) ph9q kh9q
                  ·
                    have c12 : vF u9q 1 p = -1 := c12
                    refine r_iload C (dx dX7_spare 23 rfl) rfl ?_
                    refine r_aload_n C (dx dX7_spare 24 rfl) rfl ?_
                    refine g_X7_40 C (dx dX7_spare 25 rfl) ?_
                    refine r_iload C (dx dX7_spare 26 rfl) rfl ?_
                    refine r_iald (j := p) (x := vF u9q 0 p) C rfl rfl (by decide) rfl (by omega) (dx dX7_spare 27 rfl) (mh9q.e0 (by omega)) ?_
                    refine r_icmp_eq (tgt := 105) C (dx dX7_spare 28 rfl) (by decide) (fun c13 => ?_) (fun c13 => ?_)
                    ·
                      have c13 : nI q = vF u9q 0 p := c13
                      refine rn_iinc (a := q) (k := 1) (ls' := [(0, vr 7 k), (1, vi x1), (2, vl x2), (4, vi (nI p)), (5, vi (nI (q + 1)))]) C (dx dX7_spare 58 rfl) rfl rfl (by decide) [1, 2, 3, 4, 0] rfl ?_
                      refine r_goto (tgt := 22) C (dx dX7_spare 59 rfl) (by decide) ?_
                      exact ihq x1 x2 h9q u9q mh9q (⟨by omega, by omega, by omega⟩) ph9q kh9q
                    ·
                      have c13 : ¬ nI q = vF u9q 0 p := c13
                      refine r_aload_n C (dx dX7_spare 29 rfl) rfl ?_
                      refine r_iload C (dx dX7_spare 30 rfl) rfl ?_
                      refine r_cvW (as := [vi (nI q)]) (st := []) C X I_X7_hasRoom l_X7_135 (c_X7_hasRoom mh9q (j := q) (by omega)) (by decide) (Nat.le_of_ble_eq_true rfl) (pfx_eq kh9q) rfl rfl (Nat.le_of_ble_eq_true rfl) rfl (dx dX7_spare 31 rfl) ?_
                      rintro _ ⟨x14, rfl⟩
                      refine rb_eq (b := x14) (tgt := 105) C (dx dX7_spare 32 rfl) (by decide) (fun c15 => ?_) (fun c15 => ?_)
                      ·
                        have c15 : x14 = false := c15
                        refine rn_iinc (a := q) (k := 1) (ls' := [(0, vr 7 k), (1, vi x1), (2, vl x2), (4, vi (nI p)), (5, vi (nI (q + 1)))]) C (dx dX7_spare 58 rfl) rfl rfl (by decide) [1, 2, 3, 4, 0] rfl ?_
                        refine r_goto (tgt := 22) C (dx dX7_spare 59 rfl) (by decide) ?_
                        exact ihq x1 x2 h9q u9q mh9q (⟨by omega, by omega, by omega⟩) ph9q kh9q
                      ·
                        have c15 : x14 = true := c15
                        refine r_aload_n C (dx dX7_spare 33 rfl) rfl ?_
                        refine g_X7_43 C (dx dX7_spare 34 rfl) ?_
                        refine r_iload C (dx dX7_spare 35 rfl) rfl ?_
                        refine r_iload C (dx dX7_spare 36 rfl) rfl ?_
                        refine r_iast (j := p) C rfl rfl (by decide) rfl (by omega) (dx dX7_spare 37 rfl) ?_
                        obtain ⟨vh16, mh16, zh16⟩ : ∃ v9, MilAt (sI h9q (k + 19) p (nI q)) k v9 ∧ Sz u9q v9 := ⟨vset u9q 1 p (nI q), mh9q.s1, ⟨rfl, rfl, rfl⟩⟩
                        have ph16 : Kp k h (sI h9q (k + 19) p (nI q)) := ph9q.tr (Kp.c (by omega) (by omega))
                        have kh16 : xK (sI h9q (k + 19) p (nI q)) = xK h := kh9q
                        generalize sI h9q (k + 19) p (nI q) = h16 at mh16 ph16 kh16 ⊢
                        obtain ⟨ah16, bh16, ch16⟩ := zh16
                        refine r_aload_n C (dx dX7_spare 38 rfl) rfl ?_
                        refine r_cvW (as := []) (st := []) C X I_X7_day l_X7_295 (c_X7_day mh16) (by decide) (Nat.le_of_ble_eq_true rfl) (pfx_eq kh16) rfl rfl (Nat.le_of_ble_eq_true rfl) rfl (dx dX7_spare 39 rfl) ?_
                        rintro _ ⟨x17, rfl⟩
                        refine r_lstore (ls' := [(0, vr 7 k), (1, vi x1), (2, vl x2), (4, vi (nI p)), (5, vi (nI q)), (6, vl x17)]) C (dx dX7_spare 40 rfl) (by decide) [1, 2, 3, 4, 5, 0] rfl ?_
                        refine r_aload_n C (dx dX7_spare 41 rfl) rfl ?_
                        refine g_X7_43 C (dx dX7_spare 42 rfl) ?_
                        refine r_iload C (dx dX7_spare 43 rfl) rfl ?_
                        refine r_iconst (v := -1) C (dx dX7_spare 44 rfl) rfl ?_
                        refine r_iast (j := p) C rfl rfl (by decide) rfl (by omega) (dx dX7_spare 45 rfl) ?_
                        obtain ⟨vh18, mh18, zh18⟩ : ∃ v9, MilAt (sI h16 (k + 19) p (-1)) k v9 ∧ Sz vh16 v9 := ⟨vset vh16 1 p (-1), mh16.s1, ⟨rfl, rfl, rfl⟩⟩
                        have ph18 : Kp k h (sI h16 (k + 19) p (-1)) := ph16.tr (Kp.c (by omega) (by omega))
                        have kh18 : xK (sI h16 (k + 19) p (-1)) = xK h := kh16
                        generalize sI h16 (k + 19) p (-1) = h18 at mh18 ph18 kh18 ⊢
                        obtain ⟨ah18, bh18, ch18⟩ := zh18
                        refine r_lload C (dx dX7_spare 46 rfl) rfl ?_
                        refine r_lload_n C (dx dX7_spare 47 rfl) rfl ?_
                        refine r_lcmp C (dx dX7_spare 48 rfl) ?_
                        refine r_if_le (tgt := 105) C (dx dX7_spare 49 rfl) (by decide) (fun c19 => ?_) (fun c19 => ?_)
                        ·
                          have c19 : x17 ≤ x2 := (lg_cmp_le _ _).mp c19
                          refine rn_iinc (a := q) (k := 1) (ls' := [(0, vr 7 k), (1, vi x1), (2, vl x2), (4, vi (nI p)), (5, vi (nI (q + 1))), (6, vl x17)]) C (dx dX7_spare 58 rfl) rfl rfl (by decide) [1, 2, 3, 4, 0, 5] rfl ?_
                          refine r_goto (tgt := 22) C (dx dX7_spare 59 rfl) (by decide) ?_
                          refine r_weak C [0, 1, 2, 3, 4] rfl ?_
                          exact ihq x1 x2 h18 vh18 mh18 (⟨by omega, by omega, by omega⟩) ph18 kh18
                        ·
                          have c19 : ¬ (x17 ≤ x2) := fun q => c19 ((lg_cmp_le _ _).mpr q)
                          refine r_bipush (v := nI 10) C (dx dX7_spare 50 rfl) rfl ?_
                          refine r_iload C (dx dX7_spare 51 rfl) rfl ?_
                          refine rn_imul (a := 10) (b := p) C (dx dX7_spare 52 rfl) ?_
                          refine r_iload C (dx dX7_spare 53 rfl) rfl ?_
                          refine rn_iadd (a := 10 * p) (b := q) C (dx dX7_spare 54 rfl) ?_
                          refine r_istore_n (ls' := [(0, vr 7 k), (1, vi (nI (10 * p + q))), (2, vl x2), (4, vi (nI p)), (5, vi (nI q)), (6, vl x17)]) C (dx dX7_spare 55 rfl) (by decide) [1, 0, 2, 3, 4, 5] rfl ?_
                          refine r_lload C (dx dX7_spare 56 rfl) rfl ?_
                          refine r_lstore_n (ls' := [(0, vr 7 k), (1, vi (nI (10 * p + q))), (2, vl x17), (4, vi (nI p)), (5, vi (nI q)), (6, vl x17)]) C (dx dX7_spare 57 rfl) (by decide) [1, 2, 0, 3, 4, 5] rfl ?_
                          refine rn_iinc (a := q) (k := 1) (ls' := [(0, vr 7 k), (1, vi (nI (10 * p + q))), (2, vl x17), (4, vi (nI p)), (5, vi (nI (q + 1))), (6, vl x17)]) C (dx dX7_spare 58 rfl) rfl rfl (by decide) [1, 2, 3, 4, 0, 5] rfl ?_
                          refine r_goto (tgt := 22) C (dx dX7_spare 59 rfl) (by decide) ?_
                          refine r_weak C [0, 1, 2, 3, 4] rfl ?_
                          exact ihq (nI (10 * p + q)) x17 h18 vh18 mh18 (⟨by omega, by omega, by omega⟩) ph18 kh18))
set_option maxHeartbeats 4000000 in
theorem c_X7_gift {l : Launch} {h : Hp} {k : Nat} {v : Vg} (hm : MilAt h k v) (p o1 : Int32) : Ms l yX7_gift cX7_gift 8 (some .long) 8 [vr 7 k, vi p, vi o1] h (xK h) (fun r h' => PL r ∧ (∃ v', MilAt h' k v') ∧ Kp k h h') := by
  refine Ms.of (by decide) (Nat.le_of_ble_eq_true rfl) (fun G C X F => ?_)
  have C : Cx G cX7_gift 8 RX7 := C
  show Rr G 0 [(0, vr 7 k), (1, vi p), (2, vi o1)] [] h
  have bP := hm.bP
  have bM := hm.bM
  have bN := hm.bN
  refine r_aload_n C (dx dX7_gift 0 rfl) rfl ?_
  refine r_iload_n C (dx dX7_gift 1 rfl) rfl ?_
  refine r_cvP (as := [vi p]) (st := []) (v := vi (b2i (inR p (vP v)))) C X I_X7_isPart l_X7_132 (c_X7_isPart hm _) (by decide) (Nat.le_of_ble_eq_true rfl) List.prefix_rfl rfl rfl (Nat.le_of_ble_eq_true rfl) rfl (dx dX7_gift 2 rfl) ?_
  refine rb_eq (b := inR p (vP v)) (tgt := 16) C (dx dX7_gift 3 rfl) (by decide) (fun c1 => ?_) (fun c1 => ?_)
  ·
    have c1 : (inR p (vP v)) = false := c1
    refine r_aload_n C (dx dX7_gift 8 rfl) rfl ?_
    refine r_bipush (v := -2) C (dx dX7_gift 9 rfl) rfl ?_
    refine r_cv (as := [vi (-2)]) (st := []) C X I_X7_refuse l_X7_83 (c_X7_refuse hm (x := -2) (j := 2) (by decide) (by decide)) (by decide) (Nat.le_of_ble_eq_true rfl) List.prefix_rfl List.prefix_rfl rfl rfl (Nat.le_of_ble_eq_true rfl) rfl (dx dX7_gift 10 rfl) ?_
    rintro _ h2 ⟨rfl, ⟨wh2, m9h2, s9h2⟩, qh2⟩ kkh2
    obtain ⟨vh2, mh2, zh2⟩ : ∃ v9, MilAt h2 k v9 ∧ Sz v v9 := ⟨_, m9h2, s9h2⟩
    have ph2 : Kp k h h2 := qh2
    have kh2 : xK h2 = xK h := kkh2
    obtain ⟨ah2, bh2, ch2⟩ := zh2
    refine r_i2l C (dx dX7_gift 11 rfl) ?_
    refine r_ldc2 C n_X7_320 (dx dX7_gift 12 rfl) ?_
    refine r_lsub C (dx dX7_gift 13 rfl) ?_
    exact F.2.1 _ _ _ _ rfl (dx dX7_gift 14 rfl) kh2 ⟨⟨_, rfl⟩, ⟨_, mh2⟩, ph2⟩
  ·
    have c1 : (inR p (vP v)) = true := c1
    obtain ⟨π, hπ, rfl⟩ := inR_ex (n := (vP v)) (by omega) c1
    refine r_aload_n C (dx dX7_gift 4 rfl) rfl ?_
    refine r_iload_n C (dx dX7_gift 5 rfl) rfl ?_
    refine r_cvP (as := [vi o1]) (st := []) (v := vi (b2i (inR o1 (vN v)))) C X I_X7_isOne l_X7_125 (c_X7_isOne hm _) (by decide) (Nat.le_of_ble_eq_true rfl) List.prefix_rfl rfl rfl (Nat.le_of_ble_eq_true rfl) rfl (dx dX7_gift 6 rfl) ?_
    refine rb_ne (b := inR o1 (vN v)) (tgt := 28) C (dx dX7_gift 7 rfl) (by decide) (fun c3 => ?_) (fun c3 => ?_)
    ·
      have c3 : (inR o1 (vN v)) = true := c3
      obtain ⟨o19, ho19, rfl⟩ := inR_ex (n := (vN v)) (by omega) c3
      refine r_aload_n C (dx dX7_gift 15 rfl) rfl ?_
      refine g_X7_40 C (dx dX7_gift 16 rfl) ?_
      refine r_iload_n C (dx dX7_gift 17 rfl) rfl ?_
      refine r_iald (j := π) (x := vF v 0 π) C rfl rfl (by decide) rfl (by omega) (dx dX7_gift 18 rfl) (hm.e0 (by omega)) ?_
      refine r_istore_n (ls' := [(0, vr 7 k), (1, vi (nI π)), (2, vi (nI o19)), (3, vi (vF v 0 π))]) C (dx dX7_gift 19 rfl) (by decide) [1, 2, 3, 0] rfl ?_
      refine r_iload_n C (dx dX7_gift 20 rfl) rfl ?_
      refine r_iload_n C (dx dX7_gift 21 rfl) rfl ?_
      refine r_icmp_eq (tgt := 60) C (dx dX7_gift 22 rfl) (by decide) (fun c4 => ?_) (fun c4 => ?_)
      ·
        have c4 : vF v 0 π = nI o19 := c4
        refine r_aload_n C (dx dX7_gift 34 rfl) rfl ?_
        refine r_cvW (as := []) (st := []) C X I_X7_day l_X7_295 (c_X7_day hm) (by decide) (Nat.le_of_ble_eq_true rfl) List.prefix_rfl rfl rfl (Nat.le_of_ble_eq_true rfl) rfl (dx dX7_gift 35 rfl) ?_
        rintro _ ⟨x5, rfl⟩
        refine r_lstore (ls' := [(0, vr 7 k), (1, vi (nI π)), (2, vi (nI o19)), (3, vi (vF v 0 π)), (4, vl x5)]) C (dx dX7_gift 36 rfl) (by decide) [1, 2, 3, 4, 0] rfl ?_
        refine r_aload_n C (dx dX7_gift 37 rfl) rfl ?_
        refine g_X7_40 C (dx dX7_gift 38 rfl) ?_
        refine r_iload_n C (dx dX7_gift 39 rfl) rfl ?_
        refine r_iload_n C (dx dX7_gift 40 rfl) rfl ?_
        refine r_iast (j := π) C rfl rfl (by decide) rfl (by omega) (dx dX7_gift 41 rfl) ?_
        obtain ⟨vh6, mh6, zh6⟩ : ∃ v9, MilAt (sI h (k + 18) π (nI o19)) k v9 ∧ Sz v v9 := ⟨vset v 0 π (nI o19), hm.s0, ⟨rfl, rfl, rfl⟩⟩
        have ph6 : Kp k h (sI h (k + 18) π (nI o19)) := Kp.c (by omega) (by omega)
        have kh6 : xK (sI h (k + 18) π (nI o19)) = xK h := rfl
        generalize sI h (k + 18) π (nI o19) = h6 at mh6 ph6 kh6 ⊢
        obtain ⟨ah6, bh6, ch6⟩ := zh6
        refine r_aload_n C (dx dX7_gift 42 rfl) rfl ?_
        refine r_cvW (as := []) (st := []) C X I_X7_day l_X7_295 (c_X7_day mh6) (by decide) (Nat.le_of_ble_eq_true rfl) (pfx_eq kh6) rfl rfl (Nat.le_of_ble_eq_true rfl) rfl (dx dX7_gift 43 rfl) ?_
        rintro _ ⟨x7, rfl⟩
        refine r_lstore (ls' := [(0, vr 7 k), (1, vi (nI π)), (2, vi (nI o19)), (3, vi (vF v 0 π)), (4, vl x5), (6, vl x7)]) C (dx dX7_gift 44 rfl) (by decide) [1, 2, 3, 4, 5, 0] rfl ?_
        refine r_aload_n C (dx dX7_gift 45 rfl) rfl ?_
        refine g_X7_40 C (dx dX7_gift 46 rfl) ?_
        refine r_iload_n C (dx dX7_gift 47 rfl) rfl ?_
        refine r_iload_n C (dx dX7_gift 48 rfl) rfl ?_
        refine r_iast (j := π) C rfl rfl (by decide) rfl (by omega) (dx dX7_gift 49 rfl) ?_
        obtain ⟨vh8, mh8, zh8⟩ : ∃ v9, MilAt (sI h6 (k + 18) π (vF v 0 π)) k v9 ∧ Sz vh6 v9 := ⟨vset vh6 0 π (vF v 0 π), mh6.s0, ⟨rfl, rfl, rfl⟩⟩
        have ph8 : Kp k h (sI h6 (k + 18) π (vF v 0 π)) := ph6.tr (Kp.c (by omega) (by omega))
        have kh8 : xK (sI h6 (k + 18) π (vF v 0 π)) = xK h := kh6
        generalize sI h6 (k + 18) π (vF v 0 π) = h8 at mh8 ph8 kh8 ⊢
        obtain ⟨ah8, bh8, ch8⟩ := zh8
        refine r_lload C (dx dX7_gift 50 rfl) rfl ?_
        refine r_lload C (dx dX7_gift 51 rfl) rfl ?_
        refine r_lsub C (dx dX7_gift 52 rfl) ?_
        exact F.2.1 _ _ _ _ rfl (dx dX7_gift 53 rfl) kh8 ⟨⟨_, rfl⟩, ⟨_, mh8⟩, ph8⟩
      ·
        have c4 : ¬ vF v 0 π = nI o19 := c4
        refine r_aload_n C (dx dX7_gift 23 rfl) rfl ?_
        refine r_iload_n C (dx dX7_gift 24 rfl) rfl ?_
        refine r_cvW (as := [vi (nI o19)]) (st := []) C X I_X7_hasRoom l_X7_135 (c_X7_hasRoom hm (j := o19) (by omega)) (by decide) (Nat.le_of_ble_eq_true rfl) List.prefix_rfl rfl rfl (Nat.le_of_ble_eq_true rfl) rfl (dx dX7_gift 25 rfl) ?_
        rintro _ ⟨x9, rfl⟩
        refine rb_ne (b := x9) (tgt := 60) C (dx dX7_gift 26 rfl) (by decide) (fun c10 => ?_) (fun c10 => ?_)
        ·
          have c10 : x9 = true := c10
          refine r_aload_n C (dx dX7_gift 34 rfl) rfl ?_
          refine r_cvW (as := []) (st := []) C X I_X7_day l_X7_295 (c_X7_day hm) (by decide) (Nat.le_of_ble_eq_true rfl) List.prefix_rfl rfl rfl (Nat.le_of_ble_eq_true rfl) rfl (dx dX7_gift 35 rfl) ?_
          rintro _ ⟨x11, rfl⟩
          refine r_lstore (ls' := [(0, vr 7 k), (1, vi (nI π)), (2, vi (nI o19)), (3, vi (vF v 0 π)), (4, vl x11)]) C (dx dX7_gift 36 rfl) (by decide) [1, 2, 3, 4, 0] rfl ?_
          refine r_aload_n C (dx dX7_gift 37 rfl) rfl ?_
          refine g_X7_40 C (dx dX7_gift 38 rfl) ?_
          refine r_iload_n C (dx dX7_gift 39 rfl) rfl ?_
          refine r_iload_n C (dx dX7_gift 40 rfl) rfl ?_
          refine r_iast (j := π) C rfl rfl (by decide) rfl (by omega) (dx dX7_gift 41 rfl) ?_
          obtain ⟨vh12, mh12, zh12⟩ : ∃ v9, MilAt (sI h (k + 18) π (nI o19)) k v9 ∧ Sz v v9 := ⟨vset v 0 π (nI o19), hm.s0, ⟨rfl, rfl, rfl⟩⟩
          have ph12 : Kp k h (sI h (k + 18) π (nI o19)) := Kp.c (by omega) (by omega)
          have kh12 : xK (sI h (k + 18) π (nI o19)) = xK h := rfl
          generalize sI h (k + 18) π (nI o19) = h12 at mh12 ph12 kh12 ⊢
          obtain ⟨ah12, bh12, ch12⟩ := zh12
          refine r_aload_n C (dx dX7_gift 42 rfl) rfl ?_
          refine r_cvW (as := []) (st := []) C X I_X7_day l_X7_295 (c_X7_day mh12) (by decide) (Nat.le_of_ble_eq_true rfl) (pfx_eq kh12) rfl rfl (Nat.le_of_ble_eq_true rfl) rfl (dx dX7_gift 43 rfl) ?_
          rintro _ ⟨x13, rfl⟩
          refine r_lstore (ls' := [(0, vr 7 k), (1, vi (nI π)), (2, vi (nI o19)), (3, vi (vF v 0 π)), (4, vl x11), (6, vl x13)]) C (dx dX7_gift 44 rfl) (by decide) [1, 2, 3, 4, 5, 0] rfl ?_
          refine r_aload_n C (dx dX7_gift 45 rfl) rfl ?_
          refine g_X7_40 C (dx dX7_gift 46 rfl) ?_
          refine r_iload_n C (dx dX7_gift 47 rfl) rfl ?_
          refine r_iload_n C (dx dX7_gift 48 rfl) rfl ?_
          refine r_iast (j := π) C rfl rfl (by decide) rfl (by omega) (dx dX7_gift 49 rfl) ?_
          obtain ⟨vh14, mh14, zh14⟩ : ∃ v9, MilAt (sI h12 (k + 18) π (vF v 0 π)) k v9 ∧ Sz vh12 v9 := ⟨vset vh12 0 π (vF v 0 π), mh12.s0, ⟨rfl, rfl, rfl⟩⟩
          have ph14 : Kp k h (sI h12 (k + 18) π (vF v 0 π)) := ph12.tr (Kp.c (by omega) (by omega))
          have kh14 : xK (sI h12 (k + 18) π (vF v 0 π)) = xK h := kh12
          generalize sI h12 (k + 18) π (vF v 0 π) = h14 at mh14 ph14 kh14 ⊢
          obtain ⟨ah14, bh14, ch14⟩ := zh14
          refine r_lload C (dx dX7_gift 50 rfl) rfl ?_
          refine r_lload C (dx dX7_gift 51 rfl) rfl ?_
          refine r_lsub C (dx dX7_gift 52 rfl) ?_
          exact F.2.1 _ _ _ _ rfl (dx dX7_gift 53 rfl) kh14 ⟨⟨_, rfl⟩, ⟨_, mh14⟩, ph14⟩
        ·
          have c10 : x9 = false := c10
          refine r_aload_n C (dx dX7_gift 27 rfl) rfl ?_
          refine r_bipush (v := -5) C (dx dX7_gift 28 rfl) rfl ?_
          refine r_cv (as := [vi (-5)]) (st := []) C X I_X7_refuse l_X7_83 (c_X7_refuse hm (x := -5) (j := 5) (by decide) (by decide)) (by decide) (Nat.le_of_ble_eq_true rfl) List.prefix_rfl List.prefix_rfl rfl rfl (Nat.le_of_ble_eq_true rfl) rfl (dx dX7_gift 29 rfl) ?_
          rintro _ h15 ⟨rfl, ⟨wh15, m9h15, s9h15⟩, qh15⟩ kkh15
          obtain ⟨vh15, mh15, zh15⟩ : ∃ v9, MilAt h15 k v9 ∧ Sz v v9 := ⟨_, m9h15, s9h15⟩
          have ph15 : Kp k h h15 := qh15
          have kh15 : xK h15 = xK h := kkh15
          obtain ⟨ah15, bh15, ch15⟩ := zh15
          refine r_i2l C (dx dX7_gift 30 rfl) ?_
          refine r_ldc2 C n_X7_320 (dx dX7_gift 31 rfl) ?_
          refine r_lsub C (dx dX7_gift 32 rfl) ?_
          exact F.2.1 _ _ _ _ rfl (dx dX7_gift 33 rfl) kh15 ⟨⟨_, rfl⟩, ⟨_, mh15⟩, ph15⟩
    ·
      have c3 : (inR o1 (vN v)) = false := c3
      refine r_aload_n C (dx dX7_gift 8 rfl) rfl ?_
      refine r_bipush (v := -2) C (dx dX7_gift 9 rfl) rfl ?_
      refine r_cv (as := [vi (-2)]) (st := []) C X I_X7_refuse l_X7_83 (c_X7_refuse hm (x := -2) (j := 2) (by decide) (by decide)) (by decide) (Nat.le_of_ble_eq_true rfl) List.prefix_rfl List.prefix_rfl rfl rfl (Nat.le_of_ble_eq_true rfl) rfl (dx dX7_gift 10 rfl) ?_
      rintro _ h16 ⟨rfl, ⟨wh16, m9h16, s9h16⟩, qh16⟩ kkh16
      obtain ⟨vh16, mh16, zh16⟩ : ∃ v9, MilAt h16 k v9 ∧ Sz v v9 := ⟨_, m9h16, s9h16⟩
      have ph16 : Kp k h h16 := qh16
      have kh16 : xK h16 = xK h := kkh16
      obtain ⟨ah16, bh16, ch16⟩ := zh16
      refine r_i2l C (dx dX7_gift 11 rfl) ?_
      refine r_ldc2 C n_X7_320 (dx dX7_gift 12 rfl) ?_
      refine r_lsub C (dx dX7_gift 13 rfl) ?_
      exact F.2.1 _ _ _ _ rfl (dx dX7_gift 14 rfl) kh16 ⟨⟨_, rfl⟩, ⟨_, mh16⟩, ph16⟩
set_option maxHeartbeats 4000000 in
theorem c_X7_never {l : Launch} {h : Hp} {k : Nat} {v : Vg} (hm : MilAt h k v) (b : Bool) : Ms l yX7_never cX7_never 4 (some .int) 8 [vr 7 k, vi (b2i b)] h (xK h) (fun r h' => PI r ∧ (∃ v', MilAt h' k v') ∧ Kp k h h') := by
  refine Ms.of (by decide) (Nat.le_of_ble_eq_true rfl) (fun G C X F => ?_)
  have C : Cx G cX7_never 4 RX7 := C
  show Rr G 0 [(0, vr 7 k), (1, vi (b2i b))] [] h
  have bP := hm.bP
  have bM := hm.bM
  have bN := hm.bN
  refine r_iconst (v := nI 0) C (dx dX7_never 0 rfl) rfl ?_
  refine r_istore_n (ls' := [(0, vr 7 k), (1, vi (b2i b)), (2, vi (nI 0))]) C (dx dX7_never 1 rfl) (by decide) [1, 2, 0] rfl ?_
  refine r_iload_n C (dx dX7_never 2 rfl) rfl ?_
  refine rb_eq (b := b) (tgt := 46) C (dx dX7_never 3 rfl) (by decide) (fun c1 => ?_) (fun c1 => ?_)
  ·
    have c1 : b = false := c1
    refine r_iconst (v := nI 1) C (dx dX7_never 28 rfl) rfl ?_
    refine r_aload_n C (dx dX7_never 29 rfl) rfl ?_
    refine g_X7_64 (x := nI (vP v)) C (dx dX7_never 30 rfl) hm.eP ?_
    refine r_ishl C (dx dX7_never 31 rfl) ?_
    refine r_iconst (v := nI 1) C (dx dX7_never 32 rfl) rfl ?_
    refine r_isub C (dx dX7_never 33 rfl) ?_
    refine r_aload_n C (dx dX7_never 34 rfl) rfl ?_
    refine r_aload_n C (dx dX7_never 35 rfl) rfl ?_
    refine r_cvP (as := []) (st := [vr 7 k, vi (((nI 1) <<< ((nI (vP v)) &&& 31)) - (nI 1))]) (v := vi (full (vN v))) C X I_X7_all l_X7_253 (c_X7_all hm) (by decide) (Nat.le_of_ble_eq_true rfl) List.prefix_rfl rfl rfl (Nat.le_of_ble_eq_true rfl) rfl (dx dX7_never 36 rfl) ?_
    refine r_cvW (as := [vi (full (vN v))]) (st := [vi (((nI 1) <<< ((nI (vP v)) &&& 31)) - (nI 1))]) C X I_X7_hasOf l_X7_247 (c_X7_hasOf hm _) (by decide) (Nat.le_of_ble_eq_true rfl) List.prefix_rfl rfl rfl (Nat.le_of_ble_eq_true rfl) rfl (dx dX7_never 37 rfl) ?_
    rintro _ ⟨x2, rfl⟩
    refine r_iconst (v := -1) C (dx dX7_never 38 rfl) rfl ?_
    refine r_ixor C (dx dX7_never 39 rfl) ?_
    refine r_iand C (dx dX7_never 40 rfl) ?_
    exact F.1 _ _ _ _ .int rfl rfl (dx dX7_never 41 rfl) rfl ⟨⟨_, rfl⟩, ⟨_, hm⟩, Kp.rf⟩
  ·
    have c1 : b = true := c1
    refine r_iconst (v := nI 0) C (dx dX7_never 4 rfl) rfl ?_
    refine r_istore_n (ls' := [(0, vr 7 k), (1, vi (b2i b)), (2, vi (nI 0)), (3, vi (nI 0))]) C (dx dX7_never 5 rfl) (by decide) [1, 2, 3, 0] rfl ?_
    refine loopU (Φ := fun p => ∀ (x2 : Int32), Rr G 8 [(0, vr 7 k), (1, vi (b2i b)), (2, vi x2), (3, vi (nI p))] [] h) (N := vM v) ?_ ?_ 0 (by omega) (nI 0)
    ·
      intro  x2
      refine r_iload_n C (dx dX7_never 6 rfl) rfl ?_
      refine r_aload_n C (dx dX7_never 7 rfl) rfl ?_
      refine g_X7_71 (x := nI (vM v)) C (dx dX7_never 8 rfl) hm.eM ?_
      refine rn_ge (a := vM v) (b := vM v) (tgt := 44) C (by omega) (by omega) (dx dX7_never 9 rfl) (by decide) (fun c3 => ?_) (fun c3 => ?_)
      · first
        | (omega; done)
        | (
            have c3 : vM v ≤ vM v := c3
            refine r_iload_n C (dx dX7_never 26 rfl) rfl ?_
            exact F.1 _ _ _ _ .int rfl rfl (dx dX7_never 27 rfl) rfl ⟨⟨_, rfl⟩, ⟨_, hm⟩, Kp.rf⟩)
      · first
        | (omega; done)
    ·
      intro p hp ihp x2
      refine r_iload_n C (dx dX7_never 6 rfl) rfl ?_
      refine r_aload_n C (dx dX7_never 7 rfl) rfl ?_
      refine g_X7_71 (x := nI (vM v)) C (dx dX7_never 8 rfl) hm.eM ?_
      refine rn_ge (a := p) (b := vM v) (tgt := 44) C (by omega) (by omega) (dx dX7_never 9 rfl) (by decide) (fun c6 => ?_) (fun c6 => ?_)
      · first
        | (omega; done)
        | (
            have c6 : vM v ≤ p := c6
            refine r_iload_n C (dx dX7_never 26 rfl) rfl ?_
            exact F.1 _ _ _ _ .int rfl rfl (dx dX7_never 27 rfl) rfl ⟨⟨_, rfl⟩, ⟨_, hm⟩, Kp.rf⟩)
      · first
        | (omega; done)
        | (
            have c6 : p < vM v := c6
            refine r_iload_n C (dx dX7_never 10 rfl) rfl ?_
            refine r_aload_n C (dx dX7_never 11 rfl) rfl ?_
            refine r_iload_n C (dx dX7_never 12 rfl) rfl ?_
            refine r_aload_n C (dx dX7_never 13 rfl) rfl ?_
            refine r_cvP (as := []) (st := [vi (nI p), vr 7 k, vi x2]) (v := vi (full (vN v))) C X I_X7_all l_X7_253 (c_X7_all hm) (by decide) (Nat.le_of_ble_eq_true rfl) List.prefix_rfl rfl rfl (Nat.le_of_ble_eq_true rfl) rfl (dx dX7_never 14 rfl) ?_
            refine r_cvW (as := [vi (nI p), vi (full (vN v))]) (st := [vi x2]) C X I_X7_worksOf l_X7_250 (c_X7_worksOf hm (m := p) (by omega) _) (by decide) (Nat.le_of_ble_eq_true rfl) List.prefix_rfl rfl rfl (Nat.le_of_ble_eq_true rfl) rfl (dx dX7_never 15 rfl) ?_
            rintro _ ⟨x7, rfl⟩
            refine rb_eq (b := x7) (tgt := 33) C (dx dX7_never 16 rfl) (by decide) (fun c8 => ?_) (fun c8 => ?_)
            ·
              have c8 : x7 = false := c8
              refine r_iconst (v := nI 1) C (dx dX7_never 19 rfl) rfl ?_
              refine r_iload_n C (dx dX7_never 20 rfl) rfl ?_
              refine r_ishl C (dx dX7_never 21 rfl) ?_
              refine r_ior C (dx dX7_never 22 rfl) ?_
              refine r_istore_n (ls' := [(0, vr 7 k), (1, vi (b2i b)), (2, vi (x2 ||| ((nI 1) <<< ((nI p) &&& 31)))), (3, vi (nI p))]) C (dx dX7_never 23 rfl) (by decide) [1, 2, 0, 3] rfl ?_
              refine rn_iinc (a := p) (k := 1) (ls' := [(0, vr 7 k), (1, vi (b2i b)), (2, vi (x2 ||| ((nI 1) <<< ((nI p) &&& 31)))), (3, vi (nI (p + 1)))]) C (dx dX7_never 24 rfl) rfl rfl (by decide) [1, 2, 3, 0] rfl ?_
              refine r_goto (tgt := 8) C (dx dX7_never 25 rfl) (by decide) ?_
              exact ihp (x2 ||| ((nI 1) <<< ((nI p) &&& 31)))
            ·
              have c8 : x7 = true := c8
              refine r_iconst (v := nI 0) C (dx dX7_never 17 rfl) rfl ?_
              refine r_goto (tgt := 36) C (dx dX7_never 18 rfl) (by decide) ?_
              refine r_ior C (dx dX7_never 22 rfl) ?_
              refine r_istore_n (ls' := [(0, vr 7 k), (1, vi (b2i b)), (2, vi (x2 ||| (nI 0))), (3, vi (nI p))]) C (dx dX7_never 23 rfl) (by decide) [1, 2, 0, 3] rfl ?_
              refine rn_iinc (a := p) (k := 1) (ls' := [(0, vr 7 k), (1, vi (b2i b)), (2, vi (x2 ||| (nI 0))), (3, vi (nI (p + 1)))]) C (dx dX7_never 24 rfl) rfl rfl (by decide) [1, 2, 3, 0] rfl ?_
              refine r_goto (tgt := 8) C (dx dX7_never 25 rfl) (by decide) ?_
              exact ihp (x2 ||| (nI 0)))
set_option maxHeartbeats 4000000 in
theorem c_X7_with {l : Launch} {h : Hp} {k : Nat} {v : Vg} (hm : MilAt h k v) (m : Int32) : Ms l yX7_with cX7_with 4 (some .int) 8 [vr 7 k, vi m] h (xK h) (fun r h' => PI r ∧ (∃ v', MilAt h' k v') ∧ Kp k h h') := by
  refine Ms.of (by decide) (Nat.le_of_ble_eq_true rfl) (fun G C X F => ?_)
  have C : Cx G cX7_with 4 RX7 := C
  show Rr G 0 [(0, vr 7 k), (1, vi m)] [] h
  have bP := hm.bP
  have bM := hm.bM
  have bN := hm.bN
  obtain ⟨S, hS⟩ : ∃ S, S = 2 ^ vN v := ⟨_, rfl⟩
  have p8 := pow8 bN
  rw [← hS] at p8
  refine r_aload_n C (dx dX7_with 0 rfl) rfl ?_
  refine r_iload_n C (dx dX7_with 1 rfl) rfl ?_
  refine r_cvP (as := [vi m]) (st := []) (v := vi (b2i (inR m (vM v)))) C X I_X7_isMachine l_X7_241 (c_X7_isMachine hm _) (by decide) (Nat.le_of_ble_eq_true rfl) List.prefix_rfl rfl rfl (Nat.le_of_ble_eq_true rfl) rfl (dx dX7_with 2 rfl) ?_
  refine rb_ne (b := inR m (vM v)) (tgt := 15) C (dx dX7_with 3 rfl) (by decide) (fun c1 => ?_) (fun c1 => ?_)
  ·
    have c1 : (inR m (vM v)) = true := c1
    obtain ⟨μ, hμ, rfl⟩ := inR_ex (n := (vM v)) (by omega) c1
    refine r_iconst (v := -1) C (dx dX7_with 8 rfl) rfl ?_
    refine r_istore_n (ls' := [(0, vr 7 k), (1, vi (nI μ)), (2, vi (-1))]) C (dx dX7_with 9 rfl) (by decide) [1, 2, 0] rfl ?_
    refine r_iconst (v := nI 0) C (dx dX7_with 10 rfl) rfl ?_
    refine r_istore_n (ls' := [(0, vr 7 k), (1, vi (nI μ)), (2, vi (-1)), (3, vi (nI 0))]) C (dx dX7_with 11 rfl) (by decide) [1, 2, 3, 0] rfl ?_
    refine loopU (Φ := fun p => ∀ (x2 : Int32), Rr G 19 [(0, vr 7 k), (1, vi (nI μ)), (2, vi x2), (3, vi (nI p))] [] h) (N := S) ?_ ?_ 0 (by omega) (-1)
    ·
      intro  x2
      refine r_iload_n C (dx dX7_with 12 rfl) rfl ?_
      refine r_aload_n C (dx dX7_with 13 rfl) rfl ?_
      refine r_cvP (as := []) (st := [vi (nI S)]) (v := vi (nI (S - 1))) C X I_X7_all l_X7_253 (c_mallS hm hS) (by decide) (Nat.le_of_ble_eq_true rfl) List.prefix_rfl rfl rfl (Nat.le_of_ble_eq_true rfl) rfl (dx dX7_with 14 rfl) ?_
      refine rn_gt (a := S) (b := S - 1) (tgt := 64) C (by omega) (by omega) (dx dX7_with 15 rfl) (by decide) (fun c2 => ?_) (fun c2 => ?_)
      · first
        | (omega; done)
        | (
            have c2 : S - 1 < S := c2
            refine r_iload_n C (dx dX7_with 35 rfl) rfl ?_
            refine r_iconst (v := -1) C (dx dX7_with 36 rfl) rfl ?_
            refine r_icmp_ne (tgt := 78) C (dx dX7_with 37 rfl) (by decide) (fun c3 => ?_) (fun c3 => ?_)
            ·
              have c3 : ¬ x2 = -1 := c3
              refine r_iload_n C (dx dX7_with 42 rfl) rfl ?_
              exact F.1 _ _ _ _ .int rfl rfl (dx dX7_with 43 rfl) rfl ⟨⟨_, rfl⟩, ⟨_, hm⟩, Kp.rf⟩
            ·
              have c3 : x2 = -1 := c3
              refine r_aload_n C (dx dX7_with 38 rfl) rfl ?_
              refine r_bipush (v := -5) C (dx dX7_with 39 rfl) rfl ?_
              refine r_cv (as := [vi (-5)]) (st := []) C X I_X7_refuse l_X7_83 (c_X7_refuse hm (x := -5) (j := 5) (by decide) (by decide)) (by decide) (Nat.le_of_ble_eq_true rfl) List.prefix_rfl List.prefix_rfl rfl rfl (Nat.le_of_ble_eq_true rfl) rfl (dx dX7_with 40 rfl) ?_
              rintro _ h4 ⟨rfl, ⟨wh4, m9h4, s9h4⟩, qh4⟩ kkh4
              obtain ⟨vh4, mh4, zh4⟩ : ∃ v9, MilAt h4 k v9 ∧ Sz v v9 := ⟨_, m9h4, s9h4⟩
              have ph4 : Kp k h h4 := qh4
              have kh4 : xK h4 = xK h := kkh4
              obtain ⟨ah4, bh4, ch4⟩ := zh4
              refine r_goto (tgt := 79) C (dx dX7_with 41 rfl) (by decide) ?_
              exact F.1 _ _ _ _ .int rfl rfl (dx dX7_with 43 rfl) kh4 ⟨⟨_, rfl⟩, ⟨_, mh4⟩, ph4⟩)
      · first
        | (omega; done)
    ·
      intro p hp ihp x2
      refine r_iload_n C (dx dX7_with 12 rfl) rfl ?_
      refine r_aload_n C (dx dX7_with 13 rfl) rfl ?_
      refine r_cvP (as := []) (st := [vi (nI p)]) (v := vi (nI (S - 1))) C X I_X7_all l_X7_253 (c_mallS hm hS) (by decide) (Nat.le_of_ble_eq_true rfl) List.prefix_rfl rfl rfl (Nat.le_of_ble_eq_true rfl) rfl (dx dX7_with 14 rfl) ?_
      refine rn_gt (a := p) (b := S - 1) (tgt := 64) C (by omega) (by omega) (dx dX7_with 15 rfl) (by decide) (fun c7 => ?_) (fun c7 => ?_)
      · first
        | (omega; done)
        | (
            have c7 : S - 1 < p := c7
            refine r_iload_n C (dx dX7_with 35 rfl) rfl ?_
            refine r_iconst (v := -1) C (dx dX7_with 36 rfl) rfl ?_
            refine r_icmp_ne (tgt := 78) C (dx dX7_with 37 rfl) (by decide) (fun c8 => ?_) (fun c8 => ?_)
            ·
              have c8 : ¬ x2 = -1 := c8
              refine r_iload_n C (dx dX7_with 42 rfl) rfl ?_
              exact F.1 _ _ _ _ .int rfl rfl (dx dX7_with 43 rfl) rfl ⟨⟨_, rfl⟩, ⟨_, hm⟩, Kp.rf⟩
            ·
              have c8 : x2 = -1 := c8
              refine r_aload_n C (dx dX7_with 38 rfl) rfl ?_
              refine r_bipush (v := -5) C (dx dX7_with 39 rfl) rfl ?_
              refine r_cv (as := [vi (-5)]) (st := []) C X I_X7_refuse l_X7_83 (c_X7_refuse hm (x := -5) (j := 5) (by decide) (by decide)) (by decide) (Nat.le_of_ble_eq_true rfl) List.prefix_rfl List.prefix_rfl rfl rfl (Nat.le_of_ble_eq_true rfl) rfl (dx dX7_with 40 rfl) ?_
              rintro _ h9 ⟨rfl, ⟨wh9, m9h9, s9h9⟩, qh9⟩ kkh9
              obtain ⟨vh9, mh9, zh9⟩ : ∃ v9, MilAt h9 k v9 ∧ Sz v v9 := ⟨_, m9h9, s9h9⟩
              have ph9 : Kp k h h9 := qh9
              have kh9 : xK h9 = xK h := kkh9
              obtain ⟨ah9, bh9, ch9⟩ := zh9
              refine r_goto (tgt := 79) C (dx dX7_with 41 rfl) (by decide) ?_
              exact F.1 _ _ _ _ .int rfl rfl (dx dX7_with 43 rfl) kh9 ⟨⟨_, rfl⟩, ⟨_, mh9⟩, ph9⟩)
      · first
        | (omega; done)
        | (
            have c7 : p ≤ S - 1 := c7
            refine r_aload_n C (dx dX7_with 16 rfl) rfl ?_
            refine r_iload_n C (dx dX7_with 17 rfl) rfl ?_
            refine r_iload_n C (dx dX7_with 18 rfl) rfl ?_
            refine r_cvW (as := [vi (nI μ), vi (nI p)]) (st := []) C X I_X7_worksOf l_X7_250 (c_X7_worksOf hm (m := μ) (by omega) _) (by decide) (Nat.le_of_ble_eq_true rfl) List.prefix_rfl rfl rfl (Nat.le_of_ble_eq_true rfl) rfl (dx dX7_with 19 rfl) ?_
            rintro _ ⟨x10, rfl⟩
            refine rb_eq (b := x10) (tgt := 56) C (dx dX7_with 20 rfl) (by decide) (fun c11 => ?_) (fun c11 => ?_)
            ·
              have c11 : x10 = false := c11
              refine r_iload_n C (dx dX7_with 31 rfl) rfl ?_
              refine r_istore_n (ls' := [(0, vr 7 k), (1, vi (nI μ)), (2, vi x2), (3, vi (nI p))]) C (dx dX7_with 32 rfl) (by decide) [1, 2, 0, 3] rfl ?_
              refine rn_iinc (a := p) (k := 1) (ls' := [(0, vr 7 k), (1, vi (nI μ)), (2, vi x2), (3, vi (nI (p + 1)))]) C (dx dX7_with 33 rfl) rfl rfl (by decide) [1, 2, 3, 0] rfl ?_
              refine r_goto (tgt := 19) C (dx dX7_with 34 rfl) (by decide) ?_
              exact ihp x2
            ·
              have c11 : x10 = true := c11
              refine r_iload_n C (dx dX7_with 21 rfl) rfl ?_
              refine r_iconst (v := -1) C (dx dX7_with 22 rfl) rfl ?_
              refine r_icmp_eq (tgt := 52) C (dx dX7_with 23 rfl) (by decide) (fun c12 => ?_) (fun c12 => ?_)
              ·
                have c12 : x2 = -1 := c12
                refine r_iload_n C (dx dX7_with 29 rfl) rfl ?_
                refine r_goto (tgt := 57) C (dx dX7_with 30 rfl) (by decide) ?_
                refine r_istore_n (ls' := [(0, vr 7 k), (1, vi (nI μ)), (2, vi (nI p)), (3, vi (nI p))]) C (dx dX7_with 32 rfl) (by decide) [1, 2, 0, 3] rfl ?_
                refine rn_iinc (a := p) (k := 1) (ls' := [(0, vr 7 k), (1, vi (nI μ)), (2, vi (nI p)), (3, vi (nI (p + 1)))]) C (dx dX7_with 33 rfl) rfl rfl (by decide) [1, 2, 3, 0] rfl ?_
                refine r_goto (tgt := 19) C (dx dX7_with 34 rfl) (by decide) ?_
                exact ihp (nI p)
              ·
                have c12 : ¬ x2 = -1 := c12
                refine r_iload_n C (dx dX7_with 24 rfl) rfl ?_
                refine r_csW (as := [vi (nI p)]) (st := []) C X I_X7_bits l_X7_268 (c_X7_bits _) (by decide) (Nat.le_of_ble_eq_true rfl) List.prefix_rfl (Nat.le_of_ble_eq_true rfl) rfl (dx dX7_with 25 rfl) ?_
                rintro _ ⟨x13, hx13, rfl⟩
                refine r_iload_n C (dx dX7_with 26 rfl) rfl ?_
                refine r_csW (as := [vi x2]) (st := [vi (nI x13)]) C X I_X7_bits l_X7_268 (c_X7_bits _) (by decide) (Nat.le_of_ble_eq_true rfl) List.prefix_rfl (Nat.le_of_ble_eq_true rfl) rfl (dx dX7_with 27 rfl) ?_
                rintro _ ⟨x14, hx14, rfl⟩
                refine rn_ge (a := x13) (b := x14) (tgt := 56) C (by omega) (by omega) (dx dX7_with 28 rfl) (by decide) (fun c15 => ?_) (fun c15 => ?_)
                · first
                  | (omega; done)
                  | (
                      have c15 : x14 ≤ x13 := c15
                      refine r_iload_n C (dx dX7_with 31 rfl) rfl ?_
                      refine r_istore_n (ls' := [(0, vr 7 k), (1, vi (nI μ)), (2, vi x2), (3, vi (nI p))]) C (dx dX7_with 32 rfl) (by decide) [1, 2, 0, 3] rfl ?_
                      refine rn_iinc (a := p) (k := 1) (ls' := [(0, vr 7 k), (1, vi (nI μ)), (2, vi x2), (3, vi (nI (p + 1)))]) C (dx dX7_with 33 rfl) rfl rfl (by decide) [1, 2, 3, 0] rfl ?_
                      refine r_goto (tgt := 19) C (dx dX7_with 34 rfl) (by decide) ?_
                      exact ihp x2)
                · first
                  | (omega; done)
                  | (
                      have c15 : x13 < x14 := c15
                      refine r_iload_n C (dx dX7_with 29 rfl) rfl ?_
                      refine r_goto (tgt := 57) C (dx dX7_with 30 rfl) (by decide) ?_
                      refine r_istore_n (ls' := [(0, vr 7 k), (1, vi (nI μ)), (2, vi (nI p)), (3, vi (nI p))]) C (dx dX7_with 32 rfl) (by decide) [1, 2, 0, 3] rfl ?_
                      refine rn_iinc (a := p) (k := 1) (ls' := [(0, vr 7 k), (1, vi (nI μ)), (2, vi (nI p)), (3, vi (nI (p + 1)))]) C (dx dX7_with 33 rfl) rfl rfl (by decide) [1, 2, 3, 0] rfl ?_
                      refine r_goto (tgt := 19) C (dx dX7_with 34 rfl) (by decide) ?_
                      exact ihp (nI p)))
  ·
    have c1 : (inR m (vM v)) = false := c1
    refine r_aload_n C (dx dX7_with 4 rfl) rfl ?_
    refine r_bipush (v := -2) C (dx dX7_with 5 rfl) rfl ?_
    refine r_cv (as := [vi (-2)]) (st := []) C X I_X7_refuse l_X7_83 (c_X7_refuse hm (x := -2) (j := 2) (by decide) (by decide)) (by decide) (Nat.le_of_ble_eq_true rfl) List.prefix_rfl List.prefix_rfl rfl rfl (Nat.le_of_ble_eq_true rfl) rfl (dx dX7_with 6 rfl) ?_
    rintro _ h16 ⟨rfl, ⟨wh16, m9h16, s9h16⟩, qh16⟩ kkh16
    obtain ⟨vh16, mh16, zh16⟩ : ∃ v9, MilAt h16 k v9 ∧ Sz v v9 := ⟨_, m9h16, s9h16⟩
    have ph16 : Kp k h h16 := qh16
    have kh16 : xK h16 = xK h := kkh16
    obtain ⟨ah16, bh16, ch16⟩ := zh16
    exact F.1 _ _ _ _ .int rfl rfl (dx dX7_with 7 rfl) kh16 ⟨⟨_, rfl⟩, ⟨_, mh16⟩, ph16⟩
set_option maxHeartbeats 4000000 in
theorem c_X7_safe {l : Launch} {h : Hp} {k : Nat} {v : Vg} (hm : MilAt h k v) (x : Int32) : Ms l yX7_safe cX7_safe 4 (some .int) 8 [vr 7 k, vi x] h (xK h) (fun r h' => PI r ∧ (∃ v', MilAt h' k v') ∧ Kp k h h') := by
  refine Ms.of (by decide) (Nat.le_of_ble_eq_true rfl) (fun G C X F => ?_)
  have C : Cx G cX7_safe 4 RX7 := C
  show Rr G 0 [(0, vr 7 k), (1, vi x)] [] h
  have bP := hm.bP
  have bM := hm.bM
  have bN := hm.bN
  refine r_iload_n C (dx dX7_safe 0 rfl) rfl ?_
  refine r_i2l C (dx dX7_safe 1 rfl) ?_
  refine r_lconst (v := 0) C (dx dX7_safe 2 rfl) rfl ?_
  refine r_ldc2 C n_X7_325 (dx dX7_safe 3 rfl) ?_
  refine r_csP (as := [vl x.toInt64, vl 0, vl 8]) (st := []) (v := vi (b2i (inR x 9))) C X I_X7_in l_X7_67 (c_inR (b := 8) (by decide) (by decide)) (by decide) (Nat.le_of_ble_eq_true rfl) List.prefix_rfl (Nat.le_of_ble_eq_true rfl) rfl (dx dX7_safe 4 rfl) ?_
  refine rb_ne (b := inR x 9) (tgt := 19) C (dx dX7_safe 5 rfl) (by decide) (fun c1 => ?_) (fun c1 => ?_)
  ·
    have c1 : (inR x 9) = true := c1
    refine r_iconst (v := nI 0) C (dx dX7_safe 10 rfl) rfl ?_
    refine r_istore_n (ls' := [(0, vr 7 k), (1, vi x), (2, vi (nI 0))]) C (dx dX7_safe 11 rfl) (by decide) [1, 2, 0] rfl ?_
    refine r_iconst (v := nI 0) C (dx dX7_safe 12 rfl) rfl ?_
    refine r_istore_n (ls' := [(0, vr 7 k), (1, vi x), (2, vi (nI 0)), (3, vi (nI 0))]) C (dx dX7_safe 13 rfl) (by decide) [1, 2, 3, 0] rfl ?_
    refine loopU (Φ := fun p => ∀ (x2 : Int32), Rr G 23 [(0, vr 7 k), (1, vi x), (2, vi x2), (3, vi (nI p))] [] h) (N := vM v) ?_ ?_ 0 (by omega) (nI 0)
    ·
      intro  x2
      refine r_iload_n C (dx dX7_safe 14 rfl) rfl ?_
      refine r_aload_n C (dx dX7_safe 15 rfl) rfl ?_
      refine g_X7_71 (x := nI (vM v)) C (dx dX7_safe 16 rfl) hm.eM ?_
      refine rn_ge (a := vM v) (b := vM v) (tgt := 56) C (by omega) (by omega) (dx dX7_safe 17 rfl) (by decide) (fun c2 => ?_) (fun c2 => ?_)
      · first
        | (omega; done)
        | (
            have c2 : vM v ≤ vM v := c2
            refine r_iload_n C (dx dX7_safe 33 rfl) rfl ?_
            exact F.1 _ _ _ _ .int rfl rfl (dx dX7_safe 34 rfl) rfl ⟨⟨_, rfl⟩, ⟨_, hm⟩, Kp.rf⟩)
      · first
        | (omega; done)
    ·
      intro p hp ihp x2
      refine r_iload_n C (dx dX7_safe 14 rfl) rfl ?_
      refine r_aload_n C (dx dX7_safe 15 rfl) rfl ?_
      refine g_X7_71 (x := nI (vM v)) C (dx dX7_safe 16 rfl) hm.eM ?_
      refine rn_ge (a := p) (b := vM v) (tgt := 56) C (by omega) (by omega) (dx dX7_safe 17 rfl) (by decide) (fun c5 => ?_) (fun c5 => ?_)
      · first
        | (omega; done)
        | (
            have c5 : vM v ≤ p := c5
            refine r_iload_n C (dx dX7_safe 33 rfl) rfl ?_
            exact F.1 _ _ _ _ .int rfl rfl (dx dX7_safe 34 rfl) rfl ⟨⟨_, rfl⟩, ⟨_, hm⟩, Kp.rf⟩)
      · first
        | (omega; done)
        | (
            have c5 : p < vM v := c5
            refine r_iload_n C (dx dX7_safe 18 rfl) rfl ?_
            refine r_aload_n C (dx dX7_safe 19 rfl) rfl ?_
            refine r_iload_n C (dx dX7_safe 20 rfl) rfl ?_
            refine r_cvW (as := [vi (nI p)]) (st := [vi x2]) C X I_X7_worstOf l_X7_314 (c_X7_worstOf hm (m := p) (by omega)) (by decide) (Nat.le_of_ble_eq_true rfl) List.prefix_rfl rfl rfl (Nat.le_of_ble_eq_true rfl) rfl (dx dX7_safe 21 rfl) ?_
            rintro _ ⟨x6, rfl⟩
            refine r_iload_n C (dx dX7_safe 22 rfl) rfl ?_
            refine r_icmp_le (tgt := 47) C (dx dX7_safe 23 rfl) (by decide) (fun c7 => ?_) (fun c7 => ?_)
            ·
              have c7 : x6 ≤ x := c7
              refine r_iconst (v := nI 0) C (dx dX7_safe 28 rfl) rfl ?_
              refine r_ior C (dx dX7_safe 29 rfl) ?_
              refine r_istore_n (ls' := [(0, vr 7 k), (1, vi x), (2, vi (x2 ||| (nI 0))), (3, vi (nI p))]) C (dx dX7_safe 30 rfl) (by decide) [1, 2, 0, 3] rfl ?_
              refine rn_iinc (a := p) (k := 1) (ls' := [(0, vr 7 k), (1, vi x), (2, vi (x2 ||| (nI 0))), (3, vi (nI (p + 1)))]) C (dx dX7_safe 31 rfl) rfl rfl (by decide) [1, 2, 3, 0] rfl ?_
              refine r_goto (tgt := 23) C (dx dX7_safe 32 rfl) (by decide) ?_
              exact ihp (x2 ||| (nI 0))
            ·
              have c7 : ¬ x6 ≤ x := c7
              refine r_iconst (v := nI 1) C (dx dX7_safe 24 rfl) rfl ?_
              refine r_iload_n C (dx dX7_safe 25 rfl) rfl ?_
              refine r_ishl C (dx dX7_safe 26 rfl) ?_
              refine r_goto (tgt := 48) C (dx dX7_safe 27 rfl) (by decide) ?_
              refine r_ior C (dx dX7_safe 29 rfl) ?_
              refine r_istore_n (ls' := [(0, vr 7 k), (1, vi x), (2, vi (x2 ||| ((nI 1) <<< ((nI p) &&& 31)))), (3, vi (nI p))]) C (dx dX7_safe 30 rfl) (by decide) [1, 2, 0, 3] rfl ?_
              refine rn_iinc (a := p) (k := 1) (ls' := [(0, vr 7 k), (1, vi x), (2, vi (x2 ||| ((nI 1) <<< ((nI p) &&& 31)))), (3, vi (nI (p + 1)))]) C (dx dX7_safe 31 rfl) rfl rfl (by decide) [1, 2, 3, 0] rfl ?_
              refine r_goto (tgt := 23) C (dx dX7_safe 32 rfl) (by decide) ?_
              exact ihp (x2 ||| ((nI 1) <<< ((nI p) &&& 31))))
  ·
    have c1 : (inR x 9) = false := c1
    refine r_aload_n C (dx dX7_safe 6 rfl) rfl ?_
    refine r_bipush (v := -2) C (dx dX7_safe 7 rfl) rfl ?_
    refine r_cv (as := [vi (-2)]) (st := []) C X I_X7_refuse l_X7_83 (c_X7_refuse hm (x := -2) (j := 2) (by decide) (by decide)) (by decide) (Nat.le_of_ble_eq_true rfl) List.prefix_rfl List.prefix_rfl rfl rfl (Nat.le_of_ble_eq_true rfl) rfl (dx dX7_safe 8 rfl) ?_
    rintro _ h8 ⟨rfl, ⟨wh8, m9h8, s9h8⟩, qh8⟩ kkh8
    obtain ⟨vh8, mh8, zh8⟩ : ∃ v9, MilAt h8 k v9 ∧ Sz v v9 := ⟨_, m9h8, s9h8⟩
    have ph8 : Kp k h h8 := qh8
    have kh8 : xK h8 = xK h := kkh8
    obtain ⟨ah8, bh8, ch8⟩ := zh8
    exact F.1 _ _ _ _ .int rfl rfl (dx dX7_safe 9 rfl) kh8 ⟨⟨_, rfl⟩, ⟨_, mh8⟩, ph8⟩
set_option maxHeartbeats 4000000 in
theorem c_X7_alone {l : Launch} {h : Hp} {k : Nat} {v : Vg} (hm : MilAt h k v) (o1 : Int32) : Ms l yX7_alone cX7_alone 4 (some .int) 8 [vr 7 k, vi o1] h (xK h) (fun r h' => PI r ∧ (∃ v', MilAt h' k v') ∧ Kp k h h') := by
  refine Ms.of (by decide) (Nat.le_of_ble_eq_true rfl) (fun G C X F => ?_)
  have C : Cx G cX7_alone 4 RX7 := C
  show Rr G 0 [(0, vr 7 k), (1, vi o1)] [] h
  have bP := hm.bP
  have bM := hm.bM
  have bN := hm.bN
  refine r_aload_n C (dx dX7_alone 0 rfl) rfl ?_
  refine r_iload_n C (dx dX7_alone 1 rfl) rfl ?_
  refine r_cvP (as := [vi o1]) (st := []) (v := vi (b2i (inR o1 (vN v)))) C X I_X7_isOne l_X7_125 (c_X7_isOne hm _) (by decide) (Nat.le_of_ble_eq_true rfl) List.prefix_rfl rfl rfl (Nat.le_of_ble_eq_true rfl) rfl (dx dX7_alone 2 rfl) ?_
  refine rb_ne (b := inR o1 (vN v)) (tgt := 15) C (dx dX7_alone 3 rfl) (by decide) (fun c1 => ?_) (fun c1 => ?_)
  ·
    have c1 : (inR o1 (vN v)) = true := c1
    obtain ⟨o19, ho19, rfl⟩ := inR_ex (n := (vN v)) (by omega) c1
    refine r_iconst (v := nI 0) C (dx dX7_alone 8 rfl) rfl ?_
    refine r_istore_n (ls' := [(0, vr 7 k), (1, vi (nI o19)), (2, vi (nI 0))]) C (dx dX7_alone 9 rfl) (by decide) [1, 2, 0] rfl ?_
    refine r_iconst (v := nI 0) C (dx dX7_alone 10 rfl) rfl ?_
    refine r_istore_n (ls' := [(0, vr 7 k), (1, vi (nI o19)), (2, vi (nI 0)), (3, vi (nI 0))]) C (dx dX7_alone 11 rfl) (by decide) [1, 2, 3, 0] rfl ?_
    refine loopU (Φ := fun p => ∀ (x2 : Int32), Rr G 19 [(0, vr 7 k), (1, vi (nI o19)), (2, vi x2), (3, vi (nI p))] [] h) (N := vM v) ?_ ?_ 0 (by omega) (nI 0)
    ·
      intro  x2
      refine r_iload_n C (dx dX7_alone 12 rfl) rfl ?_
      refine r_aload_n C (dx dX7_alone 13 rfl) rfl ?_
      refine g_X7_71 (x := nI (vM v)) C (dx dX7_alone 14 rfl) hm.eM ?_
      refine rn_ge (a := vM v) (b := vM v) (tgt := 54) C (by omega) (by omega) (dx dX7_alone 15 rfl) (by decide) (fun c2 => ?_) (fun c2 => ?_)
      · first
        | (omega; done)
        | (
            have c2 : vM v ≤ vM v := c2
            refine r_iload_n C (dx dX7_alone 33 rfl) rfl ?_
            exact F.1 _ _ _ _ .int rfl rfl (dx dX7_alone 34 rfl) rfl ⟨⟨_, rfl⟩, ⟨_, hm⟩, Kp.rf⟩)
      · first
        | (omega; done)
    ·
      intro p hp ihp x2
      refine r_iload_n C (dx dX7_alone 12 rfl) rfl ?_
      refine r_aload_n C (dx dX7_alone 13 rfl) rfl ?_
      refine g_X7_71 (x := nI (vM v)) C (dx dX7_alone 14 rfl) hm.eM ?_
      refine rn_ge (a := p) (b := vM v) (tgt := 54) C (by omega) (by omega) (dx dX7_alone 15 rfl) (by decide) (fun c5 => ?_) (fun c5 => ?_)
      · first
        | (omega; done)
        | (
            have c5 : vM v ≤ p := c5
            refine r_iload_n C (dx dX7_alone 33 rfl) rfl ?_
            exact F.1 _ _ _ _ .int rfl rfl (dx dX7_alone 34 rfl) rfl ⟨⟨_, rfl⟩, ⟨_, hm⟩, Kp.rf⟩)
      · first
        | (omega; done)
        | (
            have c5 : p < vM v := c5
            refine r_iload_n C (dx dX7_alone 16 rfl) rfl ?_
            refine r_aload_n C (dx dX7_alone 17 rfl) rfl ?_
            refine r_iload_n C (dx dX7_alone 18 rfl) rfl ?_
            refine r_iconst (v := nI 1) C (dx dX7_alone 19 rfl) rfl ?_
            refine r_iload_n C (dx dX7_alone 20 rfl) rfl ?_
            refine r_ishl C (dx dX7_alone 21 rfl) ?_
            refine r_cvW (as := [vi (nI p), vi ((nI 1) <<< ((nI o19) &&& 31))]) (st := [vi x2]) C X I_X7_worksOf l_X7_250 (c_X7_worksOf hm (m := p) (by omega) _) (by decide) (Nat.le_of_ble_eq_true rfl) List.prefix_rfl rfl rfl (Nat.le_of_ble_eq_true rfl) rfl (dx dX7_alone 22 rfl) ?_
            rintro _ ⟨x6, rfl⟩
            refine rb_eq (b := x6) (tgt := 45) C (dx dX7_alone 23 rfl) (by decide) (fun c7 => ?_) (fun c7 => ?_)
            ·
              have c7 : x6 = false := c7
              refine r_iconst (v := nI 0) C (dx dX7_alone 28 rfl) rfl ?_
              refine r_ior C (dx dX7_alone 29 rfl) ?_
              refine r_istore_n (ls' := [(0, vr 7 k), (1, vi (nI o19)), (2, vi (x2 ||| (nI 0))), (3, vi (nI p))]) C (dx dX7_alone 30 rfl) (by decide) [1, 2, 0, 3] rfl ?_
              refine rn_iinc (a := p) (k := 1) (ls' := [(0, vr 7 k), (1, vi (nI o19)), (2, vi (x2 ||| (nI 0))), (3, vi (nI (p + 1)))]) C (dx dX7_alone 31 rfl) rfl rfl (by decide) [1, 2, 3, 0] rfl ?_
              refine r_goto (tgt := 19) C (dx dX7_alone 32 rfl) (by decide) ?_
              exact ihp (x2 ||| (nI 0))
            ·
              have c7 : x6 = true := c7
              refine r_iconst (v := nI 1) C (dx dX7_alone 24 rfl) rfl ?_
              refine r_iload_n C (dx dX7_alone 25 rfl) rfl ?_
              refine r_ishl C (dx dX7_alone 26 rfl) ?_
              refine r_goto (tgt := 46) C (dx dX7_alone 27 rfl) (by decide) ?_
              refine r_ior C (dx dX7_alone 29 rfl) ?_
              refine r_istore_n (ls' := [(0, vr 7 k), (1, vi (nI o19)), (2, vi (x2 ||| ((nI 1) <<< ((nI p) &&& 31)))), (3, vi (nI p))]) C (dx dX7_alone 30 rfl) (by decide) [1, 2, 0, 3] rfl ?_
              refine rn_iinc (a := p) (k := 1) (ls' := [(0, vr 7 k), (1, vi (nI o19)), (2, vi (x2 ||| ((nI 1) <<< ((nI p) &&& 31)))), (3, vi (nI (p + 1)))]) C (dx dX7_alone 31 rfl) rfl rfl (by decide) [1, 2, 3, 0] rfl ?_
              refine r_goto (tgt := 19) C (dx dX7_alone 32 rfl) (by decide) ?_
              exact ihp (x2 ||| ((nI 1) <<< ((nI p) &&& 31))))
  ·
    have c1 : (inR o1 (vN v)) = false := c1
    refine r_aload_n C (dx dX7_alone 4 rfl) rfl ?_
    refine r_bipush (v := -2) C (dx dX7_alone 5 rfl) rfl ?_
    refine r_cv (as := [vi (-2)]) (st := []) C X I_X7_refuse l_X7_83 (c_X7_refuse hm (x := -2) (j := 2) (by decide) (by decide)) (by decide) (Nat.le_of_ble_eq_true rfl) List.prefix_rfl List.prefix_rfl rfl rfl (Nat.le_of_ble_eq_true rfl) rfl (dx dX7_alone 6 rfl) ?_
    rintro _ h8 ⟨rfl, ⟨wh8, m9h8, s9h8⟩, qh8⟩ kkh8
    obtain ⟨vh8, mh8, zh8⟩ : ∃ v9, MilAt h8 k v9 ∧ Sz v v9 := ⟨_, m9h8, s9h8⟩
    have ph8 : Kp k h h8 := qh8
    have kh8 : xK h8 = xK h := kkh8
    obtain ⟨ah8, bh8, ch8⟩ := zh8
    exact F.1 _ _ _ _ .int rfl rfl (dx dX7_alone 7 rfl) kh8 ⟨⟨_, rfl⟩, ⟨_, mh8⟩, ph8⟩
set_option maxHeartbeats 4000000 in
theorem c_X7_key {l : Launch} {h : Hp} {k : Nat} {v : Vg} (hm : MilAt h k v)  : Ms l yX7_key cX7_key 7 (some .int) 8 [vr 7 k] h (xK h) (fun r h' => PI r ∧ (∃ v', MilAt h' k v') ∧ Kp k h h') := by
  refine Ms.of (by decide) (Nat.le_of_ble_eq_true rfl) (fun G C X F => ?_)
  have C : Cx G cX7_key 7 RX7 := C
  show Rr G 0 [(0, vr 7 k)] [] h
  have bP := hm.bP
  have bM := hm.bM
  have bN := hm.bN
  refine r_iconst (v := -1) C (dx dX7_key 0 rfl) rfl ?_
  refine r_istore_n (ls' := [(0, vr 7 k), (1, vi (-1))]) C (dx dX7_key 1 rfl) (by decide) [1, 0] rfl ?_
  refine r_iconst (v := nI 0) C (dx dX7_key 2 rfl) rfl ?_
  refine r_istore_n (ls' := [(0, vr 7 k), (1, vi (-1)), (2, vi (nI 0))]) C (dx dX7_key 3 rfl) (by decide) [1, 2, 0] rfl ?_
  refine r_iconst (v := nI 0) C (dx dX7_key 4 rfl) rfl ?_
  refine r_istore_n (ls' := [(0, vr 7 k), (1, vi (-1)), (2, vi (nI 0)), (3, vi (nI 0))]) C (dx dX7_key 5 rfl) (by decide) [1, 2, 3, 0] rfl ?_
  refine loopU (Φ := fun p => ∀ (x1 : Int32), ∀ (x2 : Int32), Rr G 6 [(0, vr 7 k), (1, vi x1), (2, vi x2), (3, vi (nI p))] [] h) (N := vN v) ?_ ?_ 0 (by omega) (-1) (nI 0)
  ·
    intro  x1 x2
    refine r_iload_n C (dx dX7_key 6 rfl) rfl ?_
    refine r_aload_n C (dx dX7_key 7 rfl) rfl ?_
    refine g_X7_74 (x := nI (vN v)) C (dx dX7_key 8 rfl) hm.eN ?_
    refine rn_ge (a := vN v) (b := vN v) (tgt := 89) C (by omega) (by omega) (dx dX7_key 9 rfl) (by decide) (fun c1 => ?_) (fun c1 => ?_)
    · first
      | (omega; done)
      | (
          have c1 : vN v ≤ vN v := c1
          refine r_iload_n C (dx dX7_key 51 rfl) rfl ?_
          refine r_iconst (v := -1) C (dx dX7_key 52 rfl) rfl ?_
          refine r_icmp_ne (tgt := 103) C (dx dX7_key 53 rfl) (by decide) (fun c2 => ?_) (fun c2 => ?_)
          ·
            have c2 : ¬ x1 = -1 := c2
            refine r_iload_n C (dx dX7_key 58 rfl) rfl ?_
            exact F.1 _ _ _ _ .int rfl rfl (dx dX7_key 59 rfl) rfl ⟨⟨_, rfl⟩, ⟨_, hm⟩, Kp.rf⟩
          ·
            have c2 : x1 = -1 := c2
            refine r_aload_n C (dx dX7_key 54 rfl) rfl ?_
            refine r_bipush (v := -5) C (dx dX7_key 55 rfl) rfl ?_
            refine r_cv (as := [vi (-5)]) (st := []) C X I_X7_refuse l_X7_83 (c_X7_refuse hm (x := -5) (j := 5) (by decide) (by decide)) (by decide) (Nat.le_of_ble_eq_true rfl) List.prefix_rfl List.prefix_rfl rfl rfl (Nat.le_of_ble_eq_true rfl) rfl (dx dX7_key 56 rfl) ?_
            rintro _ h3 ⟨rfl, ⟨wh3, m9h3, s9h3⟩, qh3⟩ kkh3
            obtain ⟨vh3, mh3, zh3⟩ : ∃ v9, MilAt h3 k v9 ∧ Sz v v9 := ⟨_, m9h3, s9h3⟩
            have ph3 : Kp k h h3 := qh3
            have kh3 : xK h3 = xK h := kkh3
            obtain ⟨ah3, bh3, ch3⟩ := zh3
            refine r_goto (tgt := 104) C (dx dX7_key 57 rfl) (by decide) ?_
            exact F.1 _ _ _ _ .int rfl rfl (dx dX7_key 59 rfl) kh3 ⟨⟨_, rfl⟩, ⟨_, mh3⟩, ph3⟩)
    · first
      | (omega; done)
      | (
          have c1 : vN v < vN v := c1
          refine r_aload_n C (dx dX7_key 10 rfl) rfl ?_
          refine r_iconst (v := nI 1) C (dx dX7_key 11 rfl) rfl ?_
          refine r_iload_n C (dx dX7_key 12 rfl) rfl ?_
          refine r_ishl C (dx dX7_key 13 rfl) ?_
          refine r_cvW (as := [vi ((nI 1) <<< ((nI (vN v)) &&& 31))]) (st := []) C X I_X7_hasOf l_X7_247 (c_X7_hasOf hm _) (by decide) (Nat.le_of_ble_eq_true rfl) List.prefix_rfl rfl rfl (Nat.le_of_ble_eq_true rfl) rfl (dx dX7_key 14 rfl) ?_
          rintro _ ⟨x4, rfl⟩
          refine r_istore (ls' := [(0, vr 7 k), (1, vi x1), (2, vi x2), (3, vi (nI (vN v))), (4, vi x4)]) C (dx dX7_key 15 rfl) (by decide) [1, 2, 3, 4, 0] rfl ?_
          refine r_iconst (v := nI 0) C (dx dX7_key 16 rfl) rfl ?_
          refine r_istore (ls' := [(0, vr 7 k), (1, vi x1), (2, vi x2), (3, vi (nI (vN v))), (4, vi x4), (5, vi (nI 0))]) C (dx dX7_key 17 rfl) (by decide) [1, 2, 3, 4, 5, 0] rfl ?_
          refine r_iconst (v := nI 0) C (dx dX7_key 18 rfl) rfl ?_
          refine r_istore (ls' := [(0, vr 7 k), (1, vi x1), (2, vi x2), (3, vi (nI (vN v))), (4, vi x4), (5, vi (nI 0)), (6, vi (nI 0))]) C (dx dX7_key 19 rfl) (by decide) [1, 2, 3, 4, 5, 6, 0] rfl ?_
          refine loopU (Φ := fun q => ∀ (x5 : Int32), Rr G 29 [(0, vr 7 k), (1, vi x1), (2, vi x2), (3, vi (nI (vN v))), (4, vi x4), (5, vi x5), (6, vi (nI q))] [] h) (N := vM v) ?_ ?_ 0 (by omega) (nI 0)
          ·
            intro  x5
            refine r_iload C (dx dX7_key 20 rfl) rfl ?_
            refine r_aload_n C (dx dX7_key 21 rfl) rfl ?_
            refine g_X7_71 (x := nI (vM v)) C (dx dX7_key 22 rfl) hm.eM ?_
            refine rn_ge (a := vM v) (b := vM v) (tgt := 67) C (by omega) (by omega) (dx dX7_key 23 rfl) (by decide) (fun c5 => ?_) (fun c5 => ?_)
            · first
              | (omega; done)
            · first
              | (omega; done)
          ·
            intro q hq ihq x5
            refine r_iload C (dx dX7_key 20 rfl) rfl ?_
            refine r_aload_n C (dx dX7_key 21 rfl) rfl ?_
            refine g_X7_71 (x := nI (vM v)) C (dx dX7_key 22 rfl) hm.eM ?_
            refine rn_ge (a := q) (b := vM v) (tgt := 67) C (by omega) (by omega) (dx dX7_key 23 rfl) (by decide) (fun c8 => ?_) (fun c8 => ?_)
            · first
              | (omega; done)
            · first
              | (omega; done)
              | (
                  have c8 : q < vM v := c8
                  refine r_iload C (dx dX7_key 24 rfl) rfl ?_
                  refine r_aload_n C (dx dX7_key 25 rfl) rfl ?_
                  refine g_X7_46 C (dx dX7_key 26 rfl) ?_
                  refine r_iload C (dx dX7_key 27 rfl) rfl ?_
                  refine r_iald (j := q) (x := vF v 2 q) C rfl rfl (by decide) rfl (by omega) (dx dX7_key 28 rfl) (hm.e2 (by omega)) ?_
                  refine r_iload C (dx dX7_key 29 rfl) rfl ?_
                  refine r_iand C (dx dX7_key 30 rfl) ?_
                  refine r_if_eq (tgt := 57) C (dx dX7_key 31 rfl) (by decide) (fun c10 => ?_) (fun c10 => ?_)
                  ·
                    have c10 : (vF v 2 q) &&& x4 = 0 := c10
                    refine r_iconst (v := nI 0) C (dx dX7_key 34 rfl) rfl ?_
                    refine r_iadd C (dx dX7_key 35 rfl) ?_
                    refine r_istore (ls' := [(0, vr 7 k), (1, vi x1), (2, vi x2), (3, vi (nI (vN v))), (4, vi x4), (5, vi (x5 + (nI 0))), (6, vi (nI q))]) C (dx dX7_key 36 rfl) (by decide) [1, 2, 3, 4, 5, 0, 6] rfl ?_
                    refine rn_iinc (a := q) (k := 1) (ls' := [(0, vr 7 k), (1, vi x1), (2, vi x2), (3, vi (nI (vN v))), (4, vi x4), (5, vi (x5 + (nI 0))), (6, vi (nI (q + 1)))]) C (dx dX7_key 37 rfl) rfl rfl (by decide) [1, 2, 3, 4, 5, 6, 0] rfl ?_
                    refine r_goto (tgt := 29) C (dx dX7_key 38 rfl) (by decide) ?_
                    exact ihq (x5 + (nI 0))
                  ·
                    have c10 : ¬ (vF v 2 q) &&& x4 = 0 := c10
                    refine r_iconst (v := nI 1) C (dx dX7_key 32 rfl) rfl ?_
                    refine r_goto (tgt := 58) C (dx dX7_key 33 rfl) (by decide) ?_
                    refine r_iadd C (dx dX7_key 35 rfl) ?_
                    refine r_istore (ls' := [(0, vr 7 k), (1, vi x1), (2, vi x2), (3, vi (nI (vN v))), (4, vi x4), (5, vi (x5 + (nI 1))), (6, vi (nI q))]) C (dx dX7_key 36 rfl) (by decide) [1, 2, 3, 4, 5, 0, 6] rfl ?_
                    refine rn_iinc (a := q) (k := 1) (ls' := [(0, vr 7 k), (1, vi x1), (2, vi x2), (3, vi (nI (vN v))), (4, vi x4), (5, vi (x5 + (nI 1))), (6, vi (nI (q + 1)))]) C (dx dX7_key 37 rfl) rfl rfl (by decide) [1, 2, 3, 4, 5, 6, 0] rfl ?_
                    refine r_goto (tgt := 29) C (dx dX7_key 38 rfl) (by decide) ?_
                    exact ihq (x5 + (nI 1))))
  ·
    intro p hp ihp x1 x2
    refine r_iload_n C (dx dX7_key 6 rfl) rfl ?_
    refine r_aload_n C (dx dX7_key 7 rfl) rfl ?_
    refine g_X7_74 (x := nI (vN v)) C (dx dX7_key 8 rfl) hm.eN ?_
    refine rn_ge (a := p) (b := vN v) (tgt := 89) C (by omega) (by omega) (dx dX7_key 9 rfl) (by decide) (fun c11 => ?_) (fun c11 => ?_)
    · first
      | (omega; done)
      | (
          have c11 : vN v ≤ p := c11
          refine r_iload_n C (dx dX7_key 51 rfl) rfl ?_
          refine r_iconst (v := -1) C (dx dX7_key 52 rfl) rfl ?_
          refine r_icmp_ne (tgt := 103) C (dx dX7_key 53 rfl) (by decide) (fun c12 => ?_) (fun c12 => ?_)
          ·
            have c12 : ¬ x1 = -1 := c12
            refine r_iload_n C (dx dX7_key 58 rfl) rfl ?_
            exact F.1 _ _ _ _ .int rfl rfl (dx dX7_key 59 rfl) rfl ⟨⟨_, rfl⟩, ⟨_, hm⟩, Kp.rf⟩
          ·
            have c12 : x1 = -1 := c12
            refine r_aload_n C (dx dX7_key 54 rfl) rfl ?_
            refine r_bipush (v := -5) C (dx dX7_key 55 rfl) rfl ?_
            refine r_cv (as := [vi (-5)]) (st := []) C X I_X7_refuse l_X7_83 (c_X7_refuse hm (x := -5) (j := 5) (by decide) (by decide)) (by decide) (Nat.le_of_ble_eq_true rfl) List.prefix_rfl List.prefix_rfl rfl rfl (Nat.le_of_ble_eq_true rfl) rfl (dx dX7_key 56 rfl) ?_
            rintro _ h13 ⟨rfl, ⟨wh13, m9h13, s9h13⟩, qh13⟩ kkh13
            obtain ⟨vh13, mh13, zh13⟩ : ∃ v9, MilAt h13 k v9 ∧ Sz v v9 := ⟨_, m9h13, s9h13⟩
            have ph13 : Kp k h h13 := qh13
            have kh13 : xK h13 = xK h := kkh13
            obtain ⟨ah13, bh13, ch13⟩ := zh13
            refine r_goto (tgt := 104) C (dx dX7_key 57 rfl) (by decide) ?_
            exact F.1 _ _ _ _ .int rfl rfl (dx dX7_key 59 rfl) kh13 ⟨⟨_, rfl⟩, ⟨_, mh13⟩, ph13⟩)
    · first
      | (omega; done)
      | (
          have c11 : p < vN v := c11
          refine r_aload_n C (dx dX7_key 10 rfl) rfl ?_
          refine r_iconst (v := nI 1) C (dx dX7_key 11 rfl) rfl ?_
          refine r_iload_n C (dx dX7_key 12 rfl) rfl ?_
          refine r_ishl C (dx dX7_key 13 rfl) ?_
          refine r_cvW (as := [vi ((nI 1) <<< ((nI p) &&& 31))]) (st := []) C X I_X7_hasOf l_X7_247 (c_X7_hasOf hm _) (by decide) (Nat.le_of_ble_eq_true rfl) List.prefix_rfl rfl rfl (Nat.le_of_ble_eq_true rfl) rfl (dx dX7_key 14 rfl) ?_
          rintro _ ⟨x14, rfl⟩
          refine r_istore (ls' := [(0, vr 7 k), (1, vi x1), (2, vi x2), (3, vi (nI p)), (4, vi x14)]) C (dx dX7_key 15 rfl) (by decide) [1, 2, 3, 4, 0] rfl ?_
          refine r_iconst (v := nI 0) C (dx dX7_key 16 rfl) rfl ?_
          refine r_istore (ls' := [(0, vr 7 k), (1, vi x1), (2, vi x2), (3, vi (nI p)), (4, vi x14), (5, vi (nI 0))]) C (dx dX7_key 17 rfl) (by decide) [1, 2, 3, 4, 5, 0] rfl ?_
          refine r_iconst (v := nI 0) C (dx dX7_key 18 rfl) rfl ?_
          refine r_istore (ls' := [(0, vr 7 k), (1, vi x1), (2, vi x2), (3, vi (nI p)), (4, vi x14), (5, vi (nI 0)), (6, vi (nI 0))]) C (dx dX7_key 19 rfl) (by decide) [1, 2, 3, 4, 5, 6, 0] rfl ?_
          refine loopU (Φ := fun q => ∀ (x5 : Int32), Rr G 29 [(0, vr 7 k), (1, vi x1), (2, vi x2), (3, vi (nI p)), (4, vi x14), (5, vi x5), (6, vi (nI q))] [] h) (N := vM v) ?_ ?_ 0 (by omega) (nI 0)
          ·
            intro  x5
            refine r_iload C (dx dX7_key 20 rfl) rfl ?_
            refine r_aload_n C (dx dX7_key 21 rfl) rfl ?_
            refine g_X7_71 (x := nI (vM v)) C (dx dX7_key 22 rfl) hm.eM ?_
            refine rn_ge (a := vM v) (b := vM v) (tgt := 67) C (by omega) (by omega) (dx dX7_key 23 rfl) (by decide) (fun c15 => ?_) (fun c15 => ?_)
            · first
              | (omega; done)
              | (
                  have c15 : vM v ≤ vM v := c15
                  refine r_iload_n C (dx dX7_key 39 rfl) rfl ?_
                  refine r_iconst (v := -1) C (dx dX7_key 40 rfl) rfl ?_
                  refine r_icmp_eq (tgt := 78) C (dx dX7_key 41 rfl) (by decide) (fun c16 => ?_) (fun c16 => ?_)
                  ·
                    have c16 : x1 = -1 := c16
                    refine r_iload_n C (dx dX7_key 45 rfl) rfl ?_
                    refine r_istore_n (ls' := [(0, vr 7 k), (1, vi (nI p)), (2, vi x2), (3, vi (nI p)), (4, vi x14), (5, vi x5), (6, vi (nI (vM v)))]) C (dx dX7_key 46 rfl) (by decide) [1, 0, 2, 3, 4, 5, 6] rfl ?_
                    refine r_iload C (dx dX7_key 47 rfl) rfl ?_
                    refine r_istore_n (ls' := [(0, vr 7 k), (1, vi (nI p)), (2, vi x5), (3, vi (nI p)), (4, vi x14), (5, vi x5), (6, vi (nI (vM v)))]) C (dx dX7_key 48 rfl) (by decide) [1, 2, 0, 3, 4, 5, 6] rfl ?_
                    refine rn_iinc (a := p) (k := 1) (ls' := [(0, vr 7 k), (1, vi (nI p)), (2, vi x5), (3, vi (nI (p + 1))), (4, vi x14), (5, vi x5), (6, vi (nI (vM v)))]) C (dx dX7_key 49 rfl) rfl rfl (by decide) [1, 2, 3, 0, 4, 5, 6] rfl ?_
                    refine r_goto (tgt := 6) C (dx dX7_key 50 rfl) (by decide) ?_
                    refine r_weak C [0, 1, 2, 3] rfl ?_
                    exact ihp (nI p) x5
                  ·
                    have c16 : ¬ x1 = -1 := c16
                    refine r_iload C (dx dX7_key 42 rfl) rfl ?_
                    refine r_iload_n C (dx dX7_key 43 rfl) rfl ?_
                    refine r_icmp_le (tgt := 83) C (dx dX7_key 44 rfl) (by decide) (fun c17 => ?_) (fun c17 => ?_)
                    ·
                      have c17 : x5 ≤ x2 := c17
                      refine rn_iinc (a := p) (k := 1) (ls' := [(0, vr 7 k), (1, vi x1), (2, vi x2), (3, vi (nI (p + 1))), (4, vi x14), (5, vi x5), (6, vi (nI (vM v)))]) C (dx dX7_key 49 rfl) rfl rfl (by decide) [1, 2, 3, 0, 4, 5, 6] rfl ?_
                      refine r_goto (tgt := 6) C (dx dX7_key 50 rfl) (by decide) ?_
                      refine r_weak C [0, 1, 2, 3] rfl ?_
                      exact ihp x1 x2
                    ·
                      have c17 : ¬ x5 ≤ x2 := c17
                      refine r_iload_n C (dx dX7_key 45 rfl) rfl ?_
                      refine r_istore_n (ls' := [(0, vr 7 k), (1, vi (nI p)), (2, vi x2), (3, vi (nI p)), (4, vi x14), (5, vi x5), (6, vi (nI (vM v)))]) C (dx dX7_key 46 rfl) (by decide) [1, 0, 2, 3, 4, 5, 6] rfl ?_
                      refine r_iload C (dx dX7_key 47 rfl) rfl ?_
                      refine r_istore_n (ls' := [(0, vr 7 k), (1, vi (nI p)), (2, vi x5), (3, vi (nI p)), (4, vi x14), (5, vi x5), (6, vi (nI (vM v)))]) C (dx dX7_key 48 rfl) (by decide) [1, 2, 0, 3, 4, 5, 6] rfl ?_
                      refine rn_iinc (a := p) (k := 1) (ls' := [(0, vr 7 k), (1, vi (nI p)), (2, vi x5), (3, vi (nI (p + 1))), (4, vi x14), (5, vi x5), (6, vi (nI (vM v)))]) C (dx dX7_key 49 rfl) rfl rfl (by decide) [1, 2, 3, 0, 4, 5, 6] rfl ?_
                      refine r_goto (tgt := 6) C (dx dX7_key 50 rfl) (by decide) ?_
                      refine r_weak C [0, 1, 2, 3] rfl ?_
                      exact ihp (nI p) x5)
            · first
              | (omega; done)
          ·
            intro q hq ihq x5
            refine r_iload C (dx dX7_key 20 rfl) rfl ?_
            refine r_aload_n C (dx dX7_key 21 rfl) rfl ?_
            refine g_X7_71 (x := nI (vM v)) C (dx dX7_key 22 rfl) hm.eM ?_
            refine rn_ge (a := q) (b := vM v) (tgt := 67) C (by omega) (by omega) (dx dX7_key 23 rfl) (by decide) (fun c19 => ?_) (fun c19 => ?_)
            · first
              | (omega; done)
              | (
                  have c19 : vM v ≤ q := c19
                  refine r_iload_n C (dx dX7_key 39 rfl) rfl ?_
                  refine r_iconst (v := -1) C (dx dX7_key 40 rfl) rfl ?_
                  refine r_icmp_eq (tgt := 78) C (dx dX7_key 41 rfl) (by decide) (fun c20 => ?_) (fun c20 => ?_)
                  ·
                    have c20 : x1 = -1 := c20
                    refine r_iload_n C (dx dX7_key 45 rfl) rfl ?_
                    refine r_istore_n (ls' := [(0, vr 7 k), (1, vi (nI p)), (2, vi x2), (3, vi (nI p)), (4, vi x14), (5, vi x5), (6, vi (nI q))]) C (dx dX7_key 46 rfl) (by decide) [1, 0, 2, 3, 4, 5, 6] rfl ?_
                    refine r_iload C (dx dX7_key 47 rfl) rfl ?_
                    refine r_istore_n (ls' := [(0, vr 7 k), (1, vi (nI p)), (2, vi x5), (3, vi (nI p)), (4, vi x14), (5, vi x5), (6, vi (nI q))]) C (dx dX7_key 48 rfl) (by decide) [1, 2, 0, 3, 4, 5, 6] rfl ?_
                    refine rn_iinc (a := p) (k := 1) (ls' := [(0, vr 7 k), (1, vi (nI p)), (2, vi x5), (3, vi (nI (p + 1))), (4, vi x14), (5, vi x5), (6, vi (nI q))]) C (dx dX7_key 49 rfl) rfl rfl (by decide) [1, 2, 3, 0, 4, 5, 6] rfl ?_
                    refine r_goto (tgt := 6) C (dx dX7_key 50 rfl) (by decide) ?_
                    refine r_weak C [0, 1, 2, 3] rfl ?_
                    exact ihp (nI p) x5
                  ·
                    have c20 : ¬ x1 = -1 := c20
                    refine r_iload C (dx dX7_key 42 rfl) rfl ?_
                    refine r_iload_n C (dx dX7_key 43 rfl) rfl ?_
                    refine r_icmp_le (tgt := 83) C (dx dX7_key 44 rfl) (by decide) (fun c21 => ?_) (fun c21 => ?_)
                    ·
                      have c21 : x5 ≤ x2 := c21
                      refine rn_iinc (a := p) (k := 1) (ls' := [(0, vr 7 k), (1, vi x1), (2, vi x2), (3, vi (nI (p + 1))), (4, vi x14), (5, vi x5), (6, vi (nI q))]) C (dx dX7_key 49 rfl) rfl rfl (by decide) [1, 2, 3, 0, 4, 5, 6] rfl ?_
                      refine r_goto (tgt := 6) C (dx dX7_key 50 rfl) (by decide) ?_
                      refine r_weak C [0, 1, 2, 3] rfl ?_
                      exact ihp x1 x2
                    ·
                      have c21 : ¬ x5 ≤ x2 := c21
                      refine r_iload_n C (dx dX7_key 45 rfl) rfl ?_
                      refine r_istore_n (ls' := [(0, vr 7 k), (1, vi (nI p)), (2, vi x2), (3, vi (nI p)), (4, vi x14), (5, vi x5), (6, vi (nI q))]) C (dx dX7_key 46 rfl) (by decide) [1, 0, 2, 3, 4, 5, 6] rfl ?_
                      refine r_iload C (dx dX7_key 47 rfl) rfl ?_
                      refine r_istore_n (ls' := [(0, vr 7 k), (1, vi (nI p)), (2, vi x5), (3, vi (nI p)), (4, vi x14), (5, vi x5), (6, vi (nI q))]) C (dx dX7_key 48 rfl) (by decide) [1, 2, 0, 3, 4, 5, 6] rfl ?_
                      refine rn_iinc (a := p) (k := 1) (ls' := [(0, vr 7 k), (1, vi (nI p)), (2, vi x5), (3, vi (nI (p + 1))), (4, vi x14), (5, vi x5), (6, vi (nI q))]) C (dx dX7_key 49 rfl) rfl rfl (by decide) [1, 2, 3, 0, 4, 5, 6] rfl ?_
                      refine r_goto (tgt := 6) C (dx dX7_key 50 rfl) (by decide) ?_
                      refine r_weak C [0, 1, 2, 3] rfl ?_
                      exact ihp (nI p) x5)
            · first
              | (omega; done)
              | (
                  have c19 : q < vM v := c19
                  refine r_iload C (dx dX7_key 24 rfl) rfl ?_
                  refine r_aload_n C (dx dX7_key 25 rfl) rfl ?_
                  refine g_X7_46 C (dx dX7_key 26 rfl) ?_
                  refine r_iload C (dx dX7_key 27 rfl) rfl ?_
                  refine r_iald (j := q) (x := vF v 2 q) C rfl rfl (by decide) rfl (by omega) (dx dX7_key 28 rfl) (hm.e2 (by omega)) ?_
                  refine r_iload C (dx dX7_key 29 rfl) rfl ?_
                  refine r_iand C (dx dX7_key 30 rfl) ?_
                  refine r_if_eq (tgt := 57) C (dx dX7_key 31 rfl) (by decide) (fun c22 => ?_) (fun c22 => ?_)
                  ·
                    have c22 : (vF v 2 q) &&& x14 = 0 := c22
                    refine r_iconst (v := nI 0) C (dx dX7_key 34 rfl) rfl ?_
                    refine r_iadd C (dx dX7_key 35 rfl) ?_
                    refine r_istore (ls' := [(0, vr 7 k), (1, vi x1), (2, vi x2), (3, vi (nI p)), (4, vi x14), (5, vi (x5 + (nI 0))), (6, vi (nI q))]) C (dx dX7_key 36 rfl) (by decide) [1, 2, 3, 4, 5, 0, 6] rfl ?_
                    refine rn_iinc (a := q) (k := 1) (ls' := [(0, vr 7 k), (1, vi x1), (2, vi x2), (3, vi (nI p)), (4, vi x14), (5, vi (x5 + (nI 0))), (6, vi (nI (q + 1)))]) C (dx dX7_key 37 rfl) rfl rfl (by decide) [1, 2, 3, 4, 5, 6, 0] rfl ?_
                    refine r_goto (tgt := 29) C (dx dX7_key 38 rfl) (by decide) ?_
                    exact ihq (x5 + (nI 0))
                  ·
                    have c22 : ¬ (vF v 2 q) &&& x14 = 0 := c22
                    refine r_iconst (v := nI 1) C (dx dX7_key 32 rfl) rfl ?_
                    refine r_goto (tgt := 58) C (dx dX7_key 33 rfl) (by decide) ?_
                    refine r_iadd C (dx dX7_key 35 rfl) ?_
                    refine r_istore (ls' := [(0, vr 7 k), (1, vi x1), (2, vi x2), (3, vi (nI p)), (4, vi x14), (5, vi (x5 + (nI 1))), (6, vi (nI q))]) C (dx dX7_key 36 rfl) (by decide) [1, 2, 3, 4, 5, 0, 6] rfl ?_
                    refine rn_iinc (a := q) (k := 1) (ls' := [(0, vr 7 k), (1, vi x1), (2, vi x2), (3, vi (nI p)), (4, vi x14), (5, vi (x5 + (nI 1))), (6, vi (nI (q + 1)))]) C (dx dX7_key 37 rfl) rfl rfl (by decide) [1, 2, 3, 4, 5, 6, 0] rfl ?_
                    refine r_goto (tgt := 29) C (dx dX7_key 38 rfl) (by decide) ?_
                    exact ihq (x5 + (nI 1))))
set_option maxHeartbeats 4000000 in
theorem c_X7_idle {l : Launch} {h : Hp} {k : Nat} {v : Vg} (hm : MilAt h k v)  : Ms l yX7_idle cX7_idle 5 (some .int) 8 [vr 7 k] h (xK h) (fun r h' => PI r ∧ (∃ v', MilAt h' k v') ∧ Kp k h h') := by
  refine Ms.of (by decide) (Nat.le_of_ble_eq_true rfl) (fun G C X F => ?_)
  have C : Cx G cX7_idle 5 RX7 := C
  show Rr G 0 [(0, vr 7 k)] [] h
  have bP := hm.bP
  have bM := hm.bM
  have bN := hm.bN
  refine r_iconst (v := nI 0) C (dx dX7_idle 0 rfl) rfl ?_
  refine r_istore_n (ls' := [(0, vr 7 k), (1, vi (nI 0))]) C (dx dX7_idle 1 rfl) (by decide) [1, 0] rfl ?_
  refine r_iconst (v := nI 0) C (dx dX7_idle 2 rfl) rfl ?_
  refine r_istore_n (ls' := [(0, vr 7 k), (1, vi (nI 0)), (2, vi (nI 0))]) C (dx dX7_idle 3 rfl) (by decide) [1, 2, 0] rfl ?_
  refine loopU (Φ := fun p => ∀ (x1 : Int32), Rr G 4 [(0, vr 7 k), (1, vi x1), (2, vi (nI p))] [] h) (N := vN v) ?_ ?_ 0 (by omega) (nI 0)
  ·
    intro  x1
    refine r_iload_n C (dx dX7_idle 4 rfl) rfl ?_
    refine r_aload_n C (dx dX7_idle 5 rfl) rfl ?_
    refine g_X7_74 (x := nI (vN v)) C (dx dX7_idle 6 rfl) hm.eN ?_
    refine rn_ge (a := vN v) (b := vN v) (tgt := 70) C (by omega) (by omega) (dx dX7_idle 7 rfl) (by decide) (fun c1 => ?_) (fun c1 => ?_)
    · first
      | (omega; done)
      | (
          have c1 : vN v ≤ vN v := c1
          refine r_iload_n C (dx dX7_idle 41 rfl) rfl ?_
          exact F.1 _ _ _ _ .int rfl rfl (dx dX7_idle 42 rfl) rfl ⟨⟨_, rfl⟩, ⟨_, hm⟩, Kp.rf⟩)
    · first
      | (omega; done)
      | (
          have c1 : vN v < vN v := c1
          refine r_iconst (v := nI 0) C (dx dX7_idle 8 rfl) rfl ?_
          refine r_istore_n (ls' := [(0, vr 7 k), (1, vi x1), (2, vi (nI (vN v))), (3, vi (nI 0))]) C (dx dX7_idle 9 rfl) (by decide) [1, 2, 3, 0] rfl ?_
          refine r_iconst (v := nI 0) C (dx dX7_idle 10 rfl) rfl ?_
          refine r_istore (ls' := [(0, vr 7 k), (1, vi x1), (2, vi (nI (vN v))), (3, vi (nI 0)), (4, vi (nI 0))]) C (dx dX7_idle 11 rfl) (by decide) [1, 2, 3, 4, 0] rfl ?_
          refine loopU (Φ := fun q => ∀ (x3 : Int32), Rr G 17 [(0, vr 7 k), (1, vi x1), (2, vi (nI (vN v))), (3, vi x3), (4, vi (nI q))] [] h) (N := vM v) ?_ ?_ 0 (by omega) (nI 0)
          ·
            intro  x3
            refine r_iload C (dx dX7_idle 12 rfl) rfl ?_
            refine r_aload_n C (dx dX7_idle 13 rfl) rfl ?_
            refine g_X7_71 (x := nI (vM v)) C (dx dX7_idle 14 rfl) hm.eM ?_
            refine rn_ge (a := vM v) (b := vM v) (tgt := 50) C (by omega) (by omega) (dx dX7_idle 15 rfl) (by decide) (fun c2 => ?_) (fun c2 => ?_)
            · first
              | (omega; done)
            · first
              | (omega; done)
          ·
            intro q hq ihq x3
            refine r_iload C (dx dX7_idle 12 rfl) rfl ?_
            refine r_aload_n C (dx dX7_idle 13 rfl) rfl ?_
            refine g_X7_71 (x := nI (vM v)) C (dx dX7_idle 14 rfl) hm.eM ?_
            refine rn_ge (a := q) (b := vM v) (tgt := 50) C (by omega) (by omega) (dx dX7_idle 15 rfl) (by decide) (fun c6 => ?_) (fun c6 => ?_)
            · first
              | (omega; done)
            · first
              | (omega; done)
              | (
                  have c6 : q < vM v := c6
                  refine r_iload_n C (dx dX7_idle 16 rfl) rfl ?_
                  refine r_aload_n C (dx dX7_idle 17 rfl) rfl ?_
                  refine r_iload C (dx dX7_idle 18 rfl) rfl ?_
                  refine r_iload_n C (dx dX7_idle 19 rfl) rfl ?_
                  refine r_cvW (as := [vi (nI q), vi (nI (vN v))]) (st := [vi x3]) C X I_X7_powerOf l_X7_274 (c_X7_powerOf hm (m := q) (o := vN v) (by omega) (by omega)) (by decide) (Nat.le_of_ble_eq_true rfl) List.prefix_rfl rfl rfl (Nat.le_of_ble_eq_true rfl) rfl (dx dX7_idle 20 rfl) ?_
                  rintro _ ⟨x8, rfl⟩
                  refine r_if_le (tgt := 41) C (dx dX7_idle 21 rfl) (by decide) (fun c9 => ?_) (fun c9 => ?_)
                  ·
                    have c9 : x8 ≤ 0 := c9
                    refine r_iconst (v := nI 0) C (dx dX7_idle 24 rfl) rfl ?_
                    refine r_ior C (dx dX7_idle 25 rfl) ?_
                    refine r_istore_n (ls' := [(0, vr 7 k), (1, vi x1), (2, vi (nI (vN v))), (3, vi (x3 ||| (nI 0))), (4, vi (nI q))]) C (dx dX7_idle 26 rfl) (by decide) [1, 2, 3, 0, 4] rfl ?_
                    refine rn_iinc (a := q) (k := 1) (ls' := [(0, vr 7 k), (1, vi x1), (2, vi (nI (vN v))), (3, vi (x3 ||| (nI 0))), (4, vi (nI (q + 1)))]) C (dx dX7_idle 27 rfl) rfl rfl (by decide) [1, 2, 3, 4, 0] rfl ?_
                    refine r_goto (tgt := 17) C (dx dX7_idle 28 rfl) (by decide) ?_
                    exact ihq (x3 ||| (nI 0))
                  ·
                    have c9 : ¬ x8 ≤ 0 := c9
                    refine r_iconst (v := nI 1) C (dx dX7_idle 22 rfl) rfl ?_
                    refine r_goto (tgt := 42) C (dx dX7_idle 23 rfl) (by decide) ?_
                    refine r_ior C (dx dX7_idle 25 rfl) ?_
                    refine r_istore_n (ls' := [(0, vr 7 k), (1, vi x1), (2, vi (nI (vN v))), (3, vi (x3 ||| (nI 1))), (4, vi (nI q))]) C (dx dX7_idle 26 rfl) (by decide) [1, 2, 3, 0, 4] rfl ?_
                    refine rn_iinc (a := q) (k := 1) (ls' := [(0, vr 7 k), (1, vi x1), (2, vi (nI (vN v))), (3, vi (x3 ||| (nI 1))), (4, vi (nI (q + 1)))]) C (dx dX7_idle 27 rfl) rfl rfl (by decide) [1, 2, 3, 4, 0] rfl ?_
                    refine r_goto (tgt := 17) C (dx dX7_idle 28 rfl) (by decide) ?_
                    exact ihq (x3 ||| (nI 1))))
  ·
    intro p hp ihp x1
    refine r_iload_n C (dx dX7_idle 4 rfl) rfl ?_
    refine r_aload_n C (dx dX7_idle 5 rfl) rfl ?_
    refine g_X7_74 (x := nI (vN v)) C (dx dX7_idle 6 rfl) hm.eN ?_
    refine rn_ge (a := p) (b := vN v) (tgt := 70) C (by omega) (by omega) (dx dX7_idle 7 rfl) (by decide) (fun c10 => ?_) (fun c10 => ?_)
    · first
      | (omega; done)
      | (
          have c10 : vN v ≤ p := c10
          refine r_iload_n C (dx dX7_idle 41 rfl) rfl ?_
          exact F.1 _ _ _ _ .int rfl rfl (dx dX7_idle 42 rfl) rfl ⟨⟨_, rfl⟩, ⟨_, hm⟩, Kp.rf⟩)
    · first
      | (omega; done)
      | (
          have c10 : p < vN v := c10
          refine r_iconst (v := nI 0) C (dx dX7_idle 8 rfl) rfl ?_
          refine r_istore_n (ls' := [(0, vr 7 k), (1, vi x1), (2, vi (nI p)), (3, vi (nI 0))]) C (dx dX7_idle 9 rfl) (by decide) [1, 2, 3, 0] rfl ?_
          refine r_iconst (v := nI 0) C (dx dX7_idle 10 rfl) rfl ?_
          refine r_istore (ls' := [(0, vr 7 k), (1, vi x1), (2, vi (nI p)), (3, vi (nI 0)), (4, vi (nI 0))]) C (dx dX7_idle 11 rfl) (by decide) [1, 2, 3, 4, 0] rfl ?_
          refine loopU (Φ := fun q => ∀ (x3 : Int32), Rr G 17 [(0, vr 7 k), (1, vi x1), (2, vi (nI p)), (3, vi x3), (4, vi (nI q))] [] h) (N := vM v) ?_ ?_ 0 (by omega) (nI 0)
          ·
            intro  x3
            refine r_iload C (dx dX7_idle 12 rfl) rfl ?_
            refine r_aload_n C (dx dX7_idle 13 rfl) rfl ?_
            refine g_X7_71 (x := nI (vM v)) C (dx dX7_idle 14 rfl) hm.eM ?_
            refine rn_ge (a := vM v) (b := vM v) (tgt := 50) C (by omega) (by omega) (dx dX7_idle 15 rfl) (by decide) (fun c11 => ?_) (fun c11 => ?_)
            · first
              | (omega; done)
              | (
                  have c11 : vM v ≤ vM v := c11
                  refine r_iload_n C (dx dX7_idle 29 rfl) rfl ?_
                  refine r_iload_n C (dx dX7_idle 30 rfl) rfl ?_
                  refine r_if_eq (tgt := 59) C (dx dX7_idle 31 rfl) (by decide) (fun c12 => ?_) (fun c12 => ?_)
                  ·
                    have c12 : x3 = 0 := c12
                    refine r_iconst (v := nI 1) C (dx dX7_idle 34 rfl) rfl ?_
                    refine r_iload_n C (dx dX7_idle 35 rfl) rfl ?_
                    refine r_ishl C (dx dX7_idle 36 rfl) ?_
                    refine r_ior C (dx dX7_idle 37 rfl) ?_
                    refine r_istore_n (ls' := [(0, vr 7 k), (1, vi (x1 ||| ((nI 1) <<< ((nI p) &&& 31)))), (2, vi (nI p)), (3, vi x3), (4, vi (nI (vM v)))]) C (dx dX7_idle 38 rfl) (by decide) [1, 0, 2, 3, 4] rfl ?_
                    refine rn_iinc (a := p) (k := 1) (ls' := [(0, vr 7 k), (1, vi (x1 ||| ((nI 1) <<< ((nI p) &&& 31)))), (2, vi (nI (p + 1))), (3, vi x3), (4, vi (nI (vM v)))]) C (dx dX7_idle 39 rfl) rfl rfl (by decide) [1, 2, 0, 3, 4] rfl ?_
                    refine r_goto (tgt := 4) C (dx dX7_idle 40 rfl) (by decide) ?_
                    refine r_weak C [0, 1, 2] rfl ?_
                    exact ihp (x1 ||| ((nI 1) <<< ((nI p) &&& 31)))
                  ·
                    have c12 : ¬ x3 = 0 := c12
                    refine r_iconst (v := nI 0) C (dx dX7_idle 32 rfl) rfl ?_
                    refine r_goto (tgt := 62) C (dx dX7_idle 33 rfl) (by decide) ?_
                    refine r_ior C (dx dX7_idle 37 rfl) ?_
                    refine r_istore_n (ls' := [(0, vr 7 k), (1, vi (x1 ||| (nI 0))), (2, vi (nI p)), (3, vi x3), (4, vi (nI (vM v)))]) C (dx dX7_idle 38 rfl) (by decide) [1, 0, 2, 3, 4] rfl ?_
                    refine rn_iinc (a := p) (k := 1) (ls' := [(0, vr 7 k), (1, vi (x1 ||| (nI 0))), (2, vi (nI (p + 1))), (3, vi x3), (4, vi (nI (vM v)))]) C (dx dX7_idle 39 rfl) rfl rfl (by decide) [1, 2, 0, 3, 4] rfl ?_
                    refine r_goto (tgt := 4) C (dx dX7_idle 40 rfl) (by decide) ?_
                    refine r_weak C [0, 1, 2] rfl ?_
                    exact ihp (x1 ||| (nI 0)))
            · first
              | (omega; done)
          ·
            intro q hq ihq x3
            refine r_iload C (dx dX7_idle 12 rfl) rfl ?_
            refine r_aload_n C (dx dX7_idle 13 rfl) rfl ?_
            refine g_X7_71 (x := nI (vM v)) C (dx dX7_idle 14 rfl) hm.eM ?_
            refine rn_ge (a := q) (b := vM v) (tgt := 50) C (by omega) (by omega) (dx dX7_idle 15 rfl) (by decide) (fun c15 => ?_) (fun c15 => ?_)
            · first
              | (omega; done)
              | (
                  have c15 : vM v ≤ q := c15
                  refine r_iload_n C (dx dX7_idle 29 rfl) rfl ?_
                  refine r_iload_n C (dx dX7_idle 30 rfl) rfl ?_
                  refine r_if_eq (tgt := 59) C (dx dX7_idle 31 rfl) (by decide) (fun c16 => ?_) (fun c16 => ?_)
                  ·
                    have c16 : x3 = 0 := c16
                    refine r_iconst (v := nI 1) C (dx dX7_idle 34 rfl) rfl ?_
                    refine r_iload_n C (dx dX7_idle 35 rfl) rfl ?_
                    refine r_ishl C (dx dX7_idle 36 rfl) ?_
                    refine r_ior C (dx dX7_idle 37 rfl) ?_
                    refine r_istore_n (ls' := [(0, vr 7 k), (1, vi (x1 ||| ((nI 1) <<< ((nI p) &&& 31)))), (2, vi (nI p)), (3, vi x3), (4, vi (nI q))]) C (dx dX7_idle 38 rfl) (by decide) [1, 0, 2, 3, 4] rfl ?_
                    refine rn_iinc (a := p) (k := 1) (ls' := [(0, vr 7 k), (1, vi (x1 ||| ((nI 1) <<< ((nI p) &&& 31)))), (2, vi (nI (p + 1))), (3, vi x3), (4, vi (nI q))]) C (dx dX7_idle 39 rfl) rfl rfl (by decide) [1, 2, 0, 3, 4] rfl ?_
                    refine r_goto (tgt := 4) C (dx dX7_idle 40 rfl) (by decide) ?_
                    refine r_weak C [0, 1, 2] rfl ?_
                    exact ihp (x1 ||| ((nI 1) <<< ((nI p) &&& 31)))
                  ·
                    have c16 : ¬ x3 = 0 := c16
                    refine r_iconst (v := nI 0) C (dx dX7_idle 32 rfl) rfl ?_
                    refine r_goto (tgt := 62) C (dx dX7_idle 33 rfl) (by decide) ?_
                    refine r_ior C (dx dX7_idle 37 rfl) ?_
                    refine r_istore_n (ls' := [(0, vr 7 k), (1, vi (x1 ||| (nI 0))), (2, vi (nI p)), (3, vi x3), (4, vi (nI q))]) C (dx dX7_idle 38 rfl) (by decide) [1, 0, 2, 3, 4] rfl ?_
                    refine rn_iinc (a := p) (k := 1) (ls' := [(0, vr 7 k), (1, vi (x1 ||| (nI 0))), (2, vi (nI (p + 1))), (3, vi x3), (4, vi (nI q))]) C (dx dX7_idle 39 rfl) rfl rfl (by decide) [1, 2, 0, 3, 4] rfl ?_
                    refine r_goto (tgt := 4) C (dx dX7_idle 40 rfl) (by decide) ?_
                    refine r_weak C [0, 1, 2] rfl ?_
                    exact ihp (x1 ||| (nI 0)))
            · first
              | (omega; done)
              | (
                  have c15 : q < vM v := c15
                  refine r_iload_n C (dx dX7_idle 16 rfl) rfl ?_
                  refine r_aload_n C (dx dX7_idle 17 rfl) rfl ?_
                  refine r_iload C (dx dX7_idle 18 rfl) rfl ?_
                  refine r_iload_n C (dx dX7_idle 19 rfl) rfl ?_
                  refine r_cvW (as := [vi (nI q), vi (nI p)]) (st := [vi x3]) C X I_X7_powerOf l_X7_274 (c_X7_powerOf hm (m := q) (o := p) (by omega) (by omega)) (by decide) (Nat.le_of_ble_eq_true rfl) List.prefix_rfl rfl rfl (Nat.le_of_ble_eq_true rfl) rfl (dx dX7_idle 20 rfl) ?_
                  rintro _ ⟨x17, rfl⟩
                  refine r_if_le (tgt := 41) C (dx dX7_idle 21 rfl) (by decide) (fun c18 => ?_) (fun c18 => ?_)
                  ·
                    have c18 : x17 ≤ 0 := c18
                    refine r_iconst (v := nI 0) C (dx dX7_idle 24 rfl) rfl ?_
                    refine r_ior C (dx dX7_idle 25 rfl) ?_
                    refine r_istore_n (ls' := [(0, vr 7 k), (1, vi x1), (2, vi (nI p)), (3, vi (x3 ||| (nI 0))), (4, vi (nI q))]) C (dx dX7_idle 26 rfl) (by decide) [1, 2, 3, 0, 4] rfl ?_
                    refine rn_iinc (a := q) (k := 1) (ls' := [(0, vr 7 k), (1, vi x1), (2, vi (nI p)), (3, vi (x3 ||| (nI 0))), (4, vi (nI (q + 1)))]) C (dx dX7_idle 27 rfl) rfl rfl (by decide) [1, 2, 3, 4, 0] rfl ?_
                    refine r_goto (tgt := 17) C (dx dX7_idle 28 rfl) (by decide) ?_
                    exact ihq (x3 ||| (nI 0))
                  ·
                    have c18 : ¬ x17 ≤ 0 := c18
                    refine r_iconst (v := nI 1) C (dx dX7_idle 22 rfl) rfl ?_
                    refine r_goto (tgt := 42) C (dx dX7_idle 23 rfl) (by decide) ?_
                    refine r_ior C (dx dX7_idle 25 rfl) ?_
                    refine r_istore_n (ls' := [(0, vr 7 k), (1, vi x1), (2, vi (nI p)), (3, vi (x3 ||| (nI 1))), (4, vi (nI q))]) C (dx dX7_idle 26 rfl) (by decide) [1, 2, 3, 0, 4] rfl ?_
                    refine rn_iinc (a := q) (k := 1) (ls' := [(0, vr 7 k), (1, vi x1), (2, vi (nI p)), (3, vi (x3 ||| (nI 1))), (4, vi (nI (q + 1)))]) C (dx dX7_idle 27 rfl) rfl rfl (by decide) [1, 2, 3, 4, 0] rfl ?_
                    refine r_goto (tgt := 17) C (dx dX7_idle 28 rfl) (by decide) ?_
                    exact ihq (x3 ||| (nI 1))))
set_option maxHeartbeats 4000000 in
theorem c_X7_room {l : Launch} {h : Hp} {k : Nat} {v : Vg} (hm : MilAt h k v)  : Ms l yX7_room cX7_room 3 (some .int) 8 [vr 7 k] h (xK h) (fun r h' => PI r ∧ (∃ v', MilAt h' k v') ∧ Kp k h h') := by
  refine Ms.of (by decide) (Nat.le_of_ble_eq_true rfl) (fun G C X F => ?_)
  have C : Cx G cX7_room 3 RX7 := C
  show Rr G 0 [(0, vr 7 k)] [] h
  have bP := hm.bP
  have bM := hm.bM
  have bN := hm.bN
  refine r_iconst (v := nI 0) C (dx dX7_room 0 rfl) rfl ?_
  refine r_istore_n (ls' := [(0, vr 7 k), (1, vi (nI 0))]) C (dx dX7_room 1 rfl) (by decide) [1, 0] rfl ?_
  refine r_iconst (v := nI 0) C (dx dX7_room 2 rfl) rfl ?_
  refine r_istore_n (ls' := [(0, vr 7 k), (1, vi (nI 0)), (2, vi (nI 0))]) C (dx dX7_room 3 rfl) (by decide) [1, 2, 0] rfl ?_
  refine loopU (Φ := fun p => ∀ (x1 : Int32), Rr G 4 [(0, vr 7 k), (1, vi x1), (2, vi (nI p))] [] h) (N := vN v) ?_ ?_ 0 (by omega) (nI 0)
  ·
    intro  x1
    refine r_iload_n C (dx dX7_room 4 rfl) rfl ?_
    refine r_aload_n C (dx dX7_room 5 rfl) rfl ?_
    refine g_X7_74 (x := nI (vN v)) C (dx dX7_room 6 rfl) hm.eN ?_
    refine rn_ge (a := vN v) (b := vN v) (tgt := 35) C (by omega) (by omega) (dx dX7_room 7 rfl) (by decide) (fun c1 => ?_) (fun c1 => ?_)
    · first
      | (omega; done)
      | (
          have c1 : vN v ≤ vN v := c1
          refine r_iload_n C (dx dX7_room 23 rfl) rfl ?_
          exact F.1 _ _ _ _ .int rfl rfl (dx dX7_room 24 rfl) rfl ⟨⟨_, rfl⟩, ⟨_, hm⟩, Kp.rf⟩)
    · first
      | (omega; done)
  ·
    intro p hp ihp x1
    refine r_iload_n C (dx dX7_room 4 rfl) rfl ?_
    refine r_aload_n C (dx dX7_room 5 rfl) rfl ?_
    refine g_X7_74 (x := nI (vN v)) C (dx dX7_room 6 rfl) hm.eN ?_
    refine rn_ge (a := p) (b := vN v) (tgt := 35) C (by omega) (by omega) (dx dX7_room 7 rfl) (by decide) (fun c3 => ?_) (fun c3 => ?_)
    · first
      | (omega; done)
      | (
          have c3 : vN v ≤ p := c3
          refine r_iload_n C (dx dX7_room 23 rfl) rfl ?_
          exact F.1 _ _ _ _ .int rfl rfl (dx dX7_room 24 rfl) rfl ⟨⟨_, rfl⟩, ⟨_, hm⟩, Kp.rf⟩)
    · first
      | (omega; done)
      | (
          have c3 : p < vN v := c3
          refine r_iload_n C (dx dX7_room 8 rfl) rfl ?_
          refine r_aload_n C (dx dX7_room 9 rfl) rfl ?_
          refine g_X7_54 C (dx dX7_room 10 rfl) ?_
          refine r_iload_n C (dx dX7_room 11 rfl) rfl ?_
          refine r_aald4 (j := p) C rfl rfl (by decide) rfl (by omega) (dx dX7_room 12 rfl) ?_
          refine r_iconst (v := nI 0) C (dx dX7_room 13 rfl) rfl ?_
          refine r_iald (j := 0) (x := vF v 4 p) C rfl rfl (by decide) rfl (by omega) (dx dX7_room 14 rfl) (hm.eo (by omega) (by omega)) ?_
          refine r_aload_n C (dx dX7_room 15 rfl) rfl ?_
          refine r_iload_n C (dx dX7_room 16 rfl) rfl ?_
          refine r_cvW (as := [vi (nI p)]) (st := [vi (vF v 4 p), vi x1]) C X I_X7_piecesOf l_X7_129 (c_X7_piecesOf hm _) (by decide) (Nat.le_of_ble_eq_true rfl) List.prefix_rfl rfl rfl (Nat.le_of_ble_eq_true rfl) rfl (dx dX7_room 17 rfl) ?_
          rintro _ ⟨x4, rfl⟩
          refine r_isub C (dx dX7_room 18 rfl) ?_
          refine r_iadd C (dx dX7_room 19 rfl) ?_
          refine r_istore_n (ls' := [(0, vr 7 k), (1, vi (x1 + ((vF v 4 p) - x4))), (2, vi (nI p))]) C (dx dX7_room 20 rfl) (by decide) [1, 0, 2] rfl ?_
          refine rn_iinc (a := p) (k := 1) (ls' := [(0, vr 7 k), (1, vi (x1 + ((vF v 4 p) - x4))), (2, vi (nI (p + 1)))]) C (dx dX7_room 21 rfl) rfl rfl (by decide) [1, 2, 0] rfl ?_
          refine r_goto (tgt := 4) C (dx dX7_room 22 rfl) (by decide) ?_
          exact ihp (x1 + ((vF v 4 p) - x4)))
set_option maxHeartbeats 4000000 in
theorem c_X7_swap {l : Launch} {h : Hp} {k : Nat} {v : Vg} (hm : MilAt h k v) (p q : Int32) : Ms l yX7_swap cX7_swap 4 (some .int) 8 [vr 7 k, vi p, vi q] h (xK h) (fun r h' => PI r ∧ (∃ v', MilAt h' k v') ∧ Kp k h h') := by
  refine Ms.of (by decide) (Nat.le_of_ble_eq_true rfl) (fun G C X F => ?_)
  have C : Cx G cX7_swap 4 RX7 := C
  show Rr G 0 [(0, vr 7 k), (1, vi p), (2, vi q)] [] h
  have bP := hm.bP
  have bM := hm.bM
  have bN := hm.bN
  refine r_aload_n C (dx dX7_swap 0 rfl) rfl ?_
  refine r_iload_n C (dx dX7_swap 1 rfl) rfl ?_
  refine r_cvP (as := [vi p]) (st := []) (v := vi (b2i (inR p (vP v)))) C X I_X7_isPart l_X7_132 (c_X7_isPart hm _) (by decide) (Nat.le_of_ble_eq_true rfl) List.prefix_rfl rfl rfl (Nat.le_of_ble_eq_true rfl) rfl (dx dX7_swap 2 rfl) ?_
  refine rb_eq (b := inR p (vP v)) (tgt := 16) C (dx dX7_swap 3 rfl) (by decide) (fun c1 => ?_) (fun c1 => ?_)
  ·
    have c1 : (inR p (vP v)) = false := c1
    refine r_aload_n C (dx dX7_swap 8 rfl) rfl ?_
    refine r_bipush (v := -2) C (dx dX7_swap 9 rfl) rfl ?_
    refine r_cv (as := [vi (-2)]) (st := []) C X I_X7_refuse l_X7_83 (c_X7_refuse hm (x := -2) (j := 2) (by decide) (by decide)) (by decide) (Nat.le_of_ble_eq_true rfl) List.prefix_rfl List.prefix_rfl rfl rfl (Nat.le_of_ble_eq_true rfl) rfl (dx dX7_swap 10 rfl) ?_
    rintro _ h2 ⟨rfl, ⟨wh2, m9h2, s9h2⟩, qh2⟩ kkh2
    obtain ⟨vh2, mh2, zh2⟩ : ∃ v9, MilAt h2 k v9 ∧ Sz v v9 := ⟨_, m9h2, s9h2⟩
    have ph2 : Kp k h h2 := qh2
    have kh2 : xK h2 = xK h := kkh2
    obtain ⟨ah2, bh2, ch2⟩ := zh2
    exact F.1 _ _ _ _ .int rfl rfl (dx dX7_swap 11 rfl) kh2 ⟨⟨_, rfl⟩, ⟨_, mh2⟩, ph2⟩
  ·
    have c1 : (inR p (vP v)) = true := c1
    obtain ⟨π, hπ, rfl⟩ := inR_ex (n := (vP v)) (by omega) c1
    refine r_aload_n C (dx dX7_swap 4 rfl) rfl ?_
    refine r_iload_n C (dx dX7_swap 5 rfl) rfl ?_
    refine r_cvP (as := [vi q]) (st := []) (v := vi (b2i (inR q (vP v)))) C X I_X7_isPart l_X7_132 (c_X7_isPart hm _) (by decide) (Nat.le_of_ble_eq_true rfl) List.prefix_rfl rfl rfl (Nat.le_of_ble_eq_true rfl) rfl (dx dX7_swap 6 rfl) ?_
    refine rb_ne (b := inR q (vP v)) (tgt := 23) C (dx dX7_swap 7 rfl) (by decide) (fun c3 => ?_) (fun c3 => ?_)
    ·
      have c3 : (inR q (vP v)) = true := c3
      obtain ⟨θ, hθ, rfl⟩ := inR_ex (n := (vP v)) (by omega) c3
      refine r_aload_n C (dx dX7_swap 12 rfl) rfl ?_
      refine g_X7_40 C (dx dX7_swap 13 rfl) ?_
      refine r_iload_n C (dx dX7_swap 14 rfl) rfl ?_
      refine r_iald (j := π) (x := vF v 0 π) C rfl rfl (by decide) rfl (by omega) (dx dX7_swap 15 rfl) (hm.e0 (by omega)) ?_
      refine r_istore_n (ls' := [(0, vr 7 k), (1, vi (nI π)), (2, vi (nI θ)), (3, vi (vF v 0 π))]) C (dx dX7_swap 16 rfl) (by decide) [1, 2, 3, 0] rfl ?_
      refine r_aload_n C (dx dX7_swap 17 rfl) rfl ?_
      refine g_X7_40 C (dx dX7_swap 18 rfl) ?_
      refine r_iload_n C (dx dX7_swap 19 rfl) rfl ?_
      refine r_aload_n C (dx dX7_swap 20 rfl) rfl ?_
      refine g_X7_40 C (dx dX7_swap 21 rfl) ?_
      refine r_iload_n C (dx dX7_swap 22 rfl) rfl ?_
      refine r_iald (j := θ) (x := vF v 0 θ) C rfl rfl (by decide) rfl (by omega) (dx dX7_swap 23 rfl) (hm.e0 (by omega)) ?_
      refine r_iast (j := π) C rfl rfl (by decide) rfl (by omega) (dx dX7_swap 24 rfl) ?_
      obtain ⟨vh4, mh4, zh4⟩ : ∃ v9, MilAt (sI h (k + 18) π (vF v 0 θ)) k v9 ∧ Sz v v9 := ⟨vset v 0 π (vF v 0 θ), hm.s0, ⟨rfl, rfl, rfl⟩⟩
      have ph4 : Kp k h (sI h (k + 18) π (vF v 0 θ)) := Kp.c (by omega) (by omega)
      have kh4 : xK (sI h (k + 18) π (vF v 0 θ)) = xK h := rfl
      generalize sI h (k + 18) π (vF v 0 θ) = h4 at mh4 ph4 kh4 ⊢
      obtain ⟨ah4, bh4, ch4⟩ := zh4
      refine r_aload_n C (dx dX7_swap 25 rfl) rfl ?_
      refine g_X7_40 C (dx dX7_swap 26 rfl) ?_
      refine r_iload_n C (dx dX7_swap 27 rfl) rfl ?_
      refine r_iload_n C (dx dX7_swap 28 rfl) rfl ?_
      refine r_iast (j := θ) C rfl rfl (by decide) rfl (by omega) (dx dX7_swap 29 rfl) ?_
      obtain ⟨vh5, mh5, zh5⟩ : ∃ v9, MilAt (sI h4 (k + 18) θ (vF v 0 π)) k v9 ∧ Sz vh4 v9 := ⟨vset vh4 0 θ (vF v 0 π), mh4.s0, ⟨rfl, rfl, rfl⟩⟩
      have ph5 : Kp k h (sI h4 (k + 18) θ (vF v 0 π)) := ph4.tr (Kp.c (by omega) (by omega))
      have kh5 : xK (sI h4 (k + 18) θ (vF v 0 π)) = xK h := kh4
      generalize sI h4 (k + 18) θ (vF v 0 π) = h5 at mh5 ph5 kh5 ⊢
      obtain ⟨ah5, bh5, ch5⟩ := zh5
      refine r_aload_n C (dx dX7_swap 30 rfl) rfl ?_
      refine g_X7_40 C (dx dX7_swap 31 rfl) ?_
      refine r_iload_n C (dx dX7_swap 32 rfl) rfl ?_
      refine r_iald (j := π) (x := vF vh5 0 π) C rfl rfl (by decide) rfl (by omega) (dx dX7_swap 33 rfl) (mh5.e0 (by omega)) ?_
      refine r_iload_n C (dx dX7_swap 34 rfl) rfl ?_
      refine r_icmp_eq (tgt := 63) C (dx dX7_swap 35 rfl) (by decide) (fun c6 => ?_) (fun c6 => ?_)
      ·
        have c6 : vF vh5 0 π = vF v 0 π := c6
        refine r_iconst (v := nI 0) C (dx dX7_swap 38 rfl) rfl ?_
        exact F.1 _ _ _ _ .int rfl rfl (dx dX7_swap 39 rfl) kh5 ⟨⟨_, rfl⟩, ⟨_, mh5⟩, ph5⟩
      ·
        have c6 : ¬ vF vh5 0 π = vF v 0 π := c6
        refine r_iconst (v := nI 1) C (dx dX7_swap 36 rfl) rfl ?_
        refine r_goto (tgt := 64) C (dx dX7_swap 37 rfl) (by decide) ?_
        exact F.1 _ _ _ _ .int rfl rfl (dx dX7_swap 39 rfl) kh5 ⟨⟨_, rfl⟩, ⟨_, mh5⟩, ph5⟩
    ·
      have c3 : (inR q (vP v)) = false := c3
      refine r_aload_n C (dx dX7_swap 8 rfl) rfl ?_
      refine r_bipush (v := -2) C (dx dX7_swap 9 rfl) rfl ?_
      refine r_cv (as := [vi (-2)]) (st := []) C X I_X7_refuse l_X7_83 (c_X7_refuse hm (x := -2) (j := 2) (by decide) (by decide)) (by decide) (Nat.le_of_ble_eq_true rfl) List.prefix_rfl List.prefix_rfl rfl rfl (Nat.le_of_ble_eq_true rfl) rfl (dx dX7_swap 10 rfl) ?_
      rintro _ h7 ⟨rfl, ⟨wh7, m9h7, s9h7⟩, qh7⟩ kkh7
      obtain ⟨vh7, mh7, zh7⟩ : ∃ v9, MilAt h7 k v9 ∧ Sz v v9 := ⟨_, m9h7, s9h7⟩
      have ph7 : Kp k h h7 := qh7
      have kh7 : xK h7 = xK h := kkh7
      obtain ⟨ah7, bh7, ch7⟩ := zh7
      exact F.1 _ _ _ _ .int rfl rfl (dx dX7_swap 11 rfl) kh7 ⟨⟨_, rfl⟩, ⟨_, mh7⟩, ph7⟩
set_option maxHeartbeats 4000000 in
theorem c_X7_seed {l : Launch} {h : Hp} {k : Nat} {v : Vg} (hm : MilAt h k v) (x : Int32) : Ms l yX7_seed cX7_seed 3 (some .int) 8 [vr 7 k, vi x] h (xK h) (fun r h' => PI r ∧ (∃ v', MilAt h' k v') ∧ Kp k h h') := by
  refine Ms.of (by decide) (Nat.le_of_ble_eq_true rfl) (fun G C X F => ?_)
  have C : Cx G cX7_seed 3 RX7 := C
  show Rr G 0 [(0, vr 7 k), (1, vi x)] [] h
  have bP := hm.bP
  have bM := hm.bM
  have bN := hm.bN
  refine r_aload_n C (dx dX7_seed 0 rfl) rfl ?_
  refine g_X7_57 (x := vS v) C (dx dX7_seed 1 rfl) hm.eS ?_
  refine r_istore_n (ls' := [(0, vr 7 k), (1, vi x), (2, vi (vS v))]) C (dx dX7_seed 2 rfl) (by decide) [1, 2, 0] rfl ?_
  refine r_aload_n C (dx dX7_seed 3 rfl) rfl ?_
  refine r_iload_n C (dx dX7_seed 4 rfl) rfl ?_
  refine p_X7_57 C (dx dX7_seed 5 rfl) rfl rfl ?_
  obtain ⟨vh1, mh1, zh1⟩ : ∃ v9, MilAt (sI h k 20 x) k v9 ∧ Sz v v9 := ⟨vsS v x, hm.sS, Sz.sS⟩
  have ph1 : Kp k h (sI h k 20 x) := Kp.f (by decide)
  have kh1 : xK (sI h k 20 x) = xK h := rfl
  generalize sI h k 20 x = h1 at mh1 ph1 kh1 ⊢
  obtain ⟨ah1, bh1, ch1⟩ := zh1
  refine r_iload_n C (dx dX7_seed 6 rfl) rfl ?_
  exact F.1 _ _ _ _ .int rfl rfl (dx dX7_seed 7 rfl) kh1 ⟨⟨_, rfl⟩, ⟨_, mh1⟩, ph1⟩
set_option maxHeartbeats 4000000 in
theorem c_X7_draw {l : Launch} {h : Hp} {k : Nat} {v : Vg} (hm : MilAt h k v)  : Ms l yX7_draw cX7_draw 2 (some .int) 1 [vr 7 k, vi (nI 10)] h (xK h) (fun r h' => PI r ∧ (∃ v', MilAt h' k v' ∧ Sz v v') ∧ Kp k h h') := by
  refine Ms.of (by decide) (Nat.le_of_ble_eq_true rfl) (fun G C X F => ?_)
  have C : Cx G cX7_draw 2 RX7 := C
  show Rr G 0 [(0, vr 7 k), (1, vi (nI 10))] [] h
  have bP := hm.bP
  have bM := hm.bM
  have bN := hm.bN
  refine r_aload_n C (dx dX7_draw 0 rfl) rfl ?_
  refine r_aload_n C (dx dX7_draw 1 rfl) rfl ?_
  refine g_X7_57 (x := vS v) C (dx dX7_draw 2 rfl) hm.eS ?_
  refine r_ldcw C n_X7_335 (dx dX7_draw 3 rfl) ?_
  refine r_imul C (dx dX7_draw 4 rfl) ?_
  refine r_sipush (v := nI 12345) C (dx dX7_draw 5 rfl) rfl ?_
  refine r_iadd C (dx dX7_draw 6 rfl) ?_
  refine p_X7_57 C (dx dX7_draw 7 rfl) rfl rfl ?_
  obtain ⟨vh1, mh1, zh1⟩ : ∃ v9, MilAt (sI h k 20 (((vS v) * 1103515245) + (nI 12345))) k v9 ∧ Sz v v9 := ⟨vsS v (((vS v) * 1103515245) + (nI 12345)), hm.sS, Sz.sS⟩
  have ph1 : Kp k h (sI h k 20 (((vS v) * 1103515245) + (nI 12345))) := Kp.f (by decide)
  have kh1 : xK (sI h k 20 (((vS v) * 1103515245) + (nI 12345))) = xK h := rfl
  generalize sI h k 20 (((vS v) * 1103515245) + (nI 12345)) = h1 at mh1 ph1 kh1 ⊢
  obtain ⟨ah1, bh1, ch1⟩ := zh1
  refine r_aload_n C (dx dX7_draw 8 rfl) rfl ?_
  refine g_X7_57 (x := vS vh1) C (dx dX7_draw 9 rfl) mh1.eS ?_
  refine r_bipush (v := nI 16) C (dx dX7_draw 10 rfl) rfl ?_
  refine r_iushr C (dx dX7_draw 11 rfl) ?_
  refine r_iload_n C (dx dX7_draw 12 rfl) rfl ?_
  refine r_irem C (dx dX7_draw 13 rfl) (by decide) ?_
  exact F.1 _ _ _ _ .int rfl rfl (dx dX7_draw 14 rfl) kh1 ⟨⟨_, rfl⟩, ⟨_, mh1, ⟨by omega, by omega, by omega⟩⟩, ph1⟩
set_option maxHeartbeats 4000000 in
theorem c_X7_goes {l : Launch} {h : Hp} {k : Nat} {v : Vg} (hm : MilAt h k v)  : Ms l yX7_goes cX7_goes 7 (some .int) 5 [vr 7 k] h (xK h) (fun r h' => PI r ∧ (∃ v', MilAt h' k v' ∧ Sz v v') ∧ Kp k h h') := by
  refine Ms.of (by decide) (Nat.le_of_ble_eq_true rfl) (fun G C X F => ?_)
  have C : Cx G cX7_goes 7 RX7 := C
  show Rr G 0 [(0, vr 7 k)] [] h
  have bP := hm.bP
  have bM := hm.bM
  have bN := hm.bN
  refine r_iconst (v := nI 0) C (dx dX7_goes 0 rfl) rfl ?_
  refine r_istore_n (ls' := [(0, vr 7 k), (1, vi (nI 0))]) C (dx dX7_goes 1 rfl) (by decide) [1, 0] rfl ?_
  refine r_iconst (v := nI 0) C (dx dX7_goes 2 rfl) rfl ?_
  refine r_istore_n (ls' := [(0, vr 7 k), (1, vi (nI 0)), (2, vi (nI 0))]) C (dx dX7_goes 3 rfl) (by decide) [1, 2, 0] rfl ?_
  refine loopU (Φ := fun p => ∀ (x1 : Int32), ∀ (h9p : Hp) (u9p : Vg), MilAt h9p k u9p → Sz v u9p → Kp k h h9p → xK h9p = xK h → Rr G 4 [(0, vr 7 k), (1, vi x1), (2, vi (nI p))] [] h9p) (N := vN v) ?_ ?_ 0 (by omega) (nI 0) h v hm (⟨by omega, by omega, by omega⟩) Kp.rf rfl
  ·
    intro  x1 h9p u9p mh9p zh9p ph9p kh9p
    obtain ⟨ah9p, bh9p, ch9p⟩ := zh9p
    refine r_iload_n C (dx dX7_goes 4 rfl) rfl ?_
    refine r_aload_n C (dx dX7_goes 5 rfl) rfl ?_
    refine g_X7_74 (x := nI (vN u9p)) C (dx dX7_goes 6 rfl) mh9p.eN ?_
    refine rn_ge (a := vN v) (b := vN u9p) (tgt := 56) C (by omega) (by omega) (dx dX7_goes 7 rfl) (by decide) (fun c1 => ?_) (fun c1 => ?_)
    · first
      | (omega; done)
      | (
          have c1 : vN u9p ≤ vN v := c1
          refine r_iconst (v := nI 0) C (dx dX7_goes 35 rfl) rfl ?_
          refine r_istore_n (ls' := [(0, vr 7 k), (1, vi x1), (2, vi (nI 0))]) C (dx dX7_goes 36 rfl) (by decide) [1, 2, 0] rfl ?_
          refine r_iconst (v := nI 0) C (dx dX7_goes 37 rfl) rfl ?_
          refine r_istore_n (ls' := [(0, vr 7 k), (1, vi x1), (2, vi (nI 0)), (3, vi (nI 0))]) C (dx dX7_goes 38 rfl) (by decide) [1, 2, 3, 0] rfl ?_
          refine loopU (Φ := fun p => ∀ (x2 : Int32), ∀ (h9p : Hp) (u9p : Vg), MilAt h9p k u9p → Sz v u9p → Kp k h h9p → xK h9p = xK h → Rr G 60 [(0, vr 7 k), (1, vi x1), (2, vi x2), (3, vi (nI p))] [] h9p) (N := vM v) ?_ ?_ 0 (by omega) (nI 0) h9p u9p mh9p (⟨by omega, by omega, by omega⟩) ph9p kh9p
          ·
            intro  x2 h9p u9p mh9p zh9p ph9p kh9p
            obtain ⟨ah9p, bh9p, ch9p⟩ := zh9p
            refine r_iload_n C (dx dX7_goes 39 rfl) rfl ?_
            refine r_aload_n C (dx dX7_goes 40 rfl) rfl ?_
            refine g_X7_71 (x := nI (vM u9p)) C (dx dX7_goes 41 rfl) mh9p.eM ?_
            refine rn_ge (a := vM v) (b := vM u9p) (tgt := 189) C (by omega) (by omega) (dx dX7_goes 42 rfl) (by decide) (fun c2 => ?_) (fun c2 => ?_)
            · first
              | (omega; done)
              | (
                  have c2 : vM u9p ≤ vM v := c2
                  refine r_aload_n C (dx dX7_goes 108 rfl) rfl ?_
                  refine r_dupR C (dx dX7_goes 109 rfl) ?_
                  refine g_X7_339 (x := xI h9p k 18) C (dx dX7_goes 110 rfl) rfl ?_
                  refine r_iconst (v := nI 1) C (dx dX7_goes 111 rfl) rfl ?_
                  refine r_iadd C (dx dX7_goes 112 rfl) ?_
                  refine p_X7_339 C (dx dX7_goes 113 rfl) rfl rfl ?_
                  obtain ⟨vh3, mh3, zh3⟩ : ∃ v9, MilAt (sI h9p k 18 ((xI h9p k 18) + (nI 1))) k v9 ∧ Sz u9p v9 := ⟨u9p, mh9p.f (by decide) (by decide) (by decide) (by decide), ⟨rfl, rfl, rfl⟩⟩
                  have ph3 : Kp k h (sI h9p k 18 ((xI h9p k 18) + (nI 1))) := ph9p.tr (Kp.f (by decide))
                  have kh3 : xK (sI h9p k 18 ((xI h9p k 18) + (nI 1))) = xK h := kh9p
                  generalize sI h9p k 18 ((xI h9p k 18) + (nI 1)) = h3 at mh3 ph3 kh3 ⊢
                  obtain ⟨ah3, bh3, ch3⟩ := zh3
                  refine r_iload_n C (dx dX7_goes 114 rfl) rfl ?_
                  exact F.1 _ _ _ _ .int rfl rfl (dx dX7_goes 115 rfl) kh3 ⟨⟨_, rfl⟩, ⟨_, mh3, ⟨by omega, by omega, by omega⟩⟩, ph3⟩)
            · first
              | (omega; done)
          ·
            intro p hp ihp x2 h9p u9p mh9p zh9p ph9p kh9p
            obtain ⟨ah9p, bh9p, ch9p⟩ := zh9p
            refine r_iload_n C (dx dX7_goes 39 rfl) rfl ?_
            refine r_aload_n C (dx dX7_goes 40 rfl) rfl ?_
            refine g_X7_71 (x := nI (vM u9p)) C (dx dX7_goes 41 rfl) mh9p.eM ?_
            refine rn_ge (a := p) (b := vM u9p) (tgt := 189) C (by omega) (by omega) (dx dX7_goes 42 rfl) (by decide) (fun c6 => ?_) (fun c6 => ?_)
            · first
              | (omega; done)
              | (
                  have c6 : vM u9p ≤ p := c6
                  refine r_aload_n C (dx dX7_goes 108 rfl) rfl ?_
                  refine r_dupR C (dx dX7_goes 109 rfl) ?_
                  refine g_X7_339 (x := xI h9p k 18) C (dx dX7_goes 110 rfl) rfl ?_
                  refine r_iconst (v := nI 1) C (dx dX7_goes 111 rfl) rfl ?_
                  refine r_iadd C (dx dX7_goes 112 rfl) ?_
                  refine p_X7_339 C (dx dX7_goes 113 rfl) rfl rfl ?_
                  obtain ⟨vh7, mh7, zh7⟩ : ∃ v9, MilAt (sI h9p k 18 ((xI h9p k 18) + (nI 1))) k v9 ∧ Sz u9p v9 := ⟨u9p, mh9p.f (by decide) (by decide) (by decide) (by decide), ⟨rfl, rfl, rfl⟩⟩
                  have ph7 : Kp k h (sI h9p k 18 ((xI h9p k 18) + (nI 1))) := ph9p.tr (Kp.f (by decide))
                  have kh7 : xK (sI h9p k 18 ((xI h9p k 18) + (nI 1))) = xK h := kh9p
                  generalize sI h9p k 18 ((xI h9p k 18) + (nI 1)) = h7 at mh7 ph7 kh7 ⊢
                  obtain ⟨ah7, bh7, ch7⟩ := zh7
                  refine r_iload_n C (dx dX7_goes 114 rfl) rfl ?_
                  exact F.1 _ _ _ _ .int rfl rfl (dx dX7_goes 115 rfl) kh7 ⟨⟨_, rfl⟩, ⟨_, mh7, ⟨by omega, by omega, by omega⟩⟩, ph7⟩)
            · first
              | (omega; done)
              | (
                  have c6 : p < vM u9p := c6
                  refine r_aload_n C (dx dX7_goes 43 rfl) rfl ?_
                  refine r_iload_n C (dx dX7_goes 44 rfl) rfl ?_
                  refine r_iload_n C (dx dX7_goes 45 rfl) rfl ?_
                  refine r_cvW (as := [vi (nI p), vi x1]) (st := []) C X I_X7_worksOf l_X7_250 (c_X7_worksOf mh9p (m := p) (by omega) _) (by decide) (Nat.le_of_ble_eq_true rfl) (pfx_eq kh9p) rfl rfl (Nat.le_of_ble_eq_true rfl) rfl (dx dX7_goes 46 rfl) ?_
                  rintro _ ⟨x8, rfl⟩
                  refine rb_eq (b := x8) (tgt := 183) C (dx dX7_goes 47 rfl) (by decide) (fun c9 => ?_) (fun c9 => ?_)
                  ·
                    have c9 : x8 = false := c9
                    refine rn_iinc (a := p) (k := 1) (ls' := [(0, vr 7 k), (1, vi x1), (2, vi x2), (3, vi (nI (p + 1)))]) C (dx dX7_goes 106 rfl) rfl rfl (by decide) [1, 2, 3, 0] rfl ?_
                    refine r_goto (tgt := 60) C (dx dX7_goes 107 rfl) (by decide) ?_
                    exact ihp x2 h9p u9p mh9p (⟨by omega, by omega, by omega⟩) ph9p kh9p
                  ·
                    have c9 : x8 = true := c9
                    refine r_iload_n C (dx dX7_goes 48 rfl) rfl ?_
                    refine r_aload_n C (dx dX7_goes 49 rfl) rfl ?_
                    refine g_X7_49 C (dx dX7_goes 50 rfl) ?_
                    refine r_iload_n C (dx dX7_goes 51 rfl) rfl ?_
                    refine r_iald (j := p) (x := vF u9p 3 p) C rfl rfl (by decide) rfl (by omega) (dx dX7_goes 52 rfl) (mh9p.e3 (by omega)) ?_
                    refine r_iadd C (dx dX7_goes 53 rfl) ?_
                    refine r_istore_n (ls' := [(0, vr 7 k), (1, vi x1), (2, vi (x2 + (vF u9p 3 p))), (3, vi (nI p))]) C (dx dX7_goes 54 rfl) (by decide) [1, 2, 0, 3] rfl ?_
                    refine r_iconst (v := nI 0) C (dx dX7_goes 55 rfl) rfl ?_
                    refine r_istore (ls' := [(0, vr 7 k), (1, vi x1), (2, vi (x2 + (vF u9p 3 p))), (3, vi (nI p)), (4, vi (nI 0))]) C (dx dX7_goes 56 rfl) (by decide) [1, 2, 3, 4, 0] rfl ?_
                    refine loopU (Φ := fun q => ∀ (h9q : Hp) (u9q : Vg), MilAt h9q k u9q → Sz v u9q → Kp k h h9q → xK h9q = xK h → Rr G 89 [(0, vr 7 k), (1, vi x1), (2, vi (x2 + (vF u9p 3 p))), (3, vi (nI p)), (4, vi (nI q))] [] h9q) (N := vN v) ?_ ?_ 0 (by omega) h9p u9p mh9p (⟨by omega, by omega, by omega⟩) ph9p kh9p
                    ·
                      intro  h9q u9q mh9q zh9q ph9q kh9q
                      obtain ⟨ah9q, bh9q, ch9q⟩ := zh9q
                      refine r_iload C (dx dX7_goes 57 rfl) rfl ?_
                      refine r_aload_n C (dx dX7_goes 58 rfl) rfl ?_
                      refine g_X7_74 (x := nI (vN u9q)) C (dx dX7_goes 59 rfl) mh9q.eN ?_
                      refine rn_ge (a := vN v) (b := vN u9q) (tgt := 183) C (by omega) (by omega) (dx dX7_goes 60 rfl) (by decide) (fun c10 => ?_) (fun c10 => ?_)
                      · first
                        | (omega; done)
                        | (
                            have c10 : vN u9q ≤ vN v := c10
                            refine rn_iinc (a := p) (k := 1) (ls' := [(0, vr 7 k), (1, vi x1), (2, vi (x2 + (vF u9p 3 p))), (3, vi (nI (p + 1))), (4, vi (nI (vN v)))]) C (dx dX7_goes 106 rfl) rfl rfl (by decide) [1, 2, 3, 0, 4] rfl ?_
                            refine r_goto (tgt := 60) C (dx dX7_goes 107 rfl) (by decide) ?_
                            refine r_weak C [0, 1, 2, 3] rfl ?_
                            exact ihp (x2 + (vF u9p 3 p)) h9q u9q mh9q (⟨by omega, by omega, by omega⟩) ph9q kh9q)
                      · first
                        | (omega; done)
                        | (
                            have c10 : vN v < vN u9q := c10
                            refine r_iconst (v := nI 0) C (dx dX7_goes 61 rfl) rfl ?_
                            refine r_istore (ls' := [(0, vr 7 k), (1, vi x1), (2, vi (x2 + (vF u9p 3 p))), (3, vi (nI p)), (4, vi (nI (vN v))), (5, vi (nI 0))]) C (dx dX7_goes 62 rfl) (by decide) [1, 2, 3, 4, 5, 0] rfl ?_
                            refine r_iconst (v := nI 0) C (dx dX7_goes 63 rfl) rfl ?_
                            refine r_istore (ls' := [(0, vr 7 k), (1, vi x1), (2, vi (x2 + (vF u9p 3 p))), (3, vi (nI p)), (4, vi (nI (vN v))), (5, vi (nI 0)), (6, vi (nI 0))]) C (dx dX7_goes 64 rfl) (by decide) [1, 2, 3, 4, 5, 6, 0] rfl ?_
                            refine loopU (Φ := fun q2 => ∀ (x5 : Int32), Rr G 104 [(0, vr 7 k), (1, vi x1), (2, vi (x2 + (vF u9p 3 p))), (3, vi (nI p)), (4, vi (nI (vN v))), (5, vi x5), (6, vi (nI q2))] [] h9q) (N := vP v) ?_ ?_ 0 (by omega) (nI 0)
                            ·
                              intro  x5
                              refine r_iload C (dx dX7_goes 65 rfl) rfl ?_
                              refine r_aload_n C (dx dX7_goes 66 rfl) rfl ?_
                              refine g_X7_64 (x := nI (vP u9q)) C (dx dX7_goes 67 rfl) mh9q.eP ?_
                              refine rn_ge (a := vP v) (b := vP u9q) (tgt := 155) C (by omega) (by omega) (dx dX7_goes 68 rfl) (by decide) (fun c11 => ?_) (fun c11 => ?_)
                              · first
                                | (omega; done)
                              · first
                                | (omega; done)
                            ·
                              intro q2 hq2 ihq2 x5
                              refine r_iload C (dx dX7_goes 65 rfl) rfl ?_
                              refine r_aload_n C (dx dX7_goes 66 rfl) rfl ?_
                              refine g_X7_64 (x := nI (vP u9q)) C (dx dX7_goes 67 rfl) mh9q.eP ?_
                              refine rn_ge (a := q2) (b := vP u9q) (tgt := 155) C (by omega) (by omega) (dx dX7_goes 68 rfl) (by decide) (fun c16 => ?_) (fun c16 => ?_)
                              · first
                                | (omega; done)
                              · first
                                | (omega; done)
                                | (
                                    have c16 : q2 < vP u9q := c16
                                    refine r_iload C (dx dX7_goes 69 rfl) rfl ?_
                                    refine r_aload_n C (dx dX7_goes 70 rfl) rfl ?_
                                    refine g_X7_46 C (dx dX7_goes 71 rfl) ?_
                                    refine r_iload_n C (dx dX7_goes 72 rfl) rfl ?_
                                    refine r_iald (j := p) (x := vF u9q 2 p) C rfl rfl (by decide) rfl (by omega) (dx dX7_goes 73 rfl) (mh9q.e2 (by omega)) ?_
                                    refine r_iload C (dx dX7_goes 74 rfl) rfl ?_
                                    refine r_csW (as := [vi (vF u9q 2 p), vi (nI q2)]) (st := [vi x5]) C X I_X7_isIn l_X7_244 (c_X7_isIn _ _) (by decide) (Nat.le_of_ble_eq_true rfl) (pfx_eq kh9q) (Nat.le_of_ble_eq_true rfl) rfl (dx dX7_goes 75 rfl) ?_
                                    rintro _ ⟨x19, rfl⟩
                                    refine rb_eq (b := x19) (tgt := 145) C (dx dX7_goes 76 rfl) (by decide) (fun c20 => ?_) (fun c20 => ?_)
                                    ·
                                      have c20 : x19 = false := c20
                                      refine r_iconst (v := nI 0) C (dx dX7_goes 85 rfl) rfl ?_
                                      refine r_ior C (dx dX7_goes 86 rfl) ?_
                                      refine r_istore (ls' := [(0, vr 7 k), (1, vi x1), (2, vi (x2 + (vF u9p 3 p))), (3, vi (nI p)), (4, vi (nI (vN v))), (5, vi (x5 ||| (nI 0))), (6, vi (nI q2))]) C (dx dX7_goes 87 rfl) (by decide) [1, 2, 3, 4, 5, 0, 6] rfl ?_
                                      refine rn_iinc (a := q2) (k := 1) (ls' := [(0, vr 7 k), (1, vi x1), (2, vi (x2 + (vF u9p 3 p))), (3, vi (nI p)), (4, vi (nI (vN v))), (5, vi (x5 ||| (nI 0))), (6, vi (nI (q2 + 1)))]) C (dx dX7_goes 88 rfl) rfl rfl (by decide) [1, 2, 3, 4, 5, 6, 0] rfl ?_
                                      refine r_goto (tgt := 104) C (dx dX7_goes 89 rfl) (by decide) ?_
                                      exact ihq2 (x5 ||| (nI 0))
                                    ·
                                      have c20 : x19 = true := c20
                                      refine r_aload_n C (dx dX7_goes 77 rfl) rfl ?_
                                      refine g_X7_40 C (dx dX7_goes 78 rfl) ?_
                                      refine r_iload C (dx dX7_goes 79 rfl) rfl ?_
                                      refine r_iald (j := q2) (x := vF u9q 0 q2) C rfl rfl (by decide) rfl (by omega) (dx dX7_goes 80 rfl) (mh9q.e0 (by omega)) ?_
                                      refine r_iload C (dx dX7_goes 81 rfl) rfl ?_
                                      refine r_icmp_ne (tgt := 145) C (dx dX7_goes 82 rfl) (by decide) (fun c21 => ?_) (fun c21 => ?_)
                                      ·
                                        have c21 : ¬ vF u9q 0 q2 = nI (vN v) := c21
                                        refine r_iconst (v := nI 0) C (dx dX7_goes 85 rfl) rfl ?_
                                        refine r_ior C (dx dX7_goes 86 rfl) ?_
                                        refine r_istore (ls' := [(0, vr 7 k), (1, vi x1), (2, vi (x2 + (vF u9p 3 p))), (3, vi (nI p)), (4, vi (nI (vN v))), (5, vi (x5 ||| (nI 0))), (6, vi (nI q2))]) C (dx dX7_goes 87 rfl) (by decide) [1, 2, 3, 4, 5, 0, 6] rfl ?_
                                        refine rn_iinc (a := q2) (k := 1) (ls' := [(0, vr 7 k), (1, vi x1), (2, vi (x2 + (vF u9p 3 p))), (3, vi (nI p)), (4, vi (nI (vN v))), (5, vi (x5 ||| (nI 0))), (6, vi (nI (q2 + 1)))]) C (dx dX7_goes 88 rfl) rfl rfl (by decide) [1, 2, 3, 4, 5, 6, 0] rfl ?_
                                        refine r_goto (tgt := 104) C (dx dX7_goes 89 rfl) (by decide) ?_
                                        exact ihq2 (x5 ||| (nI 0))
                                      ·
                                        have c21 : vF u9q 0 q2 = nI (vN v) := c21
                                        refine r_iconst (v := nI 1) C (dx dX7_goes 83 rfl) rfl ?_
                                        refine r_goto (tgt := 146) C (dx dX7_goes 84 rfl) (by decide) ?_
                                        refine r_ior C (dx dX7_goes 86 rfl) ?_
                                        refine r_istore (ls' := [(0, vr 7 k), (1, vi x1), (2, vi (x2 + (vF u9p 3 p))), (3, vi (nI p)), (4, vi (nI (vN v))), (5, vi (x5 ||| (nI 1))), (6, vi (nI q2))]) C (dx dX7_goes 87 rfl) (by decide) [1, 2, 3, 4, 5, 0, 6] rfl ?_
                                        refine rn_iinc (a := q2) (k := 1) (ls' := [(0, vr 7 k), (1, vi x1), (2, vi (x2 + (vF u9p 3 p))), (3, vi (nI p)), (4, vi (nI (vN v))), (5, vi (x5 ||| (nI 1))), (6, vi (nI (q2 + 1)))]) C (dx dX7_goes 88 rfl) rfl rfl (by decide) [1, 2, 3, 4, 5, 6, 0] rfl ?_
                                        refine r_goto (tgt := 104) C (dx dX7_goes 89 rfl) (by decide) ?_
                                        exact ihq2 (x5 ||| (nI 1))))
                    ·
                      intro q hq ihq h9q u9q mh9q zh9q ph9q kh9q
                      obtain ⟨ah9q, bh9q, ch9q⟩ := zh9q
                      refine r_iload C (dx dX7_goes 57 rfl) rfl ?_
                      refine r_aload_n C (dx dX7_goes 58 rfl) rfl ?_
                      refine g_X7_74 (x := nI (vN u9q)) C (dx dX7_goes 59 rfl) mh9q.eN ?_
                      refine rn_ge (a := q) (b := vN u9q) (tgt := 183) C (by omega) (by omega) (dx dX7_goes 60 rfl) (by decide) (fun c22 => ?_) (fun c22 => ?_)
                      · first
                        | (omega; done)
                        | (
                            have c22 : vN u9q ≤ q := c22
                            refine rn_iinc (a := p) (k := 1) (ls' := [(0, vr 7 k), (1, vi x1), (2, vi (x2 + (vF u9p 3 p))), (3, vi (nI (p + 1))), (4, vi (nI q))]) C (dx dX7_goes 106 rfl) rfl rfl (by decide) [1, 2, 3, 0, 4] rfl ?_
                            refine r_goto (tgt := 60) C (dx dX7_goes 107 rfl) (by decide) ?_
                            refine r_weak C [0, 1, 2, 3] rfl ?_
                            exact ihp (x2 + (vF u9p 3 p)) h9q u9q mh9q (⟨by omega, by omega, by omega⟩) ph9q kh9q)
                      · first
                        | (omega; done)
                        | (
                            have c22 : q < vN u9q := c22
                            refine r_iconst (v := nI 0) C (dx dX7_goes 61 rfl) rfl ?_
                            refine r_istore (ls' := [(0, vr 7 k), (1, vi x1), (2, vi (x2 + (vF u9p 3 p))), (3, vi (nI p)), (4, vi (nI q)), (5, vi (nI 0))]) C (dx dX7_goes 62 rfl) (by decide) [1, 2, 3, 4, 5, 0] rfl ?_
                            refine r_iconst (v := nI 0) C (dx dX7_goes 63 rfl) rfl ?_
                            refine r_istore (ls' := [(0, vr 7 k), (1, vi x1), (2, vi (x2 + (vF u9p 3 p))), (3, vi (nI p)), (4, vi (nI q)), (5, vi (nI 0)), (6, vi (nI 0))]) C (dx dX7_goes 64 rfl) (by decide) [1, 2, 3, 4, 5, 6, 0] rfl ?_
                            refine loopU (Φ := fun q2 => ∀ (x5 : Int32), Rr G 104 [(0, vr 7 k), (1, vi x1), (2, vi (x2 + (vF u9p 3 p))), (3, vi (nI p)), (4, vi (nI q)), (5, vi x5), (6, vi (nI q2))] [] h9q) (N := vP v) ?_ ?_ 0 (by omega) (nI 0)
                            ·
                              intro  x5
                              refine r_iload C (dx dX7_goes 65 rfl) rfl ?_
                              refine r_aload_n C (dx dX7_goes 66 rfl) rfl ?_
                              refine g_X7_64 (x := nI (vP u9q)) C (dx dX7_goes 67 rfl) mh9q.eP ?_
                              refine rn_ge (a := vP v) (b := vP u9q) (tgt := 155) C (by omega) (by omega) (dx dX7_goes 68 rfl) (by decide) (fun c23 => ?_) (fun c23 => ?_)
                              · first
                                | (omega; done)
                                | (
                                    have c23 : vP u9q ≤ vP v := c23
                                    refine r_aload_n C (dx dX7_goes 90 rfl) rfl ?_
                                    refine g_X7_54 C (dx dX7_goes 91 rfl) ?_
                                    refine r_iload C (dx dX7_goes 92 rfl) rfl ?_
                                    refine r_aald4 (j := q) C rfl rfl (by decide) rfl (by omega) (dx dX7_goes 93 rfl) ?_
                                    refine r_iconst (v := nI 3) C (dx dX7_goes 94 rfl) rfl ?_
                                    refine r_dup2 C (dx dX7_goes 95 rfl) ?_
                                    refine r_iald (j := 3) (x := vF u9q 7 q) C rfl rfl (by decide) rfl (by omega) (dx dX7_goes 96 rfl) (mh9q.eo (by omega) (by omega)) ?_
                                    refine r_iload C (dx dX7_goes 97 rfl) rfl ?_
                                    refine r_if_eq (tgt := 174) C (dx dX7_goes 98 rfl) (by decide) (fun c24 => ?_) (fun c24 => ?_)
                                    ·
                                      have c24 : x5 = 0 := c24
                                      refine r_iconst (v := nI 0) C (dx dX7_goes 101 rfl) rfl ?_
                                      refine r_iadd C (dx dX7_goes 102 rfl) ?_
                                      refine r_iast (j := 3) C rfl rfl (by decide) rfl (by omega) (dx dX7_goes 103 rfl) ?_
                                      obtain ⟨vh25, mh25, zh25⟩ : ∃ v9, MilAt (sI h9q (k + 23 + q) 3 ((vF u9q 7 q) + (nI 0))) k v9 ∧ Sz u9q v9 := ⟨vset u9q (4 + 3) q ((vF u9q 7 q) + (nI 0)), mh9q.so (by omega) (by omega), ⟨rfl, rfl, rfl⟩⟩
                                      have ph25 : Kp k h (sI h9q (k + 23 + q) 3 ((vF u9q 7 q) + (nI 0))) := ph9q.tr (Kp.c (by omega) (by omega))
                                      have kh25 : xK (sI h9q (k + 23 + q) 3 ((vF u9q 7 q) + (nI 0))) = xK h := kh9q
                                      generalize sI h9q (k + 23 + q) 3 ((vF u9q 7 q) + (nI 0)) = h25 at mh25 ph25 kh25 ⊢
                                      obtain ⟨ah25, bh25, ch25⟩ := zh25
                                      refine rn_iinc (a := q) (k := 1) (ls' := [(0, vr 7 k), (1, vi x1), (2, vi (x2 + (vF u9p 3 p))), (3, vi (nI p)), (4, vi (nI (q + 1))), (5, vi x5), (6, vi (nI (vP v)))]) C (dx dX7_goes 104 rfl) rfl rfl (by decide) [1, 2, 3, 4, 0, 5, 6] rfl ?_
                                      refine r_goto (tgt := 89) C (dx dX7_goes 105 rfl) (by decide) ?_
                                      refine r_weak C [0, 1, 2, 3, 4] rfl ?_
                                      exact ihq h25 vh25 mh25 (⟨by omega, by omega, by omega⟩) ph25 kh25
                                    ·
                                      have c24 : ¬ x5 = 0 := c24
                                      refine r_iconst (v := nI 1) C (dx dX7_goes 99 rfl) rfl ?_
                                      refine r_goto (tgt := 175) C (dx dX7_goes 100 rfl) (by decide) ?_
                                      refine r_iadd C (dx dX7_goes 102 rfl) ?_
                                      refine r_iast (j := 3) C rfl rfl (by decide) rfl (by omega) (dx dX7_goes 103 rfl) ?_
                                      obtain ⟨vh26, mh26, zh26⟩ : ∃ v9, MilAt (sI h9q (k + 23 + q) 3 ((vF u9q 7 q) + (nI 1))) k v9 ∧ Sz u9q v9 := ⟨vset u9q (4 + 3) q ((vF u9q 7 q) + (nI 1)), mh9q.so (by omega) (by omega), ⟨rfl, rfl, rfl⟩⟩
                                      have ph26 : Kp k h (sI h9q (k + 23 + q) 3 ((vF u9q 7 q) + (nI 1))) := ph9q.tr (Kp.c (by omega) (by omega))
                                      have kh26 : xK (sI h9q (k + 23 + q) 3 ((vF u9q 7 q) + (nI 1))) = xK h := kh9q
                                      generalize sI h9q (k + 23 + q) 3 ((vF u9q 7 q) + (nI 1)) = h26 at mh26 ph26 kh26 ⊢
                                      obtain ⟨ah26, bh26, ch26⟩ := zh26
                                      refine rn_iinc (a := q) (k := 1) (ls' := [(0, vr 7 k), (1, vi x1), (2, vi (x2 + (vF u9p 3 p))), (3, vi (nI p)), (4, vi (nI (q + 1))), (5, vi x5), (6, vi (nI (vP v)))]) C (dx dX7_goes 104 rfl) rfl rfl (by decide) [1, 2, 3, 4, 0, 5, 6] rfl ?_
                                      refine r_goto (tgt := 89) C (dx dX7_goes 105 rfl) (by decide) ?_
                                      refine r_weak C [0, 1, 2, 3, 4] rfl ?_
                                      exact ihq h26 vh26 mh26 (⟨by omega, by omega, by omega⟩) ph26 kh26)
                              · first
                                | (omega; done)
                            ·
                              intro q2 hq2 ihq2 x5
                              refine r_iload C (dx dX7_goes 65 rfl) rfl ?_
                              refine r_aload_n C (dx dX7_goes 66 rfl) rfl ?_
                              refine g_X7_64 (x := nI (vP u9q)) C (dx dX7_goes 67 rfl) mh9q.eP ?_
                              refine rn_ge (a := q2) (b := vP u9q) (tgt := 155) C (by omega) (by omega) (dx dX7_goes 68 rfl) (by decide) (fun c29 => ?_) (fun c29 => ?_)
                              · first
                                | (omega; done)
                                | (
                                    have c29 : vP u9q ≤ q2 := c29
                                    refine r_aload_n C (dx dX7_goes 90 rfl) rfl ?_
                                    refine g_X7_54 C (dx dX7_goes 91 rfl) ?_
                                    refine r_iload C (dx dX7_goes 92 rfl) rfl ?_
                                    refine r_aald4 (j := q) C rfl rfl (by decide) rfl (by omega) (dx dX7_goes 93 rfl) ?_
                                    refine r_iconst (v := nI 3) C (dx dX7_goes 94 rfl) rfl ?_
                                    refine r_dup2 C (dx dX7_goes 95 rfl) ?_
                                    refine r_iald (j := 3) (x := vF u9q 7 q) C rfl rfl (by decide) rfl (by omega) (dx dX7_goes 96 rfl) (mh9q.eo (by omega) (by omega)) ?_
                                    refine r_iload C (dx dX7_goes 97 rfl) rfl ?_
                                    refine r_if_eq (tgt := 174) C (dx dX7_goes 98 rfl) (by decide) (fun c30 => ?_) (fun c30 => ?_)
                                    ·
                                      have c30 : x5 = 0 := c30
                                      refine r_iconst (v := nI 0) C (dx dX7_goes 101 rfl) rfl ?_
                                      refine r_iadd C (dx dX7_goes 102 rfl) ?_
                                      refine r_iast (j := 3) C rfl rfl (by decide) rfl (by omega) (dx dX7_goes 103 rfl) ?_
                                      obtain ⟨vh31, mh31, zh31⟩ : ∃ v9, MilAt (sI h9q (k + 23 + q) 3 ((vF u9q 7 q) + (nI 0))) k v9 ∧ Sz u9q v9 := ⟨vset u9q (4 + 3) q ((vF u9q 7 q) + (nI 0)), mh9q.so (by omega) (by omega), ⟨rfl, rfl, rfl⟩⟩
                                      have ph31 : Kp k h (sI h9q (k + 23 + q) 3 ((vF u9q 7 q) + (nI 0))) := ph9q.tr (Kp.c (by omega) (by omega))
                                      have kh31 : xK (sI h9q (k + 23 + q) 3 ((vF u9q 7 q) + (nI 0))) = xK h := kh9q
                                      generalize sI h9q (k + 23 + q) 3 ((vF u9q 7 q) + (nI 0)) = h31 at mh31 ph31 kh31 ⊢
                                      obtain ⟨ah31, bh31, ch31⟩ := zh31
                                      refine rn_iinc (a := q) (k := 1) (ls' := [(0, vr 7 k), (1, vi x1), (2, vi (x2 + (vF u9p 3 p))), (3, vi (nI p)), (4, vi (nI (q + 1))), (5, vi x5), (6, vi (nI q2))]) C (dx dX7_goes 104 rfl) rfl rfl (by decide) [1, 2, 3, 4, 0, 5, 6] rfl ?_
                                      refine r_goto (tgt := 89) C (dx dX7_goes 105 rfl) (by decide) ?_
                                      refine r_weak C [0, 1, 2, 3, 4] rfl ?_
                                      exact ihq h31 vh31 mh31 (⟨by omega, by omega, by omega⟩) ph31 kh31
                                    ·
                                      have c30 : ¬ x5 = 0 := c30
                                      refine r_iconst (v := nI 1) C (dx dX7_goes 99 rfl) rfl ?_
                                      refine r_goto (tgt := 175) C (dx dX7_goes 100 rfl) (by decide) ?_
                                      refine r_iadd C (dx dX7_goes 102 rfl) ?_
                                      refine r_iast (j := 3) C rfl rfl (by decide) rfl (by omega) (dx dX7_goes 103 rfl) ?_
                                      obtain ⟨vh32, mh32, zh32⟩ : ∃ v9, MilAt (sI h9q (k + 23 + q) 3 ((vF u9q 7 q) + (nI 1))) k v9 ∧ Sz u9q v9 := ⟨vset u9q (4 + 3) q ((vF u9q 7 q) + (nI 1)), mh9q.so (by omega) (by omega), ⟨rfl, rfl, rfl⟩⟩
                                      have ph32 : Kp k h (sI h9q (k + 23 + q) 3 ((vF u9q 7 q) + (nI 1))) := ph9q.tr (Kp.c (by omega) (by omega))
                                      have kh32 : xK (sI h9q (k + 23 + q) 3 ((vF u9q 7 q) + (nI 1))) = xK h := kh9q
                                      generalize sI h9q (k + 23 + q) 3 ((vF u9q 7 q) + (nI 1)) = h32 at mh32 ph32 kh32 ⊢
                                      obtain ⟨ah32, bh32, ch32⟩ := zh32
                                      refine rn_iinc (a := q) (k := 1) (ls' := [(0, vr 7 k), (1, vi x1), (2, vi (x2 + (vF u9p 3 p))), (3, vi (nI p)), (4, vi (nI (q + 1))), (5, vi x5), (6, vi (nI q2))]) C (dx dX7_goes 104 rfl) rfl rfl (by decide) [1, 2, 3, 4, 0, 5, 6] rfl ?_
                                      refine r_goto (tgt := 89) C (dx dX7_goes 105 rfl) (by decide) ?_
                                      refine r_weak C [0, 1, 2, 3, 4] rfl ?_
                                      exact ihq h32 vh32 mh32 (⟨by omega, by omega, by omega⟩) ph32 kh32)
                              · first
                                | (omega; done)
                                | (
                                    have c29 : q2 < vP u9q := c29
                                    refine r_iload C (dx dX7_goes 69 rfl) rfl ?_
                                    refine r_aload_n C (dx dX7_goes 70 rfl) rfl ?_
                                    refine g_X7_46 C (dx dX7_goes 71 rfl) ?_
                                    refine r_iload_n C (dx dX7_goes 72 rfl) rfl ?_
                                    refine r_iald (j := p) (x := vF u9q 2 p) C rfl rfl (by decide) rfl (by omega) (dx dX7_goes 73 rfl) (mh9q.e2 (by omega)) ?_
                                    refine r_iload C (dx dX7_goes 74 rfl) rfl ?_
                                    refine r_csW (as := [vi (vF u9q 2 p), vi (nI q2)]) (st := [vi x5]) C X I_X7_isIn l_X7_244 (c_X7_isIn _ _) (by decide) (Nat.le_of_ble_eq_true rfl) (pfx_eq kh9q) (Nat.le_of_ble_eq_true rfl) rfl (dx dX7_goes 75 rfl) ?_
                                    rintro _ ⟨x33, rfl⟩
                                    refine rb_eq (b := x33) (tgt := 145) C (dx dX7_goes 76 rfl) (by decide) (fun c34 => ?_) (fun c34 => ?_)
                                    ·
                                      have c34 : x33 = false := c34
                                      refine r_iconst (v := nI 0) C (dx dX7_goes 85 rfl) rfl ?_
                                      refine r_ior C (dx dX7_goes 86 rfl) ?_
                                      refine r_istore (ls' := [(0, vr 7 k), (1, vi x1), (2, vi (x2 + (vF u9p 3 p))), (3, vi (nI p)), (4, vi (nI q)), (5, vi (x5 ||| (nI 0))), (6, vi (nI q2))]) C (dx dX7_goes 87 rfl) (by decide) [1, 2, 3, 4, 5, 0, 6] rfl ?_
                                      refine rn_iinc (a := q2) (k := 1) (ls' := [(0, vr 7 k), (1, vi x1), (2, vi (x2 + (vF u9p 3 p))), (3, vi (nI p)), (4, vi (nI q)), (5, vi (x5 ||| (nI 0))), (6, vi (nI (q2 + 1)))]) C (dx dX7_goes 88 rfl) rfl rfl (by decide) [1, 2, 3, 4, 5, 6, 0] rfl ?_
                                      refine r_goto (tgt := 104) C (dx dX7_goes 89 rfl) (by decide) ?_
                                      exact ihq2 (x5 ||| (nI 0))
                                    ·
                                      have c34 : x33 = true := c34
                                      refine r_aload_n C (dx dX7_goes 77 rfl) rfl ?_
                                      refine g_X7_40 C (dx dX7_goes 78 rfl) ?_
                                      refine r_iload C (dx dX7_goes 79 rfl) rfl ?_
                                      refine r_iald (j := q2) (x := vF u9q 0 q2) C rfl rfl (by decide) rfl (by omega) (dx dX7_goes 80 rfl) (mh9q.e0 (by omega)) ?_
                                      refine r_iload C (dx dX7_goes 81 rfl) rfl ?_
                                      refine r_icmp_ne (tgt := 145) C (dx dX7_goes 82 rfl) (by decide) (fun c35 => ?_) (fun c35 => ?_)
                                      ·
                                        have c35 : ¬ vF u9q 0 q2 = nI q := c35
                                        refine r_iconst (v := nI 0) C (dx dX7_goes 85 rfl) rfl ?_
                                        refine r_ior C (dx dX7_goes 86 rfl) ?_
                                        refine r_istore (ls' := [(0, vr 7 k), (1, vi x1), (2, vi (x2 + (vF u9p 3 p))), (3, vi (nI p)), (4, vi (nI q)), (5, vi (x5 ||| (nI 0))), (6, vi (nI q2))]) C (dx dX7_goes 87 rfl) (by decide) [1, 2, 3, 4, 5, 0, 6] rfl ?_
                                        refine rn_iinc (a := q2) (k := 1) (ls' := [(0, vr 7 k), (1, vi x1), (2, vi (x2 + (vF u9p 3 p))), (3, vi (nI p)), (4, vi (nI q)), (5, vi (x5 ||| (nI 0))), (6, vi (nI (q2 + 1)))]) C (dx dX7_goes 88 rfl) rfl rfl (by decide) [1, 2, 3, 4, 5, 6, 0] rfl ?_
                                        refine r_goto (tgt := 104) C (dx dX7_goes 89 rfl) (by decide) ?_
                                        exact ihq2 (x5 ||| (nI 0))
                                      ·
                                        have c35 : vF u9q 0 q2 = nI q := c35
                                        refine r_iconst (v := nI 1) C (dx dX7_goes 83 rfl) rfl ?_
                                        refine r_goto (tgt := 146) C (dx dX7_goes 84 rfl) (by decide) ?_
                                        refine r_ior C (dx dX7_goes 86 rfl) ?_
                                        refine r_istore (ls' := [(0, vr 7 k), (1, vi x1), (2, vi (x2 + (vF u9p 3 p))), (3, vi (nI p)), (4, vi (nI q)), (5, vi (x5 ||| (nI 1))), (6, vi (nI q2))]) C (dx dX7_goes 87 rfl) (by decide) [1, 2, 3, 4, 5, 0, 6] rfl ?_
                                        refine rn_iinc (a := q2) (k := 1) (ls' := [(0, vr 7 k), (1, vi x1), (2, vi (x2 + (vF u9p 3 p))), (3, vi (nI p)), (4, vi (nI q)), (5, vi (x5 ||| (nI 1))), (6, vi (nI (q2 + 1)))]) C (dx dX7_goes 88 rfl) rfl rfl (by decide) [1, 2, 3, 4, 5, 6, 0] rfl ?_
                                        refine r_goto (tgt := 104) C (dx dX7_goes 89 rfl) (by decide) ?_
                                        exact ihq2 (x5 ||| (nI 1))))))
    · first
      | (omega; done)
  ·
    intro p hp ihp x1 h9p u9p mh9p zh9p ph9p kh9p
    obtain ⟨ah9p, bh9p, ch9p⟩ := zh9p
    refine r_iload_n C (dx dX7_goes 4 rfl) rfl ?_
    refine r_aload_n C (dx dX7_goes 5 rfl) rfl ?_
    refine g_X7_74 (x := nI (vN u9p)) C (dx dX7_goes 6 rfl) mh9p.eN ?_
    refine rn_ge (a := p) (b := vN u9p) (tgt := 56) C (by omega) (by omega) (dx dX7_goes 7 rfl) (by decide) (fun c37 => ?_) (fun c37 => ?_)
    · first
      | (omega; done)
      | (
          have c37 : vN u9p ≤ p := c37
          refine r_iconst (v := nI 0) C (dx dX7_goes 35 rfl) rfl ?_
          refine r_istore_n (ls' := [(0, vr 7 k), (1, vi x1), (2, vi (nI 0))]) C (dx dX7_goes 36 rfl) (by decide) [1, 2, 0] rfl ?_
          refine r_iconst (v := nI 0) C (dx dX7_goes 37 rfl) rfl ?_
          refine r_istore_n (ls' := [(0, vr 7 k), (1, vi x1), (2, vi (nI 0)), (3, vi (nI 0))]) C (dx dX7_goes 38 rfl) (by decide) [1, 2, 3, 0] rfl ?_
          refine loopU (Φ := fun p => ∀ (x2 : Int32), ∀ (h9p : Hp) (u9p : Vg), MilAt h9p k u9p → Sz v u9p → Kp k h h9p → xK h9p = xK h → Rr G 60 [(0, vr 7 k), (1, vi x1), (2, vi x2), (3, vi (nI p))] [] h9p) (N := vM v) ?_ ?_ 0 (by omega) (nI 0) h9p u9p mh9p (⟨by omega, by omega, by omega⟩) ph9p kh9p
          ·
            intro  x2 h9p u9p mh9p zh9p ph9p kh9p
            obtain ⟨ah9p, bh9p, ch9p⟩ := zh9p
            refine r_iload_n C (dx dX7_goes 39 rfl) rfl ?_
            refine r_aload_n C (dx dX7_goes 40 rfl) rfl ?_
            refine g_X7_71 (x := nI (vM u9p)) C (dx dX7_goes 41 rfl) mh9p.eM ?_
            refine rn_ge (a := vM v) (b := vM u9p) (tgt := 189) C (by omega) (by omega) (dx dX7_goes 42 rfl) (by decide) (fun c38 => ?_) (fun c38 => ?_)
            · first
              | (omega; done)
              | (
                  have c38 : vM u9p ≤ vM v := c38
                  refine r_aload_n C (dx dX7_goes 108 rfl) rfl ?_
                  refine r_dupR C (dx dX7_goes 109 rfl) ?_
                  refine g_X7_339 (x := xI h9p k 18) C (dx dX7_goes 110 rfl) rfl ?_
                  refine r_iconst (v := nI 1) C (dx dX7_goes 111 rfl) rfl ?_
                  refine r_iadd C (dx dX7_goes 112 rfl) ?_
                  refine p_X7_339 C (dx dX7_goes 113 rfl) rfl rfl ?_
                  obtain ⟨vh39, mh39, zh39⟩ : ∃ v9, MilAt (sI h9p k 18 ((xI h9p k 18) + (nI 1))) k v9 ∧ Sz u9p v9 := ⟨u9p, mh9p.f (by decide) (by decide) (by decide) (by decide), ⟨rfl, rfl, rfl⟩⟩
                  have ph39 : Kp k h (sI h9p k 18 ((xI h9p k 18) + (nI 1))) := ph9p.tr (Kp.f (by decide))
                  have kh39 : xK (sI h9p k 18 ((xI h9p k 18) + (nI 1))) = xK h := kh9p
                  generalize sI h9p k 18 ((xI h9p k 18) + (nI 1)) = h39 at mh39 ph39 kh39 ⊢
                  obtain ⟨ah39, bh39, ch39⟩ := zh39
                  refine r_iload_n C (dx dX7_goes 114 rfl) rfl ?_
                  exact F.1 _ _ _ _ .int rfl rfl (dx dX7_goes 115 rfl) kh39 ⟨⟨_, rfl⟩, ⟨_, mh39, ⟨by omega, by omega, by omega⟩⟩, ph39⟩)
            · first
              | (omega; done)
          ·
            intro p hp ihp x2 h9p u9p mh9p zh9p ph9p kh9p
            obtain ⟨ah9p, bh9p, ch9p⟩ := zh9p
            refine r_iload_n C (dx dX7_goes 39 rfl) rfl ?_
            refine r_aload_n C (dx dX7_goes 40 rfl) rfl ?_
            refine g_X7_71 (x := nI (vM u9p)) C (dx dX7_goes 41 rfl) mh9p.eM ?_
            refine rn_ge (a := p) (b := vM u9p) (tgt := 189) C (by omega) (by omega) (dx dX7_goes 42 rfl) (by decide) (fun c42 => ?_) (fun c42 => ?_)
            · first
              | (omega; done)
              | (
                  have c42 : vM u9p ≤ p := c42
                  refine r_aload_n C (dx dX7_goes 108 rfl) rfl ?_
                  refine r_dupR C (dx dX7_goes 109 rfl) ?_
                  refine g_X7_339 (x := xI h9p k 18) C (dx dX7_goes 110 rfl) rfl ?_
                  refine r_iconst (v := nI 1) C (dx dX7_goes 111 rfl) rfl ?_
                  refine r_iadd C (dx dX7_goes 112 rfl) ?_
                  refine p_X7_339 C (dx dX7_goes 113 rfl) rfl rfl ?_
                  obtain ⟨vh43, mh43, zh43⟩ : ∃ v9, MilAt (sI h9p k 18 ((xI h9p k 18) + (nI 1))) k v9 ∧ Sz u9p v9 := ⟨u9p, mh9p.f (by decide) (by decide) (by decide) (by decide), ⟨rfl, rfl, rfl⟩⟩
                  have ph43 : Kp k h (sI h9p k 18 ((xI h9p k 18) + (nI 1))) := ph9p.tr (Kp.f (by decide))
                  have kh43 : xK (sI h9p k 18 ((xI h9p k 18) + (nI 1))) = xK h := kh9p
                  generalize sI h9p k 18 ((xI h9p k 18) + (nI 1)) = h43 at mh43 ph43 kh43 ⊢
                  obtain ⟨ah43, bh43, ch43⟩ := zh43
                  refine r_iload_n C (dx dX7_goes 114 rfl) rfl ?_
                  exact F.1 _ _ _ _ .int rfl rfl (dx dX7_goes 115 rfl) kh43 ⟨⟨_, rfl⟩, ⟨_, mh43, ⟨by omega, by omega, by omega⟩⟩, ph43⟩)
            · first
              | (omega; done)
              | (
                  have c42 : p < vM u9p := c42
                  refine r_aload_n C (dx dX7_goes 43 rfl) rfl ?_
                  refine r_iload_n C (dx dX7_goes 44 rfl) rfl ?_
                  refine r_iload_n C (dx dX7_goes 45 rfl) rfl ?_
                  refine r_cvW (as := [vi (nI p), vi x1]) (st := []) C X I_X7_worksOf l_X7_250 (c_X7_worksOf mh9p (m := p) (by omega) _) (by decide) (Nat.le_of_ble_eq_true rfl) (pfx_eq kh9p) rfl rfl (Nat.le_of_ble_eq_true rfl) rfl (dx dX7_goes 46 rfl) ?_
                  rintro _ ⟨x44, rfl⟩
                  refine rb_eq (b := x44) (tgt := 183) C (dx dX7_goes 47 rfl) (by decide) (fun c45 => ?_) (fun c45 => ?_)
                  ·
                    have c45 : x44 = false := c45
                    refine rn_iinc (a := p) (k := 1) (ls' := [(0, vr 7 k), (1, vi x1), (2, vi x2), (3, vi (nI (p + 1)))]) C (dx dX7_goes 106 rfl) rfl rfl (by decide) [1, 2, 3, 0] rfl ?_
                    refine r_goto (tgt := 60) C (dx dX7_goes 107 rfl) (by decide) ?_
                    exact ihp x2 h9p u9p mh9p (⟨by omega, by omega, by omega⟩) ph9p kh9p
                  ·
                    have c45 : x44 = true := c45
                    refine r_iload_n C (dx dX7_goes 48 rfl) rfl ?_
                    refine r_aload_n C (dx dX7_goes 49 rfl) rfl ?_
                    refine g_X7_49 C (dx dX7_goes 50 rfl) ?_
                    refine r_iload_n C (dx dX7_goes 51 rfl) rfl ?_
                    refine r_iald (j := p) (x := vF u9p 3 p) C rfl rfl (by decide) rfl (by omega) (dx dX7_goes 52 rfl) (mh9p.e3 (by omega)) ?_
                    refine r_iadd C (dx dX7_goes 53 rfl) ?_
                    refine r_istore_n (ls' := [(0, vr 7 k), (1, vi x1), (2, vi (x2 + (vF u9p 3 p))), (3, vi (nI p))]) C (dx dX7_goes 54 rfl) (by decide) [1, 2, 0, 3] rfl ?_
                    refine r_iconst (v := nI 0) C (dx dX7_goes 55 rfl) rfl ?_
                    refine r_istore (ls' := [(0, vr 7 k), (1, vi x1), (2, vi (x2 + (vF u9p 3 p))), (3, vi (nI p)), (4, vi (nI 0))]) C (dx dX7_goes 56 rfl) (by decide) [1, 2, 3, 4, 0] rfl ?_
                    refine loopU (Φ := fun q => ∀ (h9q : Hp) (u9q : Vg), MilAt h9q k u9q → Sz v u9q → Kp k h h9q → xK h9q = xK h → Rr G 89 [(0, vr 7 k), (1, vi x1), (2, vi (x2 + (vF u9p 3 p))), (3, vi (nI p)), (4, vi (nI q))] [] h9q) (N := vN v) ?_ ?_ 0 (by omega) h9p u9p mh9p (⟨by omega, by omega, by omega⟩) ph9p kh9p
                    ·
                      intro  h9q u9q mh9q zh9q ph9q kh9q
                      obtain ⟨ah9q, bh9q, ch9q⟩ := zh9q
                      refine r_iload C (dx dX7_goes 57 rfl) rfl ?_
                      refine r_aload_n C (dx dX7_goes 58 rfl) rfl ?_
                      refine g_X7_74 (x := nI (vN u9q)) C (dx dX7_goes 59 rfl) mh9q.eN ?_
                      refine rn_ge (a := vN v) (b := vN u9q) (tgt := 183) C (by omega) (by omega) (dx dX7_goes 60 rfl) (by decide) (fun c46 => ?_) (fun c46 => ?_)
                      · first
                        | (omega; done)
                        | (
                            have c46 : vN u9q ≤ vN v := c46
                            refine rn_iinc (a := p) (k := 1) (ls' := [(0, vr 7 k), (1, vi x1), (2, vi (x2 + (vF u9p 3 p))), (3, vi (nI (p + 1))), (4, vi (nI (vN v)))]) C (dx dX7_goes 106 rfl) rfl rfl (by decide) [1, 2, 3, 0, 4] rfl ?_
                            refine r_goto (tgt := 60) C (dx dX7_goes 107 rfl) (by decide) ?_
                            refine r_weak C [0, 1, 2, 3] rfl ?_
                            exact ihp (x2 + (vF u9p 3 p)) h9q u9q mh9q (⟨by omega, by omega, by omega⟩) ph9q kh9q)
                      · first
                        | (omega; done)
                        | (
                            have c46 : vN v < vN u9q := c46
                            refine r_iconst (v := nI 0) C (dx dX7_goes 61 rfl) rfl ?_
                            refine r_istore (ls' := [(0, vr 7 k), (1, vi x1), (2, vi (x2 + (vF u9p 3 p))), (3, vi (nI p)), (4, vi (nI (vN v))), (5, vi (nI 0))]) C (dx dX7_goes 62 rfl) (by decide) [1, 2, 3, 4, 5, 0] rfl ?_
                            refine r_iconst (v := nI 0) C (dx dX7_goes 63 rfl) rfl ?_
                            refine r_istore (ls' := [(0, vr 7 k), (1, vi x1), (2, vi (x2 + (vF u9p 3 p))), (3, vi (nI p)), (4, vi (nI (vN v))), (5, vi (nI 0)), (6, vi (nI 0))]) C (dx dX7_goes 64 rfl) (by decide) [1, 2, 3, 4, 5, 6, 0] rfl ?_
                            refine loopU (Φ := fun q2 => ∀ (x5 : Int32), Rr G 104 [(0, vr 7 k), (1, vi x1), (2, vi (x2 + (vF u9p 3 p))), (3, vi (nI p)), (4, vi (nI (vN v))), (5, vi x5), (6, vi (nI q2))] [] h9q) (N := vP v) ?_ ?_ 0 (by omega) (nI 0)
                            ·
                              intro  x5
                              refine r_iload C (dx dX7_goes 65 rfl) rfl ?_
                              refine r_aload_n C (dx dX7_goes 66 rfl) rfl ?_
                              refine g_X7_64 (x := nI (vP u9q)) C (dx dX7_goes 67 rfl) mh9q.eP ?_
                              refine rn_ge (a := vP v) (b := vP u9q) (tgt := 155) C (by omega) (by omega) (dx dX7_goes 68 rfl) (by decide) (fun c47 => ?_) (fun c47 => ?_)
                              · first
                                | (omega; done)
                              · first
                                | (omega; done)
                            ·
                              intro q2 hq2 ihq2 x5
                              refine r_iload C (dx dX7_goes 65 rfl) rfl ?_
                              refine r_aload_n C (dx dX7_goes 66 rfl) rfl ?_
                              refine g_X7_64 (x := nI (vP u9q)) C (dx dX7_goes 67 rfl) mh9q.eP ?_
                              refine rn_ge (a := q2) (b := vP u9q) (tgt := 155) C (by omega) (by omega) (dx dX7_goes 68 rfl) (by decide) (fun c52 => ?_) (fun c52 => ?_)
                              · first
                                | (omega; done)
                              · first
                                | (omega; done)
                                | (
                                    have c52 : q2 < vP u9q := c52
                                    refine r_iload C (dx dX7_goes 69 rfl) rfl ?_
                                    refine r_aload_n C (dx dX7_goes 70 rfl) rfl ?_
                                    refine g_X7_46 C (dx dX7_goes 71 rfl) ?_
                                    refine r_iload_n C (dx dX7_goes 72 rfl) rfl ?_
                                    refine r_iald (j := p) (x := vF u9q 2 p) C rfl rfl (by decide) rfl (by omega) (dx dX7_goes 73 rfl) (mh9q.e2 (by omega)) ?_
                                    refine r_iload C (dx dX7_goes 74 rfl) rfl ?_
                                    refine r_csW (as := [vi (vF u9q 2 p), vi (nI q2)]) (st := [vi x5]) C X I_X7_isIn l_X7_244 (c_X7_isIn _ _) (by decide) (Nat.le_of_ble_eq_true rfl) (pfx_eq kh9q) (Nat.le_of_ble_eq_true rfl) rfl (dx dX7_goes 75 rfl) ?_
                                    rintro _ ⟨x55, rfl⟩
                                    refine rb_eq (b := x55) (tgt := 145) C (dx dX7_goes 76 rfl) (by decide) (fun c56 => ?_) (fun c56 => ?_)
                                    ·
                                      have c56 : x55 = false := c56
                                      refine r_iconst (v := nI 0) C (dx dX7_goes 85 rfl) rfl ?_
                                      refine r_ior C (dx dX7_goes 86 rfl) ?_
                                      refine r_istore (ls' := [(0, vr 7 k), (1, vi x1), (2, vi (x2 + (vF u9p 3 p))), (3, vi (nI p)), (4, vi (nI (vN v))), (5, vi (x5 ||| (nI 0))), (6, vi (nI q2))]) C (dx dX7_goes 87 rfl) (by decide) [1, 2, 3, 4, 5, 0, 6] rfl ?_
                                      refine rn_iinc (a := q2) (k := 1) (ls' := [(0, vr 7 k), (1, vi x1), (2, vi (x2 + (vF u9p 3 p))), (3, vi (nI p)), (4, vi (nI (vN v))), (5, vi (x5 ||| (nI 0))), (6, vi (nI (q2 + 1)))]) C (dx dX7_goes 88 rfl) rfl rfl (by decide) [1, 2, 3, 4, 5, 6, 0] rfl ?_
                                      refine r_goto (tgt := 104) C (dx dX7_goes 89 rfl) (by decide) ?_
                                      exact ihq2 (x5 ||| (nI 0))
                                    ·
                                      have c56 : x55 = true := c56
                                      refine r_aload_n C (dx dX7_goes 77 rfl) rfl ?_
                                      refine g_X7_40 C (dx dX7_goes 78 rfl) ?_
                                      refine r_iload C (dx dX7_goes 79 rfl) rfl ?_
                                      refine r_iald (j := q2) (x := vF u9q 0 q2) C rfl rfl (by decide) rfl (by omega) (dx dX7_goes 80 rfl) (mh9q.e0 (by omega)) ?_
                                      refine r_iload C (dx dX7_goes 81 rfl) rfl ?_
                                      refine r_icmp_ne (tgt := 145) C (dx dX7_goes 82 rfl) (by decide) (fun c57 => ?_) (fun c57 => ?_)
                                      ·
                                        have c57 : ¬ vF u9q 0 q2 = nI (vN v) := c57
                                        refine r_iconst (v := nI 0) C (dx dX7_goes 85 rfl) rfl ?_
                                        refine r_ior C (dx dX7_goes 86 rfl) ?_
                                        refine r_istore (ls' := [(0, vr 7 k), (1, vi x1), (2, vi (x2 + (vF u9p 3 p))), (3, vi (nI p)), (4, vi (nI (vN v))), (5, vi (x5 ||| (nI 0))), (6, vi (nI q2))]) C (dx dX7_goes 87 rfl) (by decide) [1, 2, 3, 4, 5, 0, 6] rfl ?_
                                        refine rn_iinc (a := q2) (k := 1) (ls' := [(0, vr 7 k), (1, vi x1), (2, vi (x2 + (vF u9p 3 p))), (3, vi (nI p)), (4, vi (nI (vN v))), (5, vi (x5 ||| (nI 0))), (6, vi (nI (q2 + 1)))]) C (dx dX7_goes 88 rfl) rfl rfl (by decide) [1, 2, 3, 4, 5, 6, 0] rfl ?_
                                        refine r_goto (tgt := 104) C (dx dX7_goes 89 rfl) (by decide) ?_
                                        exact ihq2 (x5 ||| (nI 0))
                                      ·
                                        have c57 : vF u9q 0 q2 = nI (vN v) := c57
                                        refine r_iconst (v := nI 1) C (dx dX7_goes 83 rfl) rfl ?_
                                        refine r_goto (tgt := 146) C (dx dX7_goes 84 rfl) (by decide) ?_
                                        refine r_ior C (dx dX7_goes 86 rfl) ?_
                                        refine r_istore (ls' := [(0, vr 7 k), (1, vi x1), (2, vi (x2 + (vF u9p 3 p))), (3, vi (nI p)), (4, vi (nI (vN v))), (5, vi (x5 ||| (nI 1))), (6, vi (nI q2))]) C (dx dX7_goes 87 rfl) (by decide) [1, 2, 3, 4, 5, 0, 6] rfl ?_
                                        refine rn_iinc (a := q2) (k := 1) (ls' := [(0, vr 7 k), (1, vi x1), (2, vi (x2 + (vF u9p 3 p))), (3, vi (nI p)), (4, vi (nI (vN v))), (5, vi (x5 ||| (nI 1))), (6, vi (nI (q2 + 1)))]) C (dx dX7_goes 88 rfl) rfl rfl (by decide) [1, 2, 3, 4, 5, 6, 0] rfl ?_
                                        refine r_goto (tgt := 104) C (dx dX7_goes 89 rfl) (by decide) ?_
                                        exact ihq2 (x5 ||| (nI 1))))
                    ·
                      intro q hq ihq h9q u9q mh9q zh9q ph9q kh9q
                      obtain ⟨ah9q, bh9q, ch9q⟩ := zh9q
                      refine r_iload C (dx dX7_goes 57 rfl) rfl ?_
                      refine r_aload_n C (dx dX7_goes 58 rfl) rfl ?_
                      refine g_X7_74 (x := nI (vN u9q)) C (dx dX7_goes 59 rfl) mh9q.eN ?_
                      refine rn_ge (a := q) (b := vN u9q) (tgt := 183) C (by omega) (by omega) (dx dX7_goes 60 rfl) (by decide) (fun c58 => ?_) (fun c58 => ?_)
                      · first
                        | (omega; done)
                        | (
                            have c58 : vN u9q ≤ q := c58
                            refine rn_iinc (a := p) (k := 1) (ls' := [(0, vr 7 k), (1, vi x1), (2, vi (x2 + (vF u9p 3 p))), (3, vi (nI (p + 1))), (4, vi (nI q))]) C (dx dX7_goes 106 rfl) rfl rfl (by decide) [1, 2, 3, 0, 4] rfl ?_
                            refine r_goto (tgt := 60) C (dx dX7_goes 107 rfl) (by decide) ?_
                            refine r_weak C [0, 1, 2, 3] rfl ?_
                            exact ihp (x2 + (vF u9p 3 p)) h9q u9q mh9q (⟨by omega, by omega, by omega⟩) ph9q kh9q)
                      · first
                        | (omega; done)
                        | (
                            have c58 : q < vN u9q := c58
                            refine r_iconst (v := nI 0) C (dx dX7_goes 61 rfl) rfl ?_
                            refine r_istore (ls' := [(0, vr 7 k), (1, vi x1), (2, vi (x2 + (vF u9p 3 p))), (3, vi (nI p)), (4, vi (nI q)), (5, vi (nI 0))]) C (dx dX7_goes 62 rfl) (by decide) [1, 2, 3, 4, 5, 0] rfl ?_
                            refine r_iconst (v := nI 0) C (dx dX7_goes 63 rfl) rfl ?_
                            refine r_istore (ls' := [(0, vr 7 k), (1, vi x1), (2, vi (x2 + (vF u9p 3 p))), (3, vi (nI p)), (4, vi (nI q)), (5, vi (nI 0)), (6, vi (nI 0))]) C (dx dX7_goes 64 rfl) (by decide) [1, 2, 3, 4, 5, 6, 0] rfl ?_
                            refine loopU (Φ := fun q2 => ∀ (x5 : Int32), Rr G 104 [(0, vr 7 k), (1, vi x1), (2, vi (x2 + (vF u9p 3 p))), (3, vi (nI p)), (4, vi (nI q)), (5, vi x5), (6, vi (nI q2))] [] h9q) (N := vP v) ?_ ?_ 0 (by omega) (nI 0)
                            ·
                              intro  x5
                              refine r_iload C (dx dX7_goes 65 rfl) rfl ?_
                              refine r_aload_n C (dx dX7_goes 66 rfl) rfl ?_
                              refine g_X7_64 (x := nI (vP u9q)) C (dx dX7_goes 67 rfl) mh9q.eP ?_
                              refine rn_ge (a := vP v) (b := vP u9q) (tgt := 155) C (by omega) (by omega) (dx dX7_goes 68 rfl) (by decide) (fun c59 => ?_) (fun c59 => ?_)
                              · first
                                | (omega; done)
                                | (
                                    have c59 : vP u9q ≤ vP v := c59
                                    refine r_aload_n C (dx dX7_goes 90 rfl) rfl ?_
                                    refine g_X7_54 C (dx dX7_goes 91 rfl) ?_
                                    refine r_iload C (dx dX7_goes 92 rfl) rfl ?_
                                    refine r_aald4 (j := q) C rfl rfl (by decide) rfl (by omega) (dx dX7_goes 93 rfl) ?_
                                    refine r_iconst (v := nI 3) C (dx dX7_goes 94 rfl) rfl ?_
                                    refine r_dup2 C (dx dX7_goes 95 rfl) ?_
                                    refine r_iald (j := 3) (x := vF u9q 7 q) C rfl rfl (by decide) rfl (by omega) (dx dX7_goes 96 rfl) (mh9q.eo (by omega) (by omega)) ?_
                                    refine r_iload C (dx dX7_goes 97 rfl) rfl ?_
                                    refine r_if_eq (tgt := 174) C (dx dX7_goes 98 rfl) (by decide) (fun c60 => ?_) (fun c60 => ?_)
                                    ·
                                      have c60 : x5 = 0 := c60
                                      refine r_iconst (v := nI 0) C (dx dX7_goes 101 rfl) rfl ?_
                                      refine r_iadd C (dx dX7_goes 102 rfl) ?_
                                      refine r_iast (j := 3) C rfl rfl (by decide) rfl (by omega) (dx dX7_goes 103 rfl) ?_
                                      obtain ⟨vh61, mh61, zh61⟩ : ∃ v9, MilAt (sI h9q (k + 23 + q) 3 ((vF u9q 7 q) + (nI 0))) k v9 ∧ Sz u9q v9 := ⟨vset u9q (4 + 3) q ((vF u9q 7 q) + (nI 0)), mh9q.so (by omega) (by omega), ⟨rfl, rfl, rfl⟩⟩
                                      have ph61 : Kp k h (sI h9q (k + 23 + q) 3 ((vF u9q 7 q) + (nI 0))) := ph9q.tr (Kp.c (by omega) (by omega))
                                      have kh61 : xK (sI h9q (k + 23 + q) 3 ((vF u9q 7 q) + (nI 0))) = xK h := kh9q
                                      generalize sI h9q (k + 23 + q) 3 ((vF u9q 7 q) + (nI 0)) = h61 at mh61 ph61 kh61 ⊢
                                      obtain ⟨ah61, bh61, ch61⟩ := zh61
                                      refine rn_iinc (a := q) (k := 1) (ls' := [(0, vr 7 k), (1, vi x1), (2, vi (x2 + (vF u9p 3 p))), (3, vi (nI p)), (4, vi (nI (q + 1))), (5, vi x5), (6, vi (nI (vP v)))]) C (dx dX7_goes 104 rfl) rfl rfl (by decide) [1, 2, 3, 4, 0, 5, 6] rfl ?_
                                      refine r_goto (tgt := 89) C (dx dX7_goes 105 rfl) (by decide) ?_
                                      refine r_weak C [0, 1, 2, 3, 4] rfl ?_
                                      exact ihq h61 vh61 mh61 (⟨by omega, by omega, by omega⟩) ph61 kh61
                                    ·
                                      have c60 : ¬ x5 = 0 := c60
                                      refine r_iconst (v := nI 1) C (dx dX7_goes 99 rfl) rfl ?_
                                      refine r_goto (tgt := 175) C (dx dX7_goes 100 rfl) (by decide) ?_
                                      refine r_iadd C (dx dX7_goes 102 rfl) ?_
                                      refine r_iast (j := 3) C rfl rfl (by decide) rfl (by omega) (dx dX7_goes 103 rfl) ?_
                                      obtain ⟨vh62, mh62, zh62⟩ : ∃ v9, MilAt (sI h9q (k + 23 + q) 3 ((vF u9q 7 q) + (nI 1))) k v9 ∧ Sz u9q v9 := ⟨vset u9q (4 + 3) q ((vF u9q 7 q) + (nI 1)), mh9q.so (by omega) (by omega), ⟨rfl, rfl, rfl⟩⟩
                                      have ph62 : Kp k h (sI h9q (k + 23 + q) 3 ((vF u9q 7 q) + (nI 1))) := ph9q.tr (Kp.c (by omega) (by omega))
                                      have kh62 : xK (sI h9q (k + 23 + q) 3 ((vF u9q 7 q) + (nI 1))) = xK h := kh9q
                                      generalize sI h9q (k + 23 + q) 3 ((vF u9q 7 q) + (nI 1)) = h62 at mh62 ph62 kh62 ⊢
                                      obtain ⟨ah62, bh62, ch62⟩ := zh62
                                      refine rn_iinc (a := q) (k := 1) (ls' := [(0, vr 7 k), (1, vi x1), (2, vi (x2 + (vF u9p 3 p))), (3, vi (nI p)), (4, vi (nI (q + 1))), (5, vi x5), (6, vi (nI (vP v)))]) C (dx dX7_goes 104 rfl) rfl rfl (by decide) [1, 2, 3, 4, 0, 5, 6] rfl ?_
                                      refine r_goto (tgt := 89) C (dx dX7_goes 105 rfl) (by decide) ?_
                                      refine r_weak C [0, 1, 2, 3, 4] rfl ?_
                                      exact ihq h62 vh62 mh62 (⟨by omega, by omega, by omega⟩) ph62 kh62)
                              · first
                                | (omega; done)
                            ·
                              intro q2 hq2 ihq2 x5
                              refine r_iload C (dx dX7_goes 65 rfl) rfl ?_
                              refine r_aload_n C (dx dX7_goes 66 rfl) rfl ?_
                              refine g_X7_64 (x := nI (vP u9q)) C (dx dX7_goes 67 rfl) mh9q.eP ?_
                              refine rn_ge (a := q2) (b := vP u9q) (tgt := 155) C (by omega) (by omega) (dx dX7_goes 68 rfl) (by decide) (fun c65 => ?_) (fun c65 => ?_)
                              · first
                                | (omega; done)
                                | (
                                    have c65 : vP u9q ≤ q2 := c65
                                    refine r_aload_n C (dx dX7_goes 90 rfl) rfl ?_
                                    refine g_X7_54 C (dx dX7_goes 91 rfl) ?_
                                    refine r_iload C (dx dX7_goes 92 rfl) rfl ?_
                                    refine r_aald4 (j := q) C rfl rfl (by decide) rfl (by omega) (dx dX7_goes 93 rfl) ?_
                                    refine r_iconst (v := nI 3) C (dx dX7_goes 94 rfl) rfl ?_
                                    refine r_dup2 C (dx dX7_goes 95 rfl) ?_
                                    refine r_iald (j := 3) (x := vF u9q 7 q) C rfl rfl (by decide) rfl (by omega) (dx dX7_goes 96 rfl) (mh9q.eo (by omega) (by omega)) ?_
                                    refine r_iload C (dx dX7_goes 97 rfl) rfl ?_
                                    refine r_if_eq (tgt := 174) C (dx dX7_goes 98 rfl) (by decide) (fun c66 => ?_) (fun c66 => ?_)
                                    ·
                                      have c66 : x5 = 0 := c66
                                      refine r_iconst (v := nI 0) C (dx dX7_goes 101 rfl) rfl ?_
                                      refine r_iadd C (dx dX7_goes 102 rfl) ?_
                                      refine r_iast (j := 3) C rfl rfl (by decide) rfl (by omega) (dx dX7_goes 103 rfl) ?_
                                      obtain ⟨vh67, mh67, zh67⟩ : ∃ v9, MilAt (sI h9q (k + 23 + q) 3 ((vF u9q 7 q) + (nI 0))) k v9 ∧ Sz u9q v9 := ⟨vset u9q (4 + 3) q ((vF u9q 7 q) + (nI 0)), mh9q.so (by omega) (by omega), ⟨rfl, rfl, rfl⟩⟩
                                      have ph67 : Kp k h (sI h9q (k + 23 + q) 3 ((vF u9q 7 q) + (nI 0))) := ph9q.tr (Kp.c (by omega) (by omega))
                                      have kh67 : xK (sI h9q (k + 23 + q) 3 ((vF u9q 7 q) + (nI 0))) = xK h := kh9q
                                      generalize sI h9q (k + 23 + q) 3 ((vF u9q 7 q) + (nI 0)) = h67 at mh67 ph67 kh67 ⊢
                                      obtain ⟨ah67, bh67, ch67⟩ := zh67
                                      refine rn_iinc (a := q) (k := 1) (ls' := [(0, vr 7 k), (1, vi x1), (2, vi (x2 + (vF u9p 3 p))), (3, vi (nI p)), (4, vi (nI (q + 1))), (5, vi x5), (6, vi (nI q2))]) C (dx dX7_goes 104 rfl) rfl rfl (by decide) [1, 2, 3, 4, 0, 5, 6] rfl ?_
                                      refine r_goto (tgt := 89) C (dx dX7_goes 105 rfl) (by decide) ?_
                                      refine r_weak C [0, 1, 2, 3, 4] rfl ?_
                                      exact ihq h67 vh67 mh67 (⟨by omega, by omega, by omega⟩) ph67 kh67
                                    ·
                                      have c66 : ¬ x5 = 0 := c66
                                      refine r_iconst (v := nI 1) C (dx dX7_goes 99 rfl) rfl ?_
                                      refine r_goto (tgt := 175) C (dx dX7_goes 100 rfl) (by decide) ?_
                                      refine r_iadd C (dx dX7_goes 102 rfl) ?_
                                      refine r_iast (j := 3) C rfl rfl (by decide) rfl (by omega) (dx dX7_goes 103 rfl) ?_
                                      obtain ⟨vh68, mh68, zh68⟩ : ∃ v9, MilAt (sI h9q (k + 23 + q) 3 ((vF u9q 7 q) + (nI 1))) k v9 ∧ Sz u9q v9 := ⟨vset u9q (4 + 3) q ((vF u9q 7 q) + (nI 1)), mh9q.so (by omega) (by omega), ⟨rfl, rfl, rfl⟩⟩
                                      have ph68 : Kp k h (sI h9q (k + 23 + q) 3 ((vF u9q 7 q) + (nI 1))) := ph9q.tr (Kp.c (by omega) (by omega))
                                      have kh68 : xK (sI h9q (k + 23 + q) 3 ((vF u9q 7 q) + (nI 1))) = xK h := kh9q
                                      generalize sI h9q (k + 23 + q) 3 ((vF u9q 7 q) + (nI 1)) = h68 at mh68 ph68 kh68 ⊢
                                      obtain ⟨ah68, bh68, ch68⟩ := zh68
                                      refine rn_iinc (a := q) (k := 1) (ls' := [(0, vr 7 k), (1, vi x1), (2, vi (x2 + (vF u9p 3 p))), (3, vi (nI p)), (4, vi (nI (q + 1))), (5, vi x5), (6, vi (nI q2))]) C (dx dX7_goes 104 rfl) rfl rfl (by decide) [1, 2, 3, 4, 0, 5, 6] rfl ?_
                                      refine r_goto (tgt := 89) C (dx dX7_goes 105 rfl) (by decide) ?_
                                      refine r_weak C [0, 1, 2, 3, 4] rfl ?_
                                      exact ihq h68 vh68 mh68 (⟨by omega, by omega, by omega⟩) ph68 kh68)
                              · first
                                | (omega; done)
                                | (
                                    have c65 : q2 < vP u9q := c65
                                    refine r_iload C (dx dX7_goes 69 rfl) rfl ?_
                                    refine r_aload_n C (dx dX7_goes 70 rfl) rfl ?_
                                    refine g_X7_46 C (dx dX7_goes 71 rfl) ?_
                                    refine r_iload_n C (dx dX7_goes 72 rfl) rfl ?_
                                    refine r_iald (j := p) (x := vF u9q 2 p) C rfl rfl (by decide) rfl (by omega) (dx dX7_goes 73 rfl) (mh9q.e2 (by omega)) ?_
                                    refine r_iload C (dx dX7_goes 74 rfl) rfl ?_
                                    refine r_csW (as := [vi (vF u9q 2 p), vi (nI q2)]) (st := [vi x5]) C X I_X7_isIn l_X7_244 (c_X7_isIn _ _) (by decide) (Nat.le_of_ble_eq_true rfl) (pfx_eq kh9q) (Nat.le_of_ble_eq_true rfl) rfl (dx dX7_goes 75 rfl) ?_
                                    rintro _ ⟨x69, rfl⟩
                                    refine rb_eq (b := x69) (tgt := 145) C (dx dX7_goes 76 rfl) (by decide) (fun c70 => ?_) (fun c70 => ?_)
                                    ·
                                      have c70 : x69 = false := c70
                                      refine r_iconst (v := nI 0) C (dx dX7_goes 85 rfl) rfl ?_
                                      refine r_ior C (dx dX7_goes 86 rfl) ?_
                                      refine r_istore (ls' := [(0, vr 7 k), (1, vi x1), (2, vi (x2 + (vF u9p 3 p))), (3, vi (nI p)), (4, vi (nI q)), (5, vi (x5 ||| (nI 0))), (6, vi (nI q2))]) C (dx dX7_goes 87 rfl) (by decide) [1, 2, 3, 4, 5, 0, 6] rfl ?_
                                      refine rn_iinc (a := q2) (k := 1) (ls' := [(0, vr 7 k), (1, vi x1), (2, vi (x2 + (vF u9p 3 p))), (3, vi (nI p)), (4, vi (nI q)), (5, vi (x5 ||| (nI 0))), (6, vi (nI (q2 + 1)))]) C (dx dX7_goes 88 rfl) rfl rfl (by decide) [1, 2, 3, 4, 5, 6, 0] rfl ?_
                                      refine r_goto (tgt := 104) C (dx dX7_goes 89 rfl) (by decide) ?_
                                      exact ihq2 (x5 ||| (nI 0))
                                    ·
                                      have c70 : x69 = true := c70
                                      refine r_aload_n C (dx dX7_goes 77 rfl) rfl ?_
                                      refine g_X7_40 C (dx dX7_goes 78 rfl) ?_
                                      refine r_iload C (dx dX7_goes 79 rfl) rfl ?_
                                      refine r_iald (j := q2) (x := vF u9q 0 q2) C rfl rfl (by decide) rfl (by omega) (dx dX7_goes 80 rfl) (mh9q.e0 (by omega)) ?_
                                      refine r_iload C (dx dX7_goes 81 rfl) rfl ?_
                                      refine r_icmp_ne (tgt := 145) C (dx dX7_goes 82 rfl) (by decide) (fun c71 => ?_) (fun c71 => ?_)
                                      ·
                                        have c71 : ¬ vF u9q 0 q2 = nI q := c71
                                        refine r_iconst (v := nI 0) C (dx dX7_goes 85 rfl) rfl ?_
                                        refine r_ior C (dx dX7_goes 86 rfl) ?_
                                        refine r_istore (ls' := [(0, vr 7 k), (1, vi x1), (2, vi (x2 + (vF u9p 3 p))), (3, vi (nI p)), (4, vi (nI q)), (5, vi (x5 ||| (nI 0))), (6, vi (nI q2))]) C (dx dX7_goes 87 rfl) (by decide) [1, 2, 3, 4, 5, 0, 6] rfl ?_
                                        refine rn_iinc (a := q2) (k := 1) (ls' := [(0, vr 7 k), (1, vi x1), (2, vi (x2 + (vF u9p 3 p))), (3, vi (nI p)), (4, vi (nI q)), (5, vi (x5 ||| (nI 0))), (6, vi (nI (q2 + 1)))]) C (dx dX7_goes 88 rfl) rfl rfl (by decide) [1, 2, 3, 4, 5, 6, 0] rfl ?_
                                        refine r_goto (tgt := 104) C (dx dX7_goes 89 rfl) (by decide) ?_
                                        exact ihq2 (x5 ||| (nI 0))
                                      ·
                                        have c71 : vF u9q 0 q2 = nI q := c71
                                        refine r_iconst (v := nI 1) C (dx dX7_goes 83 rfl) rfl ?_
                                        refine r_goto (tgt := 146) C (dx dX7_goes 84 rfl) (by decide) ?_
                                        refine r_ior C (dx dX7_goes 86 rfl) ?_
                                        refine r_istore (ls' := [(0, vr 7 k), (1, vi x1), (2, vi (x2 + (vF u9p 3 p))), (3, vi (nI p)), (4, vi (nI q)), (5, vi (x5 ||| (nI 1))), (6, vi (nI q2))]) C (dx dX7_goes 87 rfl) (by decide) [1, 2, 3, 4, 5, 0, 6] rfl ?_
                                        refine rn_iinc (a := q2) (k := 1) (ls' := [(0, vr 7 k), (1, vi x1), (2, vi (x2 + (vF u9p 3 p))), (3, vi (nI p)), (4, vi (nI q)), (5, vi (x5 ||| (nI 1))), (6, vi (nI (q2 + 1)))]) C (dx dX7_goes 88 rfl) rfl rfl (by decide) [1, 2, 3, 4, 5, 6, 0] rfl ?_
                                        refine r_goto (tgt := 104) C (dx dX7_goes 89 rfl) (by decide) ?_
                                        exact ihq2 (x5 ||| (nI 1))))))
    · first
      | (omega; done)
      | (
          have c37 : p < vN u9p := c37
          refine r_aload_n C (dx dX7_goes 8 rfl) rfl ?_
          refine g_X7_54 C (dx dX7_goes 9 rfl) ?_
          refine r_iload_n C (dx dX7_goes 10 rfl) rfl ?_
          refine r_aald4 (j := p) C rfl rfl (by decide) rfl (by omega) (dx dX7_goes 11 rfl) ?_
          refine r_iconst (v := nI 2) C (dx dX7_goes 12 rfl) rfl ?_
          refine r_iald (j := 2) (x := vF u9p 6 p) C rfl rfl (by decide) rfl (by omega) (dx dX7_goes 13 rfl) (mh9p.eo (by omega) (by omega)) ?_
          refine r_if_ne (tgt := 50) C (dx dX7_goes 14 rfl) (by decide) (fun c72 => ?_) (fun c72 => ?_)
          ·
            have c72 : ¬ vF u9p 6 p = 0 := c72
            refine rn_iinc (a := p) (k := 1) (ls' := [(0, vr 7 k), (1, vi x1), (2, vi (nI (p + 1)))]) C (dx dX7_goes 33 rfl) rfl rfl (by decide) [1, 2, 0] rfl ?_
            refine r_goto (tgt := 4) C (dx dX7_goes 34 rfl) (by decide) ?_
            exact ihp x1 h9p u9p mh9p (⟨by omega, by omega, by omega⟩) ph9p kh9p
          ·
            have c72 : vF u9p 6 p = 0 := c72
            refine r_iload_n C (dx dX7_goes 15 rfl) rfl ?_
            refine r_aload_n C (dx dX7_goes 16 rfl) rfl ?_
            refine r_bipush (v := nI 10) C (dx dX7_goes 17 rfl) rfl ?_
            refine r_cv (as := [vi (nI 10)]) (st := [vi x1]) C X I_X7_draw l_X7_336 (c_X7_draw mh9p) (by decide) (Nat.le_of_ble_eq_true rfl) List.prefix_rfl (pfx_eq kh9p) rfl rfl (Nat.le_of_ble_eq_true rfl) rfl (dx dX7_goes 18 rfl) ?_
            rintro _ h73 ⟨⟨xh73, rfl⟩, ⟨wh73, m9h73, s9h73⟩, qh73⟩ kkh73
            obtain ⟨vh73, mh73, zh73⟩ : ∃ v9, MilAt h73 k v9 ∧ Sz u9p v9 := ⟨_, m9h73, s9h73⟩
            have ph73 : Kp k h h73 := ph9p.tr (qh73)
            have kh73 : xK h73 = xK h := (kkh73).trans kh9p
            obtain ⟨ah73, bh73, ch73⟩ := zh73
            refine r_aload_n C (dx dX7_goes 19 rfl) rfl ?_
            refine g_X7_54 C (dx dX7_goes 20 rfl) ?_
            refine r_iload_n C (dx dX7_goes 21 rfl) rfl ?_
            refine r_aald4 (j := p) C rfl rfl (by decide) rfl (by omega) (dx dX7_goes 22 rfl) ?_
            refine r_iconst (v := nI 1) C (dx dX7_goes 23 rfl) rfl ?_
            refine r_iald (j := 1) (x := vF vh73 5 p) C rfl rfl (by decide) rfl (by omega) (dx dX7_goes 24 rfl) (mh73.eo (by omega) (by omega)) ?_
            refine r_icmp_ge (tgt := 45) C (dx dX7_goes 25 rfl) (by decide) (fun c74 => ?_) (fun c74 => ?_)
            ·
              have c74 : vF vh73 5 p ≤ xh73 := c74
              refine r_iconst (v := nI 1) C (dx dX7_goes 28 rfl) rfl ?_
              refine r_iload_n C (dx dX7_goes 29 rfl) rfl ?_
              refine r_ishl C (dx dX7_goes 30 rfl) ?_
              refine r_ior C (dx dX7_goes 31 rfl) ?_
              refine r_istore_n (ls' := [(0, vr 7 k), (1, vi (x1 ||| ((nI 1) <<< ((nI p) &&& 31)))), (2, vi (nI p))]) C (dx dX7_goes 32 rfl) (by decide) [1, 0, 2] rfl ?_
              refine rn_iinc (a := p) (k := 1) (ls' := [(0, vr 7 k), (1, vi (x1 ||| ((nI 1) <<< ((nI p) &&& 31)))), (2, vi (nI (p + 1)))]) C (dx dX7_goes 33 rfl) rfl rfl (by decide) [1, 2, 0] rfl ?_
              refine r_goto (tgt := 4) C (dx dX7_goes 34 rfl) (by decide) ?_
              exact ihp (x1 ||| ((nI 1) <<< ((nI p) &&& 31))) h73 vh73 mh73 (⟨by omega, by omega, by omega⟩) ph73 kh73
            ·
              have c74 : ¬ vF vh73 5 p ≤ xh73 := c74
              refine r_iconst (v := nI 0) C (dx dX7_goes 26 rfl) rfl ?_
              refine r_goto (tgt := 48) C (dx dX7_goes 27 rfl) (by decide) ?_
              refine r_ior C (dx dX7_goes 31 rfl) ?_
              refine r_istore_n (ls' := [(0, vr 7 k), (1, vi (x1 ||| (nI 0))), (2, vi (nI p))]) C (dx dX7_goes 32 rfl) (by decide) [1, 0, 2] rfl ?_
              refine rn_iinc (a := p) (k := 1) (ls' := [(0, vr 7 k), (1, vi (x1 ||| (nI 0))), (2, vi (nI (p + 1)))]) C (dx dX7_goes 33 rfl) rfl rfl (by decide) [1, 2, 0] rfl ?_
              refine r_goto (tgt := 4) C (dx dX7_goes 34 rfl) (by decide) ?_
              exact ihp (x1 ||| (nI 0)) h73 vh73 mh73 (⟨by omega, by omega, by omega⟩) ph73 kh73)
set_option maxHeartbeats 4000000 in
theorem c_X7_days {l : Launch} {h : Hp} {k : Nat} {v : Vg} (hm : MilAt h k v) (n : Int32) : Ms l yX7_days cX7_days 4 (some .int) 8 [vr 7 k, vi n] h (xK h) (fun r h' => PI r ∧ (∃ v', MilAt h' k v') ∧ Kp k h h') := by
  refine Ms.of (by decide) (Nat.le_of_ble_eq_true rfl) (fun G C X F => ?_)
  have C : Cx G cX7_days 4 RX7 := C
  show Rr G 0 [(0, vr 7 k), (1, vi n)] [] h
  have bP := hm.bP
  have bM := hm.bM
  have bN := hm.bN
  refine r_iload_n C (dx dX7_days 0 rfl) rfl ?_
  refine r_i2l C (dx dX7_days 1 rfl) ?_
  refine r_lconst (v := 1) C (dx dX7_days 2 rfl) rfl ?_
  refine r_ldc2 C n_X7_342 (dx dX7_days 3 rfl) ?_
  refine r_csP (as := [vl n.toInt64, vl 1, vl 60]) (st := []) (v := vi (b2i (btwB n 1 60))) C X I_X7_in l_X7_67 (c_inB (a := 1) (b := 60) (by decide) (by decide)) (by decide) (Nat.le_of_ble_eq_true rfl) List.prefix_rfl (Nat.le_of_ble_eq_true rfl) rfl (dx dX7_days 4 rfl) ?_
  refine rb_ne (b := btwB n 1 60) (tgt := 19) C (dx dX7_days 5 rfl) (by decide) (fun c1 => ?_) (fun c1 => ?_)
  ·
    have c1 : (btwB n 1 60) = true := c1
    obtain ⟨ν, hν, hν2, rfl⟩ := btw_ex (a := 1) (b := 60) (by omega) (by omega) c1
    refine r_iconst (v := nI 0) C (dx dX7_days 10 rfl) rfl ?_
    refine r_istore_n (ls' := [(0, vr 7 k), (1, vi (nI ν)), (2, vi (nI 0))]) C (dx dX7_days 11 rfl) (by decide) [1, 2, 0] rfl ?_
    refine r_iconst (v := nI 0) C (dx dX7_days 12 rfl) rfl ?_
    refine r_istore_n (ls' := [(0, vr 7 k), (1, vi (nI ν)), (2, vi (nI 0)), (3, vi (nI 0))]) C (dx dX7_days 13 rfl) (by decide) [1, 2, 3, 0] rfl ?_
    refine loopU (Φ := fun p => ∀ (x2 : Int32), ∀ (h9p : Hp) (u9p : Vg), MilAt h9p k u9p → Sz v u9p → Kp k h h9p → xK h9p = xK h → Rr G 23 [(0, vr 7 k), (1, vi (nI ν)), (2, vi x2), (3, vi (nI p))] [] h9p) (N := ν) ?_ ?_ 0 (by omega) (nI 0) h v hm (⟨by omega, by omega, by omega⟩) Kp.rf rfl
    ·
      intro  x2 h9p u9p mh9p zh9p ph9p kh9p
      obtain ⟨ah9p, bh9p, ch9p⟩ := zh9p
      refine r_iload_n C (dx dX7_days 14 rfl) rfl ?_
      refine r_iload_n C (dx dX7_days 15 rfl) rfl ?_
      refine rn_ge (a := ν) (b := ν) (tgt := 41) C (by omega) (by omega) (dx dX7_days 16 rfl) (by decide) (fun c2 => ?_) (fun c2 => ?_)
      · first
        | (omega; done)
        | (
            have c2 : ν ≤ ν := c2
            refine r_aload_n C (dx dX7_days 24 rfl) rfl ?_
            refine r_dupR C (dx dX7_days 25 rfl) ?_
            refine g_X7_347 (x := xI h9p k 19) C (dx dX7_days 26 rfl) rfl ?_
            refine r_iload_n C (dx dX7_days 27 rfl) rfl ?_
            refine r_iadd C (dx dX7_days 28 rfl) ?_
            refine p_X7_347 C (dx dX7_days 29 rfl) rfl rfl ?_
            obtain ⟨vh3, mh3, zh3⟩ : ∃ v9, MilAt (sI h9p k 19 ((xI h9p k 19) + x2)) k v9 ∧ Sz u9p v9 := ⟨u9p, mh9p.f (by decide) (by decide) (by decide) (by decide), ⟨rfl, rfl, rfl⟩⟩
            have ph3 : Kp k h (sI h9p k 19 ((xI h9p k 19) + x2)) := ph9p.tr (Kp.f (by decide))
            have kh3 : xK (sI h9p k 19 ((xI h9p k 19) + x2)) = xK h := kh9p
            generalize sI h9p k 19 ((xI h9p k 19) + x2) = h3 at mh3 ph3 kh3 ⊢
            obtain ⟨ah3, bh3, ch3⟩ := zh3
            refine r_iload_n C (dx dX7_days 30 rfl) rfl ?_
            exact F.1 _ _ _ _ .int rfl rfl (dx dX7_days 31 rfl) kh3 ⟨⟨_, rfl⟩, ⟨_, mh3⟩, ph3⟩)
      · first
        | (omega; done)
    ·
      intro p hp ihp x2 h9p u9p mh9p zh9p ph9p kh9p
      obtain ⟨ah9p, bh9p, ch9p⟩ := zh9p
      refine r_iload_n C (dx dX7_days 14 rfl) rfl ?_
      refine r_iload_n C (dx dX7_days 15 rfl) rfl ?_
      refine rn_ge (a := p) (b := ν) (tgt := 41) C (by omega) (by omega) (dx dX7_days 16 rfl) (by decide) (fun c5 => ?_) (fun c5 => ?_)
      · first
        | (omega; done)
        | (
            have c5 : ν ≤ p := c5
            refine r_aload_n C (dx dX7_days 24 rfl) rfl ?_
            refine r_dupR C (dx dX7_days 25 rfl) ?_
            refine g_X7_347 (x := xI h9p k 19) C (dx dX7_days 26 rfl) rfl ?_
            refine r_iload_n C (dx dX7_days 27 rfl) rfl ?_
            refine r_iadd C (dx dX7_days 28 rfl) ?_
            refine p_X7_347 C (dx dX7_days 29 rfl) rfl rfl ?_
            obtain ⟨vh6, mh6, zh6⟩ : ∃ v9, MilAt (sI h9p k 19 ((xI h9p k 19) + x2)) k v9 ∧ Sz u9p v9 := ⟨u9p, mh9p.f (by decide) (by decide) (by decide) (by decide), ⟨rfl, rfl, rfl⟩⟩
            have ph6 : Kp k h (sI h9p k 19 ((xI h9p k 19) + x2)) := ph9p.tr (Kp.f (by decide))
            have kh6 : xK (sI h9p k 19 ((xI h9p k 19) + x2)) = xK h := kh9p
            generalize sI h9p k 19 ((xI h9p k 19) + x2) = h6 at mh6 ph6 kh6 ⊢
            obtain ⟨ah6, bh6, ch6⟩ := zh6
            refine r_iload_n C (dx dX7_days 30 rfl) rfl ?_
            exact F.1 _ _ _ _ .int rfl rfl (dx dX7_days 31 rfl) kh6 ⟨⟨_, rfl⟩, ⟨_, mh6⟩, ph6⟩)
      · first
        | (omega; done)
        | (
            have c5 : p < ν := c5
            refine r_iload_n C (dx dX7_days 17 rfl) rfl ?_
            refine r_aload_n C (dx dX7_days 18 rfl) rfl ?_
            refine r_cv (as := []) (st := [vi x2]) C X I_X7_goes l_X7_344 (c_X7_goes mh9p) (by decide) (Nat.le_of_ble_eq_true rfl) List.prefix_rfl (pfx_eq kh9p) rfl rfl (Nat.le_of_ble_eq_true rfl) rfl (dx dX7_days 19 rfl) ?_
            rintro _ h7 ⟨⟨xh7, rfl⟩, ⟨wh7, m9h7, s9h7⟩, qh7⟩ kkh7
            obtain ⟨vh7, mh7, zh7⟩ : ∃ v9, MilAt h7 k v9 ∧ Sz u9p v9 := ⟨_, m9h7, s9h7⟩
            have ph7 : Kp k h h7 := ph9p.tr (qh7)
            have kh7 : xK h7 = xK h := (kkh7).trans kh9p
            obtain ⟨ah7, bh7, ch7⟩ := zh7
            refine r_iadd C (dx dX7_days 20 rfl) ?_
            refine r_istore_n (ls' := [(0, vr 7 k), (1, vi (nI ν)), (2, vi (x2 + xh7)), (3, vi (nI p))]) C (dx dX7_days 21 rfl) (by decide) [1, 2, 0, 3] rfl ?_
            refine rn_iinc (a := p) (k := 1) (ls' := [(0, vr 7 k), (1, vi (nI ν)), (2, vi (x2 + xh7)), (3, vi (nI (p + 1)))]) C (dx dX7_days 22 rfl) rfl rfl (by decide) [1, 2, 3, 0] rfl ?_
            refine r_goto (tgt := 23) C (dx dX7_days 23 rfl) (by decide) ?_
            exact ihp (x2 + xh7) h7 vh7 mh7 (⟨by omega, by omega, by omega⟩) ph7 kh7)
  ·
    have c1 : (btwB n 1 60) = false := c1
    refine r_aload_n C (dx dX7_days 6 rfl) rfl ?_
    refine r_bipush (v := -2) C (dx dX7_days 7 rfl) rfl ?_
    refine r_cv (as := [vi (-2)]) (st := []) C X I_X7_refuse l_X7_83 (c_X7_refuse hm (x := -2) (j := 2) (by decide) (by decide)) (by decide) (Nat.le_of_ble_eq_true rfl) List.prefix_rfl List.prefix_rfl rfl rfl (Nat.le_of_ble_eq_true rfl) rfl (dx dX7_days 8 rfl) ?_
    rintro _ h8 ⟨rfl, ⟨wh8, m9h8, s9h8⟩, qh8⟩ kkh8
    obtain ⟨vh8, mh8, zh8⟩ : ∃ v9, MilAt h8 k v9 ∧ Sz v v9 := ⟨_, m9h8, s9h8⟩
    have ph8 : Kp k h h8 := qh8
    have kh8 : xK h8 = xK h := kkh8
    obtain ⟨ah8, bh8, ch8⟩ := zh8
    exact F.1 _ _ _ _ .int rfl rfl (dx dX7_days 9 rfl) kh8 ⟨⟨_, rfl⟩, ⟨_, mh8⟩, ph8⟩
set_option maxHeartbeats 4000000 in
theorem c_X7_status {l : Launch} {h : Hp} {k : Nat} {v : Vg} (hm : MilAt h k v) (x : Int32) : Ms l yX7_status cX7_status 4 (some .int) 8 [vr 7 k, vi x] h (xK h) (fun r h' => PI r ∧ (∃ v', MilAt h' k v') ∧ Kp k h h') := by
  refine Ms.of (by decide) (Nat.le_of_ble_eq_true rfl) (fun G C X F => ?_)
  have C : Cx G cX7_status 4 RX7 := C
  show Rr G 0 [(0, vr 7 k), (1, vi x)] [] h
  have bP := hm.bP
  have bM := hm.bM
  have bN := hm.bN
  refine r_iconst (v := nI 0) C (dx dX7_status 0 rfl) rfl ?_
  refine r_istore_n (ls' := [(0, vr 7 k), (1, vi x), (2, vi (nI 0))]) C (dx dX7_status 1 rfl) (by decide) [1, 2, 0] rfl ?_
  refine r_iload_n C (dx dX7_status 2 rfl) rfl ?_
  rcases sw_c 10 x with ⟨j9, hj9, e9⟩ | e9
  · rcases (show j9 = 0 ∨ j9 = 1 ∨ j9 = 2 ∨ j9 = 3 ∨ j9 = 4 ∨ j9 = 5 ∨ j9 = 6 ∨ j9 = 7 ∨ j9 = 8 ∨ j9 = 9 by omega) with e8 | e8 | e8 | e8 | e8 | e8 | e8 | e8 | e8 | e8
    ·
      rw [e8] at e9; subst e9
      refine r_tabIn (off := 53) (tgt := 56) C (dx dX7_status 3 rfl) (by decide) (by decide) (by decide) (by decide) ?_
      refine r_aload_n C (dx dX7_status 4 rfl) rfl ?_
      refine g_X7_64 (x := nI (vP v)) C (dx dX7_status 5 rfl) hm.eP ?_
      exact F.1 _ _ _ _ .int rfl rfl (dx dX7_status 6 rfl) rfl ⟨⟨_, rfl⟩, ⟨_, hm⟩, Kp.rf⟩
    ·
      rw [e8] at e9; subst e9
      refine r_tabIn (off := 58) (tgt := 61) C (dx dX7_status 3 rfl) (by decide) (by decide) (by decide) (by decide) ?_
      refine r_aload_n C (dx dX7_status 7 rfl) rfl ?_
      refine g_X7_71 (x := nI (vM v)) C (dx dX7_status 8 rfl) hm.eM ?_
      exact F.1 _ _ _ _ .int rfl rfl (dx dX7_status 9 rfl) rfl ⟨⟨_, rfl⟩, ⟨_, hm⟩, Kp.rf⟩
    ·
      rw [e8] at e9; subst e9
      refine r_tabIn (off := 63) (tgt := 66) C (dx dX7_status 3 rfl) (by decide) (by decide) (by decide) (by decide) ?_
      refine r_aload_n C (dx dX7_status 10 rfl) rfl ?_
      refine g_X7_74 (x := nI (vN v)) C (dx dX7_status 11 rfl) hm.eN ?_
      exact F.1 _ _ _ _ .int rfl rfl (dx dX7_status 12 rfl) rfl ⟨⟨_, rfl⟩, ⟨_, hm⟩, Kp.rf⟩
    ·
      rw [e8] at e9; subst e9
      refine r_tabIn (off := 68) (tgt := 71) C (dx dX7_status 3 rfl) (by decide) (by decide) (by decide) (by decide) ?_
      refine r_aload_n C (dx dX7_status 13 rfl) rfl ?_
      refine r_cvW (as := []) (st := []) C X I_X7_crossOnes l_X7_322 (c_X7_crossOnes hm) (by decide) (Nat.le_of_ble_eq_true rfl) List.prefix_rfl rfl rfl (Nat.le_of_ble_eq_true rfl) rfl (dx dX7_status 14 rfl) ?_
      rintro _ ⟨x1, rfl⟩
      refine r_csW (as := [vi x1]) (st := []) C X I_X7_bits l_X7_268 (c_X7_bits _) (by decide) (Nat.le_of_ble_eq_true rfl) List.prefix_rfl (Nat.le_of_ble_eq_true rfl) rfl (dx dX7_status 15 rfl) ?_
      rintro _ ⟨x2, hx2, rfl⟩
      exact F.1 _ _ _ _ .int rfl rfl (dx dX7_status 16 rfl) rfl ⟨⟨_, rfl⟩, ⟨_, hm⟩, Kp.rf⟩
    ·
      rw [e8] at e9; subst e9
      refine r_tabIn (off := 76) (tgt := 79) C (dx dX7_status 3 rfl) (by decide) (by decide) (by decide) (by decide) ?_
      refine r_iconst (v := nI 0) C (dx dX7_status 17 rfl) rfl ?_
      refine r_istore_n (ls' := [(0, vr 7 k), (1, vi (nI 4)), (2, vi (nI 0)), (3, vi (nI 0))]) C (dx dX7_status 18 rfl) (by decide) [1, 2, 3, 0] rfl ?_
      refine loopU (Φ := fun p => ∀ (x2 : Int32), Rr G 81 [(0, vr 7 k), (1, vi (nI 4)), (2, vi x2), (3, vi (nI p))] [] h) (N := vN v) ?_ ?_ 0 (by omega) (nI 0)
      ·
        intro  x2
        refine r_iload_n C (dx dX7_status 19 rfl) rfl ?_
        refine r_aload_n C (dx dX7_status 20 rfl) rfl ?_
        refine g_X7_74 (x := nI (vN v)) C (dx dX7_status 21 rfl) hm.eN ?_
        refine rn_ge (a := vN v) (b := vN v) (tgt := 103) C (by omega) (by omega) (dx dX7_status 22 rfl) (by decide) (fun c3 => ?_) (fun c3 => ?_)
        · first
          | (omega; done)
          | (
              have c3 : vN v ≤ vN v := c3
              refine r_iload_n C (dx dX7_status 31 rfl) rfl ?_
              exact F.1 _ _ _ _ .int rfl rfl (dx dX7_status 32 rfl) rfl ⟨⟨_, rfl⟩, ⟨_, hm⟩, Kp.rf⟩)
        · first
          | (omega; done)
      ·
        intro p hp ihp x2
        refine r_iload_n C (dx dX7_status 19 rfl) rfl ?_
        refine r_aload_n C (dx dX7_status 20 rfl) rfl ?_
        refine g_X7_74 (x := nI (vN v)) C (dx dX7_status 21 rfl) hm.eN ?_
        refine rn_ge (a := p) (b := vN v) (tgt := 103) C (by omega) (by omega) (dx dX7_status 22 rfl) (by decide) (fun c5 => ?_) (fun c5 => ?_)
        · first
          | (omega; done)
          | (
              have c5 : vN v ≤ p := c5
              refine r_iload_n C (dx dX7_status 31 rfl) rfl ?_
              exact F.1 _ _ _ _ .int rfl rfl (dx dX7_status 32 rfl) rfl ⟨⟨_, rfl⟩, ⟨_, hm⟩, Kp.rf⟩)
        · first
          | (omega; done)
          | (
              have c5 : p < vN v := c5
              refine r_iload_n C (dx dX7_status 23 rfl) rfl ?_
              refine r_aload_n C (dx dX7_status 24 rfl) rfl ?_
              refine r_iload_n C (dx dX7_status 25 rfl) rfl ?_
              refine r_cvW (as := [vi (nI p)]) (st := [vi x2]) C X I_X7_piecesOf l_X7_129 (c_X7_piecesOf hm _) (by decide) (Nat.le_of_ble_eq_true rfl) List.prefix_rfl rfl rfl (Nat.le_of_ble_eq_true rfl) rfl (dx dX7_status 26 rfl) ?_
              rintro _ ⟨x6, rfl⟩
              refine r_iadd C (dx dX7_status 27 rfl) ?_
              refine r_istore_n (ls' := [(0, vr 7 k), (1, vi (nI 4)), (2, vi (x2 + x6)), (3, vi (nI p))]) C (dx dX7_status 28 rfl) (by decide) [1, 2, 0, 3] rfl ?_
              refine rn_iinc (a := p) (k := 1) (ls' := [(0, vr 7 k), (1, vi (nI 4)), (2, vi (x2 + x6)), (3, vi (nI (p + 1)))]) C (dx dX7_status 29 rfl) rfl rfl (by decide) [1, 2, 3, 0] rfl ?_
              refine r_goto (tgt := 81) C (dx dX7_status 30 rfl) (by decide) ?_
              exact ihp (x2 + x6))
    ·
      rw [e8] at e9; subst e9
      refine r_tabIn (off := 102) (tgt := 105) C (dx dX7_status 3 rfl) (by decide) (by decide) (by decide) (by decide) ?_
      refine r_aload_n C (dx dX7_status 33 rfl) rfl ?_
      refine g_X7_339 (x := xI h k 18) C (dx dX7_status 34 rfl) rfl ?_
      exact F.1 _ _ _ _ .int rfl rfl (dx dX7_status 35 rfl) rfl ⟨⟨_, rfl⟩, ⟨_, hm⟩, Kp.rf⟩
    ·
      rw [e8] at e9; subst e9
      refine r_tabIn (off := 107) (tgt := 110) C (dx dX7_status 3 rfl) (by decide) (by decide) (by decide) (by decide) ?_
      refine r_aload_n C (dx dX7_status 36 rfl) rfl ?_
      refine g_X7_347 (x := xI h k 19) C (dx dX7_status 37 rfl) rfl ?_
      exact F.1 _ _ _ _ .int rfl rfl (dx dX7_status 38 rfl) rfl ⟨⟨_, rfl⟩, ⟨_, hm⟩, Kp.rf⟩
    ·
      rw [e8] at e9; subst e9
      refine r_tabIn (off := 112) (tgt := 115) C (dx dX7_status 3 rfl) (by decide) (by decide) (by decide) (by decide) ?_
      refine r_aload_n C (dx dX7_status 39 rfl) rfl ?_
      refine g_X7_138 (x := xI h k 8) C (dx dX7_status 40 rfl) rfl ?_
      exact F.1 _ _ _ _ .int rfl rfl (dx dX7_status 41 rfl) rfl ⟨⟨_, rfl⟩, ⟨_, hm⟩, Kp.rf⟩
    ·
      rw [e8] at e9; subst e9
      refine r_tabIn (off := 117) (tgt := 120) C (dx dX7_status 3 rfl) (by decide) (by decide) (by decide) (by decide) ?_
      refine r_aload_n C (dx dX7_status 42 rfl) rfl ?_
      refine g_X7_57 (x := vS v) C (dx dX7_status 43 rfl) hm.eS ?_
      exact F.1 _ _ _ _ .int rfl rfl (dx dX7_status 44 rfl) rfl ⟨⟨_, rfl⟩, ⟨_, hm⟩, Kp.rf⟩
    ·
      rw [e8] at e9; subst e9
      refine r_tabIn (off := 122) (tgt := 125) C (dx dX7_status 3 rfl) (by decide) (by decide) (by decide) (by decide) ?_
      refine r_iconst (v := nI 0) C (dx dX7_status 45 rfl) rfl ?_
      refine r_istore_n (ls' := [(0, vr 7 k), (1, vi (nI 9)), (2, vi (nI 0)), (3, vi (nI 0))]) C (dx dX7_status 46 rfl) (by decide) [1, 2, 3, 0] rfl ?_
      refine loopU (Φ := fun p => ∀ (x2 : Int32), Rr G 127 [(0, vr 7 k), (1, vi (nI 9)), (2, vi x2), (3, vi (nI p))] [] h) (N := 8) ?_ ?_ 0 (by omega) (nI 0)
      ·
        intro  x2
        refine r_iload_n C (dx dX7_status 47 rfl) rfl ?_
        refine r_bipush (v := nI 8) C (dx dX7_status 48 rfl) rfl ?_
        refine rn_ge (a := 8) (b := 8) (tgt := 156) C (by omega) (by omega) (dx dX7_status 49 rfl) (by decide) (fun c7 => ?_) (fun c7 => ?_)
        · first
          | (omega; done)
          | (
              have c7 : 8 ≤ 8 := c7
              refine r_iload_n C (dx dX7_status 63 rfl) rfl ?_
              exact F.1 _ _ _ _ .int rfl rfl (dx dX7_status 64 rfl) rfl ⟨⟨_, rfl⟩, ⟨_, hm⟩, Kp.rf⟩)
        · first
          | (omega; done)
      ·
        intro p hp ihp x2
        refine r_iload_n C (dx dX7_status 47 rfl) rfl ?_
        refine r_bipush (v := nI 8) C (dx dX7_status 48 rfl) rfl ?_
        refine rn_ge (a := p) (b := 8) (tgt := 156) C (by omega) (by omega) (dx dX7_status 49 rfl) (by decide) (fun c9 => ?_) (fun c9 => ?_)
        · first
          | (omega; done)
          | (
              have c9 : 8 ≤ p := c9
              refine r_iload_n C (dx dX7_status 63 rfl) rfl ?_
              exact F.1 _ _ _ _ .int rfl rfl (dx dX7_status 64 rfl) rfl ⟨⟨_, rfl⟩, ⟨_, hm⟩, Kp.rf⟩)
        · first
          | (omega; done)
          | (
              have c9 : p < 8 := c9
              refine r_iload_n C (dx dX7_status 50 rfl) rfl ?_
              refine r_aload_n C (dx dX7_status 51 rfl) rfl ?_
              refine g_X7_7 C (dx dX7_status 52 rfl) ?_
              refine r_iload_n C (dx dX7_status 53 rfl) rfl ?_
              refine r_iald (j := p) (x := xI h (k + 1) p) C rfl rfl (by decide) rfl (by omega) (dx dX7_status 54 rfl) rfl ?_
              refine r_if_eq (tgt := 147) C (dx dX7_status 55 rfl) (by decide) (fun c10 => ?_) (fun c10 => ?_)
              ·
                have c10 : xI h (k + 1) p = 0 := c10
                refine r_iconst (v := nI 0) C (dx dX7_status 58 rfl) rfl ?_
                refine r_iadd C (dx dX7_status 59 rfl) ?_
                refine r_istore_n (ls' := [(0, vr 7 k), (1, vi (nI 9)), (2, vi (x2 + (nI 0))), (3, vi (nI p))]) C (dx dX7_status 60 rfl) (by decide) [1, 2, 0, 3] rfl ?_
                refine rn_iinc (a := p) (k := 1) (ls' := [(0, vr 7 k), (1, vi (nI 9)), (2, vi (x2 + (nI 0))), (3, vi (nI (p + 1)))]) C (dx dX7_status 61 rfl) rfl rfl (by decide) [1, 2, 3, 0] rfl ?_
                refine r_goto (tgt := 127) C (dx dX7_status 62 rfl) (by decide) ?_
                exact ihp (x2 + (nI 0))
              ·
                have c10 : ¬ xI h (k + 1) p = 0 := c10
                refine r_iconst (v := nI 1) C (dx dX7_status 56 rfl) rfl ?_
                refine r_goto (tgt := 148) C (dx dX7_status 57 rfl) (by decide) ?_
                refine r_iadd C (dx dX7_status 59 rfl) ?_
                refine r_istore_n (ls' := [(0, vr 7 k), (1, vi (nI 9)), (2, vi (x2 + (nI 1))), (3, vi (nI p))]) C (dx dX7_status 60 rfl) (by decide) [1, 2, 0, 3] rfl ?_
                refine rn_iinc (a := p) (k := 1) (ls' := [(0, vr 7 k), (1, vi (nI 9)), (2, vi (x2 + (nI 1))), (3, vi (nI (p + 1)))]) C (dx dX7_status 61 rfl) rfl rfl (by decide) [1, 2, 3, 0] rfl ?_
                refine r_goto (tgt := 127) C (dx dX7_status 62 rfl) (by decide) ?_
                exact ihp (x2 + (nI 1)))
  ·
    refine r_tabOut (tgt := 158) C (dx dX7_status 3 rfl) (by omega) (by decide) ?_
    refine r_iload_n C (dx dX7_status 65 rfl) rfl ?_
    refine r_i2l C (dx dX7_status 66 rfl) ?_
    refine r_ldc2 C n_X7_357 (dx dX7_status 67 rfl) ?_
    refine r_ldc2 C n_X7_359 (dx dX7_status 68 rfl) ?_
    refine r_csP (as := [vl x.toInt64, vl 12, vl 16]) (st := []) (v := vi (b2i (btwB x 12 16))) C X I_X7_in l_X7_67 (c_inB (a := 12) (b := 16) (by decide) (by decide)) (by decide) (Nat.le_of_ble_eq_true rfl) List.prefix_rfl (Nat.le_of_ble_eq_true rfl) rfl (dx dX7_status 69 rfl) ?_
    refine rb_eq (b := btwB x 12 16) (tgt := 184) C (dx dX7_status 70 rfl) (by decide) (fun c11 => ?_) (fun c11 => ?_)
    ·
      have c11 : (btwB x 12 16) = false := c11
      refine r_iconst (v := -1) C (dx dX7_status 78 rfl) rfl ?_
      exact F.1 _ _ _ _ .int rfl rfl (dx dX7_status 79 rfl) rfl ⟨⟨_, rfl⟩, ⟨_, hm⟩, Kp.rf⟩
    ·
      have c11 : (btwB x 12 16) = true := c11
      obtain ⟨x9, hx9, hx92, rfl⟩ := btw_ex (a := 12) (b := 16) (by omega) (by omega) c11
      refine r_aload_n C (dx dX7_status 71 rfl) rfl ?_
      refine g_X7_37 C (dx dX7_status 72 rfl) ?_
      refine r_iload_n C (dx dX7_status 73 rfl) rfl ?_
      refine r_bipush (v := nI 10) C (dx dX7_status 74 rfl) rfl ?_
      refine rn_isub (a := x9) (b := 10) C (by omega) (dx dX7_status 75 rfl) ?_
      refine r_iald (j := x9 - 10) (x := xI h (k + 17) (x9 - 10)) C rfl rfl (by decide) rfl (by omega) (dx dX7_status 76 rfl) rfl ?_
      refine r_goto (tgt := 185) C (dx dX7_status 77 rfl) (by decide) ?_
      exact F.1 _ _ _ _ .int rfl rfl (dx dX7_status 79 rfl) rfl ⟨⟨_, rfl⟩, ⟨_, hm⟩, Kp.rf⟩
