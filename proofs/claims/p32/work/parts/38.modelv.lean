/-! PART 38: the reference: head, texts, the tape -/
def hdB (g : Sg) : Nat → Bool
  | 0 => false
  | s + 1 => hdB g s || holdB g (nI s)
theorem hd_all {g : Sg} {p : Nat} (e : holdB g (nI p) = true) : ∀ n, p < n → hdB g n = true
  | 0, h => absurd h (by omega)
  | n + 1, h => by
    show (hdB g n || holdB g (nI n)) = true
    by_cases q : p = n
    · subst q; rw [e, Bool.or_true]
    · rw [hd_all e n (by omega), Bool.true_or]
set_option maxHeartbeats 4000000 in
theorem c_X7_head {l : Launch} {h : Hp} {P : List Nat} {k z : Nat} {v : Vg} {g : Sg} {κ τ : Bool} (M : Md h P k v g z κ τ)  : Ms l yX7_head cX7_head 7 (some .int) 11 [vr 7 k] h (AL P κ (τ || hdB g 8)) (fun r h' => PI r ∧ (∃ v', Md h' P k v' g z κ (τ || hdB g 8)) ∧ Lo k h h') := by
  refine Ms.of (by decide) (Nat.le_of_ble_eq_true rfl) (fun G C X F => ?_)
  have C : Cx G cX7_head 7 RX7 := C
  show Rr G 0 [(0, vr 7 k)] [] h
  have hm := M.1
  have hs := M.2.1
  have al := M.al
  have hk7 := M.hk
  have bP := hm.bP
  have bM := hm.bM
  have bN := hm.bN
  refine r_iconst (v := -1) C (dx dX7_head 0 rfl) rfl ?_
  refine r_istore_n (ls' := [(0, vr 7 k), (1, vi (-1))]) C (dx dX7_head 1 rfl) (by decide) [1, 0] rfl ?_
  refine r_lconst (v := 0) C (dx dX7_head 2 rfl) rfl ?_
  refine r_lstore_n (ls' := [(0, vr 7 k), (1, vi (-1)), (2, vl 0)]) C (dx dX7_head 3 rfl) (by decide) [1, 2, 0] rfl ?_
  refine r_iconst (v := nI 0) C (dx dX7_head 4 rfl) rfl ?_
  refine r_istore (ls' := [(0, vr 7 k), (1, vi (-1)), (2, vl 0), (4, vi (nI 0))]) C (dx dX7_head 5 rfl) (by decide) [1, 2, 3, 0] rfl ?_
  refine loopU (Φ := fun p => ∀ (x1 : Int32) (x2 : Int64) (h9 : Hp), Md h9 P k v g z κ (τ || hdB g p) → Lo k h h9 → xK h9 = AL P κ (τ || hdB g p) → Rr G 7 [(0, vr 7 k), (1, vi x1), (2, vl x2), (4, vi (nI p))] [] h9) (N := 8) ?_ ?_ 0 (by omega) _ _ _ (by rw [show hdB g 0 = false from rfl, Bool.or_false]; exact M) Lo.rf (by rw [show hdB g 0 = false from rfl, Bool.or_false]; exact al)
  ·
    intro x1 x2 h9 M9 lo9 k9
    have hs := M9.2.1
    refine r_iload C (dx dX7_head 6 rfl) rfl ?_
    refine r_bipush (v := nI 8) C (dx dX7_head 7 rfl) rfl ?_
    refine rn_ge (a := 8) (b := 8) (tgt := 57) C (by omega) (by omega) (dx dX7_head 8 rfl) (by decide) (fun c1 => ?_) (fun c1 => ?_)
    · first
      | (omega; done)
      | (
          have c1 : 8 ≤ 8 := c1
          refine r_iload_n C (dx dX7_head 32 rfl) rfl ?_
          refine r_iconst (v := -1) C (dx dX7_head 33 rfl) rfl ?_
          refine r_icmp_ne (tgt := 71) C (dx dX7_head 34 rfl) (by decide) (fun c2 => ?_) (fun c2 => ?_)
          ·
            have c2 : ¬ x1 = -1 := c2
            refine r_iload_n C (dx dX7_head 39 rfl) rfl ?_
            exact F.1 _ _ _ _ .int rfl rfl (dx dX7_head 40 rfl) k9 ⟨⟨_, rfl⟩, ⟨_, M9⟩, lo9⟩
          ·
            have c2 : x1 = -1 := c2
            refine r_aload_n C (dx dX7_head 35 rfl) rfl ?_
            refine r_bipush (v := -5) C (dx dX7_head 36 rfl) rfl ?_
            refine r_cv (as := [vi (-5)]) (st := []) C X I_X7_refuse l_X7_83 (c_X7_refuse M9.1 (x := -5) (j := 5) (by decide) (by decide)) (by decide) (Nat.le_of_ble_eq_true rfl) List.prefix_rfl (pfx_eq k9) rfl rfl (Nat.le_of_ble_eq_true rfl) rfl (dx dX7_head 37 rfl) ?_
            rintro _ h3 ⟨rfl, ⟨wh3, mh3, zh3⟩, qh3⟩ kkh3
            have Mh3 := M9.kp mh3 qh3 kkh3
            have loh3 : Lo k h h3 := Lo.tr lo9 (Lo.fr (Fr.vc qh3) (Nat.le_refl _))
            have kh3 := kkh3.trans k9
            refine r_goto (tgt := 72) C (dx dX7_head 38 rfl) (by decide) ?_
            exact F.1 _ _ _ _ .int rfl rfl (dx dX7_head 40 rfl) kh3 ⟨⟨_, rfl⟩, ⟨_, Mh3⟩, loh3⟩)
    · first
      | (omega; done)
  ·
    intro p hp ih x1 x2 h9 M9 lo9 k9
    have hs := M9.2.1
    refine r_iload C (dx dX7_head 6 rfl) rfl ?_
    refine r_bipush (v := nI 8) C (dx dX7_head 7 rfl) rfl ?_
    refine rn_ge (a := p) (b := 8) (tgt := 57) C (by omega) (by omega) (dx dX7_head 8 rfl) (by decide) (fun c5 => ?_) (fun c5 => ?_)
    · first
      | (omega; done)
      | (
          have c5 : 8 ≤ p := c5
          refine r_iload_n C (dx dX7_head 32 rfl) rfl ?_
          refine r_iconst (v := -1) C (dx dX7_head 33 rfl) rfl ?_
          refine r_icmp_ne (tgt := 71) C (dx dX7_head 34 rfl) (by decide) (fun c6 => ?_) (fun c6 => ?_)
          ·
            have c6 : ¬ x1 = -1 := c6
            refine r_iload_n C (dx dX7_head 39 rfl) rfl ?_
            exact F.1 _ _ _ _ .int rfl rfl (dx dX7_head 40 rfl) k9 ⟨⟨_, rfl⟩, ⟨_, M9⟩, lo9⟩
          ·
            have c6 : x1 = -1 := c6
            refine r_aload_n C (dx dX7_head 35 rfl) rfl ?_
            refine r_bipush (v := -5) C (dx dX7_head 36 rfl) rfl ?_
            refine r_cv (as := [vi (-5)]) (st := []) C X I_X7_refuse l_X7_83 (c_X7_refuse M9.1 (x := -5) (j := 5) (by decide) (by decide)) (by decide) (Nat.le_of_ble_eq_true rfl) List.prefix_rfl (pfx_eq k9) rfl rfl (Nat.le_of_ble_eq_true rfl) rfl (dx dX7_head 37 rfl) ?_
            rintro _ h7 ⟨rfl, ⟨wh7, mh7, zh7⟩, qh7⟩ kkh7
            have Mh7 := M9.kp mh7 qh7 kkh7
            have loh7 : Lo k h h7 := Lo.tr lo9 (Lo.fr (Fr.vc qh7) (Nat.le_refl _))
            have kh7 := kkh7.trans k9
            refine r_goto (tgt := 72) C (dx dX7_head 38 rfl) (by decide) ?_
            exact F.1 _ _ _ _ .int rfl rfl (dx dX7_head 40 rfl) kh7 ⟨⟨_, rfl⟩, ⟨_, Mh7⟩, loh7⟩)
    · first
      | (omega; done)
      | (
          have c5 : p < 8 := c5
          rcases hs p hp with ⟨a11, a21⟩ | ⟨τ1, ν1, a11, a21, a31, a41, a51, a61, a71, a81⟩ | ⟨κ1, b1, a11, a21, a31, a41, a51, a61, a71, a81⟩
          ·
            obtain ⟨e01, e11, e21, e31, e41, e51, e61⟩ := sh_bare hp a21
            have hd : (τ || hdB g (p + 1)) = (τ || hdB g p) := by simp [hdB, e11]
            refine r_aload_n C (dx dX7_head 9 rfl) rfl ?_
            refine g_X7_7 C (dx dX7_head 10 rfl) ?_
            refine r_iload C (dx dX7_head 11 rfl) rfl ?_
            refine r_iald (j := p) (x := nI 0) C rfl rfl (by decide) rfl (by omega) (dx dX7_head 12 rfl) a11 ?_
            refine r_iconst (v := nI 2) C (dx dX7_head 13 rfl) rfl ?_
            refine rn_ne (a := 0) (b := 2) (tgt := 51) C (by omega) (by omega) (dx dX7_head 14 rfl) (by decide) (fun c8 => ?_) (fun c8 => ?_)
            · first
              | (omega; done)
              | (
                  have c8 : ¬ 0 = 2 := c8
                  refine rn_iinc (a := p) (k := 1) (ls' := [(0, vr 7 k), (1, vi x1), (2, vl x2), (4, vi (nI (p + 1)))]) C (dx dX7_head 30 rfl) rfl rfl (by decide) [1, 2, 3, 0] rfl ?_
                  refine r_goto (tgt := 7) C (dx dX7_head 31 rfl) (by decide) ?_
                  exact ih x1 x2 _ (by rw [hd]; exact M9) lo9 (by rw [hd]; exact k9))
            · first
              | (omega; done)
              | (
                  have c8 : 0 = 2 := c8
                  refine r_aload_n C (dx dX7_head 15 rfl) rfl ?_
                  refine r_iload C (dx dX7_head 16 rfl) rfl ?_
                  refine r_cv (as := [vi (nI p)]) (st := []) C X I_X7_wouldBy l_X7_299 (c_X7_wouldBy_y M9 hp ⟨a11, a21⟩ a31 a71 a81) (by decide) (Nat.le_of_ble_eq_true rfl) (by rw [M9.al]; exact AL_pre id (fun _ => rfl)) (by rw [hT]; exact List.prefix_rfl) rfl rfl (Nat.le_of_ble_eq_true rfl) rfl (dx dX7_head 17 rfl) ?_
                  rintro _ hF ⟨⟨xF, rfl⟩, MF, loF9⟩ kF
                  have loF := lo9.tr loF9
                  refine r_lstore (ls' := [(0, vr 7 k), (1, vi x1), (2, vl x2), (4, vi (nI p)), (5, vl xF)]) C (dx dX7_head 18 rfl) (by decide) [1, 2, 3, 4, 0] rfl ?_
                  refine r_iload_n C (dx dX7_head 19 rfl) rfl ?_
                  refine r_iconst (v := -1) C (dx dX7_head 20 rfl) rfl ?_
                  refine r_icmp_eq (tgt := 45) C (dx dX7_head 21 rfl) (by decide) (fun c9 => ?_) (fun c9 => ?_)
                  ·
                    have c9 : x1 = -1 := c9
                    refine r_iload C (dx dX7_head 26 rfl) rfl ?_
                    refine r_istore_n (ls' := [(0, vr 7 k), (1, vi (nI p)), (2, vl x2), (4, vi (nI p)), (5, vl xF)]) C (dx dX7_head 27 rfl) (by decide) [1, 0, 2, 3, 4] rfl ?_
                    refine r_lload C (dx dX7_head 28 rfl) rfl ?_
                    refine r_lstore_n (ls' := [(0, vr 7 k), (1, vi (nI p)), (2, vl xF), (4, vi (nI p)), (5, vl xF)]) C (dx dX7_head 29 rfl) (by decide) [1, 2, 0, 3, 4] rfl ?_
                    refine rn_iinc (a := p) (k := 1) (ls' := [(0, vr 7 k), (1, vi (nI p)), (2, vl xF), (4, vi (nI (p + 1))), (5, vl xF)]) C (dx dX7_head 30 rfl) rfl rfl (by decide) [1, 2, 3, 0, 4] rfl ?_
                    refine r_goto (tgt := 7) C (dx dX7_head 31 rfl) (by decide) ?_
                    refine r_weak C [0, 1, 2, 3] rfl ?_
                    exact ih (nI p) xF _ (by rw [hd]; exact MF) loF (by rw [hd]; exact kF)
                  ·
                    have c9 : ¬ x1 = -1 := c9
                    refine r_lload C (dx dX7_head 22 rfl) rfl ?_
                    refine r_lload_n C (dx dX7_head 23 rfl) rfl ?_
                    refine r_lcmp C (dx dX7_head 24 rfl) ?_
                    refine r_if_le (tgt := 51) C (dx dX7_head 25 rfl) (by decide) (fun c10 => ?_) (fun c10 => ?_)
                    ·
                      have c10 : xF ≤ x2 := (lg_cmp_le _ _).mp c10
                      refine rn_iinc (a := p) (k := 1) (ls' := [(0, vr 7 k), (1, vi x1), (2, vl x2), (4, vi (nI (p + 1))), (5, vl xF)]) C (dx dX7_head 30 rfl) rfl rfl (by decide) [1, 2, 3, 0, 4] rfl ?_
                      refine r_goto (tgt := 7) C (dx dX7_head 31 rfl) (by decide) ?_
                      refine r_weak C [0, 1, 2, 3] rfl ?_
                      exact ih x1 x2 _ (by rw [hd]; exact MF) loF (by rw [hd]; exact kF)
                    ·
                      have c10 : ¬ (xF ≤ x2) := fun q => c10 ((lg_cmp_le _ _).mpr q)
                      refine r_iload C (dx dX7_head 26 rfl) rfl ?_
                      refine r_istore_n (ls' := [(0, vr 7 k), (1, vi (nI p)), (2, vl x2), (4, vi (nI p)), (5, vl xF)]) C (dx dX7_head 27 rfl) (by decide) [1, 0, 2, 3, 4] rfl ?_
                      refine r_lload C (dx dX7_head 28 rfl) rfl ?_
                      refine r_lstore_n (ls' := [(0, vr 7 k), (1, vi (nI p)), (2, vl xF), (4, vi (nI p)), (5, vl xF)]) C (dx dX7_head 29 rfl) (by decide) [1, 2, 0, 3, 4] rfl ?_
                      refine rn_iinc (a := p) (k := 1) (ls' := [(0, vr 7 k), (1, vi (nI p)), (2, vl xF), (4, vi (nI (p + 1))), (5, vl xF)]) C (dx dX7_head 30 rfl) rfl rfl (by decide) [1, 2, 3, 0, 4] rfl ?_
                      refine r_goto (tgt := 7) C (dx dX7_head 31 rfl) (by decide) ?_
                      refine r_weak C [0, 1, 2, 3] rfl ?_
                      exact ih (nI p) xF _ (by rw [hd]; exact MF) loF (by rw [hd]; exact kF))
          ·
            obtain ⟨e01, e11, e21, e31, e41, e51, e61⟩ := sh_row hp a11 a61 a71
            have hd : (τ || hdB g (p + 1)) = (τ || hdB g p) := by simp [hdB, e11]
            refine r_aload_n C (dx dX7_head 9 rfl) rfl ?_
            refine g_X7_7 C (dx dX7_head 10 rfl) ?_
            refine r_iload C (dx dX7_head 11 rfl) rfl ?_
            refine r_iald (j := p) (x := nI 1) C rfl rfl (by decide) rfl (by omega) (dx dX7_head 12 rfl) a31 ?_
            refine r_iconst (v := nI 2) C (dx dX7_head 13 rfl) rfl ?_
            refine rn_ne (a := 1) (b := 2) (tgt := 51) C (by omega) (by omega) (dx dX7_head 14 rfl) (by decide) (fun c11 => ?_) (fun c11 => ?_)
            · first
              | (omega; done)
              | (
                  have c11 : ¬ 1 = 2 := c11
                  refine rn_iinc (a := p) (k := 1) (ls' := [(0, vr 7 k), (1, vi x1), (2, vl x2), (4, vi (nI (p + 1)))]) C (dx dX7_head 30 rfl) rfl rfl (by decide) [1, 2, 3, 0] rfl ?_
                  refine r_goto (tgt := 7) C (dx dX7_head 31 rfl) (by decide) ?_
                  exact ih x1 x2 _ (by rw [hd]; exact M9) lo9 (by rw [hd]; exact k9))
            · first
              | (omega; done)
              | (
                  have c11 : 1 = 2 := c11
                  refine r_aload_n C (dx dX7_head 15 rfl) rfl ?_
                  refine r_iload C (dx dX7_head 16 rfl) rfl ?_
                  refine r_cv (as := [vi (nI p)]) (st := []) C X I_X7_wouldBy l_X7_299 (c_X7_wouldBy_y M9 hp ⟨a11, a21⟩ a31 a71 a81) (by decide) (Nat.le_of_ble_eq_true rfl) (by rw [M9.al]; exact AL_pre id (fun _ => rfl)) (by rw [hT]; exact List.prefix_rfl) rfl rfl (Nat.le_of_ble_eq_true rfl) rfl (dx dX7_head 17 rfl) ?_
                  rintro _ hF ⟨⟨xF, rfl⟩, MF, loF9⟩ kF
                  have loF := lo9.tr loF9
                  refine r_lstore (ls' := [(0, vr 7 k), (1, vi x1), (2, vl x2), (4, vi (nI p)), (5, vl xF)]) C (dx dX7_head 18 rfl) (by decide) [1, 2, 3, 4, 0] rfl ?_
                  refine r_iload_n C (dx dX7_head 19 rfl) rfl ?_
                  refine r_iconst (v := -1) C (dx dX7_head 20 rfl) rfl ?_
                  refine r_icmp_eq (tgt := 45) C (dx dX7_head 21 rfl) (by decide) (fun c12 => ?_) (fun c12 => ?_)
                  ·
                    have c12 : x1 = -1 := c12
                    refine r_iload C (dx dX7_head 26 rfl) rfl ?_
                    refine r_istore_n (ls' := [(0, vr 7 k), (1, vi (nI p)), (2, vl x2), (4, vi (nI p)), (5, vl xF)]) C (dx dX7_head 27 rfl) (by decide) [1, 0, 2, 3, 4] rfl ?_
                    refine r_lload C (dx dX7_head 28 rfl) rfl ?_
                    refine r_lstore_n (ls' := [(0, vr 7 k), (1, vi (nI p)), (2, vl xF), (4, vi (nI p)), (5, vl xF)]) C (dx dX7_head 29 rfl) (by decide) [1, 2, 0, 3, 4] rfl ?_
                    refine rn_iinc (a := p) (k := 1) (ls' := [(0, vr 7 k), (1, vi (nI p)), (2, vl xF), (4, vi (nI (p + 1))), (5, vl xF)]) C (dx dX7_head 30 rfl) rfl rfl (by decide) [1, 2, 3, 0, 4] rfl ?_
                    refine r_goto (tgt := 7) C (dx dX7_head 31 rfl) (by decide) ?_
                    refine r_weak C [0, 1, 2, 3] rfl ?_
                    exact ih (nI p) xF _ (by rw [hd]; exact MF) loF (by rw [hd]; exact kF)
                  ·
                    have c12 : ¬ x1 = -1 := c12
                    refine r_lload C (dx dX7_head 22 rfl) rfl ?_
                    refine r_lload_n C (dx dX7_head 23 rfl) rfl ?_
                    refine r_lcmp C (dx dX7_head 24 rfl) ?_
                    refine r_if_le (tgt := 51) C (dx dX7_head 25 rfl) (by decide) (fun c13 => ?_) (fun c13 => ?_)
                    ·
                      have c13 : xF ≤ x2 := (lg_cmp_le _ _).mp c13
                      refine rn_iinc (a := p) (k := 1) (ls' := [(0, vr 7 k), (1, vi x1), (2, vl x2), (4, vi (nI (p + 1))), (5, vl xF)]) C (dx dX7_head 30 rfl) rfl rfl (by decide) [1, 2, 3, 0, 4] rfl ?_
                      refine r_goto (tgt := 7) C (dx dX7_head 31 rfl) (by decide) ?_
                      refine r_weak C [0, 1, 2, 3] rfl ?_
                      exact ih x1 x2 _ (by rw [hd]; exact MF) loF (by rw [hd]; exact kF)
                    ·
                      have c13 : ¬ (xF ≤ x2) := fun q => c13 ((lg_cmp_le _ _).mpr q)
                      refine r_iload C (dx dX7_head 26 rfl) rfl ?_
                      refine r_istore_n (ls' := [(0, vr 7 k), (1, vi (nI p)), (2, vl x2), (4, vi (nI p)), (5, vl xF)]) C (dx dX7_head 27 rfl) (by decide) [1, 0, 2, 3, 4] rfl ?_
                      refine r_lload C (dx dX7_head 28 rfl) rfl ?_
                      refine r_lstore_n (ls' := [(0, vr 7 k), (1, vi (nI p)), (2, vl xF), (4, vi (nI p)), (5, vl xF)]) C (dx dX7_head 29 rfl) (by decide) [1, 2, 0, 3, 4] rfl ?_
                      refine rn_iinc (a := p) (k := 1) (ls' := [(0, vr 7 k), (1, vi (nI p)), (2, vl xF), (4, vi (nI (p + 1))), (5, vl xF)]) C (dx dX7_head 30 rfl) rfl rfl (by decide) [1, 2, 3, 0, 4] rfl ?_
                      refine r_goto (tgt := 7) C (dx dX7_head 31 rfl) (by decide) ?_
                      refine r_weak C [0, 1, 2, 3] rfl ?_
                      exact ih (nI p) xF _ (by rw [hd]; exact MF) loF (by rw [hd]; exact kF))
          ·
            obtain ⟨e01, e11, e21, e31, e41, e51, e61, e71⟩ := sh_hold hp a21 a71 a81
            have hd : (τ || hdB g (p + 1)) = true := by simp [hdB, e11]
            have hT : (τ || hdB g 8) = true := by rw [hd_all e11 8 hp, Bool.or_true]
            refine r_aload_n C (dx dX7_head 9 rfl) rfl ?_
            refine g_X7_7 C (dx dX7_head 10 rfl) ?_
            refine r_iload C (dx dX7_head 11 rfl) rfl ?_
            refine r_iald (j := p) (x := nI 2) C rfl rfl (by decide) rfl (by omega) (dx dX7_head 12 rfl) a41 ?_
            refine r_iconst (v := nI 2) C (dx dX7_head 13 rfl) rfl ?_
            refine rn_ne (a := 2) (b := 2) (tgt := 51) C (by omega) (by omega) (dx dX7_head 14 rfl) (by decide) (fun c14 => ?_) (fun c14 => ?_)
            · first
              | (omega; done)
              | (
                  have c14 : ¬ 2 = 2 := c14
                  refine rn_iinc (a := p) (k := 1) (ls' := [(0, vr 7 k), (1, vi x1), (2, vl x2), (4, vi (nI (p + 1)))]) C (dx dX7_head 30 rfl) rfl rfl (by decide) [1, 2, 3, 0] rfl ?_
                  refine r_goto (tgt := 7) C (dx dX7_head 31 rfl) (by decide) ?_
                  exact ih x1 x2 _ (by rw [hd]; exact M9) lo9 (by rw [hd]; exact k9))
            · first
              | (omega; done)
              | (
                  have c14 : 2 = 2 := c14
                  refine r_aload_n C (dx dX7_head 15 rfl) rfl ?_
                  refine r_iload C (dx dX7_head 16 rfl) rfl ?_
                  refine r_cv (as := [vi (nI p)]) (st := []) C X I_X7_wouldBy l_X7_299 (c_X7_wouldBy_y M9 hp ⟨a11, a21⟩ a31 a71 a81) (by decide) (Nat.le_of_ble_eq_true rfl) (by rw [M9.al]; exact AL_pre id (fun _ => rfl)) (by rw [hT]; exact List.prefix_rfl) rfl rfl (Nat.le_of_ble_eq_true rfl) rfl (dx dX7_head 17 rfl) ?_
                  rintro _ hF ⟨⟨xF, rfl⟩, MF, loF9⟩ kF
                  have loF := lo9.tr loF9
                  refine r_lstore (ls' := [(0, vr 7 k), (1, vi x1), (2, vl x2), (4, vi (nI p)), (5, vl xF)]) C (dx dX7_head 18 rfl) (by decide) [1, 2, 3, 4, 0] rfl ?_
                  refine r_iload_n C (dx dX7_head 19 rfl) rfl ?_
                  refine r_iconst (v := -1) C (dx dX7_head 20 rfl) rfl ?_
                  refine r_icmp_eq (tgt := 45) C (dx dX7_head 21 rfl) (by decide) (fun c15 => ?_) (fun c15 => ?_)
                  ·
                    have c15 : x1 = -1 := c15
                    refine r_iload C (dx dX7_head 26 rfl) rfl ?_
                    refine r_istore_n (ls' := [(0, vr 7 k), (1, vi (nI p)), (2, vl x2), (4, vi (nI p)), (5, vl xF)]) C (dx dX7_head 27 rfl) (by decide) [1, 0, 2, 3, 4] rfl ?_
                    refine r_lload C (dx dX7_head 28 rfl) rfl ?_
                    refine r_lstore_n (ls' := [(0, vr 7 k), (1, vi (nI p)), (2, vl xF), (4, vi (nI p)), (5, vl xF)]) C (dx dX7_head 29 rfl) (by decide) [1, 2, 0, 3, 4] rfl ?_
                    refine rn_iinc (a := p) (k := 1) (ls' := [(0, vr 7 k), (1, vi (nI p)), (2, vl xF), (4, vi (nI (p + 1))), (5, vl xF)]) C (dx dX7_head 30 rfl) rfl rfl (by decide) [1, 2, 3, 0, 4] rfl ?_
                    refine r_goto (tgt := 7) C (dx dX7_head 31 rfl) (by decide) ?_
                    refine r_weak C [0, 1, 2, 3] rfl ?_
                    exact ih (nI p) xF _ (by rw [hd]; exact MF) loF (by rw [hd]; exact kF)
                  ·
                    have c15 : ¬ x1 = -1 := c15
                    refine r_lload C (dx dX7_head 22 rfl) rfl ?_
                    refine r_lload_n C (dx dX7_head 23 rfl) rfl ?_
                    refine r_lcmp C (dx dX7_head 24 rfl) ?_
                    refine r_if_le (tgt := 51) C (dx dX7_head 25 rfl) (by decide) (fun c16 => ?_) (fun c16 => ?_)
                    ·
                      have c16 : xF ≤ x2 := (lg_cmp_le _ _).mp c16
                      refine rn_iinc (a := p) (k := 1) (ls' := [(0, vr 7 k), (1, vi x1), (2, vl x2), (4, vi (nI (p + 1))), (5, vl xF)]) C (dx dX7_head 30 rfl) rfl rfl (by decide) [1, 2, 3, 0, 4] rfl ?_
                      refine r_goto (tgt := 7) C (dx dX7_head 31 rfl) (by decide) ?_
                      refine r_weak C [0, 1, 2, 3] rfl ?_
                      exact ih x1 x2 _ (by rw [hd]; exact MF) loF (by rw [hd]; exact kF)
                    ·
                      have c16 : ¬ (xF ≤ x2) := fun q => c16 ((lg_cmp_le _ _).mpr q)
                      refine r_iload C (dx dX7_head 26 rfl) rfl ?_
                      refine r_istore_n (ls' := [(0, vr 7 k), (1, vi (nI p)), (2, vl x2), (4, vi (nI p)), (5, vl xF)]) C (dx dX7_head 27 rfl) (by decide) [1, 0, 2, 3, 4] rfl ?_
                      refine r_lload C (dx dX7_head 28 rfl) rfl ?_
                      refine r_lstore_n (ls' := [(0, vr 7 k), (1, vi (nI p)), (2, vl xF), (4, vi (nI p)), (5, vl xF)]) C (dx dX7_head 29 rfl) (by decide) [1, 2, 0, 3, 4] rfl ?_
                      refine rn_iinc (a := p) (k := 1) (ls' := [(0, vr 7 k), (1, vi (nI p)), (2, vl xF), (4, vi (nI (p + 1))), (5, vl xF)]) C (dx dX7_head 30 rfl) rfl rfl (by decide) [1, 2, 3, 0, 4] rfl ?_
                      refine r_goto (tgt := 7) C (dx dX7_head 31 rfl) (by decide) ?_
                      refine r_weak C [0, 1, 2, 3] rfl ?_
                      exact ih (nI p) xF _ (by rw [hd]; exact MF) loF (by rw [hd]; exact kF)))
set_option maxHeartbeats 4000000 in
theorem c_X7_village_y {l : Launch} {h : Hp} {P : List Nat} {k z : Nat} {v : Vg} {g : Sg} {κ τ : Bool} (M : Md h P k v g z κ τ)  : Ms l yX7_village cX7_village 3 (some .int) 12 [vr 7 k] h (AL P κ true) (fun r h' => PI r ∧ (∃ v', Md h' P k v' g 0 κ true) ∧ Lo k h h') := by
  refine Ms.of (by decide) (Nat.le_of_ble_eq_true rfl) (fun G C X F => ?_)
  have C : Cx G cX7_village 3 RX7 := C
  show Rr G 0 [(0, vr 7 k)] [] h
  have hm := M.1
  have hs := M.2.1
  have al := M.al
  have hk7 := M.hk
  have bP := hm.bP
  have bM := hm.bM
  have bN := hm.bN
  refine r_aload_n C (dx dX7_village 0 rfl) rfl ?_
  refine r_cv (as := []) (st := []) C X I_X7_fresh l_X7_102 (c_X7_fresh M) (by decide) (Nat.le_of_ble_eq_true rfl) (by rw [M.al]; exact AL_pre id (fun _ => rfl)) (by first | exact List.prefix_rfl | (rw [al]; exact AL_pre id (fun _ => rfl))) rfl rfl (Nat.le_of_ble_eq_true rfl) rfl (dx dX7_village 1 rfl) ?_
  rintro _ hF ⟨b, rfl, ebF, BF, MF, hb, hlF, loF⟩ kF
  refine r_astore_n (ls' := [(0, vr 7 k), (1, vr 7 b)]) C (dx dX7_village 2 rfl) (by decide) [1, 0] rfl ?_
  refine r_aload_n C (dx dX7_village 3 rfl) rfl ?_
  refine r_cv (as := []) (st := []) C X I_X7_readAll l_X7_234 (c_X7_readAll MF.1 MF.e8 MF.bz) (by decide) (Nat.le_of_ble_eq_true rfl) List.prefix_rfl (pfx_eq kF) rfl rfl (Nat.le_of_ble_eq_true rfl) rfl (dx dX7_village 4 rfl) ?_
  rintro _ h1 ⟨xh1, rfl, ah1, fh1, vh1, ph1⟩ kkh1
  have Mh1 := MF.kp ph1.m ph1.kp kkh1
  have Bh1 := BF.fr (Fr.vc ph1.kp) (by omega)
  have loh1 : Lo k h h1 := loF.tr (Lo.fr (Fr.vc ph1.kp) (Nat.le_refl _))
  have kh1 := kkh1.trans kF
  refine r_istore_n (ls' := [(0, vr 7 k), (1, vr 7 b), (2, vi (b2i xh1))]) C (dx dX7_village 5 rfl) (by decide) [1, 2, 0] rfl ?_
  refine r_aload_n C (dx dX7_village 6 rfl) rfl ?_
  refine r_iconst (v := nI 0) C (dx dX7_village 7 rfl) rfl ?_
  refine p_X7_138 C (dx dX7_village 8 rfl) rfl rfl ?_
  have Mh2 := Mh1.z0
  have Bh2 : MilAt (sI h1 k 8 (nI 0)) b v := Bh1.fr (Fr.sI (lo := k) (hi := k + 1) (by omega) (by omega)) (by omega)
  have loh2 : Lo k h (sI h1 k 8 (nI 0)) := loh1.tr (Lo.sI (Nat.le_refl _))
  have kh2 : xK (sI h1 k 8 (nI 0)) = AL P κ true := kh1
  generalize sI h1 k 8 (nI 0) = h2 at Mh2 Bh2 loh2 kh2 ⊢
  refine r_iload_n C (dx dX7_village 9 rfl) rfl ?_
  refine rb_ne (b := xh1) (tgt := 39) C (dx dX7_village 10 rfl) (by decide) (fun c3 => ?_) (fun c3 => ?_)
  ·
    have c3 : xh1 = true := c3
    refine r_aload_n C (dx dX7_village 23 rfl) rfl ?_
    refine g_X7_228 (x := xI h2 k 29) C (dx dX7_village 24 rfl) rfl ?_
    exact F.1 _ _ _ _ .int rfl rfl (dx dX7_village 25 rfl) kh2 ⟨⟨_, rfl⟩, ⟨_, Mh2⟩, loh2⟩
  ·
    have c3 : xh1 = false := c3
    refine r_aload_n C (dx dX7_village 11 rfl) rfl ?_
    refine r_aload_n C (dx dX7_village 12 rfl) rfl ?_
    refine r_cv (as := [vr 7 b]) (st := []) C X I_X7_takeFrom l_X7_237 (c_X7_takeFrom Mh2.1 Bh2 (by omega)) (by decide) (Nat.le_of_ble_eq_true rfl) List.prefix_rfl (pfx_eq kh2) rfl rfl (Nat.le_of_ble_eq_true rfl) rfl (dx dX7_village 13 rfl) ?_
    rintro _ h4 ⟨rfl, mh4, qh4⟩ kkh4
    have Mh4 := Mh2.kp mh4 qh4 kkh4
    have loh4 : Lo k h h4 := loh2.tr (Lo.fr (Fr.vc qh4) (Nat.le_refl _))
    have kh4 := kkh4.trans kh2
    refine r_aload_n C (dx dX7_village 14 rfl) rfl ?_
    refine r_bipush (v := -2) C (dx dX7_village 15 rfl) rfl ?_
    refine r_cv (as := [vi (-2)]) (st := []) C X I_X7_refuse l_X7_83 (c_X7_refuse Mh4.1 (x := -2) (j := 2) (by decide) (by decide)) (by decide) (Nat.le_of_ble_eq_true rfl) List.prefix_rfl (pfx_eq kh4) rfl rfl (Nat.le_of_ble_eq_true rfl) rfl (dx dX7_village 16 rfl) ?_
    rintro _ h5 ⟨rfl, ⟨wh5, mh5, zh5⟩, qh5⟩ kkh5
    have Mh5 := Mh4.kp mh5 qh5 kkh5
    have loh5 : Lo k h h5 := Lo.tr loh4 (Lo.fr (Fr.vc qh5) (Nat.le_refl _))
    have kh5 := kkh5.trans kh4
    refine r_popI C (dx dX7_village 17 rfl) ?_
    refine r_bipush (v := -20) C (dx dX7_village 18 rfl) rfl ?_
    refine r_aload_n C (dx dX7_village 19 rfl) rfl ?_
    refine g_X7_164 (x := xI h5 k 27) C (dx dX7_village 20 rfl) rfl ?_
    refine r_isub C (dx dX7_village 21 rfl) ?_
    exact F.1 _ _ _ _ .int rfl rfl (dx dX7_village 22 rfl) kh5 ⟨⟨_, rfl⟩, ⟨_, Mh5⟩, loh5⟩
set_option maxHeartbeats 4000000 in
theorem c_X7_feed {l : Launch} {h : Hp} {P : List Nat} {k z : Nat} {v : Vg} {g : Sg} {κ τ : Bool} (M : Md h P k v g z κ τ) (x n : Int32) : Ms l yX7_feed cX7_feed 4 (some .int) 4 [vr 7 k, vi x, vi n] h (xK h) (fun r h' => r = some (vi (feedA z n)) ∧ (∃ v', Md h' P k v' g (feedZ z n) κ τ) ∧ Lo k h h') := by
  refine Ms.of (by decide) (Nat.le_of_ble_eq_true rfl) (fun G C X F => ?_)
  have C : Cx G cX7_feed 4 RX7 := C
  show Rr G 0 [(0, vr 7 k), (1, vi x), (2, vi n)] [] h
  have hm := M.1
  have hs := M.2.1
  have al := M.al
  have hk7 := M.hk
  have bP := hm.bP
  have bM := hm.bM
  have bN := hm.bN
  have hz := M.bz
  refine r_iload_n C (dx dX7_feed 0 rfl) rfl ?_
  refine r_i2l C (dx dX7_feed 1 rfl) ?_
  refine r_lconst (v := 1) C (dx dX7_feed 2 rfl) rfl ?_
  refine r_ldc2 C n_X7_79 (dx dX7_feed 3 rfl) ?_
  refine r_csP (as := [vl n.toInt64, vl 1, vl 4]) (st := []) (v := vi (b2i (btwB n 1 4))) C X I_X7_in l_X7_67 (c_inB (a := 1) (b := 4) (by decide) (by decide)) (by decide) (Nat.le_of_ble_eq_true rfl) List.prefix_rfl (Nat.le_of_ble_eq_true rfl) rfl (dx dX7_feed 4 rfl) ?_
  refine rb_ne (b := btwB n 1 4) (tgt := 19) C (dx dX7_feed 5 rfl) (by decide) (fun c1 => ?_) (fun c1 => ?_)
  ·
    have c1 : (btwB n 1 4) = true := c1
    obtain ⟨ν, hν, hν2, rfl⟩ := btw_ex (a := 1) (b := 4) (by omega) (by omega) c1
    refine r_iload_n C (dx dX7_feed 10 rfl) rfl ?_
    refine r_sipush (v := nI 250) C (dx dX7_feed 11 rfl) rfl ?_
    refine r_aload_n C (dx dX7_feed 12 rfl) rfl ?_
    refine g_X7_138 (x := nI z) C (dx dX7_feed 13 rfl) M.e8 ?_
    refine rn_isub (a := 250) (b := z) C (by omega) (dx dX7_feed 14 rfl) ?_
    refine rn_le (a := ν) (b := 250 - z) (tgt := 38) C (by omega) (by omega) (dx dX7_feed 15 rfl) (by decide) (fun c2 => ?_) (fun c2 => ?_)
    · first
      | (omega; done)
      | (
          have c2 : ν ≤ 250 - z := c2
          refine r_iload_n C (dx dX7_feed 20 rfl) rfl ?_
          refine r_iconst (v := nI 1) C (dx dX7_feed 21 rfl) rfl ?_
          refine rn_isub (a := ν) (b := 1) C (by omega) (dx dX7_feed 22 rfl) ?_
          refine r_istore_n (ls' := [(0, vr 7 k), (1, vi x), (2, vi (nI ν)), (3, vi (nI (ν - 1)))]) C (dx dX7_feed 23 rfl) (by decide) [1, 2, 3, 0] rfl ?_
          have key : ∀ j, j ≤ ν → ∀ h9, Fk h h9 k v g (z + ν - j) → Rr G 42 [(0, vr 7 k), (1, vi x), (2, vi (nI ν)), (3, vi (nI j - nI 1))] [] h9 := by
            refine loopDn (Φ := fun j => j ≤ ν → ∀ h9, Fk h h9 k v g (z + ν - j) → Rr G 42 [(0, vr 7 k), (1, vi x), (2, vi (nI ν)), (3, vi (nI j - nI 1))] [] h9) ?_ ?_
            ·
              intro hj h9 f9
              rw [show nI 0 - nI 1 = -1 from by decide]
              refine r_iload_n C (dx dX7_feed 24 rfl) rfl ?_
              refine r_if_lt (tgt := 78) C (dx dX7_feed 25 rfl) (by decide) (fun c3 => ?_) (fun c3 => ?_)
              ·
                have c3 : (-1 : Int32) < 0 := c3
                refine r_aload_n C (dx dX7_feed 45 rfl) rfl ?_
                refine g_X7_138 (x := nI (z + ν - 0)) C (dx dX7_feed 46 rfl) f9.2.2.1 ?_
                have fe := feed_in (z := z) hν hν2
                rw [if_pos (by omega), if_pos (by omega)] at fe
                have zq : z + ν - 0 = z + ν := by omega
                exact F.1 _ _ _ _ _ rfl rfl (dx dX7_feed 47 rfl) f9.2.2.2.2.2 (show some (vi (nI (z + ν - 0))) = some (vi (feedA z (nI ν))) ∧ (∃ v', Md h9 P k v' g (feedZ z (nI ν)) κ τ) ∧ Lo k h h9 from by rw [fe.1, fe.2]; exact ⟨by rw [zq], ⟨_, by have q := f9.md M (by omega); rw [zq] at q; exact q⟩, Lo.fr f9.2.2.2.2.1 (Nat.le_refl _)⟩)
              · exact absurd (show (-1 : Int32) < 0 by decide) c3
            ·
              intro j ihj hj h9 f9
              rw [show nI (j + 1) - nI 1 = nI j from pk_sub (a := j + 1) (b := 1) (by omega)]
              refine r_iload_n C (dx dX7_feed 24 rfl) rfl ?_
              refine r_if_lt (tgt := 78) C (dx dX7_feed 25 rfl) (by decide) (fun c4 => ?_) (fun c4 => ?_)
              · exact absurd c4 (nI_pos (by omega))
              ·
                have c4 : ¬ nI j < 0 := c4
                refine r_aload_n C (dx dX7_feed 26 rfl) rfl ?_
                refine g_X7_34 C (dx dX7_feed 27 rfl) ?_
                refine r_aload_n C (dx dX7_feed 28 rfl) rfl ?_
                refine r_dupR C (dx dX7_feed 29 rfl) ?_
                refine g_X7_138 (x := nI (z + ν - (j + 1))) C (dx dX7_feed 30 rfl) f9.2.2.1 ?_
                refine r_dup_x1 C (dx dX7_feed 31 rfl) ?_
                refine r_iconst (v := nI 1) C (dx dX7_feed 32 rfl) rfl ?_
                refine rn_iadd (a := z + ν - (j + 1)) (b := 1) C (dx dX7_feed 33 rfl) ?_
                refine p_X7_138 C (dx dX7_feed 34 rfl) rfl rfl ?_
                have fh5 : Fk h (sI h9 k 8 (nI (z + ν - (j + 1) + 1))) k v g (z + ν - (j + 1) + 1) := f9.z
                generalize sI h9 k 8 (nI (z + ν - (j + 1) + 1)) = h5 at fh5 ⊢
                refine r_iload_n C (dx dX7_feed 35 rfl) rfl ?_
                refine r_bipush (v := nI 8) C (dx dX7_feed 36 rfl) rfl ?_
                refine r_iload_n C (dx dX7_feed 37 rfl) rfl ?_
                refine rn_imul (a := 8) (b := j) C (dx dX7_feed 38 rfl) ?_
                refine r_ishr C (dx dX7_feed 39 rfl) ?_
                refine r_sipush (v := nI 255) C (dx dX7_feed 40 rfl) rfl ?_
                refine r_iand C (dx dX7_feed 41 rfl) ?_
                refine r_iast (j := z + ν - (j + 1)) C rfl rfl (by decide) rfl (by omega) (dx dX7_feed 42 rfl) ?_
                have fh6 : Fk h (sI h5 (k + 16) (z + ν - (j + 1)) ((x >>> ((nI (8 * j)) &&& 31)) &&& (nI 255))) k v g (z + ν - (j + 1) + 1) := fh5.t
                generalize sI h5 (k + 16) (z + ν - (j + 1)) ((x >>> ((nI (8 * j)) &&& 31)) &&& (nI 255)) = h6 at fh6 ⊢
                refine r_iinc (ls' := [(0, vr 7 k), (1, vi x), (2, vi (nI ν)), (3, vi (nI j + (-1)))]) C (dx dX7_feed 43 rfl) rfl rfl (by decide) [1, 2, 3, 0] rfl ?_
                refine r_goto (tgt := 42) C (dx dX7_feed 44 rfl) (by decide) ?_
                rw [add_m1]
                exact ihj (by omega) _ (by rw [show z + ν - j = z + ν - (j + 1) + 1 by omega]; exact fh6)
          have k9 := key ν (Nat.le_refl _) h ⟨hm, hs, by rw [M.e8, show z + ν - ν = z by omega], rfl, Fr.rf, rfl⟩
          rw [pk_sub (a := ν) (b := 1) (by omega)] at k9
          exact k9)
    · first
      | (omega; done)
      | (
          have c2 : 250 - z < ν := c2
          refine r_aload_n C (dx dX7_feed 16 rfl) rfl ?_
          refine r_bipush (v := -6) C (dx dX7_feed 17 rfl) rfl ?_
          refine r_cv (as := [vi (-6)]) (st := []) C X I_X7_refuse l_X7_83 (c_X7_refuse hm (x := -6) (j := 6) (by decide) (by decide)) (by decide) (Nat.le_of_ble_eq_true rfl) List.prefix_rfl List.prefix_rfl rfl rfl (Nat.le_of_ble_eq_true rfl) rfl (dx dX7_feed 18 rfl) ?_
          rintro _ h7 ⟨rfl, ⟨wh7, m9h7, s9h7⟩, qh7⟩ kkh7
          obtain ⟨vh7, mh7, zh7⟩ : ∃ v9, MilAt h7 k v9 ∧ Sz v v9 := ⟨_, m9h7, s9h7⟩
          have ph7 : Kp k h h7 := qh7
          have kh7 : xK h7 = xK h := kkh7
          obtain ⟨ah7, bh7, ch7⟩ := zh7
          have fe := feed_in (z := z) hν hν2
          rw [if_neg (by omega), if_neg (by omega)] at fe
          exact F.1 _ _ _ _ _ rfl rfl (dx dX7_feed 19 rfl) kh7 (show some (vi (-6)) = some (vi (feedA z (nI ν))) ∧ (∃ v', Md h7 P k v' g (feedZ z (nI ν)) κ τ) ∧ Lo k h h7 from by rw [fe.1, fe.2]; exact ⟨rfl, ⟨_, M.kp mh7 ph7 kh7⟩, Lo.fr (Fr.vc ph7) (Nat.le_refl _)⟩))
  ·
    have c1 : (btwB n 1 4) = false := c1
    refine r_aload_n C (dx dX7_feed 6 rfl) rfl ?_
    refine r_bipush (v := -2) C (dx dX7_feed 7 rfl) rfl ?_
    refine r_cv (as := [vi (-2)]) (st := []) C X I_X7_refuse l_X7_83 (c_X7_refuse hm (x := -2) (j := 2) (by decide) (by decide)) (by decide) (Nat.le_of_ble_eq_true rfl) List.prefix_rfl List.prefix_rfl rfl rfl (Nat.le_of_ble_eq_true rfl) rfl (dx dX7_feed 8 rfl) ?_
    rintro _ h8 ⟨rfl, ⟨wh8, m9h8, s9h8⟩, qh8⟩ kkh8
    obtain ⟨vh8, mh8, zh8⟩ : ∃ v9, MilAt h8 k v9 ∧ Sz v v9 := ⟨_, m9h8, s9h8⟩
    have ph8 : Kp k h h8 := qh8
    have kh8 : xK h8 = xK h := kkh8
    obtain ⟨ah8, bh8, ch8⟩ := zh8
    have fe := feed_no (z := z) c1
    exact F.1 _ _ _ _ _ rfl rfl (dx dX7_feed 9 rfl) kh8 (show some (vi (-2)) = some (vi (feedA z n)) ∧ (∃ v', Md h8 P k v' g (feedZ z n) κ τ) ∧ Lo k h h8 from by rw [fe.1, fe.2]; exact ⟨rfl, ⟨_, M.kp mh8 ph8 kh8⟩, Lo.fr (Fr.vc ph8) (Nat.le_refl _)⟩)
set_option maxHeartbeats 4000000 in
theorem c_X7_wipe {l : Launch} {h : Hp} {P : List Nat} {k z : Nat} {v : Vg} {g : Sg} {κ τ : Bool} (M : Md h P k v g z κ τ)  : Ms l yX7_wipe cX7_wipe 2 (some .int) 4 [vr 7 k] h (xK h) (fun r h' => r = some (vi (nI z)) ∧ (∃ v', Md h' P k v' g 0 κ τ) ∧ Lo k h h') := by
  refine Ms.of (by decide) (Nat.le_of_ble_eq_true rfl) (fun G C X F => ?_)
  have C : Cx G cX7_wipe 2 RX7 := C
  show Rr G 0 [(0, vr 7 k)] [] h
  have hm := M.1
  have hs := M.2.1
  have al := M.al
  have hk7 := M.hk
  have bP := hm.bP
  have bM := hm.bM
  have bN := hm.bN
  refine r_aload_n C (dx dX7_wipe 0 rfl) rfl ?_
  refine g_X7_138 (x := nI z) C (dx dX7_wipe 1 rfl) M.e8 ?_
  refine r_istore_n (ls' := [(0, vr 7 k), (1, vi (nI z))]) C (dx dX7_wipe 2 rfl) (by decide) [1, 0] rfl ?_
  refine r_aload_n C (dx dX7_wipe 3 rfl) rfl ?_
  refine r_iconst (v := nI 0) C (dx dX7_wipe 4 rfl) rfl ?_
  refine p_X7_138 C (dx dX7_wipe 5 rfl) rfl rfl ?_
  refine r_iload_n C (dx dX7_wipe 6 rfl) rfl ?_
  exact F.1 _ _ _ _ _ rfl rfl (dx dX7_wipe 7 rfl) rfl ⟨rfl, ⟨_, M.z0⟩, Lo.sI (Nat.le_refl _)⟩
theorem m_X7_row {l : Launch} {h : Hp} {P : List Nat} {k z : Nat} {v : Vg} {g : Sg} {κ τ : Bool} (M : Md h P k v g z κ τ) (s t n : Int32) : MdF l yX7_row cX7_row 5 (some .int) 4 [vr 7 k, vi s, vi t, vi n] h P k (rowG g s t n) z κ (fun r => r = some (vi (rowA s t n))) := MdF.ks M (c_X7_row M.1 M.2.1 s t n)
theorem m_X7_set {l : Launch} {h : Hp} {P : List Nat} {k z : Nat} {v : Vg} {g : Sg} {κ τ : Bool} (M : Md h P k v g z κ τ) (s i : Int32) (v9 : Int64) : MdF l yX7_set cX7_set 6 (some .int) 6 [vr 7 k, vi s, vi i, vl v9] h P k (setG g s i v9) z κ (fun r => r = some (vi (setA g s i))) := MdF.ks M (c_X7_set M.1 M.2.1 s i v9)
theorem m_X7_copy {l : Launch} {h : Hp} {P : List Nat} {k z : Nat} {v : Vg} {g : Sg} {κ τ : Bool} (M : Md h P k v g z κ τ) (p q i j n : Int32) : MdF l yX7_copy cX7_copy 7 (some .int) 4 [vr 7 k, vi p, vi q, vi i, vi j, vi n] h P k (copG g p q i j n) z κ (fun r => r = some (vi (copA g p q i j n))) := MdF.ks M (c_X7_copy M.1 M.2.1 p q i j n)
theorem m_X7_element {l : Launch} {h : Hp} {P : List Nat} {k z : Nat} {v : Vg} {g : Sg} {κ τ : Bool} (M : Md h P k v g z κ τ) (s i : Int32) : MdF l yX7_element cX7_element 3 (some .long) 5 [vr 7 k, vi s, vi i] h P k g z κ (fun r => r = some (vl (elV g s i))) := MdF.ks M (c_X7_element M.1 M.2.1 s i)
theorem m_X7_holds {l : Launch} {h : Hp} {P : List Nat} {k z : Nat} {v : Vg} {g : Sg} {κ τ : Bool} (M : Md h P k v g z κ τ) (s : Int32) : MdF l yX7_holds cX7_holds 2 (some .int) 5 [vr 7 k, vi s] h P k g z κ (fun r => r = some (vi (tOn g s))) := MdF.ks M (c_X7_holds M.1 M.2.1 s)
theorem m_X7_holding {l : Launch} {h : Hp} {P : List Nat} {k z : Nat} {v : Vg} {g : Sg} {κ τ : Bool} (M : Md h P k v g z κ τ) (s k9 a : Int32) : MdF l yX7_holding cX7_holding 4 (some .int) 4 [vr 7 k, vi s, vi k9, vi a] h P k (hldG g s k9 a) z κ (fun r => r = some (vi (hldA s k9 a))) := MdF.ks M (c_X7_holding M.1 M.2.1 s k9 a)
theorem m_X7_part {l : Launch} {h : Hp} {P : List Nat} {k z : Nat} {v : Vg} {g : Sg} {κ τ : Bool} (M : Md h P k v g z κ τ)  : MdF l yX7_part cX7_part 1 (some .int) 3 [vr 7 k] h P k g z κ PI := MdF.kp M (c_X7_part M.1 )
theorem m_X7_machine {l : Launch} {h : Hp} {P : List Nat} {k z : Nat} {v : Vg} {g : Sg} {κ τ : Bool} (M : Md h P k v g z κ τ) (x y : Int32) : MdF l yX7_machine cX7_machine 3 (some .int) 3 [vr 7 k, vi x, vi y] h P k g z κ PI := MdF.kp M (c_X7_machine M.1 x y)
theorem m_X7_one {l : Launch} {h : Hp} {P : List Nat} {k z : Nat} {v : Vg} {g : Sg} {κ τ : Bool} (M : Md h P k v g z κ τ) (x y : Int32) : MdF l yX7_one cX7_one 3 (some .int) 3 [vr 7 k, vi x, vi y] h P k g z κ PI := MdF.kp M (c_X7_one M.1 x y)
theorem m_X7_away {l : Launch} {h : Hp} {P : List Nat} {k z : Nat} {v : Vg} {g : Sg} {κ τ : Bool} (M : Md h P k v g z κ τ) (o1 y : Int32) : MdF l yX7_away cX7_away 4 (some .int) 4 [vr 7 k, vi o1, vi y] h P k g z κ PI := MdF.kp M (c_X7_away M.1 o1 y)
theorem m_X7_cross {l : Launch} {h : Hp} {P : List Nat} {k z : Nat} {v : Vg} {g : Sg} {κ τ : Bool} (M : Md h P k v g z κ τ) (o1 : Int32) (b : Bool) : MdF l yX7_cross cX7_cross 4 (some .int) 4 [vr 7 k, vi o1, vi (b2i b)] h P k g z κ PI := MdF.kp M (c_X7_cross M.1 o1 b)
theorem m_X7_give {l : Launch} {h : Hp} {P : List Nat} {k z : Nat} {v : Vg} {g : Sg} {κ τ : Bool} (M : Md h P k v g z κ τ) (p o1 : Int32) (b : Bool) : MdF l yX7_give cX7_give 6 (some .int) 4 [vr 7 k, vi p, vi o1, vi (b2i b)] h P k g z κ PI := MdF.kp M (c_X7_give M.1 p o1 b)
theorem m_X7_partOf {l : Launch} {h : Hp} {P : List Nat} {k z : Nat} {v : Vg} {g : Sg} {κ τ : Bool} (M : Md h P k v g z κ τ) (p x : Int32) : MdF l yX7_partOf cX7_partOf 3 (some .int) 4 [vr 7 k, vi p, vi x] h P k g z κ PI := MdF.kp M (c_X7_partOf M.1 p x)
theorem m_X7_machineOf {l : Launch} {h : Hp} {P : List Nat} {k z : Nat} {v : Vg} {g : Sg} {κ τ : Bool} (M : Md h P k v g z κ τ) (m x : Int32) : MdF l yX7_machineOf cX7_machineOf 3 (some .int) 4 [vr 7 k, vi m, vi x] h P k g z κ PI := MdF.kp M (c_X7_machineOf M.1 m x)
theorem m_X7_oneOf {l : Launch} {h : Hp} {P : List Nat} {k z : Nat} {v : Vg} {g : Sg} {κ τ : Bool} (M : Md h P k v g z κ τ) (o1 x : Int32) : MdF l yX7_oneOf cX7_oneOf 3 (some .int) 4 [vr 7 k, vi o1, vi x] h P k g z κ PI := MdF.kp M (c_X7_oneOf M.1 o1 x)
theorem m_X7_has {l : Launch} {h : Hp} {P : List Nat} {k z : Nat} {v : Vg} {g : Sg} {κ τ : Bool} (M : Md h P k v g z κ τ) (x : Int32) : MdF l yX7_has cX7_has 2 (some .int) 5 [vr 7 k, vi x] h P k g z κ PI := MdF.kp M (c_X7_has M.1 x)
theorem m_X7_works {l : Launch} {h : Hp} {P : List Nat} {k z : Nat} {v : Vg} {g : Sg} {κ τ : Bool} (M : Md h P k v g z κ τ) (m x : Int32) : MdF l yX7_works cX7_works 3 (some .int) 5 [vr 7 k, vi m, vi x] h P k g z κ PI := MdF.kp M (c_X7_works M.1 m x)
theorem m_X7_both {l : Launch} {h : Hp} {P : List Nat} {k z : Nat} {v : Vg} {g : Sg} {κ τ : Bool} (M : Md h P k v g z κ τ) (m n x : Int32) : MdF l yX7_both cX7_both 4 (some .int) 6 [vr 7 k, vi m, vi n, vi x] h P k g z κ PI := MdF.kp M (c_X7_both M.1 m n x)
theorem m_X7_odds {l : Launch} {h : Hp} {P : List Nat} {k z : Nat} {v : Vg} {g : Sg} {κ τ : Bool} (M : Md h P k v g z κ τ) (m : Int32) : MdF l yX7_odds cX7_odds 2 (some .long) 8 [vr 7 k, vi m] h P k g z κ PL := MdF.kp M (c_X7_odds M.1 m)
theorem m_X7_atOnce {l : Launch} {h : Hp} {P : List Nat} {k z : Nat} {v : Vg} {g : Sg} {κ τ : Bool} (M : Md h P k v g z κ τ) (m n : Int32) : MdF l yX7_atOnce cX7_atOnce 3 (some .long) 8 [vr 7 k, vi m, vi n] h P k g z κ PL := MdF.kp M (c_X7_atOnce M.1 m n)
theorem m_X7_day {l : Launch} {h : Hp} {P : List Nat} {k z : Nat} {v : Vg} {g : Sg} {κ τ : Bool} (M : Md h P k v g z κ τ)  : MdF l yX7_day cX7_day 8 (some .long) 3 [vr 7 k] h P k g z κ PL := MdF.kp M ((c_X7_day M.1 ).mono (fun r h' ⟨q, e⟩ _ => ⟨q, ⟨v, by rw [e]; exact M.1⟩, by rw [e]; exact Kp.rf⟩))
theorem m_X7_power {l : Launch} {h : Hp} {P : List Nat} {k z : Nat} {v : Vg} {g : Sg} {κ τ : Bool} (M : Md h P k v g z κ τ) (m o1 : Int32) : MdF l yX7_power cX7_power 3 (some .int) 8 [vr 7 k, vi m, vi o1] h P k g z κ PI := MdF.kp M (c_X7_power M.1 m o1)
theorem m_X7_first {l : Launch} {h : Hp} {P : List Nat} {k z : Nat} {v : Vg} {g : Sg} {κ τ : Bool} (M : Md h P k v g z κ τ)  : MdF l yX7_first cX7_first 6 (some .int) 8 [vr 7 k] h P k g z κ PI := MdF.kp M (c_X7_first M.1 )
theorem m_X7_lay {l : Launch} {h : Hp} {P : List Nat} {k z : Nat} {v : Vg} {g : Sg} {κ τ : Bool} (M : Md h P k v g z κ τ) (s : Int32) : MdF l yX7_lay cX7_lay 3 (some .int) 10 [vr 7 k, vi s] h P k g z κ PI := MdF.kp M (c_X7_lay M.1 M.2.1 s)
theorem m_X7_bears {l : Launch} {h : Hp} {P : List Nat} {k z : Nat} {v : Vg} {g : Sg} {κ τ : Bool} (M : Md h P k v g z κ τ) (m : Int32) : MdF l yX7_bears cX7_bears 3 (some .int) 8 [vr 7 k, vi m] h P k g z κ PI := MdF.kp M (c_X7_bears M.1 m)
theorem m_X7_harms {l : Launch} {h : Hp} {P : List Nat} {k z : Nat} {v : Vg} {g : Sg} {κ τ : Bool} (M : Md h P k v g z κ τ)  : MdF l yX7_harms cX7_harms 7 (some .int) 8 [vr 7 k] h P k g z κ PI := MdF.kp M (c_X7_harms M.1 )
theorem m_X7_least {l : Launch} {h : Hp} {P : List Nat} {k z : Nat} {v : Vg} {g : Sg} {κ τ : Bool} (M : Md h P k v g z κ τ)  : MdF l yX7_least cX7_least 3 (some .int) 8 [vr 7 k] h P k g z κ PI := MdF.kp M (c_X7_least M.1 )
theorem m_X7_stolen {l : Launch} {h : Hp} {P : List Nat} {k z : Nat} {v : Vg} {g : Sg} {κ τ : Bool} (M : Md h P k v g z κ τ)  : MdF l yX7_stolen cX7_stolen 3 (some .int) 8 [vr 7 k] h P k g z κ PI := MdF.kp M (c_X7_stolen M.1 )
theorem m_X7_spare {l : Launch} {h : Hp} {P : List Nat} {k z : Nat} {v : Vg} {g : Sg} {κ τ : Bool} (M : Md h P k v g z κ τ)  : MdF l yX7_spare cX7_spare 8 (some .int) 8 [vr 7 k] h P k g z κ PI := MdF.kp M (c_X7_spare M.1 )
theorem m_X7_gift {l : Launch} {h : Hp} {P : List Nat} {k z : Nat} {v : Vg} {g : Sg} {κ τ : Bool} (M : Md h P k v g z κ τ) (p o1 : Int32) : MdF l yX7_gift cX7_gift 8 (some .long) 8 [vr 7 k, vi p, vi o1] h P k g z κ PL := MdF.kp M (c_X7_gift M.1 p o1)
theorem m_X7_never {l : Launch} {h : Hp} {P : List Nat} {k z : Nat} {v : Vg} {g : Sg} {κ τ : Bool} (M : Md h P k v g z κ τ) (b : Bool) : MdF l yX7_never cX7_never 4 (some .int) 8 [vr 7 k, vi (b2i b)] h P k g z κ PI := MdF.kp M (c_X7_never M.1 b)
theorem m_X7_with {l : Launch} {h : Hp} {P : List Nat} {k z : Nat} {v : Vg} {g : Sg} {κ τ : Bool} (M : Md h P k v g z κ τ) (m : Int32) : MdF l yX7_with cX7_with 4 (some .int) 8 [vr 7 k, vi m] h P k g z κ PI := MdF.kp M (c_X7_with M.1 m)
theorem m_X7_safe {l : Launch} {h : Hp} {P : List Nat} {k z : Nat} {v : Vg} {g : Sg} {κ τ : Bool} (M : Md h P k v g z κ τ) (x : Int32) : MdF l yX7_safe cX7_safe 4 (some .int) 8 [vr 7 k, vi x] h P k g z κ PI := MdF.kp M (c_X7_safe M.1 x)
theorem m_X7_alone {l : Launch} {h : Hp} {P : List Nat} {k z : Nat} {v : Vg} {g : Sg} {κ τ : Bool} (M : Md h P k v g z κ τ) (o1 : Int32) : MdF l yX7_alone cX7_alone 4 (some .int) 8 [vr 7 k, vi o1] h P k g z κ PI := MdF.kp M (c_X7_alone M.1 o1)
theorem m_X7_key {l : Launch} {h : Hp} {P : List Nat} {k z : Nat} {v : Vg} {g : Sg} {κ τ : Bool} (M : Md h P k v g z κ τ)  : MdF l yX7_key cX7_key 7 (some .int) 8 [vr 7 k] h P k g z κ PI := MdF.kp M (c_X7_key M.1 )
theorem m_X7_idle {l : Launch} {h : Hp} {P : List Nat} {k z : Nat} {v : Vg} {g : Sg} {κ τ : Bool} (M : Md h P k v g z κ τ)  : MdF l yX7_idle cX7_idle 5 (some .int) 8 [vr 7 k] h P k g z κ PI := MdF.kp M (c_X7_idle M.1 )
theorem m_X7_room {l : Launch} {h : Hp} {P : List Nat} {k z : Nat} {v : Vg} {g : Sg} {κ τ : Bool} (M : Md h P k v g z κ τ)  : MdF l yX7_room cX7_room 3 (some .int) 8 [vr 7 k] h P k g z κ PI := MdF.kp M (c_X7_room M.1 )
theorem m_X7_swap {l : Launch} {h : Hp} {P : List Nat} {k z : Nat} {v : Vg} {g : Sg} {κ τ : Bool} (M : Md h P k v g z κ τ) (p q : Int32) : MdF l yX7_swap cX7_swap 4 (some .int) 8 [vr 7 k, vi p, vi q] h P k g z κ PI := MdF.kp M (c_X7_swap M.1 p q)
theorem m_X7_judge {l : Launch} {h : Hp} {P : List Nat} {k z : Nat} {v : Vg} {g : Sg} {κ τ : Bool} (M : Md h P k v g z κ τ) (m s n : Int32) : MdF l yX7_judge cX7_judge 6 (some .int) 8 [vr 7 k, vi m, vi s, vi n] h P k g z κ PI := MdF.kp M (c_X7_judge M.1 M.2.1 m s n)
theorem m_X7_told {l : Launch} {h : Hp} {P : List Nat} {k z : Nat} {v : Vg} {g : Sg} {κ τ : Bool} (M : Md h P k v g z κ τ) (s n : Int32) : MdF l yX7_told cX7_told 7 (some .int) 8 [vr 7 k, vi s, vi n] h P k g z κ PI := MdF.kp M (c_X7_told M.1 M.2.1 s n)
theorem m_X7_days {l : Launch} {h : Hp} {P : List Nat} {k z : Nat} {v : Vg} {g : Sg} {κ τ : Bool} (M : Md h P k v g z κ τ) (n : Int32) : MdF l yX7_days cX7_days 4 (some .int) 8 [vr 7 k, vi n] h P k g z κ PI := MdF.kp M (c_X7_days M.1 n)
theorem m_X7_seed {l : Launch} {h : Hp} {P : List Nat} {k z : Nat} {v : Vg} {g : Sg} {κ τ : Bool} (M : Md h P k v g z κ τ) (x : Int32) : MdF l yX7_seed cX7_seed 3 (some .int) 8 [vr 7 k, vi x] h P k g z κ PI := MdF.kp M (c_X7_seed M.1 x)
theorem m_X7_status {l : Launch} {h : Hp} {P : List Nat} {k z : Nat} {v : Vg} {g : Sg} {κ τ : Bool} (M : Md h P k v g z κ τ) (x : Int32) : MdF l yX7_status cX7_status 4 (some .int) 8 [vr 7 k, vi x] h P k g z κ PI := MdF.kp M (c_X7_status M.1 x)
theorem m_X7_says {l : Launch} {h : Hp} {P : List Nat} {k z : Nat} {v : Vg} {g : Sg} {κ τ : Bool} (M : Md h P k v g z κ τ) (s x : Int32) : MdF l yX7_says cX7_says 3 (some .int) 10 [vr 7 k, vi s, vi x] h P k g z κ PI := by
  by_cases q : ∃ σ η β, σ < 8 ∧ s = nI σ ∧ (1 ≤ η ∧ η ≤ 5) ∧ β < 100 ∧ gT g σ = nI (10 + η) ∧ gY g σ = nI β ∧ inR x 6 = true ∧ undV (nI η) x = true ∧ ¬ x = 0
  · obtain ⟨σ, η, β, hσ, rfl, hη, hβ, eT, eY, hq, hu, h0⟩ := q
    exact MdF.md M (c_X7_says_y M hσ hη hβ eT eY hq hu h0)
  · exact MdF.kp M (c_X7_says_n M.1 M.2.1 s x q)
theorem m_X7_feed {l : Launch} {h : Hp} {P : List Nat} {k z : Nat} {v : Vg} {g : Sg} {κ τ : Bool} (M : Md h P k v g z κ τ) (x n : Int32) : MdF l yX7_feed cX7_feed 4 (some .int) 4 [vr 7 k, vi x, vi n] h P k g (feedZ z n) κ (fun r => r = some (vi (feedA z n))) := MdF.sm M (c_X7_feed M x n)
theorem m_X7_wipe {l : Launch} {h : Hp} {P : List Nat} {k z : Nat} {v : Vg} {g : Sg} {κ τ : Bool} (M : Md h P k v g z κ τ)  : MdF l yX7_wipe cX7_wipe 2 (some .int) 4 [vr 7 k] h P k g 0 κ (fun r => r = some (vi (nI z))) := MdF.sm M (c_X7_wipe M)
theorem m_X7_village {l : Launch} {h : Hp} {P : List Nat} {k z : Nat} {v : Vg} {g : Sg} {κ τ : Bool} (M : Md h P k v g z κ τ)  : MdF l yX7_village cX7_village 3 (some .int) 12 [vr 7 k] h P k g 0 κ PI := MdF.md M (c_X7_village_y M)
theorem m_X7_would {l : Launch} {h : Hp} {P : List Nat} {k z : Nat} {v : Vg} {g : Sg} {κ τ : Bool} (M : Md h P k v g z κ τ) (s : Int32) : MdF l yX7_would cX7_would 3 (some .long) 11 [vr 7 k, vi s] h P k g z κ PL := by
  by_cases q : nhA g s = 0
  · obtain ⟨σ, hσ, rfl, η, β, h1, h2, h3, -, -, -, eT, eY⟩ := nh_ok M.2.1 q
    exact MdF.md M (c_X7_would_y M hσ ⟨h1, h2⟩ h3 eT eY)
  · exact MdF.kp M (c_X7_would_n M.1 M.2.1 s q)
theorem m_X7_head {l : Launch} {h : Hp} {P : List Nat} {k z : Nat} {v : Vg} {g : Sg} {κ τ : Bool} (M : Md h P k v g z κ τ)  : MdF l yX7_head cX7_head 7 (some .int) 11 [vr 7 k] h P k g z κ PI := ⟨τ || hdB g 8, by rw [M.al]; exact AL_pre id (fun q => by rw [q]; rfl), c_X7_head M⟩
theorem m_X7_best {l : Launch} {h : Hp} {P : List Nat} {k z : Nat} {v : Vg} {g : Sg} {κ τ : Bool} (M : Md h P k v g z κ τ) (x : Int32) : MdF l yX7_best cX7_best 2 (some .int) 17 [vr 7 k, vi x] h P k g z κ PI := by
  by_cases q : inR x (vP v) = true ∧ vN v ≤ 4 ∧ vP v ≤ 6
  · obtain ⟨q1, q2, q3⟩ := q
    obtain ⟨j, hj, rfl⟩ := inR_ex (by omega) q1
    exact MdF.md M (c_X7_best_y M hj q2 q3)
  · exact MdF.kp M (c_X7_best_n M.1 M.2.1 x (fun c => by
      rcases Nat.lt_or_ge 4 (vN v) with z | z
      · exact Or.inl z
      · exact Or.inr (Nat.lt_of_not_le (fun y => q ⟨c, z, y⟩))))
theorem m_X7_bestDay {l : Launch} {h : Hp} {P : List Nat} {k z : Nat} {v : Vg} {g : Sg} {κ τ : Bool} (M : Md h P k v g z κ τ)  : MdF l yX7_bestDay cX7_bestDay 1 (some .long) 17 [vr 7 k] h P k g z κ PL := by
  by_cases q : vN v ≤ 4 ∧ vP v ≤ 6
  · exact MdF.md M (c_X7_bestDay_y M q.1 q.2)
  · exact MdF.kp M (c_X7_bestDay_n M.1 M.2.1 (by omega))
theorem m_X7_trust {l : Launch} {h : Hp} {P : List Nat} {k z : Nat} {v : Vg} {g : Sg} {κ τ : Bool} (M : Md h P k v g z κ τ) (o1 o2 : Int32) : MdF l yX7_trust cX7_trust 5 (some .long) 5 [vr 7 k, vi o1, vi o2] h P k g z κ PL := by
  by_cases q : inR o1 (vN v) = true ∧ inR o2 (vN v) = true ∧ ¬ o1 = o2
  · exact MdF.md M (c_X7_trust_y M q.1 q.2.1 q.2.2)
  · exact MdF.kp M (c_X7_trust_n M.1 M.2.1 o1 o2 q)
theorem m_X7_image {l : Launch} {h : Hp} {P : List Nat} {k z : Nat} {v : Vg} {g : Sg} {κ τ : Bool} (M : Md h P k v g z κ τ)  : MdF l yX7_image cX7_image 1 (some .int) 3 [vr 7 k] h P k g z true (fun r => r = some (vi (nI 1))) := ⟨τ, by rw [M.al]; exact AL_pre (fun _ => rfl) id, (c_X7_image M).mono (fun r h' ⟨q, m, lo⟩ _ => ⟨q, ⟨v, m⟩, lo⟩)⟩
theorem m_X7_back {l : Launch} {h : Hp} {P : List Nat} {k z : Nat} {v : Vg} {g : Sg} {κ τ : Bool} (M : Md h P k v g z κ τ)  : MdF l yX7_back cX7_back 1 (some .int) 3 [vr 7 k] h P k g z κ (fun r => r = some (vi (if κ then nI 1 else -5))) := MdF.sm M (c_X7_back M)
