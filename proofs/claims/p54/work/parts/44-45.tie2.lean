section
/-! PART 49: the reference, exactly: statements read -/
theorem le99n {n : Nat} (h : n ≤ 12) : ¬ nI 99 < nI n - nI 1 := le99 ⟨n, by omega⟩
theorem stp_ge {B : Nat → Int32} {z a : Nat} (h : a ≤ z) : a ≤ (stp B z a).2.1 := by
  have := (enO_le (γ := 0) (B := B) (z := z) (p := a) h).1
  unfold stp
  split
  · exact this
  · split
    · exact this
    · split
      · exact this
      · exact this
theorem nm_adv {B : Nat → Int32} {z a : Nat} {lo hi : Int32} (ha : a ≤ z) (h : ¬ nmQ B z (stp B z a) lo hi = -1) : a + 1 ≤ (stp B z a).2.2 := by
  have h1 := stp_ge (B := B) ha
  have ht : (stp B z a).1 = 1 := by
    unfold nmQ nmV at h
    split at h
    · next c => exact c.1
    · exact absurd rfl h
  have h2 := (stp_dg (B := B) (z := z) (a := a) (t := (stp B z a).1) (s := (stp B z a).2.1) (e := (stp B z a).2.2) rfl ht).1
  omega
theorem TlP.f {h h' : Hp} {k z i : Nat} {B : Nat → Int32} {q : Tkn} {v : Vg} {lo hi : Int32} (g : TlP h h' k z B i q v lo hi false) : (wdB i B z q.1 q.2.1 q.2.2 = false ∧ Px h h' k z B q v ∧ xI h' k 27 = nI q.2.1) ∨ (wdB i B z q.1 q.2.1 q.2.2 = true ∧ nmQ B z (stp B z q.2.2) lo hi = -1 ∧ Px h h' k z B (stp B z q.2.2) v ∧ xI h' k 27 = nI (stp B z q.2.2).2.1) := by
  unfold TlP at g
  split at g
  · next c => exact Or.inr ⟨c, g.f⟩
  · next c => exact Or.inl ⟨by simpa using c, g.2⟩
theorem TlP.pre {h0 h h' : Hp} {k z i : Nat} {B : Nat → Int32} {q q0 : Tkn} {v v0 : Vg} {lo hi : Int32} {b : Bool} (p : Px h0 h k z B q0 v0) (g : TlP h h' k z B i q v lo hi b) : TlP h0 h' k z B i q v lo hi b := by
  unfold TlP at g ⊢
  split
  · next c => rw [if_pos c] at g; exact NmP.pre p g
  · next c => rw [if_neg c] at g; exact ⟨g.1, p.tr g.2.1, g.2.2⟩
/-- behind a part that is told: another, or the end -/
def anR (B : Nat → Int32) (z : Nat) (v : Vg) (f : Nat) (q : Tkn) (nd : Int32) : Bool × Tkn × Int32 := if wdB 5 B z q.1 q.2.1 q.2.2 = true then ndR B z v f q nd else (true, q, nd)
section Mc
variable {B : Nat → Int32} {z f : Nat} {v : Vg} {q q1 : Tkn} {nd w : Int32}
theorem nd_f (h : nmQ B z (stp B z q.2.2) (nI 0) (nI (vP v) - nI 1) = -1) : ndR B z v (f + 1) q nd = (false, stp B z q.2.2, nd) := by simp only [ndR]; rw [if_pos h]
theorem nd_s (h : ¬ nmQ B z (stp B z q.2.2) (nI 0) (nI (vP v) - nI 1) = -1) : ndR B z v (f + 1) q nd = anR B z v f (stp B z (stp B z q.2.2).2.2) (nd ||| (nI 1 <<< (nmQ B z (stp B z q.2.2) (nI 0) (nI (vP v) - nI 1) &&& 31))) := by
  simp only [ndR]; rw [if_neg h]; rfl
theorem nd_1 (h : ¬ nmQ B z (stp B z q.2.2) (nI 0) (nI (vP v) - nI 1) = -1) : ndR B z v (f + 1) q (nI 0) = anR B z v f (stp B z (stp B z q.2.2).2.2) (nI 1 <<< (nmQ B z (stp B z q.2.2) (nI 0) (nI (vP v) - nI 1) &&& 31)) := by
  rw [nd_s h]; congr 1; rw [nI_0, Int32.zero_or]
theorem an_0 (h : wdB 5 B z q.1 q.2.1 q.2.2 = false) : anR B z v f q nd = (true, q, nd) := by unfold anR; rw [if_neg (by rw [h]; decide)]
theorem an_1 (h : wdB 5 B z q.1 q.2.1 q.2.2 = true) : anR B z v f q nd = ndR B z v f q nd := by unfold anR; rw [if_pos h]
theorem mc_f1 (h6 : vM v < 6) (h : nmQ B z (stp B z q.2.2) (nI 1) (nI 99) = -1) : mcW B z q v = (false, stp B z q.2.2, v) := by unfold mcW; rw [if_pos h6, if_pos h]
theorem mc_f2 (h6 : vM v < 6) (h : ¬ nmQ B z (stp B z q.2.2) (nI 1) (nI 99) = -1) (hw : wdB 4 B z (stp B z (stp B z q.2.2).2.2).1 (stp B z (stp B z q.2.2).2.2).2.1 (stp B z (stp B z q.2.2).2.2).2.2 = false) : mcW B z q v = (false, stp B z (stp B z q.2.2).2.2, v) := by unfold mcW; rw [if_pos h6, if_neg h, if_neg (by rw [hw]; decide)]
theorem mc_l0 (h6 : vM v < 6) (h : ¬ nmQ B z (stp B z q.2.2) (nI 1) (nI 99) = -1) (hw : wdB 4 B z (stp B z (stp B z q.2.2).2.2).1 (stp B z (stp B z q.2.2).2.2).2.1 (stp B z (stp B z q.2.2).2.2).2.2 = true) (hm : mcR B z q.2.2 v = (false, q1, nd)) : mcW B z q v = (false, q1, v) := by unfold mcW; rw [if_pos h6, if_neg h, if_pos hw, hm]; exact if_neg (show ¬ (false = true) by decide)
theorem mc_l (h6 : vM v < 6) (h : ¬ nmQ B z (stp B z q.2.2) (nI 1) (nI 99) = -1) (hw : wdB 4 B z (stp B z (stp B z q.2.2).2.2).1 (stp B z (stp B z q.2.2).2.2).2.1 (stp B z (stp B z q.2.2).2.2).2.2 = true) (hm : mcR B z q.2.2 v = (true, q1, nd)) : mcW B z q v = (true, q1, addMacV v nd (nmQ B z (stp B z q.2.2) (nI 1) (nI 99))) := by unfold mcW; rw [if_pos h6, if_neg h, if_pos hw, hm]; exact if_pos rfl
theorem mac_eq : vset (vsM (vset v 3 (vM v) w) (vM v + 1)) 2 (vM v) nd = addMacV v nd w := by
  refine vg_ext rfl rfl rfl (fun c i => ?_) rfl
  simp only [addMacV, vset, vsM, vF, vM]
  by_cases h2 : c = 2
  · subst h2; simp
  · simp [h2]
end Mc
set_option maxHeartbeats 4000000 in
theorem e_machineTold {l : Launch} {h : Hp} {k z t s e : Nat} {B : Nat → Int32} {v : Vg} (p : Px h h k z B (t, s, e) v) (h6 : vM v < 6) (hw : wdB 3 B z t s e = true) : Ms l yX7_machineTold cX7_machineTold 2 (some .boolean) 7 [vr 7 k] h (xK h) (fun r h' => ∃ b, r = some (vi (b2i b)) ∧ RdP h h' k z B (mcW B z (t, s, e) v) b) := by
  refine Ms.of (by decide) (Nat.le_of_ble_eq_true rfl) (fun G C X F => ?_)
  have C : Cx G cX7_machineTold 2 RX7 := C
  show Rr G 0 [(0, vr 7 k)] [] h
  have se := p.se
  have ez := p.ez
  have bz := p.bz
  have bP := p.m.bP
  have bM := p.m.bM
  have bN := p.m.bN
  have t5 : tkm t < 5 := by unfold tkm; split <;> omega
  refine r_aload_n C (dx dX7_machineTold 0 rfl) rfl ?_
  refine r_ldcS C 13 rfl (dx dX7_machineTold 1 rfl) ?_
  refine r_iconst (v := nI 1) C (dx dX7_machineTold 2 rfl) rfl ?_
  refine r_bipush (v := nI 99) C (dx dX7_machineTold 3 rfl) rfl ?_
  refine r_cv (as := [vt 1003, vi (nI 1), vi (nI 99)]) (st := []) C X I_X7_tells l_X7_206 (e_tells p.slf (i := 3) (by decide) (nI 1) (nI 99) (by decide)) (by decide) (Nat.le_of_ble_eq_true rfl) List.prefix_rfl (pfx_eq p.kk) rfl rfl (Nat.le_of_ble_eq_true rfl) rfl (dx dX7_machineTold 4 rfl) ?_
  rintro _ h1 ⟨bh1, rfl, gh1⟩ kkh1
  have kh1 : xK h1 = xK h := kkh1.trans p.kk
  have gh1 := TlP.pre p gh1
  refine rb_ne (b := bh1) (tgt := 14) C (dx dX7_machineTold 5 rfl) (by decide) (fun c2 => ?_) (fun c2 => ?_)
  ·
    have c2 : bh1 = true := c2
    rw [c2] at gh1
    obtain ⟨wrbh1, grbh1⟩ := TlP.t gh1
    obtain ⟨nnrbh1, prbh1, erbh1⟩ := NmP.t grbh1
    have prbh1 : Px h h1 k z B ((stp B z (stp B z e).2.2).1, (stp B z (stp B z e).2.2).2.1, (stp B z (stp B z e).2.2).2.2) v := prbh1
    have serbh1 := Px.se (t := (stp B z (stp B z e).2.2).1) (s := (stp B z (stp B z e).2.2).2.1) (e := (stp B z (stp B z e).2.2).2.2) prbh1
    have ezrbh1 := Px.ez (t := (stp B z (stp B z e).2.2).1) (s := (stp B z (stp B z e).2.2).2.1) (e := (stp B z (stp B z e).2.2).2.2) prbh1
    have adrbh1 := nm_adv (B := B) (a := e) (by omega) nnrbh1
    have gerbh1 := stp_ge (B := B) (z := z) (a := (stp B z e).2.2) (stp_le (B := B) (z := z) (e := e) (by omega)).2
    refine r_aload_n C (dx dX7_machineTold 8 rfl) rfl ?_
    refine g_X7_49 C (dx dX7_machineTold 9 rfl) ?_
    refine r_aload_n C (dx dX7_machineTold 10 rfl) rfl ?_
    refine g_X7_71 (x := nI (vM v)) C (dx dX7_machineTold 11 rfl) prbh1.m.eM ?_
    refine r_aload_n C (dx dX7_machineTold 12 rfl) rfl ?_
    refine g_X7_181 (x := nmQ B z (stp B z e) (nI 1) (nI 99)) C (dx dX7_machineTold 13 rfl) erbh1 ?_
    refine r_iast (j := vM v) C rfl rfl (by decide) rfl (by omega) (dx dX7_machineTold 14 rfl) ?_
    have ph3 : Px h (sI h1 (k + 21) (vM v) (nmQ B z (stp B z e) (nI 1) (nI 99))) k z B ((stp B z (stp B z e).2.2).1, (stp B z (stp B z e).2.2).2.1, (stp B z (stp B z e).2.2).2.2) (vset v 3 (vM v) (nmQ B z (stp B z e) (nI 1) (nI 99))) := prbh1.c (prbh1.m.s3) (by omega) (by omega)
    generalize sI h1 (k + 21) (vM v) (nmQ B z (stp B z e) (nI 1) (nI 99)) = h3 at ph3 ⊢
    refine r_aload_n C (dx dX7_machineTold 15 rfl) rfl ?_
    refine r_ldcS C 14 rfl (dx dX7_machineTold 16 rfl) ?_
    refine r_iconst (v := nI 0) C (dx dX7_machineTold 17 rfl) rfl ?_
    refine r_aload_n C (dx dX7_machineTold 18 rfl) rfl ?_
    refine g_X7_64 (x := nI (vP v)) C (dx dX7_machineTold 19 rfl) ph3.m.eP ?_
    refine r_iconst (v := nI 1) C (dx dX7_machineTold 20 rfl) rfl ?_
    refine r_isub C (dx dX7_machineTold 21 rfl) ?_
    refine r_cv (as := [vt 1004, vi (nI 0), vi ((nI (vP v)) - (nI 1))]) (st := []) C X I_X7_tells l_X7_206 (e_tells ph3.slf (i := 4) (by decide) (nI 0) ((nI (vP v)) - (nI 1)) (le99n (by omega))) (by decide) (Nat.le_of_ble_eq_true rfl) List.prefix_rfl (pfx_eq ph3.kk) rfl rfl (Nat.le_of_ble_eq_true rfl) rfl (dx dX7_machineTold 22 rfl) ?_
    rintro _ h4 ⟨bh4, rfl, gh4⟩ kkh4
    have kh4 : xK h4 = xK h := kkh4.trans ph3.kk
    have gh4 := TlP.pre ph3 gh4
    refine rb_ne (b := bh4) (tgt := 45) C (dx dX7_machineTold 23 rfl) (by decide) (fun c5 => ?_) (fun c5 => ?_)
    ·
      have c5 : bh4 = true := c5
      rw [c5] at gh4
      obtain ⟨wrbh4, grbh4⟩ := TlP.t gh4
      obtain ⟨nnrbh4, prbh4, erbh4⟩ := NmP.t grbh4
      have prbh4 : Px h h4 k z B ((stp B z (stp B z ((stp B z (stp B z e).2.2).2.2)).2.2).1, (stp B z (stp B z ((stp B z (stp B z e).2.2).2.2)).2.2).2.1, (stp B z (stp B z ((stp B z (stp B z e).2.2).2.2)).2.2).2.2) (vset v 3 (vM v) (nmQ B z (stp B z e) (nI 1) (nI 99))) := prbh4
      have serbh4 := Px.se (t := (stp B z (stp B z ((stp B z (stp B z e).2.2).2.2)).2.2).1) (s := (stp B z (stp B z ((stp B z (stp B z e).2.2).2.2)).2.2).2.1) (e := (stp B z (stp B z ((stp B z (stp B z e).2.2).2.2)).2.2).2.2) prbh4
      have ezrbh4 := Px.ez (t := (stp B z (stp B z ((stp B z (stp B z e).2.2).2.2)).2.2).1) (s := (stp B z (stp B z ((stp B z (stp B z e).2.2).2.2)).2.2).2.1) (e := (stp B z (stp B z ((stp B z (stp B z e).2.2).2.2)).2.2).2.2) prbh4
      have adrbh4 := nm_adv (B := B) (a := (stp B z (stp B z e).2.2).2.2) (by omega) nnrbh4
      have gerbh4 := stp_ge (B := B) (z := z) (a := (stp B z ((stp B z (stp B z e).2.2).2.2)).2.2) (stp_le (B := B) (z := z) (e := (stp B z (stp B z e).2.2).2.2) (by omega)).2
      refine r_iconst (v := nI 1) C (dx dX7_machineTold 26 rfl) rfl ?_
      refine r_aload_n C (dx dX7_machineTold 27 rfl) rfl ?_
      refine g_X7_181 (x := nmQ B z (stp B z ((stp B z (stp B z e).2.2).2.2)) (nI 0) ((nI (vP v)) - (nI 1))) C (dx dX7_machineTold 28 rfl) erbh4 ?_
      refine r_ishl C (dx dX7_machineTold 29 rfl) ?_
      refine r_istore_n (ls' := [(0, vr 7 k), (1, vi ((nI 1) <<< ((nmQ B z (stp B z ((stp B z (stp B z e).2.2).2.2)) (nI 0) ((nI (vP v)) - (nI 1))) &&& 31)))]) C (dx dX7_machineTold 30 rfl) (by decide) [1, 0] rfl ?_
      have key : ∀ (f : Nat) (gh : Hp) (q9 : Tkn) (y9 : Int32), Px h gh k z B q9 (vset v 3 (vM v) (nmQ B z (stp B z e) (nI 1) (nI 99))) → z + 1 ≤ f + q9.2.2 → TkR B z q9 → mcR B z e v = anR B z v f q9 y9 → Rr G 52 [(0, vr 7 k), (1, vi y9)] [] gh := by
        intro f
        induction f with
        | zero => intro gh q9 y9 pg lf tk9 hM; exact absurd (Px.ez (t := q9.1) (s := q9.2.1) (e := q9.2.2) pg) (by omega)
        | succ f ih => _
        intro gh q9 y9 pg lf tk9 hM
        have se9 := Px.se (t := q9.1) (s := q9.2.1) (e := q9.2.2) pg
        have ez9 := Px.ez (t := q9.1) (s := q9.2.1) (e := q9.2.2) pg
        have pg : Px h gh k z B (q9.1, q9.2.1, q9.2.2) (vset v 3 (vM v) (nmQ B z (stp B z e) (nI 1) (nI 99))) := pg
        refine r_aload_n C (dx dX7_machineTold 31 rfl) rfl ?_
        refine r_ldcS C 15 rfl (dx dX7_machineTold 32 rfl) ?_
        refine r_cvP (as := [vt 1005]) (st := []) (v := vi (b2i (wdB 5 B z q9.1 q9.2.1 q9.2.2))) C X I_X7_isWord l_X7_187 (e_isWord pg.slf (i := 5) (by decide)) (by decide) (Nat.le_of_ble_eq_true rfl) (pfx_eq pg.kk) rfl rfl (Nat.le_of_ble_eq_true rfl) rfl (dx dX7_machineTold 33 rfl) ?_
        refine rb_eq (b := wdB 5 B z q9.1 q9.2.1 q9.2.2) (tgt := 91) C (dx dX7_machineTold 34 rfl) (by decide) (fun c6 => ?_) (fun c6 => ?_)
        ·
          have c6 : (wdB 5 B z q9.1 q9.2.1 q9.2.2) = false := c6
          refine r_aload_n C (dx dX7_machineTold 54 rfl) rfl ?_
          refine g_X7_46 C (dx dX7_machineTold 55 rfl) ?_
          refine r_aload_n C (dx dX7_machineTold 56 rfl) rfl ?_
          refine r_dupR C (dx dX7_machineTold 57 rfl) ?_
          refine g_X7_71 (x := nI (vM v)) C (dx dX7_machineTold 58 rfl) pg.m.eM ?_
          refine r_dup_x1 C (dx dX7_machineTold 59 rfl) ?_
          refine r_iconst (v := nI 1) C (dx dX7_machineTold 60 rfl) rfl ?_
          refine rn_iadd (a := vM v) (b := 1) C (dx dX7_machineTold 61 rfl) ?_
          refine p_X7_71 C (dx dX7_machineTold 62 rfl) rfl rfl ?_
          have ph7 : Px h (sI gh k 13 (nI (vM v + 1))) k z B (q9.1, q9.2.1, q9.2.2) (vsM (vset v 3 (vM v) (nmQ B z (stp B z e) (nI 1) (nI 99))) (vM v + 1)) := pg.fd (pg.m.sM (n := vM v + 1) (by omega)) (by decide) (by decide) (by decide) (by decide) (by decide)
          generalize sI gh k 13 (nI (vM v + 1)) = h7 at ph7 ⊢
          refine r_iload_n C (dx dX7_machineTold 63 rfl) rfl ?_
          refine r_iast (j := vM v) C rfl rfl (by decide) rfl (by omega) (dx dX7_machineTold 64 rfl) ?_
          have ph8 : Px h (sI h7 (k + 20) (vM v) y9) k z B (q9.1, q9.2.1, q9.2.2) (vset (vsM (vset v 3 (vM v) (nmQ B z (stp B z e) (nI 1) (nI 99))) (vM v + 1)) 2 (vM v) y9) := ph7.c (ph7.m.s2) (by omega) (by omega)
          generalize sI h7 (k + 20) (vM v) y9 = h8 at ph8 ⊢
          refine r_iconst (v := nI 1) C (dx dX7_machineTold 65 rfl) rfl ?_
          exact F.1 _ _ _ _ .boolean rfl rfl (dx dX7_machineTold 66 rfl) ph8.kk ⟨true, rfl, (show RdP h h8 k z B (mcW B z (t, s, e) v) true from RdP.t (mc_l h6 nnrbh1 wrbh4 (hM.trans (an_0 c6))) (mac_eq ▸ ph8))⟩
        ·
          have c6 : (wdB 5 B z q9.1 q9.2.1 q9.2.2) = true := c6
          refine r_aload_n C (dx dX7_machineTold 35 rfl) rfl ?_
          refine r_ldcS C 15 rfl (dx dX7_machineTold 36 rfl) ?_
          refine r_iconst (v := nI 0) C (dx dX7_machineTold 37 rfl) rfl ?_
          refine r_aload_n C (dx dX7_machineTold 38 rfl) rfl ?_
          refine g_X7_64 (x := nI (vP v)) C (dx dX7_machineTold 39 rfl) pg.m.eP ?_
          refine r_iconst (v := nI 1) C (dx dX7_machineTold 40 rfl) rfl ?_
          refine r_isub C (dx dX7_machineTold 41 rfl) ?_
          refine r_cv (as := [vt 1005, vi (nI 0), vi ((nI (vP v)) - (nI 1))]) (st := []) C X I_X7_tells l_X7_206 (e_tells pg.slf (i := 5) (by decide) (nI 0) ((nI (vP v)) - (nI 1)) (le99n (by omega))) (by decide) (Nat.le_of_ble_eq_true rfl) List.prefix_rfl (pfx_eq pg.kk) rfl rfl (Nat.le_of_ble_eq_true rfl) rfl (dx dX7_machineTold 42 rfl) ?_
          rintro _ h9 ⟨bh9, rfl, gh9⟩ kkh9
          have kh9 : xK h9 = xK h := kkh9.trans pg.kk
          have gh9 := TlP.pre pg gh9
          refine rb_ne (b := bh9) (tgt := 79) C (dx dX7_machineTold 43 rfl) (by decide) (fun c10 => ?_) (fun c10 => ?_)
          ·
            have c10 : bh9 = true := c10
            rw [c10] at gh9
            obtain ⟨wrbh9, grbh9⟩ := TlP.t gh9
            obtain ⟨nnrbh9, prbh9, erbh9⟩ := NmP.t grbh9
            have prbh9 : Px h h9 k z B ((stp B z (stp B z q9.2.2).2.2).1, (stp B z (stp B z q9.2.2).2.2).2.1, (stp B z (stp B z q9.2.2).2.2).2.2) (vset v 3 (vM v) (nmQ B z (stp B z e) (nI 1) (nI 99))) := prbh9
            have serbh9 := Px.se (t := (stp B z (stp B z q9.2.2).2.2).1) (s := (stp B z (stp B z q9.2.2).2.2).2.1) (e := (stp B z (stp B z q9.2.2).2.2).2.2) prbh9
            have ezrbh9 := Px.ez (t := (stp B z (stp B z q9.2.2).2.2).1) (s := (stp B z (stp B z q9.2.2).2.2).2.1) (e := (stp B z (stp B z q9.2.2).2.2).2.2) prbh9
            have adrbh9 := nm_adv (B := B) (a := q9.2.2) (by omega) nnrbh9
            have gerbh9 := stp_ge (B := B) (z := z) (a := (stp B z q9.2.2).2.2) (stp_le (B := B) (z := z) (e := q9.2.2) (by omega)).2
            refine r_iload_n C (dx dX7_machineTold 46 rfl) rfl ?_
            refine r_iconst (v := nI 1) C (dx dX7_machineTold 47 rfl) rfl ?_
            refine r_aload_n C (dx dX7_machineTold 48 rfl) rfl ?_
            refine g_X7_181 (x := nmQ B z (stp B z q9.2.2) (nI 0) ((nI (vP v)) - (nI 1))) C (dx dX7_machineTold 49 rfl) erbh9 ?_
            refine r_ishl C (dx dX7_machineTold 50 rfl) ?_
            refine r_ior C (dx dX7_machineTold 51 rfl) ?_
            refine r_istore_n (ls' := [(0, vr 7 k), (1, vi (y9 ||| ((nI 1) <<< ((nmQ B z (stp B z q9.2.2) (nI 0) ((nI (vP v)) - (nI 1))) &&& 31))))]) C (dx dX7_machineTold 52 rfl) (by decide) [1, 0] rfl ?_
            refine r_goto (tgt := 52) C (dx dX7_machineTold 53 rfl) (by decide) ?_
            exact ih h9 _ _ prbh9 (by show z + 1 ≤ f + (stp B z (stp B z q9.2.2).2.2).2.2; omega) ⟨_, (by omega), rfl⟩ ((hM.trans (an_1 c6)).trans (nd_s nnrbh9))
          ·
            have c10 : bh9 = false := c10
            rw [c10] at gh9
            refine r_iconst (v := nI 0) C (dx dX7_machineTold 44 rfl) rfl ?_
            rcases TlP.f gh9 with ⟨w9, p9, f9⟩ | ⟨w9, nn9, p9, f9⟩
            ·
              exact F.1 _ _ _ _ .boolean rfl rfl (dx dX7_machineTold 45 rfl) kh9 ⟨false, rfl, (show RdP h h9 k z B (mcW B z (t, s, e) v) false from absurd (w9.symm.trans c6) (by decide))⟩
            ·
              exact F.1 _ _ _ _ .boolean rfl rfl (dx dX7_machineTold 45 rfl) kh9 ⟨false, rfl, (show RdP h h9 k z B (mcW B z (t, s, e) v) false from RdP.f (mc_l0 h6 nnrbh1 wrbh4 ((hM.trans (an_1 c6)).trans (nd_f nn9))) p9 f9)⟩
      exact key 249 h4 _ _ prbh4 (by show z + 1 ≤ 249 + (stp B z (stp B z ((stp B z (stp B z e).2.2).2.2)).2.2).2.2; omega) ⟨_, (by omega), rfl⟩ (nd_1 nnrbh4)
    ·
      have c5 : bh4 = false := c5
      rw [c5] at gh4
      refine r_iconst (v := nI 0) C (dx dX7_machineTold 24 rfl) rfl ?_
      rcases TlP.f gh4 with ⟨w9, p9, f9⟩ | ⟨w9, nn9, p9, f9⟩
      ·
        exact F.1 _ _ _ _ .boolean rfl rfl (dx dX7_machineTold 25 rfl) kh4 ⟨false, rfl, (show RdP h h4 k z B (mcW B z (t, s, e) v) false from RdP.f (mc_f2 h6 nnrbh1 w9) p9 f9)⟩
      ·
        exact F.1 _ _ _ _ .boolean rfl rfl (dx dX7_machineTold 25 rfl) kh4 ⟨false, rfl, (show RdP h h4 k z B (mcW B z (t, s, e) v) false from RdP.f (mc_l0 h6 nnrbh1 w9 (nd_f (f := 249) nn9)) p9 f9)⟩
  ·
    have c2 : bh1 = false := c2
    rw [c2] at gh1
    refine r_iconst (v := nI 0) C (dx dX7_machineTold 6 rfl) rfl ?_
    rcases TlP.f gh1 with ⟨w9, p9, f9⟩ | ⟨w9, nn9, p9, f9⟩
    ·
      exact F.1 _ _ _ _ .boolean rfl rfl (dx dX7_machineTold 7 rfl) kh1 ⟨false, rfl, (show RdP h h1 k z B (mcW B z (t, s, e) v) false from absurd (w9.symm.trans hw) (by decide))⟩
    ·
      exact F.1 _ _ _ _ .boolean rfl rfl (dx dX7_machineTold 7 rfl) kh1 ⟨false, rfl, (show RdP h h1 k z B (mcW B z (t, s, e) v) false from RdP.f (mc_f1 h6 nn9) p9 f9)⟩
set_option maxHeartbeats 4000000 in
theorem p_newOne {l : Launch} {h : Hp} {k z t s e : Nat} {B : Nat → Int32} {v : Vg} (p : Px h h k z B (t, s, e) v) (h8 : vN v < 8) : Ms l yX7_newOne cX7_newOne 2 none 1 [vr 7 k] h (xK h) (fun r h' => r = none ∧ Px h h' k z B (t, s, e) (nwV v 4)) := by
  refine Ms.of (by decide) (Nat.le_of_ble_eq_true rfl) (fun G C X F => ?_)
  have C : Cx G cX7_newOne 2 RX7 := C
  show Rr G 0 [(0, vr 7 k)] [] h
  have se := p.se
  have ez := p.ez
  have bz := p.bz
  have bP := p.m.bP
  have bM := p.m.bM
  have bN := p.m.bN
  have t5 : tkm t < 5 := by unfold tkm; split <;> omega
  refine r_iconst (v := nI 0) C (dx dX7_newOne 0 rfl) rfl ?_
  refine r_istore_n (ls' := [(0, vr 7 k), (1, vi (nI 0))]) C (dx dX7_newOne 1 rfl) (by decide) [1, 0] rfl ?_
  refine loopU (Φ := fun r9 => ∀ gh, Px h gh k z B (t, s, e) (nwV v r9) → Rr G 2 [(0, vr 7 k), (1, vi (nI r9))] [] gh) (N := 4) ?_ ?_ 0 (by omega) h (by rw [nw_0]; exact p)
  ·
    intro gh pg
    refine r_iload_n C (dx dX7_newOne 2 rfl) rfl ?_
    refine r_iconst (v := nI 4) C (dx dX7_newOne 3 rfl) rfl ?_
    refine rn_ge (a := 4) (b := 4) (tgt := 25) C (by omega) (by omega) (dx dX7_newOne 4 rfl) (by decide) (fun c1 => ?_) (fun c1 => ?_)
    · first
      | (omega; done)
      | (
          have c1 : 4 ≤ 4 := c1
          exact F.2.2.1 _ _ _ rfl (dx dX7_newOne 15 rfl) pg.kk ⟨rfl, pg⟩)
    · first
      | (omega; done)
  ·
    intro r9 hr9 ih gh pg
    refine r_iload_n C (dx dX7_newOne 2 rfl) rfl ?_
    refine r_iconst (v := nI 4) C (dx dX7_newOne 3 rfl) rfl ?_
    refine rn_ge (a := r9) (b := 4) (tgt := 25) C (by omega) (by omega) (dx dX7_newOne 4 rfl) (by decide) (fun c3 => ?_) (fun c3 => ?_)
    · first
      | (omega; done)
      | (
          have c3 : 4 ≤ r9 := c3
          exact F.2.2.1 _ _ _ rfl (dx dX7_newOne 15 rfl) pg.kk ⟨rfl, pg⟩)
    · first
      | (omega; done)
      | (
          have c3 : r9 < 4 := c3
          refine r_aload_n C (dx dX7_newOne 5 rfl) rfl ?_
          refine g_X7_54 C (dx dX7_newOne 6 rfl) ?_
          refine r_aload_n C (dx dX7_newOne 7 rfl) rfl ?_
          refine g_X7_74 (x := nI (vN v)) C (dx dX7_newOne 8 rfl) pg.m.eN ?_
          refine r_aald4 (j := vN v) C rfl rfl (by decide) rfl (by omega) (dx dX7_newOne 9 rfl) ?_
          refine r_iload_n C (dx dX7_newOne 10 rfl) rfl ?_
          refine r_iconst (v := nI 0) C (dx dX7_newOne 11 rfl) rfl ?_
          refine r_iast (j := r9) C rfl rfl (by decide) rfl (by omega) (dx dX7_newOne 12 rfl) ?_
          have ph4 : Px h (sI gh (k + 23 + (vN v)) r9 (nI 0)) k z B (t, s, e) (vset (nwV v r9) (4 + r9) (vN v) (nI 0)) := pg.c (pg.m.so (by omega) (by omega)) (by omega) (by omega)
          generalize sI gh (k + 23 + (vN v)) r9 (nI 0) = h4 at ph4 ⊢
          refine rn_iinc (a := r9) (k := 1) (ls' := [(0, vr 7 k), (1, vi (nI (r9 + 1)))]) C (dx dX7_newOne 13 rfl) rfl rfl (by decide) [1, 0] rfl ?_
          refine r_goto (tgt := 2) C (dx dX7_newOne 14 rfl) (by decide) ?_
          exact ih h4 (by rw [← nw_s]; exact ph4))
theorem wdl_len {i : Nat} {B : Nat → Int32} {z t s e : Nat} (h : wdB i B z t s e = true) : e - s = txL.getD i 0 := by
  unfold wdB at h
  simp only [Bool.and_eq_true, decide_eq_true_eq] at h
  exact h.2.1
theorem wd_not {i j : Nat} {B : Nat → Int32} {z t s e : Nat} (h : wdB i B z t s e = true) (n : ¬ txL.getD i 0 = txL.getD j 0) : wdB j B z t s e = false := by
  cases x : wdB j B z t s e
  · rfl
  · exact absurd ((wdl_len h).symm.trans (wdl_len x)) n
section St
variable {B : Nat → Int32} {z : Nat} {v : Vg} {q : Tkn}
theorem st_pt (h : wdB 0 B z q.1 q.2.1 q.2.2 = true) : stW B z q v = ptW B z q v := by unfold stW; rw [if_pos h]
theorem st_mc (h : wdB 3 B z q.1 q.2.1 q.2.2 = true) : stW B z q v = mcW B z q v := by unfold stW; rw [if_neg (by rw [wd_not h (by decide)]; decide), if_pos h]
theorem st_on (h : wdB 6 B z q.1 q.2.1 q.2.2 = true) : stW B z q v = oneW B z q v := by unfold stW; rw [if_neg (by rw [wd_not h (by decide)]; decide), if_neg (by rw [wd_not h (by decide)]; decide), if_pos h]
theorem st_gv (h : wdB 9 B z q.1 q.2.1 q.2.2 = true) : stW B z q v = gvW B z q.2.2 v := by unfold stW; rw [if_neg (by rw [wd_not h (by decide)]; decide), if_neg (by rw [wd_not h (by decide)]; decide), if_neg (by rw [wd_not h (by decide)]; decide), if_pos h]
/-- none of the words, or no room -/
theorem st_no (h0 : wdB 0 B z q.1 q.2.1 q.2.2 = true → ¬ vP v < 12) (h3 : wdB 3 B z q.1 q.2.1 q.2.2 = true → ¬ vM v < 6) (h6 : wdB 6 B z q.1 q.2.1 q.2.2 = true → ¬ vN v < 8) (h9 : wdB 9 B z q.1 q.2.1 q.2.2 = false) : stW B z q v = (false, q, v) := by
  unfold stW
  split
  · next c => unfold ptW; rw [if_neg (h0 c)]
  · split
    · next c => unfold mcW; rw [if_neg (h3 c)]
    · split
      · next c => unfold oneW; rw [if_neg (h6 c)]
      · rw [if_neg (by rw [h9]; decide)]
theorem on_f1 (h8 : vN v < 8) (h : nmQ B z (stp B z q.2.2) (nI 0) (nI 9) = -1) : oneW B z q v = (false, stp B z q.2.2, v) := by unfold oneW; rw [if_pos h8, if_pos h]
theorem on_a (h8 : vN v < 8) (h : ¬ nmQ B z (stp B z q.2.2) (nI 0) (nI 9) = -1) : oneW B z q v = oneA B z (stp B z (stp B z q.2.2).2.2) v (nmQ B z (stp B z q.2.2) (nI 0) (nI 9)) := by unfold oneW; rw [if_pos h8, if_neg h]
variable {x y : Int32}
theorem oa_f (hw : wdB 7 B z q.1 q.2.1 q.2.2 = true) (h : nmQ B z (stp B z q.2.2) (nI 0) (nI 10) = -1) : oneA B z q v x = (false, stp B z q.2.2, v) := by unfold oneA; rw [if_pos hw, if_pos h]
theorem oa_y (hw : wdB 7 B z q.1 q.2.1 q.2.2 = true) (h : ¬ nmQ B z (stp B z q.2.2) (nI 0) (nI 10) = -1) : oneA B z q v x = oneE B z (stp B z (stp B z q.2.2).2.2) v x (nmQ B z (stp B z q.2.2) (nI 0) (nI 10)) := by unfold oneA; rw [if_pos hw, if_neg h]
theorem oa_n (hw : wdB 7 B z q.1 q.2.1 q.2.2 = false) : oneA B z q v x = oneE B z q v x (nI 0) := by unfold oneA; rw [if_neg (by rw [hw]; decide)]
theorem oe_y (hw : wdB 8 B z q.1 q.2.1 q.2.2 = true) : oneE B z q v x y = (true, stp B z q.2.2, vset (addOneV v x y) 6 (vN v) (nI 1)) := by unfold oneE; rw [if_pos hw]; rfl
theorem oe_n (hw : wdB 8 B z q.1 q.2.1 q.2.2 = false) : oneE B z q v x y = (true, q, addOneV v x y) := by unfold oneE; rw [if_neg (by rw [hw]; decide)]
theorem oneV_ag (v : Vg) (x y : Int32) : vsN (vset (vset (nwV v 4) 4 (vN v) x) 5 (vN v) y) (vN v + 1) = addOneV v x y := one_eq v x y
theorem oneV_nn (v : Vg) (x : Int32) : vsN (vset (nwV v 4) 4 (vN v) x) (vN v + 1) = addOneV v x (nI 0) := by
  rw [← one_eq]
  refine vg_ext rfl rfl rfl (fun c i => ?_) rfl
  simp only [nwV, vsN, vset, vF, vN]
  by_cases h : c = 5
  · subst h
    by_cases h2 : i = v.2.2.1
    · simp [h2, nI_0]
    · simp [h2]
  · simp [h]
theorem oneV_ac (v : Vg) (x y w : Int32) : vsN (vset (vset (vset (nwV v 4) 4 (vN v) x) 5 (vN v) y) 6 (vN v) w) (vN v + 1) = vset (addOneV v x y) 6 (vN v) w := by rw [← one_eq]; rfl
theorem oneV_nc (v : Vg) (x w : Int32) : vsN (vset (vset (nwV v 4) 4 (vN v) x) 6 (vN v) w) (vN v + 1) = vset (addOneV v x (nI 0)) 6 (vN v) w := by rw [← oneV_nn]; rfl
theorem gv_f1 (h : nmQ B z (stp B z q.2.2) (nI 0) (nI (vP v) - nI 1) = -1) : gvW B z q.2.2 v = (false, stp B z q.2.2, v) := by unfold gvW; rw [if_pos (show gvP B z q.2.2 v = -1 from h)]
theorem gv_j (h : ¬ nmQ B z (stp B z q.2.2) (nI 0) (nI (vP v) - nI 1) = -1) (hp : vP v ≤ 12) : ∃ j, j < vP v ∧ nmQ B z (stp B z q.2.2) (nI 0) (nI (vP v) - nI 1) = nI j := inR_ex (by omega) (nm_in (by omega) h)
theorem nI_nat {j : Nat} (h : j < 2 ^ 30) : (nI j).toNatClampNeg = j := by
  have := nI_toInt (n := j) (by omega)
  unfold Int32.toNatClampNeg; rw [this]; rfl
theorem gv_f2 {h h' : Hp} {k j : Nat} (hn : ¬ nmQ B z (stp B z q.2.2) (nI 0) (nI (vP v) - nI 1) = -1) (hj : j < 2 ^ 30) (e : nmQ B z (stp B z q.2.2) (nI 0) (nI (vP v) - nI 1) = nI j) (g : GtP h h' k z B (stp B z (stp B z q.2.2).2.2) v 0 j false) : RdP h h' k z B (gvW B z q.2.2 v) false := by
  unfold GtP at g
  split at g
  · next c =>
    refine RdP.f (q9 := stp B z (stp B z q.2.2).2.2) (v9 := v) ?_ g.2.1 g.2.2
    unfold gvW
    rw [if_neg (show ¬ gvP B z q.2.2 v = -1 from hn), if_pos]
    rcases c with c | c
    · exact Or.inl c
    · refine Or.inr ⟨?_, c.2⟩
      rw [show gvP B z q.2.2 v = nI j from e, nI_nat hj]; exact c.1
  · exact absurd g.1 (by decide)
theorem gv_t {h h' : Hp} {k j : Nat} (hn : ¬ nmQ B z (stp B z q.2.2) (nI 0) (nI (vP v) - nI 1) = -1) (hj : j < 2 ^ 30) (e : nmQ B z (stp B z q.2.2) (nI 0) (nI (vP v) - nI 1) = nI j) (g : GtP h h' k z B (stp B z (stp B z q.2.2).2.2) v 0 j true) : RdP h h' k z B (gvW B z q.2.2 v) true := by
  unfold GtP at g
  split at g
  · exact absurd g.1 (by decide)
  · next c =>
    refine RdP.t (q9 := stp B z (stp B z (stp B z q.2.2).2.2).2.2) (v9 := vset v 0 j (gtO B z (stp B z (stp B z q.2.2).2.2) v)) ?_ g.2
    unfold gvW
    rw [if_neg (show ¬ gvP B z q.2.2 v = -1 from hn), if_neg, show gvP B z q.2.2 v = nI j from e, nI_nat hj]
    · rfl
    · intro c9
      rw [show gvP B z q.2.2 v = nI j from e, nI_nat hj] at c9
      exact c c9
theorem RdP.pre {h0 h h' : Hp} {k : Nat} {q0 : Tkn} {v0 : Vg} {w : Rd} {b : Bool} (p : Px h0 h k z B q0 v0) (g : RdP h h' k z B w b) : RdP h0 h' k z B w b := ⟨g.1, g.2.1.imp (fun _ x => p.tr x), fun c => p.tr (g.2.2.1 c), g.2.2.2⟩
theorem RdP.eq {h h' : Hp} {k : Nat} {w w' : Rd} {b : Bool} (e : w = w') (g : RdP h h' k z B w' b) : RdP h h' k z B w b := e ▸ g
end St
set_option maxHeartbeats 4000000 in
theorem e_statement {l : Launch} {h : Hp} {k z t s e : Nat} {B : Nat → Int32} {v : Vg} (p : Px h h k z B (t, s, e) v) (tk : TkR B z (t, s, e)) : Ms l yX7_statement cX7_statement 1 (some .boolean) 8 [vr 7 k] h (xK h) (fun r h' => ∃ b, r = some (vi (b2i b)) ∧ RdP h h' k z B (stW B z (t, s, e) v) b) := by
  refine Ms.of (by decide) (Nat.le_of_ble_eq_true rfl) (fun G C X F => ?_)
  have C : Cx G cX7_statement 1 RX7 := C
  show Rr G 0 [(0, vr 7 k)] [] h
  have se := p.se
  have ez := p.ez
  have bz := p.bz
  have bP := p.m.bP
  have bM := p.m.bM
  have bN := p.m.bN
  have t5 : tkm t < 5 := by unfold tkm; split <;> omega
  refine r_aload_n C (dx dX7_statement 0 rfl) rfl ?_
  refine r_ldcS C 10 rfl (dx dX7_statement 1 rfl) ?_
  refine r_cvP (as := [vt 1000]) (st := []) (v := vi (b2i (wdB 0 B z t s e))) C X I_X7_isWord l_X7_187 (e_isWord p.slf (i := 0) (by decide)) (by decide) (Nat.le_of_ble_eq_true rfl) (pfx_eq p.kk) rfl rfl (Nat.le_of_ble_eq_true rfl) rfl (dx dX7_statement 2 rfl) ?_
  refine rb_eq (b := wdB 0 B z t s e) (tgt := 23) C (dx dX7_statement 3 rfl) (by decide) (fun c1 => ?_) (fun c1 => ?_)
  ·
    have c1 : (wdB 0 B z t s e) = false := c1
    refine r_aload_n C (dx dX7_statement 11 rfl) rfl ?_
    refine r_ldcS C 13 rfl (dx dX7_statement 12 rfl) ?_
    refine r_cvP (as := [vt 1003]) (st := []) (v := vi (b2i (wdB 3 B z t s e))) C X I_X7_isWord l_X7_187 (e_isWord p.slf (i := 3) (by decide)) (by decide) (Nat.le_of_ble_eq_true rfl) (pfx_eq p.kk) rfl rfl (Nat.le_of_ble_eq_true rfl) rfl (dx dX7_statement 13 rfl) ?_
    refine rb_eq (b := wdB 3 B z t s e) (tgt := 46) C (dx dX7_statement 14 rfl) (by decide) (fun c2 => ?_) (fun c2 => ?_)
    ·
      have c2 : (wdB 3 B z t s e) = false := c2
      refine r_aload_n C (dx dX7_statement 22 rfl) rfl ?_
      refine r_ldcS C 16 rfl (dx dX7_statement 23 rfl) ?_
      refine r_cvP (as := [vt 1006]) (st := []) (v := vi (b2i (wdB 6 B z t s e))) C X I_X7_isWord l_X7_187 (e_isWord p.slf (i := 6) (by decide)) (by decide) (Nat.le_of_ble_eq_true rfl) (pfx_eq p.kk) rfl rfl (Nat.le_of_ble_eq_true rfl) rfl (dx dX7_statement 24 rfl) ?_
      refine rb_eq (b := wdB 6 B z t s e) (tgt := 172) C (dx dX7_statement 25 rfl) (by decide) (fun c3 => ?_) (fun c3 => ?_)
      ·
        have c3 : (wdB 6 B z t s e) = false := c3
        refine r_aload_n C (dx dX7_statement 92 rfl) rfl ?_
        refine r_ldcS C 19 rfl (dx dX7_statement 93 rfl) ?_
        refine r_iconst (v := nI 0) C (dx dX7_statement 94 rfl) rfl ?_
        refine r_aload_n C (dx dX7_statement 95 rfl) rfl ?_
        refine g_X7_64 (x := nI (vP v)) C (dx dX7_statement 96 rfl) p.m.eP ?_
        refine r_iconst (v := nI 1) C (dx dX7_statement 97 rfl) rfl ?_
        refine r_isub C (dx dX7_statement 98 rfl) ?_
        refine r_cv (as := [vt 1009, vi (nI 0), vi ((nI (vP v)) - (nI 1))]) (st := []) C X I_X7_tells l_X7_206 (e_tells p.slf (i := 9) (by decide) (nI 0) ((nI (vP v)) - (nI 1)) (le99n (by omega))) (by decide) (Nat.le_of_ble_eq_true rfl) List.prefix_rfl (pfx_eq p.kk) rfl rfl (Nat.le_of_ble_eq_true rfl) rfl (dx dX7_statement 99 rfl) ?_
        rintro _ h4 ⟨bh4, rfl, gh4⟩ kkh4
        have kh4 : xK h4 = xK h := kkh4.trans p.kk
        have gh4 := TlP.pre p gh4
        refine rb_eq (b := bh4) (tgt := 204) C (dx dX7_statement 100 rfl) (by decide) (fun c5 => ?_) (fun c5 => ?_)
        ·
          have c5 : bh4 = false := c5
          rw [c5] at gh4
          refine r_iconst (v := nI 0) C (dx dX7_statement 109 rfl) rfl ?_
          rcases TlP.f gh4 with ⟨w9, p9, f9⟩ | ⟨w9, nn9, p9, f9⟩
          ·
            exact F.1 _ _ _ _ .boolean rfl rfl (dx dX7_statement 110 rfl) kh4 ⟨false, rfl, (show RdP h h4 k z B (stW B z (t, s, e) v) false from RdP.f (st_no (q := (t, s, e)) (fun y => by rw [c1] at y; exact absurd y (by decide)) (fun y => by rw [c2] at y; exact absurd y (by decide)) (fun y => by rw [c3] at y; exact absurd y (by decide)) w9) p9 f9)⟩
          ·
            exact F.1 _ _ _ _ .boolean rfl rfl (dx dX7_statement 110 rfl) kh4 ⟨false, rfl, (show RdP h h4 k z B (stW B z (t, s, e) v) false from RdP.f ((st_gv (q := (t, s, e)) w9).trans (gv_f1 (q := (t, s, e)) nn9)) p9 f9)⟩
        ·
          have c5 : bh4 = true := c5
          rw [c5] at gh4
          obtain ⟨wrbh4, grbh4⟩ := TlP.t gh4
          obtain ⟨nnrbh4, prbh4, erbh4⟩ := NmP.t grbh4
          have prbh4 : Px h h4 k z B ((stp B z (stp B z e).2.2).1, (stp B z (stp B z e).2.2).2.1, (stp B z (stp B z e).2.2).2.2) v := prbh4
          have serbh4 := Px.se (t := (stp B z (stp B z e).2.2).1) (s := (stp B z (stp B z e).2.2).2.1) (e := (stp B z (stp B z e).2.2).2.2) prbh4
          have ezrbh4 := Px.ez (t := (stp B z (stp B z e).2.2).1) (s := (stp B z (stp B z e).2.2).2.1) (e := (stp B z (stp B z e).2.2).2.2) prbh4
          have adrbh4 := nm_adv (B := B) (a := e) (by omega) nnrbh4
          have gerbh4 := stp_ge (B := B) (z := z) (a := (stp B z e).2.2) (stp_le (B := B) (z := z) (e := e) (by omega)).2
          refine r_aload_n C (dx dX7_statement 101 rfl) rfl ?_
          refine r_aload_n C (dx dX7_statement 102 rfl) rfl ?_
          refine g_X7_181 (x := nmQ B z (stp B z e) (nI 0) ((nI (vP v)) - (nI 1))) C (dx dX7_statement 103 rfl) erbh4 ?_
          obtain ⟨j9, hj9, ej9⟩ := gv_j (q := (t, s, e)) nnrbh4 bP
          rw [show nmQ B z (stp B z e) (nI 0) ((nI (vP v)) - (nI 1)) = nI j9 from ej9]
          refine r_iconst (v := nI 0) C (dx dX7_statement 104 rfl) rfl ?_
          refine r_cv (as := [vi (nI j9), vi (nI 0)]) (st := []) C X I_X7_gets l_X7_199 (e_gets prbh4.slf ⟨(stp B z e).2.2, by omega, rfl⟩ (j := j9) hj9 false) (by decide) (Nat.le_of_ble_eq_true rfl) List.prefix_rfl (pfx_eq prbh4.kk) rfl rfl (Nat.le_of_ble_eq_true rfl) rfl (dx dX7_statement 105 rfl) ?_
          rintro _ h6 ⟨bh6, rfl, gh6⟩ kkh6
          have kh6 : xK h6 = xK h := kkh6.trans prbh4.kk
          have gh6 := GtP.pre prbh4 gh6
          refine rb_eq (b := bh6) (tgt := 204) C (dx dX7_statement 106 rfl) (by decide) (fun c7 => ?_) (fun c7 => ?_)
          ·
            have c7 : bh6 = false := c7
            refine r_iconst (v := nI 0) C (dx dX7_statement 109 rfl) rfl ?_
            rw [c7] at gh6
            exact F.1 _ _ _ _ .boolean rfl rfl (dx dX7_statement 110 rfl) kh6 ⟨false, rfl, (show RdP h h6 k z B (stW B z (t, s, e) v) false from RdP.eq (st_gv (q := (t, s, e)) wrbh4) (gv_f2 (q := (t, s, e)) nnrbh4 (by omega) ej9 gh6))⟩
          ·
            have c7 : bh6 = true := c7
            refine r_iconst (v := nI 1) C (dx dX7_statement 107 rfl) rfl ?_
            refine r_goto (tgt := 205) C (dx dX7_statement 108 rfl) (by decide) ?_
            rw [c7] at gh6
            exact F.1 _ _ _ _ .boolean rfl rfl (dx dX7_statement 110 rfl) kh6 ⟨true, rfl, (show RdP h h6 k z B (stW B z (t, s, e) v) true from RdP.eq (st_gv (q := (t, s, e)) wrbh4) (gv_t (q := (t, s, e)) nnrbh4 (by omega) ej9 gh6))⟩
      ·
        have c3 : (wdB 6 B z t s e) = true := c3
        refine r_aload_n C (dx dX7_statement 26 rfl) rfl ?_
        refine g_X7_74 (x := nI (vN v)) C (dx dX7_statement 27 rfl) p.m.eN ?_
        refine r_bipush (v := nI 8) C (dx dX7_statement 28 rfl) rfl ?_
        refine rn_ge (a := vN v) (b := 8) (tgt := 172) C (by omega) (by omega) (dx dX7_statement 29 rfl) (by decide) (fun c8 => ?_) (fun c8 => ?_)
        · first
          | (omega; done)
          | (
              have c8 : 8 ≤ vN v := c8
              refine r_aload_n C (dx dX7_statement 92 rfl) rfl ?_
              refine r_ldcS C 19 rfl (dx dX7_statement 93 rfl) ?_
              refine r_iconst (v := nI 0) C (dx dX7_statement 94 rfl) rfl ?_
              refine r_aload_n C (dx dX7_statement 95 rfl) rfl ?_
              refine g_X7_64 (x := nI (vP v)) C (dx dX7_statement 96 rfl) p.m.eP ?_
              refine r_iconst (v := nI 1) C (dx dX7_statement 97 rfl) rfl ?_
              refine r_isub C (dx dX7_statement 98 rfl) ?_
              refine r_cv (as := [vt 1009, vi (nI 0), vi ((nI (vP v)) - (nI 1))]) (st := []) C X I_X7_tells l_X7_206 (e_tells p.slf (i := 9) (by decide) (nI 0) ((nI (vP v)) - (nI 1)) (le99n (by omega))) (by decide) (Nat.le_of_ble_eq_true rfl) List.prefix_rfl (pfx_eq p.kk) rfl rfl (Nat.le_of_ble_eq_true rfl) rfl (dx dX7_statement 99 rfl) ?_
              rintro _ h9 ⟨bh9, rfl, gh9⟩ kkh9
              have kh9 : xK h9 = xK h := kkh9.trans p.kk
              have gh9 := TlP.pre p gh9
              refine rb_eq (b := bh9) (tgt := 204) C (dx dX7_statement 100 rfl) (by decide) (fun c10 => ?_) (fun c10 => ?_)
              ·
                have c10 : bh9 = false := c10
                rw [c10] at gh9
                refine r_iconst (v := nI 0) C (dx dX7_statement 109 rfl) rfl ?_
                rcases TlP.f gh9 with ⟨w9, p9, f9⟩ | ⟨w9, nn9, p9, f9⟩
                ·
                  exact F.1 _ _ _ _ .boolean rfl rfl (dx dX7_statement 110 rfl) kh9 ⟨false, rfl, (show RdP h h9 k z B (stW B z (t, s, e) v) false from RdP.f (st_no (q := (t, s, e)) (fun y => by rw [c1] at y; exact absurd y (by decide)) (fun y => by rw [c2] at y; exact absurd y (by decide)) (fun _ => by omega) w9) p9 f9)⟩
                ·
                  exact F.1 _ _ _ _ .boolean rfl rfl (dx dX7_statement 110 rfl) kh9 ⟨false, rfl, (show RdP h h9 k z B (stW B z (t, s, e) v) false from RdP.f ((st_gv (q := (t, s, e)) w9).trans (gv_f1 (q := (t, s, e)) nn9)) p9 f9)⟩
              ·
                have c10 : bh9 = true := c10
                rw [c10] at gh9
                obtain ⟨wrbh9, grbh9⟩ := TlP.t gh9
                obtain ⟨nnrbh9, prbh9, erbh9⟩ := NmP.t grbh9
                have prbh9 : Px h h9 k z B ((stp B z (stp B z e).2.2).1, (stp B z (stp B z e).2.2).2.1, (stp B z (stp B z e).2.2).2.2) v := prbh9
                have serbh9 := Px.se (t := (stp B z (stp B z e).2.2).1) (s := (stp B z (stp B z e).2.2).2.1) (e := (stp B z (stp B z e).2.2).2.2) prbh9
                have ezrbh9 := Px.ez (t := (stp B z (stp B z e).2.2).1) (s := (stp B z (stp B z e).2.2).2.1) (e := (stp B z (stp B z e).2.2).2.2) prbh9
                have adrbh9 := nm_adv (B := B) (a := e) (by omega) nnrbh9
                have gerbh9 := stp_ge (B := B) (z := z) (a := (stp B z e).2.2) (stp_le (B := B) (z := z) (e := e) (by omega)).2
                refine r_aload_n C (dx dX7_statement 101 rfl) rfl ?_
                refine r_aload_n C (dx dX7_statement 102 rfl) rfl ?_
                refine g_X7_181 (x := nmQ B z (stp B z e) (nI 0) ((nI (vP v)) - (nI 1))) C (dx dX7_statement 103 rfl) erbh9 ?_
                obtain ⟨j9, hj9, ej9⟩ := gv_j (q := (t, s, e)) nnrbh9 bP
                rw [show nmQ B z (stp B z e) (nI 0) ((nI (vP v)) - (nI 1)) = nI j9 from ej9]
                refine r_iconst (v := nI 0) C (dx dX7_statement 104 rfl) rfl ?_
                refine r_cv (as := [vi (nI j9), vi (nI 0)]) (st := []) C X I_X7_gets l_X7_199 (e_gets prbh9.slf ⟨(stp B z e).2.2, by omega, rfl⟩ (j := j9) hj9 false) (by decide) (Nat.le_of_ble_eq_true rfl) List.prefix_rfl (pfx_eq prbh9.kk) rfl rfl (Nat.le_of_ble_eq_true rfl) rfl (dx dX7_statement 105 rfl) ?_
                rintro _ h11 ⟨bh11, rfl, gh11⟩ kkh11
                have kh11 : xK h11 = xK h := kkh11.trans prbh9.kk
                have gh11 := GtP.pre prbh9 gh11
                refine rb_eq (b := bh11) (tgt := 204) C (dx dX7_statement 106 rfl) (by decide) (fun c12 => ?_) (fun c12 => ?_)
                ·
                  have c12 : bh11 = false := c12
                  refine r_iconst (v := nI 0) C (dx dX7_statement 109 rfl) rfl ?_
                  rw [c12] at gh11
                  exact F.1 _ _ _ _ .boolean rfl rfl (dx dX7_statement 110 rfl) kh11 ⟨false, rfl, (show RdP h h11 k z B (stW B z (t, s, e) v) false from RdP.eq (st_gv (q := (t, s, e)) wrbh9) (gv_f2 (q := (t, s, e)) nnrbh9 (by omega) ej9 gh11))⟩
                ·
                  have c12 : bh11 = true := c12
                  refine r_iconst (v := nI 1) C (dx dX7_statement 107 rfl) rfl ?_
                  refine r_goto (tgt := 205) C (dx dX7_statement 108 rfl) (by decide) ?_
                  rw [c12] at gh11
                  exact F.1 _ _ _ _ .boolean rfl rfl (dx dX7_statement 110 rfl) kh11 ⟨true, rfl, (show RdP h h11 k z B (stW B z (t, s, e) v) true from RdP.eq (st_gv (q := (t, s, e)) wrbh9) (gv_t (q := (t, s, e)) nnrbh9 (by omega) ej9 gh11))⟩)
        · first
          | (omega; done)
          | (
              have c8 : vN v < 8 := c8
              refine r_aload_n C (dx dX7_statement 30 rfl) rfl ?_
              refine r_cv (as := []) (st := []) C X I_X7_newOne l_X7_122 (p_newOne p.slf (by omega)) (by decide) (Nat.le_of_ble_eq_true rfl) List.prefix_rfl (pfx_eq p.kk) rfl rfl (Nat.le_of_ble_eq_true rfl) rfl (dx dX7_statement 31 rfl) ?_
              have h8 : vN v < 8 := by omega
              rintro _ h13 ⟨rfl, qh13⟩ kkh13
              have ph13 := p.tr qh13
              refine r_aload_n C (dx dX7_statement 32 rfl) rfl ?_
              refine r_ldcS C 16 rfl (dx dX7_statement 33 rfl) ?_
              refine r_iconst (v := nI 0) C (dx dX7_statement 34 rfl) rfl ?_
              refine r_bipush (v := nI 9) C (dx dX7_statement 35 rfl) rfl ?_
              refine r_cv (as := [vt 1006, vi (nI 0), vi (nI 9)]) (st := []) C X I_X7_tells l_X7_206 (e_tells ph13.slf (i := 6) (by decide) (nI 0) (nI 9) (by decide)) (by decide) (Nat.le_of_ble_eq_true rfl) List.prefix_rfl (pfx_eq ph13.kk) rfl rfl (Nat.le_of_ble_eq_true rfl) rfl (dx dX7_statement 36 rfl) ?_
              rintro _ h14 ⟨bh14, rfl, gh14⟩ kkh14
              have kh14 : xK h14 = xK h := kkh14.trans ph13.kk
              have gh14 := TlP.pre ph13 gh14
              refine rb_ne (b := bh14) (tgt := 82) C (dx dX7_statement 37 rfl) (by decide) (fun c15 => ?_) (fun c15 => ?_)
              ·
                have c15 : bh14 = true := c15
                rw [c15] at gh14
                obtain ⟨wrbh14, grbh14⟩ := TlP.t gh14
                obtain ⟨nnrbh14, prbh14, erbh14⟩ := NmP.t grbh14
                have prbh14 : Px h h14 k z B ((stp B z (stp B z e).2.2).1, (stp B z (stp B z e).2.2).2.1, (stp B z (stp B z e).2.2).2.2) (nwV v 4) := prbh14
                have serbh14 := Px.se (t := (stp B z (stp B z e).2.2).1) (s := (stp B z (stp B z e).2.2).2.1) (e := (stp B z (stp B z e).2.2).2.2) prbh14
                have ezrbh14 := Px.ez (t := (stp B z (stp B z e).2.2).1) (s := (stp B z (stp B z e).2.2).2.1) (e := (stp B z (stp B z e).2.2).2.2) prbh14
                have adrbh14 := nm_adv (B := B) (a := e) (by omega) nnrbh14
                have gerbh14 := stp_ge (B := B) (z := z) (a := (stp B z e).2.2) (stp_le (B := B) (z := z) (e := e) (by omega)).2
                refine r_aload_n C (dx dX7_statement 40 rfl) rfl ?_
                refine g_X7_54 C (dx dX7_statement 41 rfl) ?_
                refine r_aload_n C (dx dX7_statement 42 rfl) rfl ?_
                refine g_X7_74 (x := nI (vN v)) C (dx dX7_statement 43 rfl) prbh14.m.eN ?_
                refine r_aald4 (j := vN v) C rfl rfl (by decide) rfl (by omega) (dx dX7_statement 44 rfl) ?_
                refine r_iconst (v := nI 0) C (dx dX7_statement 45 rfl) rfl ?_
                refine r_aload_n C (dx dX7_statement 46 rfl) rfl ?_
                refine g_X7_181 (x := nmQ B z (stp B z e) (nI 0) (nI 9)) C (dx dX7_statement 47 rfl) erbh14 ?_
                refine r_iast (j := 0) C rfl rfl (by decide) rfl (by omega) (dx dX7_statement 48 rfl) ?_
                have ph16 : Px h (sI h14 (k + 23 + (vN v)) 0 (nmQ B z (stp B z e) (nI 0) (nI 9))) k z B ((stp B z (stp B z e).2.2).1, (stp B z (stp B z e).2.2).2.1, (stp B z (stp B z e).2.2).2.2) (vset (nwV v 4) 4 (vN v) (nmQ B z (stp B z e) (nI 0) (nI 9))) := prbh14.c (prbh14.m.so (by omega) (by omega)) (by omega) (by omega)
                generalize sI h14 (k + 23 + (vN v)) 0 (nmQ B z (stp B z e) (nI 0) (nI 9)) = h16 at ph16 ⊢
                refine r_aload_n C (dx dX7_statement 49 rfl) rfl ?_
                refine r_ldcS C 17 rfl (dx dX7_statement 50 rfl) ?_
                refine r_cvP (as := [vt 1007]) (st := []) (v := vi (b2i (wdB 7 B z ((stp B z (stp B z e).2.2).1) ((stp B z (stp B z e).2.2).2.1) ((stp B z (stp B z e).2.2).2.2)))) C X I_X7_isWord l_X7_187 (e_isWord ph16.slf (i := 7) (by decide)) (by decide) (Nat.le_of_ble_eq_true rfl) (pfx_eq ph16.kk) rfl rfl (Nat.le_of_ble_eq_true rfl) rfl (dx dX7_statement 51 rfl) ?_
                refine rb_eq (b := wdB 7 B z ((stp B z (stp B z e).2.2).1) ((stp B z (stp B z e).2.2).2.1) ((stp B z (stp B z e).2.2).2.2)) (tgt := 135) C (dx dX7_statement 52 rfl) (by decide) (fun c17 => ?_) (fun c17 => ?_)
                ·
                  have c17 : (wdB 7 B z ((stp B z (stp B z e).2.2).1) ((stp B z (stp B z e).2.2).2.1) ((stp B z (stp B z e).2.2).2.2)) = false := c17
                  refine r_aload_n C (dx dX7_statement 70 rfl) rfl ?_
                  refine r_ldcS C 18 rfl (dx dX7_statement 71 rfl) ?_
                  refine r_cvP (as := [vt 1008]) (st := []) (v := vi (b2i (wdB 8 B z ((stp B z (stp B z e).2.2).1) ((stp B z (stp B z e).2.2).2.1) ((stp B z (stp B z e).2.2).2.2)))) C X I_X7_isWord l_X7_187 (e_isWord ph16.slf (i := 8) (by decide)) (by decide) (Nat.le_of_ble_eq_true rfl) (pfx_eq ph16.kk) rfl rfl (Nat.le_of_ble_eq_true rfl) rfl (dx dX7_statement 72 rfl) ?_
                  refine rb_eq (b := wdB 8 B z ((stp B z (stp B z e).2.2).1) ((stp B z (stp B z e).2.2).2.1) ((stp B z (stp B z e).2.2).2.2)) (tgt := 160) C (dx dX7_statement 73 rfl) (by decide) (fun c18 => ?_) (fun c18 => ?_)
                  ·
                    have c18 : (wdB 8 B z ((stp B z (stp B z e).2.2).1) ((stp B z (stp B z e).2.2).2.1) ((stp B z (stp B z e).2.2).2.2)) = false := c18
                    refine r_aload_n C (dx dX7_statement 84 rfl) rfl ?_
                    refine r_dupR C (dx dX7_statement 85 rfl) ?_
                    refine g_X7_74 (x := nI (vN v)) C (dx dX7_statement 86 rfl) ph16.m.eN ?_
                    refine r_iconst (v := nI 1) C (dx dX7_statement 87 rfl) rfl ?_
                    refine rn_iadd (a := vN v) (b := 1) C (dx dX7_statement 88 rfl) ?_
                    refine p_X7_74 C (dx dX7_statement 89 rfl) rfl rfl ?_
                    have ph19 : Px h (sI h16 k 16 (nI (vN v + 1))) k z B ((stp B z (stp B z e).2.2).1, (stp B z (stp B z e).2.2).2.1, (stp B z (stp B z e).2.2).2.2) (vsN (vset (nwV v 4) 4 (vN v) (nmQ B z (stp B z e) (nI 0) (nI 9))) (vN v + 1)) := ph16.fd (ph16.m.sN (n := vN v + 1) (by omega)) (by decide) (by decide) (by decide) (by decide) (by decide)
                    generalize sI h16 k 16 (nI (vN v + 1)) = h19 at ph19 ⊢
                    refine r_iconst (v := nI 1) C (dx dX7_statement 90 rfl) rfl ?_
                    exact F.1 _ _ _ _ .boolean rfl rfl (dx dX7_statement 91 rfl) ph19.kk ⟨true, rfl, (show RdP h h19 k z B (stW B z (t, s, e) v) true from RdP.t ((st_on (q := (t, s, e)) c3).trans (((on_a (q := (t, s, e)) h8 nnrbh14).trans (oa_n c17)).trans (oe_n c18))) (by rw [← oneV_nn]; exact ph19))⟩
                  ·
                    have c18 : (wdB 8 B z ((stp B z (stp B z e).2.2).1) ((stp B z (stp B z e).2.2).2.1) ((stp B z (stp B z e).2.2).2.2)) = true := c18
                    refine r_aload_n C (dx dX7_statement 74 rfl) rfl ?_
                    refine r_cv (as := []) (st := []) C X I_X7_look l_X7_184 (e_look (fun i9 hi9 => ph16.tp hi9) ph16.lk) (by decide) (Nat.le_of_ble_eq_true rfl) List.prefix_rfl (pfx_eq ph16.kk) rfl rfl (Nat.le_of_ble_eq_true rfl) rfl (dx dX7_statement 75 rfl) ?_
                    rintro _ h20 ⟨rfl, qh20, uh20⟩ kkh20
                    have ph20 : Px h h20 k z B ((stp B z ((stp B z (stp B z e).2.2).2.2)).1, (stp B z ((stp B z (stp B z e).2.2).2.2)).2.1, (stp B z ((stp B z (stp B z e).2.2).2.2)).2.2) (vset (nwV v 4) 4 (vN v) (nmQ B z (stp B z e) (nI 0) (nI 9))) := ph16.tr qh20
                    have seh20 := ph20.se
                    have ezh20 := ph20.ez
                    refine r_aload_n C (dx dX7_statement 76 rfl) rfl ?_
                    refine g_X7_54 C (dx dX7_statement 77 rfl) ?_
                    refine r_aload_n C (dx dX7_statement 78 rfl) rfl ?_
                    refine g_X7_74 (x := nI (vN v)) C (dx dX7_statement 79 rfl) ph20.m.eN ?_
                    refine r_aald4 (j := vN v) C rfl rfl (by decide) rfl (by omega) (dx dX7_statement 80 rfl) ?_
                    refine r_iconst (v := nI 2) C (dx dX7_statement 81 rfl) rfl ?_
                    refine r_iconst (v := nI 1) C (dx dX7_statement 82 rfl) rfl ?_
                    refine r_iast (j := 2) C rfl rfl (by decide) rfl (by omega) (dx dX7_statement 83 rfl) ?_
                    have ph21 : Px h (sI h20 (k + 23 + (vN v)) 2 (nI 1)) k z B ((stp B z ((stp B z (stp B z e).2.2).2.2)).1, (stp B z ((stp B z (stp B z e).2.2).2.2)).2.1, (stp B z ((stp B z (stp B z e).2.2).2.2)).2.2) (vset (vset (nwV v 4) 4 (vN v) (nmQ B z (stp B z e) (nI 0) (nI 9))) 6 (vN v) (nI 1)) := ph20.c (ph20.m.so (by omega) (by omega)) (by omega) (by omega)
                    generalize sI h20 (k + 23 + (vN v)) 2 (nI 1) = h21 at ph21 ⊢
                    refine r_aload_n C (dx dX7_statement 84 rfl) rfl ?_
                    refine r_dupR C (dx dX7_statement 85 rfl) ?_
                    refine g_X7_74 (x := nI (vN v)) C (dx dX7_statement 86 rfl) ph21.m.eN ?_
                    refine r_iconst (v := nI 1) C (dx dX7_statement 87 rfl) rfl ?_
                    refine rn_iadd (a := vN v) (b := 1) C (dx dX7_statement 88 rfl) ?_
                    refine p_X7_74 C (dx dX7_statement 89 rfl) rfl rfl ?_
                    have ph22 : Px h (sI h21 k 16 (nI (vN v + 1))) k z B ((stp B z ((stp B z (stp B z e).2.2).2.2)).1, (stp B z ((stp B z (stp B z e).2.2).2.2)).2.1, (stp B z ((stp B z (stp B z e).2.2).2.2)).2.2) (vsN (vset (vset (nwV v 4) 4 (vN v) (nmQ B z (stp B z e) (nI 0) (nI 9))) 6 (vN v) (nI 1)) (vN v + 1)) := ph21.fd (ph21.m.sN (n := vN v + 1) (by omega)) (by decide) (by decide) (by decide) (by decide) (by decide)
                    generalize sI h21 k 16 (nI (vN v + 1)) = h22 at ph22 ⊢
                    refine r_iconst (v := nI 1) C (dx dX7_statement 90 rfl) rfl ?_
                    exact F.1 _ _ _ _ .boolean rfl rfl (dx dX7_statement 91 rfl) ph22.kk ⟨true, rfl, (show RdP h h22 k z B (stW B z (t, s, e) v) true from RdP.t ((st_on (q := (t, s, e)) c3).trans (((on_a (q := (t, s, e)) h8 nnrbh14).trans (oa_n c17)).trans (oe_y c18))) (by rw [← oneV_nc]; exact ph22))⟩
                ·
                  have c17 : (wdB 7 B z ((stp B z (stp B z e).2.2).1) ((stp B z (stp B z e).2.2).2.1) ((stp B z (stp B z e).2.2).2.2)) = true := c17
                  refine r_aload_n C (dx dX7_statement 53 rfl) rfl ?_
                  refine r_ldcS C 17 rfl (dx dX7_statement 54 rfl) ?_
                  refine r_iconst (v := nI 0) C (dx dX7_statement 55 rfl) rfl ?_
                  refine r_bipush (v := nI 10) C (dx dX7_statement 56 rfl) rfl ?_
                  refine r_cv (as := [vt 1007, vi (nI 0), vi (nI 10)]) (st := []) C X I_X7_tells l_X7_206 (e_tells ph16.slf (i := 7) (by decide) (nI 0) (nI 10) (by decide)) (by decide) (Nat.le_of_ble_eq_true rfl) List.prefix_rfl (pfx_eq ph16.kk) rfl rfl (Nat.le_of_ble_eq_true rfl) rfl (dx dX7_statement 57 rfl) ?_
                  rintro _ h23 ⟨bh23, rfl, gh23⟩ kkh23
                  have kh23 : xK h23 = xK h := kkh23.trans ph16.kk
                  have gh23 := TlP.pre ph16 gh23
                  refine rb_ne (b := bh23) (tgt := 120) C (dx dX7_statement 58 rfl) (by decide) (fun c24 => ?_) (fun c24 => ?_)
                  ·
                    have c24 : bh23 = true := c24
                    rw [c24] at gh23
                    obtain ⟨wrbh23, grbh23⟩ := TlP.t gh23
                    obtain ⟨nnrbh23, prbh23, erbh23⟩ := NmP.t grbh23
                    have prbh23 : Px h h23 k z B ((stp B z (stp B z ((stp B z (stp B z e).2.2).2.2)).2.2).1, (stp B z (stp B z ((stp B z (stp B z e).2.2).2.2)).2.2).2.1, (stp B z (stp B z ((stp B z (stp B z e).2.2).2.2)).2.2).2.2) (vset (nwV v 4) 4 (vN v) (nmQ B z (stp B z e) (nI 0) (nI 9))) := prbh23
                    have serbh23 := Px.se (t := (stp B z (stp B z ((stp B z (stp B z e).2.2).2.2)).2.2).1) (s := (stp B z (stp B z ((stp B z (stp B z e).2.2).2.2)).2.2).2.1) (e := (stp B z (stp B z ((stp B z (stp B z e).2.2).2.2)).2.2).2.2) prbh23
                    have ezrbh23 := Px.ez (t := (stp B z (stp B z ((stp B z (stp B z e).2.2).2.2)).2.2).1) (s := (stp B z (stp B z ((stp B z (stp B z e).2.2).2.2)).2.2).2.1) (e := (stp B z (stp B z ((stp B z (stp B z e).2.2).2.2)).2.2).2.2) prbh23
                    have adrbh23 := nm_adv (B := B) (a := (stp B z (stp B z e).2.2).2.2) (by omega) nnrbh23
                    have gerbh23 := stp_ge (B := B) (z := z) (a := (stp B z ((stp B z (stp B z e).2.2).2.2)).2.2) (stp_le (B := B) (z := z) (e := (stp B z (stp B z e).2.2).2.2) (by omega)).2
                    refine r_aload_n C (dx dX7_statement 61 rfl) rfl ?_
                    refine g_X7_54 C (dx dX7_statement 62 rfl) ?_
                    refine r_aload_n C (dx dX7_statement 63 rfl) rfl ?_
                    refine g_X7_74 (x := nI (vN v)) C (dx dX7_statement 64 rfl) prbh23.m.eN ?_
                    refine r_aald4 (j := vN v) C rfl rfl (by decide) rfl (by omega) (dx dX7_statement 65 rfl) ?_
                    refine r_iconst (v := nI 1) C (dx dX7_statement 66 rfl) rfl ?_
                    refine r_aload_n C (dx dX7_statement 67 rfl) rfl ?_
                    refine g_X7_181 (x := nmQ B z (stp B z ((stp B z (stp B z e).2.2).2.2)) (nI 0) (nI 10)) C (dx dX7_statement 68 rfl) erbh23 ?_
                    refine r_iast (j := 1) C rfl rfl (by decide) rfl (by omega) (dx dX7_statement 69 rfl) ?_
                    have ph25 : Px h (sI h23 (k + 23 + (vN v)) 1 (nmQ B z (stp B z ((stp B z (stp B z e).2.2).2.2)) (nI 0) (nI 10))) k z B ((stp B z (stp B z ((stp B z (stp B z e).2.2).2.2)).2.2).1, (stp B z (stp B z ((stp B z (stp B z e).2.2).2.2)).2.2).2.1, (stp B z (stp B z ((stp B z (stp B z e).2.2).2.2)).2.2).2.2) (vset (vset (nwV v 4) 4 (vN v) (nmQ B z (stp B z e) (nI 0) (nI 9))) 5 (vN v) (nmQ B z (stp B z ((stp B z (stp B z e).2.2).2.2)) (nI 0) (nI 10))) := prbh23.c (prbh23.m.so (by omega) (by omega)) (by omega) (by omega)
                    generalize sI h23 (k + 23 + (vN v)) 1 (nmQ B z (stp B z ((stp B z (stp B z e).2.2).2.2)) (nI 0) (nI 10)) = h25 at ph25 ⊢
                    refine r_aload_n C (dx dX7_statement 70 rfl) rfl ?_
                    refine r_ldcS C 18 rfl (dx dX7_statement 71 rfl) ?_
                    refine r_cvP (as := [vt 1008]) (st := []) (v := vi (b2i (wdB 8 B z ((stp B z (stp B z ((stp B z (stp B z e).2.2).2.2)).2.2).1) ((stp B z (stp B z ((stp B z (stp B z e).2.2).2.2)).2.2).2.1) ((stp B z (stp B z ((stp B z (stp B z e).2.2).2.2)).2.2).2.2)))) C X I_X7_isWord l_X7_187 (e_isWord ph25.slf (i := 8) (by decide)) (by decide) (Nat.le_of_ble_eq_true rfl) (pfx_eq ph25.kk) rfl rfl (Nat.le_of_ble_eq_true rfl) rfl (dx dX7_statement 72 rfl) ?_
                    refine rb_eq (b := wdB 8 B z ((stp B z (stp B z ((stp B z (stp B z e).2.2).2.2)).2.2).1) ((stp B z (stp B z ((stp B z (stp B z e).2.2).2.2)).2.2).2.1) ((stp B z (stp B z ((stp B z (stp B z e).2.2).2.2)).2.2).2.2)) (tgt := 160) C (dx dX7_statement 73 rfl) (by decide) (fun c26 => ?_) (fun c26 => ?_)
                    ·
                      have c26 : (wdB 8 B z ((stp B z (stp B z ((stp B z (stp B z e).2.2).2.2)).2.2).1) ((stp B z (stp B z ((stp B z (stp B z e).2.2).2.2)).2.2).2.1) ((stp B z (stp B z ((stp B z (stp B z e).2.2).2.2)).2.2).2.2)) = false := c26
                      refine r_aload_n C (dx dX7_statement 84 rfl) rfl ?_
                      refine r_dupR C (dx dX7_statement 85 rfl) ?_
                      refine g_X7_74 (x := nI (vN v)) C (dx dX7_statement 86 rfl) ph25.m.eN ?_
                      refine r_iconst (v := nI 1) C (dx dX7_statement 87 rfl) rfl ?_
                      refine rn_iadd (a := vN v) (b := 1) C (dx dX7_statement 88 rfl) ?_
                      refine p_X7_74 C (dx dX7_statement 89 rfl) rfl rfl ?_
                      have ph27 : Px h (sI h25 k 16 (nI (vN v + 1))) k z B ((stp B z (stp B z ((stp B z (stp B z e).2.2).2.2)).2.2).1, (stp B z (stp B z ((stp B z (stp B z e).2.2).2.2)).2.2).2.1, (stp B z (stp B z ((stp B z (stp B z e).2.2).2.2)).2.2).2.2) (vsN (vset (vset (nwV v 4) 4 (vN v) (nmQ B z (stp B z e) (nI 0) (nI 9))) 5 (vN v) (nmQ B z (stp B z ((stp B z (stp B z e).2.2).2.2)) (nI 0) (nI 10))) (vN v + 1)) := ph25.fd (ph25.m.sN (n := vN v + 1) (by omega)) (by decide) (by decide) (by decide) (by decide) (by decide)
                      generalize sI h25 k 16 (nI (vN v + 1)) = h27 at ph27 ⊢
                      refine r_iconst (v := nI 1) C (dx dX7_statement 90 rfl) rfl ?_
                      exact F.1 _ _ _ _ .boolean rfl rfl (dx dX7_statement 91 rfl) ph27.kk ⟨true, rfl, (show RdP h h27 k z B (stW B z (t, s, e) v) true from RdP.t ((st_on (q := (t, s, e)) c3).trans (((on_a (q := (t, s, e)) h8 nnrbh14).trans (oa_y c17 nnrbh23)).trans (oe_n c26))) (by rw [← oneV_ag]; exact ph27))⟩
                    ·
                      have c26 : (wdB 8 B z ((stp B z (stp B z ((stp B z (stp B z e).2.2).2.2)).2.2).1) ((stp B z (stp B z ((stp B z (stp B z e).2.2).2.2)).2.2).2.1) ((stp B z (stp B z ((stp B z (stp B z e).2.2).2.2)).2.2).2.2)) = true := c26
                      refine r_aload_n C (dx dX7_statement 74 rfl) rfl ?_
                      refine r_cv (as := []) (st := []) C X I_X7_look l_X7_184 (e_look (fun i9 hi9 => ph25.tp hi9) ph25.lk) (by decide) (Nat.le_of_ble_eq_true rfl) List.prefix_rfl (pfx_eq ph25.kk) rfl rfl (Nat.le_of_ble_eq_true rfl) rfl (dx dX7_statement 75 rfl) ?_
                      rintro _ h28 ⟨rfl, qh28, uh28⟩ kkh28
                      have ph28 : Px h h28 k z B ((stp B z ((stp B z (stp B z ((stp B z (stp B z e).2.2).2.2)).2.2).2.2)).1, (stp B z ((stp B z (stp B z ((stp B z (stp B z e).2.2).2.2)).2.2).2.2)).2.1, (stp B z ((stp B z (stp B z ((stp B z (stp B z e).2.2).2.2)).2.2).2.2)).2.2) (vset (vset (nwV v 4) 4 (vN v) (nmQ B z (stp B z e) (nI 0) (nI 9))) 5 (vN v) (nmQ B z (stp B z ((stp B z (stp B z e).2.2).2.2)) (nI 0) (nI 10))) := ph25.tr qh28
                      have seh28 := ph28.se
                      have ezh28 := ph28.ez
                      refine r_aload_n C (dx dX7_statement 76 rfl) rfl ?_
                      refine g_X7_54 C (dx dX7_statement 77 rfl) ?_
                      refine r_aload_n C (dx dX7_statement 78 rfl) rfl ?_
                      refine g_X7_74 (x := nI (vN v)) C (dx dX7_statement 79 rfl) ph28.m.eN ?_
                      refine r_aald4 (j := vN v) C rfl rfl (by decide) rfl (by omega) (dx dX7_statement 80 rfl) ?_
                      refine r_iconst (v := nI 2) C (dx dX7_statement 81 rfl) rfl ?_
                      refine r_iconst (v := nI 1) C (dx dX7_statement 82 rfl) rfl ?_
                      refine r_iast (j := 2) C rfl rfl (by decide) rfl (by omega) (dx dX7_statement 83 rfl) ?_
                      have ph29 : Px h (sI h28 (k + 23 + (vN v)) 2 (nI 1)) k z B ((stp B z ((stp B z (stp B z ((stp B z (stp B z e).2.2).2.2)).2.2).2.2)).1, (stp B z ((stp B z (stp B z ((stp B z (stp B z e).2.2).2.2)).2.2).2.2)).2.1, (stp B z ((stp B z (stp B z ((stp B z (stp B z e).2.2).2.2)).2.2).2.2)).2.2) (vset (vset (vset (nwV v 4) 4 (vN v) (nmQ B z (stp B z e) (nI 0) (nI 9))) 5 (vN v) (nmQ B z (stp B z ((stp B z (stp B z e).2.2).2.2)) (nI 0) (nI 10))) 6 (vN v) (nI 1)) := ph28.c (ph28.m.so (by omega) (by omega)) (by omega) (by omega)
                      generalize sI h28 (k + 23 + (vN v)) 2 (nI 1) = h29 at ph29 ⊢
                      refine r_aload_n C (dx dX7_statement 84 rfl) rfl ?_
                      refine r_dupR C (dx dX7_statement 85 rfl) ?_
                      refine g_X7_74 (x := nI (vN v)) C (dx dX7_statement 86 rfl) ph29.m.eN ?_
                      refine r_iconst (v := nI 1) C (dx dX7_statement 87 rfl) rfl ?_
                      refine rn_iadd (a := vN v) (b := 1) C (dx dX7_statement 88 rfl) ?_
                      refine p_X7_74 C (dx dX7_statement 89 rfl) rfl rfl ?_
                      have ph30 : Px h (sI h29 k 16 (nI (vN v + 1))) k z B ((stp B z ((stp B z (stp B z ((stp B z (stp B z e).2.2).2.2)).2.2).2.2)).1, (stp B z ((stp B z (stp B z ((stp B z (stp B z e).2.2).2.2)).2.2).2.2)).2.1, (stp B z ((stp B z (stp B z ((stp B z (stp B z e).2.2).2.2)).2.2).2.2)).2.2) (vsN (vset (vset (vset (nwV v 4) 4 (vN v) (nmQ B z (stp B z e) (nI 0) (nI 9))) 5 (vN v) (nmQ B z (stp B z ((stp B z (stp B z e).2.2).2.2)) (nI 0) (nI 10))) 6 (vN v) (nI 1)) (vN v + 1)) := ph29.fd (ph29.m.sN (n := vN v + 1) (by omega)) (by decide) (by decide) (by decide) (by decide) (by decide)
                      generalize sI h29 k 16 (nI (vN v + 1)) = h30 at ph30 ⊢
                      refine r_iconst (v := nI 1) C (dx dX7_statement 90 rfl) rfl ?_
                      exact F.1 _ _ _ _ .boolean rfl rfl (dx dX7_statement 91 rfl) ph30.kk ⟨true, rfl, (show RdP h h30 k z B (stW B z (t, s, e) v) true from RdP.t ((st_on (q := (t, s, e)) c3).trans (((on_a (q := (t, s, e)) h8 nnrbh14).trans (oa_y c17 nnrbh23)).trans (oe_y c26))) (by rw [← oneV_ac]; exact ph30))⟩
                  ·
                    have c24 : bh23 = false := c24
                    rw [c24] at gh23
                    refine r_iconst (v := nI 0) C (dx dX7_statement 59 rfl) rfl ?_
                    rcases TlP.f gh23 with ⟨w9, p9, f9⟩ | ⟨w9, nn9, p9, f9⟩
                    ·
                      exact F.1 _ _ _ _ .boolean rfl rfl (dx dX7_statement 60 rfl) kh23 ⟨false, rfl, (show RdP h h23 k z B (stW B z (t, s, e) v) false from absurd (w9.symm.trans c17) (by decide))⟩
                    ·
                      exact F.1 _ _ _ _ .boolean rfl rfl (dx dX7_statement 60 rfl) kh23 ⟨false, rfl, (show RdP h h23 k z B (stW B z (t, s, e) v) false from RdP.f (((st_on (q := (t, s, e)) c3).trans (on_a (q := (t, s, e)) h8 nnrbh14)).trans (oa_f c17 nn9)) p9 f9)⟩
              ·
                have c15 : bh14 = false := c15
                rw [c15] at gh14
                refine r_iconst (v := nI 0) C (dx dX7_statement 38 rfl) rfl ?_
                rcases TlP.f gh14 with ⟨w9, p9, f9⟩ | ⟨w9, nn9, p9, f9⟩
                ·
                  exact F.1 _ _ _ _ .boolean rfl rfl (dx dX7_statement 39 rfl) kh14 ⟨false, rfl, (show RdP h h14 k z B (stW B z (t, s, e) v) false from absurd (w9.symm.trans c3) (by decide))⟩
                ·
                  exact F.1 _ _ _ _ .boolean rfl rfl (dx dX7_statement 39 rfl) kh14 ⟨false, rfl, (show RdP h h14 k z B (stW B z (t, s, e) v) false from RdP.f ((st_on (q := (t, s, e)) c3).trans (on_f1 (q := (t, s, e)) h8 nn9)) p9 f9)⟩)
    ·
      have c2 : (wdB 3 B z t s e) = true := c2
      refine r_aload_n C (dx dX7_statement 15 rfl) rfl ?_
      refine g_X7_71 (x := nI (vM v)) C (dx dX7_statement 16 rfl) p.m.eM ?_
      refine r_bipush (v := nI 6) C (dx dX7_statement 17 rfl) rfl ?_
      refine rn_ge (a := vM v) (b := 6) (tgt := 46) C (by omega) (by omega) (dx dX7_statement 18 rfl) (by decide) (fun c31 => ?_) (fun c31 => ?_)
      · first
        | (omega; done)
        | (
            have c31 : 6 ≤ vM v := c31
            refine r_aload_n C (dx dX7_statement 22 rfl) rfl ?_
            refine r_ldcS C 16 rfl (dx dX7_statement 23 rfl) ?_
            refine r_cvP (as := [vt 1006]) (st := []) (v := vi (b2i (wdB 6 B z t s e))) C X I_X7_isWord l_X7_187 (e_isWord p.slf (i := 6) (by decide)) (by decide) (Nat.le_of_ble_eq_true rfl) (pfx_eq p.kk) rfl rfl (Nat.le_of_ble_eq_true rfl) rfl (dx dX7_statement 24 rfl) ?_
            refine rb_eq (b := wdB 6 B z t s e) (tgt := 172) C (dx dX7_statement 25 rfl) (by decide) (fun c32 => ?_) (fun c32 => ?_)
            ·
              have c32 : (wdB 6 B z t s e) = false := c32
              refine r_aload_n C (dx dX7_statement 92 rfl) rfl ?_
              refine r_ldcS C 19 rfl (dx dX7_statement 93 rfl) ?_
              refine r_iconst (v := nI 0) C (dx dX7_statement 94 rfl) rfl ?_
              refine r_aload_n C (dx dX7_statement 95 rfl) rfl ?_
              refine g_X7_64 (x := nI (vP v)) C (dx dX7_statement 96 rfl) p.m.eP ?_
              refine r_iconst (v := nI 1) C (dx dX7_statement 97 rfl) rfl ?_
              refine r_isub C (dx dX7_statement 98 rfl) ?_
              refine r_cv (as := [vt 1009, vi (nI 0), vi ((nI (vP v)) - (nI 1))]) (st := []) C X I_X7_tells l_X7_206 (e_tells p.slf (i := 9) (by decide) (nI 0) ((nI (vP v)) - (nI 1)) (le99n (by omega))) (by decide) (Nat.le_of_ble_eq_true rfl) List.prefix_rfl (pfx_eq p.kk) rfl rfl (Nat.le_of_ble_eq_true rfl) rfl (dx dX7_statement 99 rfl) ?_
              rintro _ h33 ⟨bh33, rfl, gh33⟩ kkh33
              have kh33 : xK h33 = xK h := kkh33.trans p.kk
              have gh33 := TlP.pre p gh33
              refine rb_eq (b := bh33) (tgt := 204) C (dx dX7_statement 100 rfl) (by decide) (fun c34 => ?_) (fun c34 => ?_)
              ·
                have c34 : bh33 = false := c34
                rw [c34] at gh33
                refine r_iconst (v := nI 0) C (dx dX7_statement 109 rfl) rfl ?_
                rcases TlP.f gh33 with ⟨w9, p9, f9⟩ | ⟨w9, nn9, p9, f9⟩
                ·
                  exact F.1 _ _ _ _ .boolean rfl rfl (dx dX7_statement 110 rfl) kh33 ⟨false, rfl, (show RdP h h33 k z B (stW B z (t, s, e) v) false from RdP.f (st_no (q := (t, s, e)) (fun y => by rw [c1] at y; exact absurd y (by decide)) (fun _ => by omega) (fun y => by rw [c32] at y; exact absurd y (by decide)) w9) p9 f9)⟩
                ·
                  exact F.1 _ _ _ _ .boolean rfl rfl (dx dX7_statement 110 rfl) kh33 ⟨false, rfl, (show RdP h h33 k z B (stW B z (t, s, e) v) false from RdP.f ((st_gv (q := (t, s, e)) w9).trans (gv_f1 (q := (t, s, e)) nn9)) p9 f9)⟩
              ·
                have c34 : bh33 = true := c34
                rw [c34] at gh33
                obtain ⟨wrbh33, grbh33⟩ := TlP.t gh33
                obtain ⟨nnrbh33, prbh33, erbh33⟩ := NmP.t grbh33
                have prbh33 : Px h h33 k z B ((stp B z (stp B z e).2.2).1, (stp B z (stp B z e).2.2).2.1, (stp B z (stp B z e).2.2).2.2) v := prbh33
                have serbh33 := Px.se (t := (stp B z (stp B z e).2.2).1) (s := (stp B z (stp B z e).2.2).2.1) (e := (stp B z (stp B z e).2.2).2.2) prbh33
                have ezrbh33 := Px.ez (t := (stp B z (stp B z e).2.2).1) (s := (stp B z (stp B z e).2.2).2.1) (e := (stp B z (stp B z e).2.2).2.2) prbh33
                have adrbh33 := nm_adv (B := B) (a := e) (by omega) nnrbh33
                have gerbh33 := stp_ge (B := B) (z := z) (a := (stp B z e).2.2) (stp_le (B := B) (z := z) (e := e) (by omega)).2
                refine r_aload_n C (dx dX7_statement 101 rfl) rfl ?_
                refine r_aload_n C (dx dX7_statement 102 rfl) rfl ?_
                refine g_X7_181 (x := nmQ B z (stp B z e) (nI 0) ((nI (vP v)) - (nI 1))) C (dx dX7_statement 103 rfl) erbh33 ?_
                obtain ⟨j9, hj9, ej9⟩ := gv_j (q := (t, s, e)) nnrbh33 bP
                rw [show nmQ B z (stp B z e) (nI 0) ((nI (vP v)) - (nI 1)) = nI j9 from ej9]
                refine r_iconst (v := nI 0) C (dx dX7_statement 104 rfl) rfl ?_
                refine r_cv (as := [vi (nI j9), vi (nI 0)]) (st := []) C X I_X7_gets l_X7_199 (e_gets prbh33.slf ⟨(stp B z e).2.2, by omega, rfl⟩ (j := j9) hj9 false) (by decide) (Nat.le_of_ble_eq_true rfl) List.prefix_rfl (pfx_eq prbh33.kk) rfl rfl (Nat.le_of_ble_eq_true rfl) rfl (dx dX7_statement 105 rfl) ?_
                rintro _ h35 ⟨bh35, rfl, gh35⟩ kkh35
                have kh35 : xK h35 = xK h := kkh35.trans prbh33.kk
                have gh35 := GtP.pre prbh33 gh35
                refine rb_eq (b := bh35) (tgt := 204) C (dx dX7_statement 106 rfl) (by decide) (fun c36 => ?_) (fun c36 => ?_)
                ·
                  have c36 : bh35 = false := c36
                  refine r_iconst (v := nI 0) C (dx dX7_statement 109 rfl) rfl ?_
                  rw [c36] at gh35
                  exact F.1 _ _ _ _ .boolean rfl rfl (dx dX7_statement 110 rfl) kh35 ⟨false, rfl, (show RdP h h35 k z B (stW B z (t, s, e) v) false from RdP.eq (st_gv (q := (t, s, e)) wrbh33) (gv_f2 (q := (t, s, e)) nnrbh33 (by omega) ej9 gh35))⟩
                ·
                  have c36 : bh35 = true := c36
                  refine r_iconst (v := nI 1) C (dx dX7_statement 107 rfl) rfl ?_
                  refine r_goto (tgt := 205) C (dx dX7_statement 108 rfl) (by decide) ?_
                  rw [c36] at gh35
                  exact F.1 _ _ _ _ .boolean rfl rfl (dx dX7_statement 110 rfl) kh35 ⟨true, rfl, (show RdP h h35 k z B (stW B z (t, s, e) v) true from RdP.eq (st_gv (q := (t, s, e)) wrbh33) (gv_t (q := (t, s, e)) nnrbh33 (by omega) ej9 gh35))⟩
            ·
              have c32 : (wdB 6 B z t s e) = true := c32
              refine r_aload_n C (dx dX7_statement 26 rfl) rfl ?_
              refine g_X7_74 (x := nI (vN v)) C (dx dX7_statement 27 rfl) p.m.eN ?_
              refine r_bipush (v := nI 8) C (dx dX7_statement 28 rfl) rfl ?_
              refine rn_ge (a := vN v) (b := 8) (tgt := 172) C (by omega) (by omega) (dx dX7_statement 29 rfl) (by decide) (fun c37 => ?_) (fun c37 => ?_)
              · first
                | (omega; done)
                | (
                    have c37 : 8 ≤ vN v := c37
                    refine r_aload_n C (dx dX7_statement 92 rfl) rfl ?_
                    refine r_ldcS C 19 rfl (dx dX7_statement 93 rfl) ?_
                    refine r_iconst (v := nI 0) C (dx dX7_statement 94 rfl) rfl ?_
                    refine r_aload_n C (dx dX7_statement 95 rfl) rfl ?_
                    refine g_X7_64 (x := nI (vP v)) C (dx dX7_statement 96 rfl) p.m.eP ?_
                    refine r_iconst (v := nI 1) C (dx dX7_statement 97 rfl) rfl ?_
                    refine r_isub C (dx dX7_statement 98 rfl) ?_
                    refine r_cv (as := [vt 1009, vi (nI 0), vi ((nI (vP v)) - (nI 1))]) (st := []) C X I_X7_tells l_X7_206 (e_tells p.slf (i := 9) (by decide) (nI 0) ((nI (vP v)) - (nI 1)) (le99n (by omega))) (by decide) (Nat.le_of_ble_eq_true rfl) List.prefix_rfl (pfx_eq p.kk) rfl rfl (Nat.le_of_ble_eq_true rfl) rfl (dx dX7_statement 99 rfl) ?_
                    rintro _ h38 ⟨bh38, rfl, gh38⟩ kkh38
                    have kh38 : xK h38 = xK h := kkh38.trans p.kk
                    have gh38 := TlP.pre p gh38
                    refine rb_eq (b := bh38) (tgt := 204) C (dx dX7_statement 100 rfl) (by decide) (fun c39 => ?_) (fun c39 => ?_)
                    ·
                      have c39 : bh38 = false := c39
                      rw [c39] at gh38
                      refine r_iconst (v := nI 0) C (dx dX7_statement 109 rfl) rfl ?_
                      rcases TlP.f gh38 with ⟨w9, p9, f9⟩ | ⟨w9, nn9, p9, f9⟩
                      ·
                        exact F.1 _ _ _ _ .boolean rfl rfl (dx dX7_statement 110 rfl) kh38 ⟨false, rfl, (show RdP h h38 k z B (stW B z (t, s, e) v) false from RdP.f (st_no (q := (t, s, e)) (fun y => by rw [c1] at y; exact absurd y (by decide)) (fun _ => by omega) (fun _ => by omega) w9) p9 f9)⟩
                      ·
                        exact F.1 _ _ _ _ .boolean rfl rfl (dx dX7_statement 110 rfl) kh38 ⟨false, rfl, (show RdP h h38 k z B (stW B z (t, s, e) v) false from RdP.f ((st_gv (q := (t, s, e)) w9).trans (gv_f1 (q := (t, s, e)) nn9)) p9 f9)⟩
                    ·
                      have c39 : bh38 = true := c39
                      rw [c39] at gh38
                      obtain ⟨wrbh38, grbh38⟩ := TlP.t gh38
                      obtain ⟨nnrbh38, prbh38, erbh38⟩ := NmP.t grbh38
                      have prbh38 : Px h h38 k z B ((stp B z (stp B z e).2.2).1, (stp B z (stp B z e).2.2).2.1, (stp B z (stp B z e).2.2).2.2) v := prbh38
                      have serbh38 := Px.se (t := (stp B z (stp B z e).2.2).1) (s := (stp B z (stp B z e).2.2).2.1) (e := (stp B z (stp B z e).2.2).2.2) prbh38
                      have ezrbh38 := Px.ez (t := (stp B z (stp B z e).2.2).1) (s := (stp B z (stp B z e).2.2).2.1) (e := (stp B z (stp B z e).2.2).2.2) prbh38
                      have adrbh38 := nm_adv (B := B) (a := e) (by omega) nnrbh38
                      have gerbh38 := stp_ge (B := B) (z := z) (a := (stp B z e).2.2) (stp_le (B := B) (z := z) (e := e) (by omega)).2
                      refine r_aload_n C (dx dX7_statement 101 rfl) rfl ?_
                      refine r_aload_n C (dx dX7_statement 102 rfl) rfl ?_
                      refine g_X7_181 (x := nmQ B z (stp B z e) (nI 0) ((nI (vP v)) - (nI 1))) C (dx dX7_statement 103 rfl) erbh38 ?_
                      obtain ⟨j9, hj9, ej9⟩ := gv_j (q := (t, s, e)) nnrbh38 bP
                      rw [show nmQ B z (stp B z e) (nI 0) ((nI (vP v)) - (nI 1)) = nI j9 from ej9]
                      refine r_iconst (v := nI 0) C (dx dX7_statement 104 rfl) rfl ?_
                      refine r_cv (as := [vi (nI j9), vi (nI 0)]) (st := []) C X I_X7_gets l_X7_199 (e_gets prbh38.slf ⟨(stp B z e).2.2, by omega, rfl⟩ (j := j9) hj9 false) (by decide) (Nat.le_of_ble_eq_true rfl) List.prefix_rfl (pfx_eq prbh38.kk) rfl rfl (Nat.le_of_ble_eq_true rfl) rfl (dx dX7_statement 105 rfl) ?_
                      rintro _ h40 ⟨bh40, rfl, gh40⟩ kkh40
                      have kh40 : xK h40 = xK h := kkh40.trans prbh38.kk
                      have gh40 := GtP.pre prbh38 gh40
                      refine rb_eq (b := bh40) (tgt := 204) C (dx dX7_statement 106 rfl) (by decide) (fun c41 => ?_) (fun c41 => ?_)
                      ·
                        have c41 : bh40 = false := c41
                        refine r_iconst (v := nI 0) C (dx dX7_statement 109 rfl) rfl ?_
                        rw [c41] at gh40
                        exact F.1 _ _ _ _ .boolean rfl rfl (dx dX7_statement 110 rfl) kh40 ⟨false, rfl, (show RdP h h40 k z B (stW B z (t, s, e) v) false from RdP.eq (st_gv (q := (t, s, e)) wrbh38) (gv_f2 (q := (t, s, e)) nnrbh38 (by omega) ej9 gh40))⟩
                      ·
                        have c41 : bh40 = true := c41
                        refine r_iconst (v := nI 1) C (dx dX7_statement 107 rfl) rfl ?_
                        refine r_goto (tgt := 205) C (dx dX7_statement 108 rfl) (by decide) ?_
                        rw [c41] at gh40
                        exact F.1 _ _ _ _ .boolean rfl rfl (dx dX7_statement 110 rfl) kh40 ⟨true, rfl, (show RdP h h40 k z B (stW B z (t, s, e) v) true from RdP.eq (st_gv (q := (t, s, e)) wrbh38) (gv_t (q := (t, s, e)) nnrbh38 (by omega) ej9 gh40))⟩)
              · first
                | (omega; done)
                | (
                    have c37 : vN v < 8 := c37
                    refine r_aload_n C (dx dX7_statement 30 rfl) rfl ?_
                    refine r_cv (as := []) (st := []) C X I_X7_newOne l_X7_122 (p_newOne p.slf (by omega)) (by decide) (Nat.le_of_ble_eq_true rfl) List.prefix_rfl (pfx_eq p.kk) rfl rfl (Nat.le_of_ble_eq_true rfl) rfl (dx dX7_statement 31 rfl) ?_
                    have h8 : vN v < 8 := by omega
                    rintro _ h42 ⟨rfl, qh42⟩ kkh42
                    have ph42 := p.tr qh42
                    refine r_aload_n C (dx dX7_statement 32 rfl) rfl ?_
                    refine r_ldcS C 16 rfl (dx dX7_statement 33 rfl) ?_
                    refine r_iconst (v := nI 0) C (dx dX7_statement 34 rfl) rfl ?_
                    refine r_bipush (v := nI 9) C (dx dX7_statement 35 rfl) rfl ?_
                    refine r_cv (as := [vt 1006, vi (nI 0), vi (nI 9)]) (st := []) C X I_X7_tells l_X7_206 (e_tells ph42.slf (i := 6) (by decide) (nI 0) (nI 9) (by decide)) (by decide) (Nat.le_of_ble_eq_true rfl) List.prefix_rfl (pfx_eq ph42.kk) rfl rfl (Nat.le_of_ble_eq_true rfl) rfl (dx dX7_statement 36 rfl) ?_
                    rintro _ h43 ⟨bh43, rfl, gh43⟩ kkh43
                    have kh43 : xK h43 = xK h := kkh43.trans ph42.kk
                    have gh43 := TlP.pre ph42 gh43
                    refine rb_ne (b := bh43) (tgt := 82) C (dx dX7_statement 37 rfl) (by decide) (fun c44 => ?_) (fun c44 => ?_)
                    ·
                      have c44 : bh43 = true := c44
                      rw [c44] at gh43
                      obtain ⟨wrbh43, grbh43⟩ := TlP.t gh43
                      obtain ⟨nnrbh43, prbh43, erbh43⟩ := NmP.t grbh43
                      have prbh43 : Px h h43 k z B ((stp B z (stp B z e).2.2).1, (stp B z (stp B z e).2.2).2.1, (stp B z (stp B z e).2.2).2.2) (nwV v 4) := prbh43
                      have serbh43 := Px.se (t := (stp B z (stp B z e).2.2).1) (s := (stp B z (stp B z e).2.2).2.1) (e := (stp B z (stp B z e).2.2).2.2) prbh43
                      have ezrbh43 := Px.ez (t := (stp B z (stp B z e).2.2).1) (s := (stp B z (stp B z e).2.2).2.1) (e := (stp B z (stp B z e).2.2).2.2) prbh43
                      have adrbh43 := nm_adv (B := B) (a := e) (by omega) nnrbh43
                      have gerbh43 := stp_ge (B := B) (z := z) (a := (stp B z e).2.2) (stp_le (B := B) (z := z) (e := e) (by omega)).2
                      refine r_aload_n C (dx dX7_statement 40 rfl) rfl ?_
                      refine g_X7_54 C (dx dX7_statement 41 rfl) ?_
                      refine r_aload_n C (dx dX7_statement 42 rfl) rfl ?_
                      refine g_X7_74 (x := nI (vN v)) C (dx dX7_statement 43 rfl) prbh43.m.eN ?_
                      refine r_aald4 (j := vN v) C rfl rfl (by decide) rfl (by omega) (dx dX7_statement 44 rfl) ?_
                      refine r_iconst (v := nI 0) C (dx dX7_statement 45 rfl) rfl ?_
                      refine r_aload_n C (dx dX7_statement 46 rfl) rfl ?_
                      refine g_X7_181 (x := nmQ B z (stp B z e) (nI 0) (nI 9)) C (dx dX7_statement 47 rfl) erbh43 ?_
                      refine r_iast (j := 0) C rfl rfl (by decide) rfl (by omega) (dx dX7_statement 48 rfl) ?_
                      have ph45 : Px h (sI h43 (k + 23 + (vN v)) 0 (nmQ B z (stp B z e) (nI 0) (nI 9))) k z B ((stp B z (stp B z e).2.2).1, (stp B z (stp B z e).2.2).2.1, (stp B z (stp B z e).2.2).2.2) (vset (nwV v 4) 4 (vN v) (nmQ B z (stp B z e) (nI 0) (nI 9))) := prbh43.c (prbh43.m.so (by omega) (by omega)) (by omega) (by omega)
                      generalize sI h43 (k + 23 + (vN v)) 0 (nmQ B z (stp B z e) (nI 0) (nI 9)) = h45 at ph45 ⊢
                      refine r_aload_n C (dx dX7_statement 49 rfl) rfl ?_
                      refine r_ldcS C 17 rfl (dx dX7_statement 50 rfl) ?_
                      refine r_cvP (as := [vt 1007]) (st := []) (v := vi (b2i (wdB 7 B z ((stp B z (stp B z e).2.2).1) ((stp B z (stp B z e).2.2).2.1) ((stp B z (stp B z e).2.2).2.2)))) C X I_X7_isWord l_X7_187 (e_isWord ph45.slf (i := 7) (by decide)) (by decide) (Nat.le_of_ble_eq_true rfl) (pfx_eq ph45.kk) rfl rfl (Nat.le_of_ble_eq_true rfl) rfl (dx dX7_statement 51 rfl) ?_
                      refine rb_eq (b := wdB 7 B z ((stp B z (stp B z e).2.2).1) ((stp B z (stp B z e).2.2).2.1) ((stp B z (stp B z e).2.2).2.2)) (tgt := 135) C (dx dX7_statement 52 rfl) (by decide) (fun c46 => ?_) (fun c46 => ?_)
                      ·
                        have c46 : (wdB 7 B z ((stp B z (stp B z e).2.2).1) ((stp B z (stp B z e).2.2).2.1) ((stp B z (stp B z e).2.2).2.2)) = false := c46
                        refine r_aload_n C (dx dX7_statement 70 rfl) rfl ?_
                        refine r_ldcS C 18 rfl (dx dX7_statement 71 rfl) ?_
                        refine r_cvP (as := [vt 1008]) (st := []) (v := vi (b2i (wdB 8 B z ((stp B z (stp B z e).2.2).1) ((stp B z (stp B z e).2.2).2.1) ((stp B z (stp B z e).2.2).2.2)))) C X I_X7_isWord l_X7_187 (e_isWord ph45.slf (i := 8) (by decide)) (by decide) (Nat.le_of_ble_eq_true rfl) (pfx_eq ph45.kk) rfl rfl (Nat.le_of_ble_eq_true rfl) rfl (dx dX7_statement 72 rfl) ?_
                        refine rb_eq (b := wdB 8 B z ((stp B z (stp B z e).2.2).1) ((stp B z (stp B z e).2.2).2.1) ((stp B z (stp B z e).2.2).2.2)) (tgt := 160) C (dx dX7_statement 73 rfl) (by decide) (fun c47 => ?_) (fun c47 => ?_)
                        ·
                          have c47 : (wdB 8 B z ((stp B z (stp B z e).2.2).1) ((stp B z (stp B z e).2.2).2.1) ((stp B z (stp B z e).2.2).2.2)) = false := c47
                          refine r_aload_n C (dx dX7_statement 84 rfl) rfl ?_
                          refine r_dupR C (dx dX7_statement 85 rfl) ?_
                          refine g_X7_74 (x := nI (vN v)) C (dx dX7_statement 86 rfl) ph45.m.eN ?_
                          refine r_iconst (v := nI 1) C (dx dX7_statement 87 rfl) rfl ?_
                          refine rn_iadd (a := vN v) (b := 1) C (dx dX7_statement 88 rfl) ?_
                          refine p_X7_74 C (dx dX7_statement 89 rfl) rfl rfl ?_
                          have ph48 : Px h (sI h45 k 16 (nI (vN v + 1))) k z B ((stp B z (stp B z e).2.2).1, (stp B z (stp B z e).2.2).2.1, (stp B z (stp B z e).2.2).2.2) (vsN (vset (nwV v 4) 4 (vN v) (nmQ B z (stp B z e) (nI 0) (nI 9))) (vN v + 1)) := ph45.fd (ph45.m.sN (n := vN v + 1) (by omega)) (by decide) (by decide) (by decide) (by decide) (by decide)
                          generalize sI h45 k 16 (nI (vN v + 1)) = h48 at ph48 ⊢
                          refine r_iconst (v := nI 1) C (dx dX7_statement 90 rfl) rfl ?_
                          exact F.1 _ _ _ _ .boolean rfl rfl (dx dX7_statement 91 rfl) ph48.kk ⟨true, rfl, (show RdP h h48 k z B (stW B z (t, s, e) v) true from RdP.t ((st_on (q := (t, s, e)) c32).trans (((on_a (q := (t, s, e)) h8 nnrbh43).trans (oa_n c46)).trans (oe_n c47))) (by rw [← oneV_nn]; exact ph48))⟩
                        ·
                          have c47 : (wdB 8 B z ((stp B z (stp B z e).2.2).1) ((stp B z (stp B z e).2.2).2.1) ((stp B z (stp B z e).2.2).2.2)) = true := c47
                          refine r_aload_n C (dx dX7_statement 74 rfl) rfl ?_
                          refine r_cv (as := []) (st := []) C X I_X7_look l_X7_184 (e_look (fun i9 hi9 => ph45.tp hi9) ph45.lk) (by decide) (Nat.le_of_ble_eq_true rfl) List.prefix_rfl (pfx_eq ph45.kk) rfl rfl (Nat.le_of_ble_eq_true rfl) rfl (dx dX7_statement 75 rfl) ?_
                          rintro _ h49 ⟨rfl, qh49, uh49⟩ kkh49
                          have ph49 : Px h h49 k z B ((stp B z ((stp B z (stp B z e).2.2).2.2)).1, (stp B z ((stp B z (stp B z e).2.2).2.2)).2.1, (stp B z ((stp B z (stp B z e).2.2).2.2)).2.2) (vset (nwV v 4) 4 (vN v) (nmQ B z (stp B z e) (nI 0) (nI 9))) := ph45.tr qh49
                          have seh49 := ph49.se
                          have ezh49 := ph49.ez
                          refine r_aload_n C (dx dX7_statement 76 rfl) rfl ?_
                          refine g_X7_54 C (dx dX7_statement 77 rfl) ?_
                          refine r_aload_n C (dx dX7_statement 78 rfl) rfl ?_
                          refine g_X7_74 (x := nI (vN v)) C (dx dX7_statement 79 rfl) ph49.m.eN ?_
                          refine r_aald4 (j := vN v) C rfl rfl (by decide) rfl (by omega) (dx dX7_statement 80 rfl) ?_
                          refine r_iconst (v := nI 2) C (dx dX7_statement 81 rfl) rfl ?_
                          refine r_iconst (v := nI 1) C (dx dX7_statement 82 rfl) rfl ?_
                          refine r_iast (j := 2) C rfl rfl (by decide) rfl (by omega) (dx dX7_statement 83 rfl) ?_
                          have ph50 : Px h (sI h49 (k + 23 + (vN v)) 2 (nI 1)) k z B ((stp B z ((stp B z (stp B z e).2.2).2.2)).1, (stp B z ((stp B z (stp B z e).2.2).2.2)).2.1, (stp B z ((stp B z (stp B z e).2.2).2.2)).2.2) (vset (vset (nwV v 4) 4 (vN v) (nmQ B z (stp B z e) (nI 0) (nI 9))) 6 (vN v) (nI 1)) := ph49.c (ph49.m.so (by omega) (by omega)) (by omega) (by omega)
                          generalize sI h49 (k + 23 + (vN v)) 2 (nI 1) = h50 at ph50 ⊢
                          refine r_aload_n C (dx dX7_statement 84 rfl) rfl ?_
                          refine r_dupR C (dx dX7_statement 85 rfl) ?_
                          refine g_X7_74 (x := nI (vN v)) C (dx dX7_statement 86 rfl) ph50.m.eN ?_
                          refine r_iconst (v := nI 1) C (dx dX7_statement 87 rfl) rfl ?_
                          refine rn_iadd (a := vN v) (b := 1) C (dx dX7_statement 88 rfl) ?_
                          refine p_X7_74 C (dx dX7_statement 89 rfl) rfl rfl ?_
                          have ph51 : Px h (sI h50 k 16 (nI (vN v + 1))) k z B ((stp B z ((stp B z (stp B z e).2.2).2.2)).1, (stp B z ((stp B z (stp B z e).2.2).2.2)).2.1, (stp B z ((stp B z (stp B z e).2.2).2.2)).2.2) (vsN (vset (vset (nwV v 4) 4 (vN v) (nmQ B z (stp B z e) (nI 0) (nI 9))) 6 (vN v) (nI 1)) (vN v + 1)) := ph50.fd (ph50.m.sN (n := vN v + 1) (by omega)) (by decide) (by decide) (by decide) (by decide) (by decide)
                          generalize sI h50 k 16 (nI (vN v + 1)) = h51 at ph51 ⊢
                          refine r_iconst (v := nI 1) C (dx dX7_statement 90 rfl) rfl ?_
                          exact F.1 _ _ _ _ .boolean rfl rfl (dx dX7_statement 91 rfl) ph51.kk ⟨true, rfl, (show RdP h h51 k z B (stW B z (t, s, e) v) true from RdP.t ((st_on (q := (t, s, e)) c32).trans (((on_a (q := (t, s, e)) h8 nnrbh43).trans (oa_n c46)).trans (oe_y c47))) (by rw [← oneV_nc]; exact ph51))⟩
                      ·
                        have c46 : (wdB 7 B z ((stp B z (stp B z e).2.2).1) ((stp B z (stp B z e).2.2).2.1) ((stp B z (stp B z e).2.2).2.2)) = true := c46
                        refine r_aload_n C (dx dX7_statement 53 rfl) rfl ?_
                        refine r_ldcS C 17 rfl (dx dX7_statement 54 rfl) ?_
                        refine r_iconst (v := nI 0) C (dx dX7_statement 55 rfl) rfl ?_
                        refine r_bipush (v := nI 10) C (dx dX7_statement 56 rfl) rfl ?_
                        refine r_cv (as := [vt 1007, vi (nI 0), vi (nI 10)]) (st := []) C X I_X7_tells l_X7_206 (e_tells ph45.slf (i := 7) (by decide) (nI 0) (nI 10) (by decide)) (by decide) (Nat.le_of_ble_eq_true rfl) List.prefix_rfl (pfx_eq ph45.kk) rfl rfl (Nat.le_of_ble_eq_true rfl) rfl (dx dX7_statement 57 rfl) ?_
                        rintro _ h52 ⟨bh52, rfl, gh52⟩ kkh52
                        have kh52 : xK h52 = xK h := kkh52.trans ph45.kk
                        have gh52 := TlP.pre ph45 gh52
                        refine rb_ne (b := bh52) (tgt := 120) C (dx dX7_statement 58 rfl) (by decide) (fun c53 => ?_) (fun c53 => ?_)
                        ·
                          have c53 : bh52 = true := c53
                          rw [c53] at gh52
                          obtain ⟨wrbh52, grbh52⟩ := TlP.t gh52
                          obtain ⟨nnrbh52, prbh52, erbh52⟩ := NmP.t grbh52
                          have prbh52 : Px h h52 k z B ((stp B z (stp B z ((stp B z (stp B z e).2.2).2.2)).2.2).1, (stp B z (stp B z ((stp B z (stp B z e).2.2).2.2)).2.2).2.1, (stp B z (stp B z ((stp B z (stp B z e).2.2).2.2)).2.2).2.2) (vset (nwV v 4) 4 (vN v) (nmQ B z (stp B z e) (nI 0) (nI 9))) := prbh52
                          have serbh52 := Px.se (t := (stp B z (stp B z ((stp B z (stp B z e).2.2).2.2)).2.2).1) (s := (stp B z (stp B z ((stp B z (stp B z e).2.2).2.2)).2.2).2.1) (e := (stp B z (stp B z ((stp B z (stp B z e).2.2).2.2)).2.2).2.2) prbh52
                          have ezrbh52 := Px.ez (t := (stp B z (stp B z ((stp B z (stp B z e).2.2).2.2)).2.2).1) (s := (stp B z (stp B z ((stp B z (stp B z e).2.2).2.2)).2.2).2.1) (e := (stp B z (stp B z ((stp B z (stp B z e).2.2).2.2)).2.2).2.2) prbh52
                          have adrbh52 := nm_adv (B := B) (a := (stp B z (stp B z e).2.2).2.2) (by omega) nnrbh52
                          have gerbh52 := stp_ge (B := B) (z := z) (a := (stp B z ((stp B z (stp B z e).2.2).2.2)).2.2) (stp_le (B := B) (z := z) (e := (stp B z (stp B z e).2.2).2.2) (by omega)).2
                          refine r_aload_n C (dx dX7_statement 61 rfl) rfl ?_
                          refine g_X7_54 C (dx dX7_statement 62 rfl) ?_
                          refine r_aload_n C (dx dX7_statement 63 rfl) rfl ?_
                          refine g_X7_74 (x := nI (vN v)) C (dx dX7_statement 64 rfl) prbh52.m.eN ?_
                          refine r_aald4 (j := vN v) C rfl rfl (by decide) rfl (by omega) (dx dX7_statement 65 rfl) ?_
                          refine r_iconst (v := nI 1) C (dx dX7_statement 66 rfl) rfl ?_
                          refine r_aload_n C (dx dX7_statement 67 rfl) rfl ?_
                          refine g_X7_181 (x := nmQ B z (stp B z ((stp B z (stp B z e).2.2).2.2)) (nI 0) (nI 10)) C (dx dX7_statement 68 rfl) erbh52 ?_
                          refine r_iast (j := 1) C rfl rfl (by decide) rfl (by omega) (dx dX7_statement 69 rfl) ?_
                          have ph54 : Px h (sI h52 (k + 23 + (vN v)) 1 (nmQ B z (stp B z ((stp B z (stp B z e).2.2).2.2)) (nI 0) (nI 10))) k z B ((stp B z (stp B z ((stp B z (stp B z e).2.2).2.2)).2.2).1, (stp B z (stp B z ((stp B z (stp B z e).2.2).2.2)).2.2).2.1, (stp B z (stp B z ((stp B z (stp B z e).2.2).2.2)).2.2).2.2) (vset (vset (nwV v 4) 4 (vN v) (nmQ B z (stp B z e) (nI 0) (nI 9))) 5 (vN v) (nmQ B z (stp B z ((stp B z (stp B z e).2.2).2.2)) (nI 0) (nI 10))) := prbh52.c (prbh52.m.so (by omega) (by omega)) (by omega) (by omega)
                          generalize sI h52 (k + 23 + (vN v)) 1 (nmQ B z (stp B z ((stp B z (stp B z e).2.2).2.2)) (nI 0) (nI 10)) = h54 at ph54 ⊢
                          refine r_aload_n C (dx dX7_statement 70 rfl) rfl ?_
                          refine r_ldcS C 18 rfl (dx dX7_statement 71 rfl) ?_
                          refine r_cvP (as := [vt 1008]) (st := []) (v := vi (b2i (wdB 8 B z ((stp B z (stp B z ((stp B z (stp B z e).2.2).2.2)).2.2).1) ((stp B z (stp B z ((stp B z (stp B z e).2.2).2.2)).2.2).2.1) ((stp B z (stp B z ((stp B z (stp B z e).2.2).2.2)).2.2).2.2)))) C X I_X7_isWord l_X7_187 (e_isWord ph54.slf (i := 8) (by decide)) (by decide) (Nat.le_of_ble_eq_true rfl) (pfx_eq ph54.kk) rfl rfl (Nat.le_of_ble_eq_true rfl) rfl (dx dX7_statement 72 rfl) ?_
                          refine rb_eq (b := wdB 8 B z ((stp B z (stp B z ((stp B z (stp B z e).2.2).2.2)).2.2).1) ((stp B z (stp B z ((stp B z (stp B z e).2.2).2.2)).2.2).2.1) ((stp B z (stp B z ((stp B z (stp B z e).2.2).2.2)).2.2).2.2)) (tgt := 160) C (dx dX7_statement 73 rfl) (by decide) (fun c55 => ?_) (fun c55 => ?_)
                          ·
                            have c55 : (wdB 8 B z ((stp B z (stp B z ((stp B z (stp B z e).2.2).2.2)).2.2).1) ((stp B z (stp B z ((stp B z (stp B z e).2.2).2.2)).2.2).2.1) ((stp B z (stp B z ((stp B z (stp B z e).2.2).2.2)).2.2).2.2)) = false := c55
                            refine r_aload_n C (dx dX7_statement 84 rfl) rfl ?_
                            refine r_dupR C (dx dX7_statement 85 rfl) ?_
                            refine g_X7_74 (x := nI (vN v)) C (dx dX7_statement 86 rfl) ph54.m.eN ?_
                            refine r_iconst (v := nI 1) C (dx dX7_statement 87 rfl) rfl ?_
                            refine rn_iadd (a := vN v) (b := 1) C (dx dX7_statement 88 rfl) ?_
                            refine p_X7_74 C (dx dX7_statement 89 rfl) rfl rfl ?_
                            have ph56 : Px h (sI h54 k 16 (nI (vN v + 1))) k z B ((stp B z (stp B z ((stp B z (stp B z e).2.2).2.2)).2.2).1, (stp B z (stp B z ((stp B z (stp B z e).2.2).2.2)).2.2).2.1, (stp B z (stp B z ((stp B z (stp B z e).2.2).2.2)).2.2).2.2) (vsN (vset (vset (nwV v 4) 4 (vN v) (nmQ B z (stp B z e) (nI 0) (nI 9))) 5 (vN v) (nmQ B z (stp B z ((stp B z (stp B z e).2.2).2.2)) (nI 0) (nI 10))) (vN v + 1)) := ph54.fd (ph54.m.sN (n := vN v + 1) (by omega)) (by decide) (by decide) (by decide) (by decide) (by decide)
                            generalize sI h54 k 16 (nI (vN v + 1)) = h56 at ph56 ⊢
                            refine r_iconst (v := nI 1) C (dx dX7_statement 90 rfl) rfl ?_
                            exact F.1 _ _ _ _ .boolean rfl rfl (dx dX7_statement 91 rfl) ph56.kk ⟨true, rfl, (show RdP h h56 k z B (stW B z (t, s, e) v) true from RdP.t ((st_on (q := (t, s, e)) c32).trans (((on_a (q := (t, s, e)) h8 nnrbh43).trans (oa_y c46 nnrbh52)).trans (oe_n c55))) (by rw [← oneV_ag]; exact ph56))⟩
                          ·
                            have c55 : (wdB 8 B z ((stp B z (stp B z ((stp B z (stp B z e).2.2).2.2)).2.2).1) ((stp B z (stp B z ((stp B z (stp B z e).2.2).2.2)).2.2).2.1) ((stp B z (stp B z ((stp B z (stp B z e).2.2).2.2)).2.2).2.2)) = true := c55
                            refine r_aload_n C (dx dX7_statement 74 rfl) rfl ?_
                            refine r_cv (as := []) (st := []) C X I_X7_look l_X7_184 (e_look (fun i9 hi9 => ph54.tp hi9) ph54.lk) (by decide) (Nat.le_of_ble_eq_true rfl) List.prefix_rfl (pfx_eq ph54.kk) rfl rfl (Nat.le_of_ble_eq_true rfl) rfl (dx dX7_statement 75 rfl) ?_
                            rintro _ h57 ⟨rfl, qh57, uh57⟩ kkh57
                            have ph57 : Px h h57 k z B ((stp B z ((stp B z (stp B z ((stp B z (stp B z e).2.2).2.2)).2.2).2.2)).1, (stp B z ((stp B z (stp B z ((stp B z (stp B z e).2.2).2.2)).2.2).2.2)).2.1, (stp B z ((stp B z (stp B z ((stp B z (stp B z e).2.2).2.2)).2.2).2.2)).2.2) (vset (vset (nwV v 4) 4 (vN v) (nmQ B z (stp B z e) (nI 0) (nI 9))) 5 (vN v) (nmQ B z (stp B z ((stp B z (stp B z e).2.2).2.2)) (nI 0) (nI 10))) := ph54.tr qh57
                            have seh57 := ph57.se
                            have ezh57 := ph57.ez
                            refine r_aload_n C (dx dX7_statement 76 rfl) rfl ?_
                            refine g_X7_54 C (dx dX7_statement 77 rfl) ?_
                            refine r_aload_n C (dx dX7_statement 78 rfl) rfl ?_
                            refine g_X7_74 (x := nI (vN v)) C (dx dX7_statement 79 rfl) ph57.m.eN ?_
                            refine r_aald4 (j := vN v) C rfl rfl (by decide) rfl (by omega) (dx dX7_statement 80 rfl) ?_
                            refine r_iconst (v := nI 2) C (dx dX7_statement 81 rfl) rfl ?_
                            refine r_iconst (v := nI 1) C (dx dX7_statement 82 rfl) rfl ?_
                            refine r_iast (j := 2) C rfl rfl (by decide) rfl (by omega) (dx dX7_statement 83 rfl) ?_
                            have ph58 : Px h (sI h57 (k + 23 + (vN v)) 2 (nI 1)) k z B ((stp B z ((stp B z (stp B z ((stp B z (stp B z e).2.2).2.2)).2.2).2.2)).1, (stp B z ((stp B z (stp B z ((stp B z (stp B z e).2.2).2.2)).2.2).2.2)).2.1, (stp B z ((stp B z (stp B z ((stp B z (stp B z e).2.2).2.2)).2.2).2.2)).2.2) (vset (vset (vset (nwV v 4) 4 (vN v) (nmQ B z (stp B z e) (nI 0) (nI 9))) 5 (vN v) (nmQ B z (stp B z ((stp B z (stp B z e).2.2).2.2)) (nI 0) (nI 10))) 6 (vN v) (nI 1)) := ph57.c (ph57.m.so (by omega) (by omega)) (by omega) (by omega)
                            generalize sI h57 (k + 23 + (vN v)) 2 (nI 1) = h58 at ph58 ⊢
                            refine r_aload_n C (dx dX7_statement 84 rfl) rfl ?_
                            refine r_dupR C (dx dX7_statement 85 rfl) ?_
                            refine g_X7_74 (x := nI (vN v)) C (dx dX7_statement 86 rfl) ph58.m.eN ?_
                            refine r_iconst (v := nI 1) C (dx dX7_statement 87 rfl) rfl ?_
                            refine rn_iadd (a := vN v) (b := 1) C (dx dX7_statement 88 rfl) ?_
                            refine p_X7_74 C (dx dX7_statement 89 rfl) rfl rfl ?_
                            have ph59 : Px h (sI h58 k 16 (nI (vN v + 1))) k z B ((stp B z ((stp B z (stp B z ((stp B z (stp B z e).2.2).2.2)).2.2).2.2)).1, (stp B z ((stp B z (stp B z ((stp B z (stp B z e).2.2).2.2)).2.2).2.2)).2.1, (stp B z ((stp B z (stp B z ((stp B z (stp B z e).2.2).2.2)).2.2).2.2)).2.2) (vsN (vset (vset (vset (nwV v 4) 4 (vN v) (nmQ B z (stp B z e) (nI 0) (nI 9))) 5 (vN v) (nmQ B z (stp B z ((stp B z (stp B z e).2.2).2.2)) (nI 0) (nI 10))) 6 (vN v) (nI 1)) (vN v + 1)) := ph58.fd (ph58.m.sN (n := vN v + 1) (by omega)) (by decide) (by decide) (by decide) (by decide) (by decide)
                            generalize sI h58 k 16 (nI (vN v + 1)) = h59 at ph59 ⊢
                            refine r_iconst (v := nI 1) C (dx dX7_statement 90 rfl) rfl ?_
                            exact F.1 _ _ _ _ .boolean rfl rfl (dx dX7_statement 91 rfl) ph59.kk ⟨true, rfl, (show RdP h h59 k z B (stW B z (t, s, e) v) true from RdP.t ((st_on (q := (t, s, e)) c32).trans (((on_a (q := (t, s, e)) h8 nnrbh43).trans (oa_y c46 nnrbh52)).trans (oe_y c55))) (by rw [← oneV_ac]; exact ph59))⟩
                        ·
                          have c53 : bh52 = false := c53
                          rw [c53] at gh52
                          refine r_iconst (v := nI 0) C (dx dX7_statement 59 rfl) rfl ?_
                          rcases TlP.f gh52 with ⟨w9, p9, f9⟩ | ⟨w9, nn9, p9, f9⟩
                          ·
                            exact F.1 _ _ _ _ .boolean rfl rfl (dx dX7_statement 60 rfl) kh52 ⟨false, rfl, (show RdP h h52 k z B (stW B z (t, s, e) v) false from absurd (w9.symm.trans c46) (by decide))⟩
                          ·
                            exact F.1 _ _ _ _ .boolean rfl rfl (dx dX7_statement 60 rfl) kh52 ⟨false, rfl, (show RdP h h52 k z B (stW B z (t, s, e) v) false from RdP.f (((st_on (q := (t, s, e)) c32).trans (on_a (q := (t, s, e)) h8 nnrbh43)).trans (oa_f c46 nn9)) p9 f9)⟩
                    ·
                      have c44 : bh43 = false := c44
                      rw [c44] at gh43
                      refine r_iconst (v := nI 0) C (dx dX7_statement 38 rfl) rfl ?_
                      rcases TlP.f gh43 with ⟨w9, p9, f9⟩ | ⟨w9, nn9, p9, f9⟩
                      ·
                        exact F.1 _ _ _ _ .boolean rfl rfl (dx dX7_statement 39 rfl) kh43 ⟨false, rfl, (show RdP h h43 k z B (stW B z (t, s, e) v) false from absurd (w9.symm.trans c32) (by decide))⟩
                      ·
                        exact F.1 _ _ _ _ .boolean rfl rfl (dx dX7_statement 39 rfl) kh43 ⟨false, rfl, (show RdP h h43 k z B (stW B z (t, s, e) v) false from RdP.f ((st_on (q := (t, s, e)) c32).trans (on_f1 (q := (t, s, e)) h8 nn9)) p9 f9)⟩))
      · first
        | (omega; done)
        | (
            have c31 : vM v < 6 := c31
            refine r_aload_n C (dx dX7_statement 19 rfl) rfl ?_
            refine r_cv (as := []) (st := []) C X I_X7_machineTold l_X7_218 (e_machineTold p.slf (by omega) c2) (by decide) (Nat.le_of_ble_eq_true rfl) List.prefix_rfl (pfx_eq p.kk) rfl rfl (Nat.le_of_ble_eq_true rfl) rfl (dx dX7_statement 20 rfl) ?_
            rintro _ h60 ⟨bh60, rfl, gh60⟩ kkh60
            have kh60 : xK h60 = xK h := kkh60.trans p.kk
            have gh60 := RdP.pre p gh60
            exact F.1 _ _ _ _ .boolean rfl (nar_b _) (dx dX7_statement 21 rfl) kh60 ⟨bh60, rfl, (show RdP h h60 k z B (stW B z (t, s, e) v) bh60 from RdP.eq (st_mc (q := (t, s, e)) c2) gh60)⟩)
  ·
    have c1 : (wdB 0 B z t s e) = true := c1
    refine r_aload_n C (dx dX7_statement 4 rfl) rfl ?_
    refine g_X7_64 (x := nI (vP v)) C (dx dX7_statement 5 rfl) p.m.eP ?_
    refine r_bipush (v := nI 12) C (dx dX7_statement 6 rfl) rfl ?_
    refine rn_ge (a := vP v) (b := 12) (tgt := 23) C (by omega) (by omega) (dx dX7_statement 7 rfl) (by decide) (fun c61 => ?_) (fun c61 => ?_)
    · first
      | (omega; done)
      | (
          have c61 : 12 ≤ vP v := c61
          refine r_aload_n C (dx dX7_statement 11 rfl) rfl ?_
          refine r_ldcS C 13 rfl (dx dX7_statement 12 rfl) ?_
          refine r_cvP (as := [vt 1003]) (st := []) (v := vi (b2i (wdB 3 B z t s e))) C X I_X7_isWord l_X7_187 (e_isWord p.slf (i := 3) (by decide)) (by decide) (Nat.le_of_ble_eq_true rfl) (pfx_eq p.kk) rfl rfl (Nat.le_of_ble_eq_true rfl) rfl (dx dX7_statement 13 rfl) ?_
          refine rb_eq (b := wdB 3 B z t s e) (tgt := 46) C (dx dX7_statement 14 rfl) (by decide) (fun c62 => ?_) (fun c62 => ?_)
          ·
            have c62 : (wdB 3 B z t s e) = false := c62
            refine r_aload_n C (dx dX7_statement 22 rfl) rfl ?_
            refine r_ldcS C 16 rfl (dx dX7_statement 23 rfl) ?_
            refine r_cvP (as := [vt 1006]) (st := []) (v := vi (b2i (wdB 6 B z t s e))) C X I_X7_isWord l_X7_187 (e_isWord p.slf (i := 6) (by decide)) (by decide) (Nat.le_of_ble_eq_true rfl) (pfx_eq p.kk) rfl rfl (Nat.le_of_ble_eq_true rfl) rfl (dx dX7_statement 24 rfl) ?_
            refine rb_eq (b := wdB 6 B z t s e) (tgt := 172) C (dx dX7_statement 25 rfl) (by decide) (fun c63 => ?_) (fun c63 => ?_)
            ·
              have c63 : (wdB 6 B z t s e) = false := c63
              refine r_aload_n C (dx dX7_statement 92 rfl) rfl ?_
              refine r_ldcS C 19 rfl (dx dX7_statement 93 rfl) ?_
              refine r_iconst (v := nI 0) C (dx dX7_statement 94 rfl) rfl ?_
              refine r_aload_n C (dx dX7_statement 95 rfl) rfl ?_
              refine g_X7_64 (x := nI (vP v)) C (dx dX7_statement 96 rfl) p.m.eP ?_
              refine r_iconst (v := nI 1) C (dx dX7_statement 97 rfl) rfl ?_
              refine r_isub C (dx dX7_statement 98 rfl) ?_
              refine r_cv (as := [vt 1009, vi (nI 0), vi ((nI (vP v)) - (nI 1))]) (st := []) C X I_X7_tells l_X7_206 (e_tells p.slf (i := 9) (by decide) (nI 0) ((nI (vP v)) - (nI 1)) (le99n (by omega))) (by decide) (Nat.le_of_ble_eq_true rfl) List.prefix_rfl (pfx_eq p.kk) rfl rfl (Nat.le_of_ble_eq_true rfl) rfl (dx dX7_statement 99 rfl) ?_
              rintro _ h64 ⟨bh64, rfl, gh64⟩ kkh64
              have kh64 : xK h64 = xK h := kkh64.trans p.kk
              have gh64 := TlP.pre p gh64
              refine rb_eq (b := bh64) (tgt := 204) C (dx dX7_statement 100 rfl) (by decide) (fun c65 => ?_) (fun c65 => ?_)
              ·
                have c65 : bh64 = false := c65
                rw [c65] at gh64
                refine r_iconst (v := nI 0) C (dx dX7_statement 109 rfl) rfl ?_
                rcases TlP.f gh64 with ⟨w9, p9, f9⟩ | ⟨w9, nn9, p9, f9⟩
                ·
                  exact F.1 _ _ _ _ .boolean rfl rfl (dx dX7_statement 110 rfl) kh64 ⟨false, rfl, (show RdP h h64 k z B (stW B z (t, s, e) v) false from RdP.f (st_no (q := (t, s, e)) (fun _ => by omega) (fun y => by rw [c62] at y; exact absurd y (by decide)) (fun y => by rw [c63] at y; exact absurd y (by decide)) w9) p9 f9)⟩
                ·
                  exact F.1 _ _ _ _ .boolean rfl rfl (dx dX7_statement 110 rfl) kh64 ⟨false, rfl, (show RdP h h64 k z B (stW B z (t, s, e) v) false from RdP.f ((st_gv (q := (t, s, e)) w9).trans (gv_f1 (q := (t, s, e)) nn9)) p9 f9)⟩
              ·
                have c65 : bh64 = true := c65
                rw [c65] at gh64
                obtain ⟨wrbh64, grbh64⟩ := TlP.t gh64
                obtain ⟨nnrbh64, prbh64, erbh64⟩ := NmP.t grbh64
                have prbh64 : Px h h64 k z B ((stp B z (stp B z e).2.2).1, (stp B z (stp B z e).2.2).2.1, (stp B z (stp B z e).2.2).2.2) v := prbh64
                have serbh64 := Px.se (t := (stp B z (stp B z e).2.2).1) (s := (stp B z (stp B z e).2.2).2.1) (e := (stp B z (stp B z e).2.2).2.2) prbh64
                have ezrbh64 := Px.ez (t := (stp B z (stp B z e).2.2).1) (s := (stp B z (stp B z e).2.2).2.1) (e := (stp B z (stp B z e).2.2).2.2) prbh64
                have adrbh64 := nm_adv (B := B) (a := e) (by omega) nnrbh64
                have gerbh64 := stp_ge (B := B) (z := z) (a := (stp B z e).2.2) (stp_le (B := B) (z := z) (e := e) (by omega)).2
                refine r_aload_n C (dx dX7_statement 101 rfl) rfl ?_
                refine r_aload_n C (dx dX7_statement 102 rfl) rfl ?_
                refine g_X7_181 (x := nmQ B z (stp B z e) (nI 0) ((nI (vP v)) - (nI 1))) C (dx dX7_statement 103 rfl) erbh64 ?_
                obtain ⟨j9, hj9, ej9⟩ := gv_j (q := (t, s, e)) nnrbh64 bP
                rw [show nmQ B z (stp B z e) (nI 0) ((nI (vP v)) - (nI 1)) = nI j9 from ej9]
                refine r_iconst (v := nI 0) C (dx dX7_statement 104 rfl) rfl ?_
                refine r_cv (as := [vi (nI j9), vi (nI 0)]) (st := []) C X I_X7_gets l_X7_199 (e_gets prbh64.slf ⟨(stp B z e).2.2, by omega, rfl⟩ (j := j9) hj9 false) (by decide) (Nat.le_of_ble_eq_true rfl) List.prefix_rfl (pfx_eq prbh64.kk) rfl rfl (Nat.le_of_ble_eq_true rfl) rfl (dx dX7_statement 105 rfl) ?_
                rintro _ h66 ⟨bh66, rfl, gh66⟩ kkh66
                have kh66 : xK h66 = xK h := kkh66.trans prbh64.kk
                have gh66 := GtP.pre prbh64 gh66
                refine rb_eq (b := bh66) (tgt := 204) C (dx dX7_statement 106 rfl) (by decide) (fun c67 => ?_) (fun c67 => ?_)
                ·
                  have c67 : bh66 = false := c67
                  refine r_iconst (v := nI 0) C (dx dX7_statement 109 rfl) rfl ?_
                  rw [c67] at gh66
                  exact F.1 _ _ _ _ .boolean rfl rfl (dx dX7_statement 110 rfl) kh66 ⟨false, rfl, (show RdP h h66 k z B (stW B z (t, s, e) v) false from RdP.eq (st_gv (q := (t, s, e)) wrbh64) (gv_f2 (q := (t, s, e)) nnrbh64 (by omega) ej9 gh66))⟩
                ·
                  have c67 : bh66 = true := c67
                  refine r_iconst (v := nI 1) C (dx dX7_statement 107 rfl) rfl ?_
                  refine r_goto (tgt := 205) C (dx dX7_statement 108 rfl) (by decide) ?_
                  rw [c67] at gh66
                  exact F.1 _ _ _ _ .boolean rfl rfl (dx dX7_statement 110 rfl) kh66 ⟨true, rfl, (show RdP h h66 k z B (stW B z (t, s, e) v) true from RdP.eq (st_gv (q := (t, s, e)) wrbh64) (gv_t (q := (t, s, e)) nnrbh64 (by omega) ej9 gh66))⟩
            ·
              have c63 : (wdB 6 B z t s e) = true := c63
              refine r_aload_n C (dx dX7_statement 26 rfl) rfl ?_
              refine g_X7_74 (x := nI (vN v)) C (dx dX7_statement 27 rfl) p.m.eN ?_
              refine r_bipush (v := nI 8) C (dx dX7_statement 28 rfl) rfl ?_
              refine rn_ge (a := vN v) (b := 8) (tgt := 172) C (by omega) (by omega) (dx dX7_statement 29 rfl) (by decide) (fun c68 => ?_) (fun c68 => ?_)
              · first
                | (omega; done)
                | (
                    have c68 : 8 ≤ vN v := c68
                    refine r_aload_n C (dx dX7_statement 92 rfl) rfl ?_
                    refine r_ldcS C 19 rfl (dx dX7_statement 93 rfl) ?_
                    refine r_iconst (v := nI 0) C (dx dX7_statement 94 rfl) rfl ?_
                    refine r_aload_n C (dx dX7_statement 95 rfl) rfl ?_
                    refine g_X7_64 (x := nI (vP v)) C (dx dX7_statement 96 rfl) p.m.eP ?_
                    refine r_iconst (v := nI 1) C (dx dX7_statement 97 rfl) rfl ?_
                    refine r_isub C (dx dX7_statement 98 rfl) ?_
                    refine r_cv (as := [vt 1009, vi (nI 0), vi ((nI (vP v)) - (nI 1))]) (st := []) C X I_X7_tells l_X7_206 (e_tells p.slf (i := 9) (by decide) (nI 0) ((nI (vP v)) - (nI 1)) (le99n (by omega))) (by decide) (Nat.le_of_ble_eq_true rfl) List.prefix_rfl (pfx_eq p.kk) rfl rfl (Nat.le_of_ble_eq_true rfl) rfl (dx dX7_statement 99 rfl) ?_
                    rintro _ h69 ⟨bh69, rfl, gh69⟩ kkh69
                    have kh69 : xK h69 = xK h := kkh69.trans p.kk
                    have gh69 := TlP.pre p gh69
                    refine rb_eq (b := bh69) (tgt := 204) C (dx dX7_statement 100 rfl) (by decide) (fun c70 => ?_) (fun c70 => ?_)
                    ·
                      have c70 : bh69 = false := c70
                      rw [c70] at gh69
                      refine r_iconst (v := nI 0) C (dx dX7_statement 109 rfl) rfl ?_
                      rcases TlP.f gh69 with ⟨w9, p9, f9⟩ | ⟨w9, nn9, p9, f9⟩
                      ·
                        exact F.1 _ _ _ _ .boolean rfl rfl (dx dX7_statement 110 rfl) kh69 ⟨false, rfl, (show RdP h h69 k z B (stW B z (t, s, e) v) false from RdP.f (st_no (q := (t, s, e)) (fun _ => by omega) (fun y => by rw [c62] at y; exact absurd y (by decide)) (fun _ => by omega) w9) p9 f9)⟩
                      ·
                        exact F.1 _ _ _ _ .boolean rfl rfl (dx dX7_statement 110 rfl) kh69 ⟨false, rfl, (show RdP h h69 k z B (stW B z (t, s, e) v) false from RdP.f ((st_gv (q := (t, s, e)) w9).trans (gv_f1 (q := (t, s, e)) nn9)) p9 f9)⟩
                    ·
                      have c70 : bh69 = true := c70
                      rw [c70] at gh69
                      obtain ⟨wrbh69, grbh69⟩ := TlP.t gh69
                      obtain ⟨nnrbh69, prbh69, erbh69⟩ := NmP.t grbh69
                      have prbh69 : Px h h69 k z B ((stp B z (stp B z e).2.2).1, (stp B z (stp B z e).2.2).2.1, (stp B z (stp B z e).2.2).2.2) v := prbh69
                      have serbh69 := Px.se (t := (stp B z (stp B z e).2.2).1) (s := (stp B z (stp B z e).2.2).2.1) (e := (stp B z (stp B z e).2.2).2.2) prbh69
                      have ezrbh69 := Px.ez (t := (stp B z (stp B z e).2.2).1) (s := (stp B z (stp B z e).2.2).2.1) (e := (stp B z (stp B z e).2.2).2.2) prbh69
                      have adrbh69 := nm_adv (B := B) (a := e) (by omega) nnrbh69
                      have gerbh69 := stp_ge (B := B) (z := z) (a := (stp B z e).2.2) (stp_le (B := B) (z := z) (e := e) (by omega)).2
                      refine r_aload_n C (dx dX7_statement 101 rfl) rfl ?_
                      refine r_aload_n C (dx dX7_statement 102 rfl) rfl ?_
                      refine g_X7_181 (x := nmQ B z (stp B z e) (nI 0) ((nI (vP v)) - (nI 1))) C (dx dX7_statement 103 rfl) erbh69 ?_
                      obtain ⟨j9, hj9, ej9⟩ := gv_j (q := (t, s, e)) nnrbh69 bP
                      rw [show nmQ B z (stp B z e) (nI 0) ((nI (vP v)) - (nI 1)) = nI j9 from ej9]
                      refine r_iconst (v := nI 0) C (dx dX7_statement 104 rfl) rfl ?_
                      refine r_cv (as := [vi (nI j9), vi (nI 0)]) (st := []) C X I_X7_gets l_X7_199 (e_gets prbh69.slf ⟨(stp B z e).2.2, by omega, rfl⟩ (j := j9) hj9 false) (by decide) (Nat.le_of_ble_eq_true rfl) List.prefix_rfl (pfx_eq prbh69.kk) rfl rfl (Nat.le_of_ble_eq_true rfl) rfl (dx dX7_statement 105 rfl) ?_
                      rintro _ h71 ⟨bh71, rfl, gh71⟩ kkh71
                      have kh71 : xK h71 = xK h := kkh71.trans prbh69.kk
                      have gh71 := GtP.pre prbh69 gh71
                      refine rb_eq (b := bh71) (tgt := 204) C (dx dX7_statement 106 rfl) (by decide) (fun c72 => ?_) (fun c72 => ?_)
                      ·
                        have c72 : bh71 = false := c72
                        refine r_iconst (v := nI 0) C (dx dX7_statement 109 rfl) rfl ?_
                        rw [c72] at gh71
                        exact F.1 _ _ _ _ .boolean rfl rfl (dx dX7_statement 110 rfl) kh71 ⟨false, rfl, (show RdP h h71 k z B (stW B z (t, s, e) v) false from RdP.eq (st_gv (q := (t, s, e)) wrbh69) (gv_f2 (q := (t, s, e)) nnrbh69 (by omega) ej9 gh71))⟩
                      ·
                        have c72 : bh71 = true := c72
                        refine r_iconst (v := nI 1) C (dx dX7_statement 107 rfl) rfl ?_
                        refine r_goto (tgt := 205) C (dx dX7_statement 108 rfl) (by decide) ?_
                        rw [c72] at gh71
                        exact F.1 _ _ _ _ .boolean rfl rfl (dx dX7_statement 110 rfl) kh71 ⟨true, rfl, (show RdP h h71 k z B (stW B z (t, s, e) v) true from RdP.eq (st_gv (q := (t, s, e)) wrbh69) (gv_t (q := (t, s, e)) nnrbh69 (by omega) ej9 gh71))⟩)
              · first
                | (omega; done)
                | (
                    have c68 : vN v < 8 := c68
                    refine r_aload_n C (dx dX7_statement 30 rfl) rfl ?_
                    refine r_cv (as := []) (st := []) C X I_X7_newOne l_X7_122 (p_newOne p.slf (by omega)) (by decide) (Nat.le_of_ble_eq_true rfl) List.prefix_rfl (pfx_eq p.kk) rfl rfl (Nat.le_of_ble_eq_true rfl) rfl (dx dX7_statement 31 rfl) ?_
                    have h8 : vN v < 8 := by omega
                    rintro _ h73 ⟨rfl, qh73⟩ kkh73
                    have ph73 := p.tr qh73
                    refine r_aload_n C (dx dX7_statement 32 rfl) rfl ?_
                    refine r_ldcS C 16 rfl (dx dX7_statement 33 rfl) ?_
                    refine r_iconst (v := nI 0) C (dx dX7_statement 34 rfl) rfl ?_
                    refine r_bipush (v := nI 9) C (dx dX7_statement 35 rfl) rfl ?_
                    refine r_cv (as := [vt 1006, vi (nI 0), vi (nI 9)]) (st := []) C X I_X7_tells l_X7_206 (e_tells ph73.slf (i := 6) (by decide) (nI 0) (nI 9) (by decide)) (by decide) (Nat.le_of_ble_eq_true rfl) List.prefix_rfl (pfx_eq ph73.kk) rfl rfl (Nat.le_of_ble_eq_true rfl) rfl (dx dX7_statement 36 rfl) ?_
                    rintro _ h74 ⟨bh74, rfl, gh74⟩ kkh74
                    have kh74 : xK h74 = xK h := kkh74.trans ph73.kk
                    have gh74 := TlP.pre ph73 gh74
                    refine rb_ne (b := bh74) (tgt := 82) C (dx dX7_statement 37 rfl) (by decide) (fun c75 => ?_) (fun c75 => ?_)
                    ·
                      have c75 : bh74 = true := c75
                      rw [c75] at gh74
                      obtain ⟨wrbh74, grbh74⟩ := TlP.t gh74
                      obtain ⟨nnrbh74, prbh74, erbh74⟩ := NmP.t grbh74
                      have prbh74 : Px h h74 k z B ((stp B z (stp B z e).2.2).1, (stp B z (stp B z e).2.2).2.1, (stp B z (stp B z e).2.2).2.2) (nwV v 4) := prbh74
                      have serbh74 := Px.se (t := (stp B z (stp B z e).2.2).1) (s := (stp B z (stp B z e).2.2).2.1) (e := (stp B z (stp B z e).2.2).2.2) prbh74
                      have ezrbh74 := Px.ez (t := (stp B z (stp B z e).2.2).1) (s := (stp B z (stp B z e).2.2).2.1) (e := (stp B z (stp B z e).2.2).2.2) prbh74
                      have adrbh74 := nm_adv (B := B) (a := e) (by omega) nnrbh74
                      have gerbh74 := stp_ge (B := B) (z := z) (a := (stp B z e).2.2) (stp_le (B := B) (z := z) (e := e) (by omega)).2
                      refine r_aload_n C (dx dX7_statement 40 rfl) rfl ?_
                      refine g_X7_54 C (dx dX7_statement 41 rfl) ?_
                      refine r_aload_n C (dx dX7_statement 42 rfl) rfl ?_
                      refine g_X7_74 (x := nI (vN v)) C (dx dX7_statement 43 rfl) prbh74.m.eN ?_
                      refine r_aald4 (j := vN v) C rfl rfl (by decide) rfl (by omega) (dx dX7_statement 44 rfl) ?_
                      refine r_iconst (v := nI 0) C (dx dX7_statement 45 rfl) rfl ?_
                      refine r_aload_n C (dx dX7_statement 46 rfl) rfl ?_
                      refine g_X7_181 (x := nmQ B z (stp B z e) (nI 0) (nI 9)) C (dx dX7_statement 47 rfl) erbh74 ?_
                      refine r_iast (j := 0) C rfl rfl (by decide) rfl (by omega) (dx dX7_statement 48 rfl) ?_
                      have ph76 : Px h (sI h74 (k + 23 + (vN v)) 0 (nmQ B z (stp B z e) (nI 0) (nI 9))) k z B ((stp B z (stp B z e).2.2).1, (stp B z (stp B z e).2.2).2.1, (stp B z (stp B z e).2.2).2.2) (vset (nwV v 4) 4 (vN v) (nmQ B z (stp B z e) (nI 0) (nI 9))) := prbh74.c (prbh74.m.so (by omega) (by omega)) (by omega) (by omega)
                      generalize sI h74 (k + 23 + (vN v)) 0 (nmQ B z (stp B z e) (nI 0) (nI 9)) = h76 at ph76 ⊢
                      refine r_aload_n C (dx dX7_statement 49 rfl) rfl ?_
                      refine r_ldcS C 17 rfl (dx dX7_statement 50 rfl) ?_
                      refine r_cvP (as := [vt 1007]) (st := []) (v := vi (b2i (wdB 7 B z ((stp B z (stp B z e).2.2).1) ((stp B z (stp B z e).2.2).2.1) ((stp B z (stp B z e).2.2).2.2)))) C X I_X7_isWord l_X7_187 (e_isWord ph76.slf (i := 7) (by decide)) (by decide) (Nat.le_of_ble_eq_true rfl) (pfx_eq ph76.kk) rfl rfl (Nat.le_of_ble_eq_true rfl) rfl (dx dX7_statement 51 rfl) ?_
                      refine rb_eq (b := wdB 7 B z ((stp B z (stp B z e).2.2).1) ((stp B z (stp B z e).2.2).2.1) ((stp B z (stp B z e).2.2).2.2)) (tgt := 135) C (dx dX7_statement 52 rfl) (by decide) (fun c77 => ?_) (fun c77 => ?_)
                      ·
                        have c77 : (wdB 7 B z ((stp B z (stp B z e).2.2).1) ((stp B z (stp B z e).2.2).2.1) ((stp B z (stp B z e).2.2).2.2)) = false := c77
                        refine r_aload_n C (dx dX7_statement 70 rfl) rfl ?_
                        refine r_ldcS C 18 rfl (dx dX7_statement 71 rfl) ?_
                        refine r_cvP (as := [vt 1008]) (st := []) (v := vi (b2i (wdB 8 B z ((stp B z (stp B z e).2.2).1) ((stp B z (stp B z e).2.2).2.1) ((stp B z (stp B z e).2.2).2.2)))) C X I_X7_isWord l_X7_187 (e_isWord ph76.slf (i := 8) (by decide)) (by decide) (Nat.le_of_ble_eq_true rfl) (pfx_eq ph76.kk) rfl rfl (Nat.le_of_ble_eq_true rfl) rfl (dx dX7_statement 72 rfl) ?_
                        refine rb_eq (b := wdB 8 B z ((stp B z (stp B z e).2.2).1) ((stp B z (stp B z e).2.2).2.1) ((stp B z (stp B z e).2.2).2.2)) (tgt := 160) C (dx dX7_statement 73 rfl) (by decide) (fun c78 => ?_) (fun c78 => ?_)
                        ·
                          have c78 : (wdB 8 B z ((stp B z (stp B z e).2.2).1) ((stp B z (stp B z e).2.2).2.1) ((stp B z (stp B z e).2.2).2.2)) = false := c78
                          refine r_aload_n C (dx dX7_statement 84 rfl) rfl ?_
                          refine r_dupR C (dx dX7_statement 85 rfl) ?_
                          refine g_X7_74 (x := nI (vN v)) C (dx dX7_statement 86 rfl) ph76.m.eN ?_
                          refine r_iconst (v := nI 1) C (dx dX7_statement 87 rfl) rfl ?_
                          refine rn_iadd (a := vN v) (b := 1) C (dx dX7_statement 88 rfl) ?_
                          refine p_X7_74 C (dx dX7_statement 89 rfl) rfl rfl ?_
                          have ph79 : Px h (sI h76 k 16 (nI (vN v + 1))) k z B ((stp B z (stp B z e).2.2).1, (stp B z (stp B z e).2.2).2.1, (stp B z (stp B z e).2.2).2.2) (vsN (vset (nwV v 4) 4 (vN v) (nmQ B z (stp B z e) (nI 0) (nI 9))) (vN v + 1)) := ph76.fd (ph76.m.sN (n := vN v + 1) (by omega)) (by decide) (by decide) (by decide) (by decide) (by decide)
                          generalize sI h76 k 16 (nI (vN v + 1)) = h79 at ph79 ⊢
                          refine r_iconst (v := nI 1) C (dx dX7_statement 90 rfl) rfl ?_
                          exact F.1 _ _ _ _ .boolean rfl rfl (dx dX7_statement 91 rfl) ph79.kk ⟨true, rfl, (show RdP h h79 k z B (stW B z (t, s, e) v) true from RdP.t ((st_on (q := (t, s, e)) c63).trans (((on_a (q := (t, s, e)) h8 nnrbh74).trans (oa_n c77)).trans (oe_n c78))) (by rw [← oneV_nn]; exact ph79))⟩
                        ·
                          have c78 : (wdB 8 B z ((stp B z (stp B z e).2.2).1) ((stp B z (stp B z e).2.2).2.1) ((stp B z (stp B z e).2.2).2.2)) = true := c78
                          refine r_aload_n C (dx dX7_statement 74 rfl) rfl ?_
                          refine r_cv (as := []) (st := []) C X I_X7_look l_X7_184 (e_look (fun i9 hi9 => ph76.tp hi9) ph76.lk) (by decide) (Nat.le_of_ble_eq_true rfl) List.prefix_rfl (pfx_eq ph76.kk) rfl rfl (Nat.le_of_ble_eq_true rfl) rfl (dx dX7_statement 75 rfl) ?_
                          rintro _ h80 ⟨rfl, qh80, uh80⟩ kkh80
                          have ph80 : Px h h80 k z B ((stp B z ((stp B z (stp B z e).2.2).2.2)).1, (stp B z ((stp B z (stp B z e).2.2).2.2)).2.1, (stp B z ((stp B z (stp B z e).2.2).2.2)).2.2) (vset (nwV v 4) 4 (vN v) (nmQ B z (stp B z e) (nI 0) (nI 9))) := ph76.tr qh80
                          have seh80 := ph80.se
                          have ezh80 := ph80.ez
                          refine r_aload_n C (dx dX7_statement 76 rfl) rfl ?_
                          refine g_X7_54 C (dx dX7_statement 77 rfl) ?_
                          refine r_aload_n C (dx dX7_statement 78 rfl) rfl ?_
                          refine g_X7_74 (x := nI (vN v)) C (dx dX7_statement 79 rfl) ph80.m.eN ?_
                          refine r_aald4 (j := vN v) C rfl rfl (by decide) rfl (by omega) (dx dX7_statement 80 rfl) ?_
                          refine r_iconst (v := nI 2) C (dx dX7_statement 81 rfl) rfl ?_
                          refine r_iconst (v := nI 1) C (dx dX7_statement 82 rfl) rfl ?_
                          refine r_iast (j := 2) C rfl rfl (by decide) rfl (by omega) (dx dX7_statement 83 rfl) ?_
                          have ph81 : Px h (sI h80 (k + 23 + (vN v)) 2 (nI 1)) k z B ((stp B z ((stp B z (stp B z e).2.2).2.2)).1, (stp B z ((stp B z (stp B z e).2.2).2.2)).2.1, (stp B z ((stp B z (stp B z e).2.2).2.2)).2.2) (vset (vset (nwV v 4) 4 (vN v) (nmQ B z (stp B z e) (nI 0) (nI 9))) 6 (vN v) (nI 1)) := ph80.c (ph80.m.so (by omega) (by omega)) (by omega) (by omega)
                          generalize sI h80 (k + 23 + (vN v)) 2 (nI 1) = h81 at ph81 ⊢
                          refine r_aload_n C (dx dX7_statement 84 rfl) rfl ?_
                          refine r_dupR C (dx dX7_statement 85 rfl) ?_
                          refine g_X7_74 (x := nI (vN v)) C (dx dX7_statement 86 rfl) ph81.m.eN ?_
                          refine r_iconst (v := nI 1) C (dx dX7_statement 87 rfl) rfl ?_
                          refine rn_iadd (a := vN v) (b := 1) C (dx dX7_statement 88 rfl) ?_
                          refine p_X7_74 C (dx dX7_statement 89 rfl) rfl rfl ?_
                          have ph82 : Px h (sI h81 k 16 (nI (vN v + 1))) k z B ((stp B z ((stp B z (stp B z e).2.2).2.2)).1, (stp B z ((stp B z (stp B z e).2.2).2.2)).2.1, (stp B z ((stp B z (stp B z e).2.2).2.2)).2.2) (vsN (vset (vset (nwV v 4) 4 (vN v) (nmQ B z (stp B z e) (nI 0) (nI 9))) 6 (vN v) (nI 1)) (vN v + 1)) := ph81.fd (ph81.m.sN (n := vN v + 1) (by omega)) (by decide) (by decide) (by decide) (by decide) (by decide)
                          generalize sI h81 k 16 (nI (vN v + 1)) = h82 at ph82 ⊢
                          refine r_iconst (v := nI 1) C (dx dX7_statement 90 rfl) rfl ?_
                          exact F.1 _ _ _ _ .boolean rfl rfl (dx dX7_statement 91 rfl) ph82.kk ⟨true, rfl, (show RdP h h82 k z B (stW B z (t, s, e) v) true from RdP.t ((st_on (q := (t, s, e)) c63).trans (((on_a (q := (t, s, e)) h8 nnrbh74).trans (oa_n c77)).trans (oe_y c78))) (by rw [← oneV_nc]; exact ph82))⟩
                      ·
                        have c77 : (wdB 7 B z ((stp B z (stp B z e).2.2).1) ((stp B z (stp B z e).2.2).2.1) ((stp B z (stp B z e).2.2).2.2)) = true := c77
                        refine r_aload_n C (dx dX7_statement 53 rfl) rfl ?_
                        refine r_ldcS C 17 rfl (dx dX7_statement 54 rfl) ?_
                        refine r_iconst (v := nI 0) C (dx dX7_statement 55 rfl) rfl ?_
                        refine r_bipush (v := nI 10) C (dx dX7_statement 56 rfl) rfl ?_
                        refine r_cv (as := [vt 1007, vi (nI 0), vi (nI 10)]) (st := []) C X I_X7_tells l_X7_206 (e_tells ph76.slf (i := 7) (by decide) (nI 0) (nI 10) (by decide)) (by decide) (Nat.le_of_ble_eq_true rfl) List.prefix_rfl (pfx_eq ph76.kk) rfl rfl (Nat.le_of_ble_eq_true rfl) rfl (dx dX7_statement 57 rfl) ?_
                        rintro _ h83 ⟨bh83, rfl, gh83⟩ kkh83
                        have kh83 : xK h83 = xK h := kkh83.trans ph76.kk
                        have gh83 := TlP.pre ph76 gh83
                        refine rb_ne (b := bh83) (tgt := 120) C (dx dX7_statement 58 rfl) (by decide) (fun c84 => ?_) (fun c84 => ?_)
                        ·
                          have c84 : bh83 = true := c84
                          rw [c84] at gh83
                          obtain ⟨wrbh83, grbh83⟩ := TlP.t gh83
                          obtain ⟨nnrbh83, prbh83, erbh83⟩ := NmP.t grbh83
                          have prbh83 : Px h h83 k z B ((stp B z (stp B z ((stp B z (stp B z e).2.2).2.2)).2.2).1, (stp B z (stp B z ((stp B z (stp B z e).2.2).2.2)).2.2).2.1, (stp B z (stp B z ((stp B z (stp B z e).2.2).2.2)).2.2).2.2) (vset (nwV v 4) 4 (vN v) (nmQ B z (stp B z e) (nI 0) (nI 9))) := prbh83
                          have serbh83 := Px.se (t := (stp B z (stp B z ((stp B z (stp B z e).2.2).2.2)).2.2).1) (s := (stp B z (stp B z ((stp B z (stp B z e).2.2).2.2)).2.2).2.1) (e := (stp B z (stp B z ((stp B z (stp B z e).2.2).2.2)).2.2).2.2) prbh83
                          have ezrbh83 := Px.ez (t := (stp B z (stp B z ((stp B z (stp B z e).2.2).2.2)).2.2).1) (s := (stp B z (stp B z ((stp B z (stp B z e).2.2).2.2)).2.2).2.1) (e := (stp B z (stp B z ((stp B z (stp B z e).2.2).2.2)).2.2).2.2) prbh83
                          have adrbh83 := nm_adv (B := B) (a := (stp B z (stp B z e).2.2).2.2) (by omega) nnrbh83
                          have gerbh83 := stp_ge (B := B) (z := z) (a := (stp B z ((stp B z (stp B z e).2.2).2.2)).2.2) (stp_le (B := B) (z := z) (e := (stp B z (stp B z e).2.2).2.2) (by omega)).2
                          refine r_aload_n C (dx dX7_statement 61 rfl) rfl ?_
                          refine g_X7_54 C (dx dX7_statement 62 rfl) ?_
                          refine r_aload_n C (dx dX7_statement 63 rfl) rfl ?_
                          refine g_X7_74 (x := nI (vN v)) C (dx dX7_statement 64 rfl) prbh83.m.eN ?_
                          refine r_aald4 (j := vN v) C rfl rfl (by decide) rfl (by omega) (dx dX7_statement 65 rfl) ?_
                          refine r_iconst (v := nI 1) C (dx dX7_statement 66 rfl) rfl ?_
                          refine r_aload_n C (dx dX7_statement 67 rfl) rfl ?_
                          refine g_X7_181 (x := nmQ B z (stp B z ((stp B z (stp B z e).2.2).2.2)) (nI 0) (nI 10)) C (dx dX7_statement 68 rfl) erbh83 ?_
                          refine r_iast (j := 1) C rfl rfl (by decide) rfl (by omega) (dx dX7_statement 69 rfl) ?_
                          have ph85 : Px h (sI h83 (k + 23 + (vN v)) 1 (nmQ B z (stp B z ((stp B z (stp B z e).2.2).2.2)) (nI 0) (nI 10))) k z B ((stp B z (stp B z ((stp B z (stp B z e).2.2).2.2)).2.2).1, (stp B z (stp B z ((stp B z (stp B z e).2.2).2.2)).2.2).2.1, (stp B z (stp B z ((stp B z (stp B z e).2.2).2.2)).2.2).2.2) (vset (vset (nwV v 4) 4 (vN v) (nmQ B z (stp B z e) (nI 0) (nI 9))) 5 (vN v) (nmQ B z (stp B z ((stp B z (stp B z e).2.2).2.2)) (nI 0) (nI 10))) := prbh83.c (prbh83.m.so (by omega) (by omega)) (by omega) (by omega)
                          generalize sI h83 (k + 23 + (vN v)) 1 (nmQ B z (stp B z ((stp B z (stp B z e).2.2).2.2)) (nI 0) (nI 10)) = h85 at ph85 ⊢
                          refine r_aload_n C (dx dX7_statement 70 rfl) rfl ?_
                          refine r_ldcS C 18 rfl (dx dX7_statement 71 rfl) ?_
                          refine r_cvP (as := [vt 1008]) (st := []) (v := vi (b2i (wdB 8 B z ((stp B z (stp B z ((stp B z (stp B z e).2.2).2.2)).2.2).1) ((stp B z (stp B z ((stp B z (stp B z e).2.2).2.2)).2.2).2.1) ((stp B z (stp B z ((stp B z (stp B z e).2.2).2.2)).2.2).2.2)))) C X I_X7_isWord l_X7_187 (e_isWord ph85.slf (i := 8) (by decide)) (by decide) (Nat.le_of_ble_eq_true rfl) (pfx_eq ph85.kk) rfl rfl (Nat.le_of_ble_eq_true rfl) rfl (dx dX7_statement 72 rfl) ?_
                          refine rb_eq (b := wdB 8 B z ((stp B z (stp B z ((stp B z (stp B z e).2.2).2.2)).2.2).1) ((stp B z (stp B z ((stp B z (stp B z e).2.2).2.2)).2.2).2.1) ((stp B z (stp B z ((stp B z (stp B z e).2.2).2.2)).2.2).2.2)) (tgt := 160) C (dx dX7_statement 73 rfl) (by decide) (fun c86 => ?_) (fun c86 => ?_)
                          ·
                            have c86 : (wdB 8 B z ((stp B z (stp B z ((stp B z (stp B z e).2.2).2.2)).2.2).1) ((stp B z (stp B z ((stp B z (stp B z e).2.2).2.2)).2.2).2.1) ((stp B z (stp B z ((stp B z (stp B z e).2.2).2.2)).2.2).2.2)) = false := c86
                            refine r_aload_n C (dx dX7_statement 84 rfl) rfl ?_
                            refine r_dupR C (dx dX7_statement 85 rfl) ?_
                            refine g_X7_74 (x := nI (vN v)) C (dx dX7_statement 86 rfl) ph85.m.eN ?_
                            refine r_iconst (v := nI 1) C (dx dX7_statement 87 rfl) rfl ?_
                            refine rn_iadd (a := vN v) (b := 1) C (dx dX7_statement 88 rfl) ?_
                            refine p_X7_74 C (dx dX7_statement 89 rfl) rfl rfl ?_
                            have ph87 : Px h (sI h85 k 16 (nI (vN v + 1))) k z B ((stp B z (stp B z ((stp B z (stp B z e).2.2).2.2)).2.2).1, (stp B z (stp B z ((stp B z (stp B z e).2.2).2.2)).2.2).2.1, (stp B z (stp B z ((stp B z (stp B z e).2.2).2.2)).2.2).2.2) (vsN (vset (vset (nwV v 4) 4 (vN v) (nmQ B z (stp B z e) (nI 0) (nI 9))) 5 (vN v) (nmQ B z (stp B z ((stp B z (stp B z e).2.2).2.2)) (nI 0) (nI 10))) (vN v + 1)) := ph85.fd (ph85.m.sN (n := vN v + 1) (by omega)) (by decide) (by decide) (by decide) (by decide) (by decide)
                            generalize sI h85 k 16 (nI (vN v + 1)) = h87 at ph87 ⊢
                            refine r_iconst (v := nI 1) C (dx dX7_statement 90 rfl) rfl ?_
                            exact F.1 _ _ _ _ .boolean rfl rfl (dx dX7_statement 91 rfl) ph87.kk ⟨true, rfl, (show RdP h h87 k z B (stW B z (t, s, e) v) true from RdP.t ((st_on (q := (t, s, e)) c63).trans (((on_a (q := (t, s, e)) h8 nnrbh74).trans (oa_y c77 nnrbh83)).trans (oe_n c86))) (by rw [← oneV_ag]; exact ph87))⟩
                          ·
                            have c86 : (wdB 8 B z ((stp B z (stp B z ((stp B z (stp B z e).2.2).2.2)).2.2).1) ((stp B z (stp B z ((stp B z (stp B z e).2.2).2.2)).2.2).2.1) ((stp B z (stp B z ((stp B z (stp B z e).2.2).2.2)).2.2).2.2)) = true := c86
                            refine r_aload_n C (dx dX7_statement 74 rfl) rfl ?_
                            refine r_cv (as := []) (st := []) C X I_X7_look l_X7_184 (e_look (fun i9 hi9 => ph85.tp hi9) ph85.lk) (by decide) (Nat.le_of_ble_eq_true rfl) List.prefix_rfl (pfx_eq ph85.kk) rfl rfl (Nat.le_of_ble_eq_true rfl) rfl (dx dX7_statement 75 rfl) ?_
                            rintro _ h88 ⟨rfl, qh88, uh88⟩ kkh88
                            have ph88 : Px h h88 k z B ((stp B z ((stp B z (stp B z ((stp B z (stp B z e).2.2).2.2)).2.2).2.2)).1, (stp B z ((stp B z (stp B z ((stp B z (stp B z e).2.2).2.2)).2.2).2.2)).2.1, (stp B z ((stp B z (stp B z ((stp B z (stp B z e).2.2).2.2)).2.2).2.2)).2.2) (vset (vset (nwV v 4) 4 (vN v) (nmQ B z (stp B z e) (nI 0) (nI 9))) 5 (vN v) (nmQ B z (stp B z ((stp B z (stp B z e).2.2).2.2)) (nI 0) (nI 10))) := ph85.tr qh88
                            have seh88 := ph88.se
                            have ezh88 := ph88.ez
                            refine r_aload_n C (dx dX7_statement 76 rfl) rfl ?_
                            refine g_X7_54 C (dx dX7_statement 77 rfl) ?_
                            refine r_aload_n C (dx dX7_statement 78 rfl) rfl ?_
                            refine g_X7_74 (x := nI (vN v)) C (dx dX7_statement 79 rfl) ph88.m.eN ?_
                            refine r_aald4 (j := vN v) C rfl rfl (by decide) rfl (by omega) (dx dX7_statement 80 rfl) ?_
                            refine r_iconst (v := nI 2) C (dx dX7_statement 81 rfl) rfl ?_
                            refine r_iconst (v := nI 1) C (dx dX7_statement 82 rfl) rfl ?_
                            refine r_iast (j := 2) C rfl rfl (by decide) rfl (by omega) (dx dX7_statement 83 rfl) ?_
                            have ph89 : Px h (sI h88 (k + 23 + (vN v)) 2 (nI 1)) k z B ((stp B z ((stp B z (stp B z ((stp B z (stp B z e).2.2).2.2)).2.2).2.2)).1, (stp B z ((stp B z (stp B z ((stp B z (stp B z e).2.2).2.2)).2.2).2.2)).2.1, (stp B z ((stp B z (stp B z ((stp B z (stp B z e).2.2).2.2)).2.2).2.2)).2.2) (vset (vset (vset (nwV v 4) 4 (vN v) (nmQ B z (stp B z e) (nI 0) (nI 9))) 5 (vN v) (nmQ B z (stp B z ((stp B z (stp B z e).2.2).2.2)) (nI 0) (nI 10))) 6 (vN v) (nI 1)) := ph88.c (ph88.m.so (by omega) (by omega)) (by omega) (by omega)
                            generalize sI h88 (k + 23 + (vN v)) 2 (nI 1) = h89 at ph89 ⊢
                            refine r_aload_n C (dx dX7_statement 84 rfl) rfl ?_
                            refine r_dupR C (dx dX7_statement 85 rfl) ?_
                            refine g_X7_74 (x := nI (vN v)) C (dx dX7_statement 86 rfl) ph89.m.eN ?_
                            refine r_iconst (v := nI 1) C (dx dX7_statement 87 rfl) rfl ?_
                            refine rn_iadd (a := vN v) (b := 1) C (dx dX7_statement 88 rfl) ?_
                            refine p_X7_74 C (dx dX7_statement 89 rfl) rfl rfl ?_
                            have ph90 : Px h (sI h89 k 16 (nI (vN v + 1))) k z B ((stp B z ((stp B z (stp B z ((stp B z (stp B z e).2.2).2.2)).2.2).2.2)).1, (stp B z ((stp B z (stp B z ((stp B z (stp B z e).2.2).2.2)).2.2).2.2)).2.1, (stp B z ((stp B z (stp B z ((stp B z (stp B z e).2.2).2.2)).2.2).2.2)).2.2) (vsN (vset (vset (vset (nwV v 4) 4 (vN v) (nmQ B z (stp B z e) (nI 0) (nI 9))) 5 (vN v) (nmQ B z (stp B z ((stp B z (stp B z e).2.2).2.2)) (nI 0) (nI 10))) 6 (vN v) (nI 1)) (vN v + 1)) := ph89.fd (ph89.m.sN (n := vN v + 1) (by omega)) (by decide) (by decide) (by decide) (by decide) (by decide)
                            generalize sI h89 k 16 (nI (vN v + 1)) = h90 at ph90 ⊢
                            refine r_iconst (v := nI 1) C (dx dX7_statement 90 rfl) rfl ?_
                            exact F.1 _ _ _ _ .boolean rfl rfl (dx dX7_statement 91 rfl) ph90.kk ⟨true, rfl, (show RdP h h90 k z B (stW B z (t, s, e) v) true from RdP.t ((st_on (q := (t, s, e)) c63).trans (((on_a (q := (t, s, e)) h8 nnrbh74).trans (oa_y c77 nnrbh83)).trans (oe_y c86))) (by rw [← oneV_ac]; exact ph90))⟩
                        ·
                          have c84 : bh83 = false := c84
                          rw [c84] at gh83
                          refine r_iconst (v := nI 0) C (dx dX7_statement 59 rfl) rfl ?_
                          rcases TlP.f gh83 with ⟨w9, p9, f9⟩ | ⟨w9, nn9, p9, f9⟩
                          ·
                            exact F.1 _ _ _ _ .boolean rfl rfl (dx dX7_statement 60 rfl) kh83 ⟨false, rfl, (show RdP h h83 k z B (stW B z (t, s, e) v) false from absurd (w9.symm.trans c77) (by decide))⟩
                          ·
                            exact F.1 _ _ _ _ .boolean rfl rfl (dx dX7_statement 60 rfl) kh83 ⟨false, rfl, (show RdP h h83 k z B (stW B z (t, s, e) v) false from RdP.f (((st_on (q := (t, s, e)) c63).trans (on_a (q := (t, s, e)) h8 nnrbh74)).trans (oa_f c77 nn9)) p9 f9)⟩
                    ·
                      have c75 : bh74 = false := c75
                      rw [c75] at gh74
                      refine r_iconst (v := nI 0) C (dx dX7_statement 38 rfl) rfl ?_
                      rcases TlP.f gh74 with ⟨w9, p9, f9⟩ | ⟨w9, nn9, p9, f9⟩
                      ·
                        exact F.1 _ _ _ _ .boolean rfl rfl (dx dX7_statement 39 rfl) kh74 ⟨false, rfl, (show RdP h h74 k z B (stW B z (t, s, e) v) false from absurd (w9.symm.trans c63) (by decide))⟩
                      ·
                        exact F.1 _ _ _ _ .boolean rfl rfl (dx dX7_statement 39 rfl) kh74 ⟨false, rfl, (show RdP h h74 k z B (stW B z (t, s, e) v) false from RdP.f ((st_on (q := (t, s, e)) c63).trans (on_f1 (q := (t, s, e)) h8 nn9)) p9 f9)⟩)
          ·
            have c62 : (wdB 3 B z t s e) = true := c62
            refine r_aload_n C (dx dX7_statement 15 rfl) rfl ?_
            refine g_X7_71 (x := nI (vM v)) C (dx dX7_statement 16 rfl) p.m.eM ?_
            refine r_bipush (v := nI 6) C (dx dX7_statement 17 rfl) rfl ?_
            refine rn_ge (a := vM v) (b := 6) (tgt := 46) C (by omega) (by omega) (dx dX7_statement 18 rfl) (by decide) (fun c91 => ?_) (fun c91 => ?_)
            · first
              | (omega; done)
              | (
                  have c91 : 6 ≤ vM v := c91
                  refine r_aload_n C (dx dX7_statement 22 rfl) rfl ?_
                  refine r_ldcS C 16 rfl (dx dX7_statement 23 rfl) ?_
                  refine r_cvP (as := [vt 1006]) (st := []) (v := vi (b2i (wdB 6 B z t s e))) C X I_X7_isWord l_X7_187 (e_isWord p.slf (i := 6) (by decide)) (by decide) (Nat.le_of_ble_eq_true rfl) (pfx_eq p.kk) rfl rfl (Nat.le_of_ble_eq_true rfl) rfl (dx dX7_statement 24 rfl) ?_
                  refine rb_eq (b := wdB 6 B z t s e) (tgt := 172) C (dx dX7_statement 25 rfl) (by decide) (fun c92 => ?_) (fun c92 => ?_)
                  ·
                    have c92 : (wdB 6 B z t s e) = false := c92
                    refine r_aload_n C (dx dX7_statement 92 rfl) rfl ?_
                    refine r_ldcS C 19 rfl (dx dX7_statement 93 rfl) ?_
                    refine r_iconst (v := nI 0) C (dx dX7_statement 94 rfl) rfl ?_
                    refine r_aload_n C (dx dX7_statement 95 rfl) rfl ?_
                    refine g_X7_64 (x := nI (vP v)) C (dx dX7_statement 96 rfl) p.m.eP ?_
                    refine r_iconst (v := nI 1) C (dx dX7_statement 97 rfl) rfl ?_
                    refine r_isub C (dx dX7_statement 98 rfl) ?_
                    refine r_cv (as := [vt 1009, vi (nI 0), vi ((nI (vP v)) - (nI 1))]) (st := []) C X I_X7_tells l_X7_206 (e_tells p.slf (i := 9) (by decide) (nI 0) ((nI (vP v)) - (nI 1)) (le99n (by omega))) (by decide) (Nat.le_of_ble_eq_true rfl) List.prefix_rfl (pfx_eq p.kk) rfl rfl (Nat.le_of_ble_eq_true rfl) rfl (dx dX7_statement 99 rfl) ?_
                    rintro _ h93 ⟨bh93, rfl, gh93⟩ kkh93
                    have kh93 : xK h93 = xK h := kkh93.trans p.kk
                    have gh93 := TlP.pre p gh93
                    refine rb_eq (b := bh93) (tgt := 204) C (dx dX7_statement 100 rfl) (by decide) (fun c94 => ?_) (fun c94 => ?_)
                    ·
                      have c94 : bh93 = false := c94
                      rw [c94] at gh93
                      refine r_iconst (v := nI 0) C (dx dX7_statement 109 rfl) rfl ?_
                      rcases TlP.f gh93 with ⟨w9, p9, f9⟩ | ⟨w9, nn9, p9, f9⟩
                      ·
                        exact F.1 _ _ _ _ .boolean rfl rfl (dx dX7_statement 110 rfl) kh93 ⟨false, rfl, (show RdP h h93 k z B (stW B z (t, s, e) v) false from RdP.f (st_no (q := (t, s, e)) (fun _ => by omega) (fun _ => by omega) (fun y => by rw [c92] at y; exact absurd y (by decide)) w9) p9 f9)⟩
                      ·
                        exact F.1 _ _ _ _ .boolean rfl rfl (dx dX7_statement 110 rfl) kh93 ⟨false, rfl, (show RdP h h93 k z B (stW B z (t, s, e) v) false from RdP.f ((st_gv (q := (t, s, e)) w9).trans (gv_f1 (q := (t, s, e)) nn9)) p9 f9)⟩
                    ·
                      have c94 : bh93 = true := c94
                      rw [c94] at gh93
                      obtain ⟨wrbh93, grbh93⟩ := TlP.t gh93
                      obtain ⟨nnrbh93, prbh93, erbh93⟩ := NmP.t grbh93
                      have prbh93 : Px h h93 k z B ((stp B z (stp B z e).2.2).1, (stp B z (stp B z e).2.2).2.1, (stp B z (stp B z e).2.2).2.2) v := prbh93
                      have serbh93 := Px.se (t := (stp B z (stp B z e).2.2).1) (s := (stp B z (stp B z e).2.2).2.1) (e := (stp B z (stp B z e).2.2).2.2) prbh93
                      have ezrbh93 := Px.ez (t := (stp B z (stp B z e).2.2).1) (s := (stp B z (stp B z e).2.2).2.1) (e := (stp B z (stp B z e).2.2).2.2) prbh93
                      have adrbh93 := nm_adv (B := B) (a := e) (by omega) nnrbh93
                      have gerbh93 := stp_ge (B := B) (z := z) (a := (stp B z e).2.2) (stp_le (B := B) (z := z) (e := e) (by omega)).2
                      refine r_aload_n C (dx dX7_statement 101 rfl) rfl ?_
                      refine r_aload_n C (dx dX7_statement 102 rfl) rfl ?_
                      refine g_X7_181 (x := nmQ B z (stp B z e) (nI 0) ((nI (vP v)) - (nI 1))) C (dx dX7_statement 103 rfl) erbh93 ?_
                      obtain ⟨j9, hj9, ej9⟩ := gv_j (q := (t, s, e)) nnrbh93 bP
                      rw [show nmQ B z (stp B z e) (nI 0) ((nI (vP v)) - (nI 1)) = nI j9 from ej9]
                      refine r_iconst (v := nI 0) C (dx dX7_statement 104 rfl) rfl ?_
                      refine r_cv (as := [vi (nI j9), vi (nI 0)]) (st := []) C X I_X7_gets l_X7_199 (e_gets prbh93.slf ⟨(stp B z e).2.2, by omega, rfl⟩ (j := j9) hj9 false) (by decide) (Nat.le_of_ble_eq_true rfl) List.prefix_rfl (pfx_eq prbh93.kk) rfl rfl (Nat.le_of_ble_eq_true rfl) rfl (dx dX7_statement 105 rfl) ?_
                      rintro _ h95 ⟨bh95, rfl, gh95⟩ kkh95
                      have kh95 : xK h95 = xK h := kkh95.trans prbh93.kk
                      have gh95 := GtP.pre prbh93 gh95
                      refine rb_eq (b := bh95) (tgt := 204) C (dx dX7_statement 106 rfl) (by decide) (fun c96 => ?_) (fun c96 => ?_)
                      ·
                        have c96 : bh95 = false := c96
                        refine r_iconst (v := nI 0) C (dx dX7_statement 109 rfl) rfl ?_
                        rw [c96] at gh95
                        exact F.1 _ _ _ _ .boolean rfl rfl (dx dX7_statement 110 rfl) kh95 ⟨false, rfl, (show RdP h h95 k z B (stW B z (t, s, e) v) false from RdP.eq (st_gv (q := (t, s, e)) wrbh93) (gv_f2 (q := (t, s, e)) nnrbh93 (by omega) ej9 gh95))⟩
                      ·
                        have c96 : bh95 = true := c96
                        refine r_iconst (v := nI 1) C (dx dX7_statement 107 rfl) rfl ?_
                        refine r_goto (tgt := 205) C (dx dX7_statement 108 rfl) (by decide) ?_
                        rw [c96] at gh95
                        exact F.1 _ _ _ _ .boolean rfl rfl (dx dX7_statement 110 rfl) kh95 ⟨true, rfl, (show RdP h h95 k z B (stW B z (t, s, e) v) true from RdP.eq (st_gv (q := (t, s, e)) wrbh93) (gv_t (q := (t, s, e)) nnrbh93 (by omega) ej9 gh95))⟩
                  ·
                    have c92 : (wdB 6 B z t s e) = true := c92
                    refine r_aload_n C (dx dX7_statement 26 rfl) rfl ?_
                    refine g_X7_74 (x := nI (vN v)) C (dx dX7_statement 27 rfl) p.m.eN ?_
                    refine r_bipush (v := nI 8) C (dx dX7_statement 28 rfl) rfl ?_
                    refine rn_ge (a := vN v) (b := 8) (tgt := 172) C (by omega) (by omega) (dx dX7_statement 29 rfl) (by decide) (fun c97 => ?_) (fun c97 => ?_)
                    · first
                      | (omega; done)
                      | (
                          have c97 : 8 ≤ vN v := c97
                          refine r_aload_n C (dx dX7_statement 92 rfl) rfl ?_
                          refine r_ldcS C 19 rfl (dx dX7_statement 93 rfl) ?_
                          refine r_iconst (v := nI 0) C (dx dX7_statement 94 rfl) rfl ?_
                          refine r_aload_n C (dx dX7_statement 95 rfl) rfl ?_
                          refine g_X7_64 (x := nI (vP v)) C (dx dX7_statement 96 rfl) p.m.eP ?_
                          refine r_iconst (v := nI 1) C (dx dX7_statement 97 rfl) rfl ?_
                          refine r_isub C (dx dX7_statement 98 rfl) ?_
                          refine r_cv (as := [vt 1009, vi (nI 0), vi ((nI (vP v)) - (nI 1))]) (st := []) C X I_X7_tells l_X7_206 (e_tells p.slf (i := 9) (by decide) (nI 0) ((nI (vP v)) - (nI 1)) (le99n (by omega))) (by decide) (Nat.le_of_ble_eq_true rfl) List.prefix_rfl (pfx_eq p.kk) rfl rfl (Nat.le_of_ble_eq_true rfl) rfl (dx dX7_statement 99 rfl) ?_
                          rintro _ h98 ⟨bh98, rfl, gh98⟩ kkh98
                          have kh98 : xK h98 = xK h := kkh98.trans p.kk
                          have gh98 := TlP.pre p gh98
                          refine rb_eq (b := bh98) (tgt := 204) C (dx dX7_statement 100 rfl) (by decide) (fun c99 => ?_) (fun c99 => ?_)
                          ·
                            have c99 : bh98 = false := c99
                            rw [c99] at gh98
                            refine r_iconst (v := nI 0) C (dx dX7_statement 109 rfl) rfl ?_
                            rcases TlP.f gh98 with ⟨w9, p9, f9⟩ | ⟨w9, nn9, p9, f9⟩
                            ·
                              exact F.1 _ _ _ _ .boolean rfl rfl (dx dX7_statement 110 rfl) kh98 ⟨false, rfl, (show RdP h h98 k z B (stW B z (t, s, e) v) false from RdP.f (st_no (q := (t, s, e)) (fun _ => by omega) (fun _ => by omega) (fun _ => by omega) w9) p9 f9)⟩
                            ·
                              exact F.1 _ _ _ _ .boolean rfl rfl (dx dX7_statement 110 rfl) kh98 ⟨false, rfl, (show RdP h h98 k z B (stW B z (t, s, e) v) false from RdP.f ((st_gv (q := (t, s, e)) w9).trans (gv_f1 (q := (t, s, e)) nn9)) p9 f9)⟩
                          ·
                            have c99 : bh98 = true := c99
                            rw [c99] at gh98
                            obtain ⟨wrbh98, grbh98⟩ := TlP.t gh98
                            obtain ⟨nnrbh98, prbh98, erbh98⟩ := NmP.t grbh98
                            have prbh98 : Px h h98 k z B ((stp B z (stp B z e).2.2).1, (stp B z (stp B z e).2.2).2.1, (stp B z (stp B z e).2.2).2.2) v := prbh98
                            have serbh98 := Px.se (t := (stp B z (stp B z e).2.2).1) (s := (stp B z (stp B z e).2.2).2.1) (e := (stp B z (stp B z e).2.2).2.2) prbh98
                            have ezrbh98 := Px.ez (t := (stp B z (stp B z e).2.2).1) (s := (stp B z (stp B z e).2.2).2.1) (e := (stp B z (stp B z e).2.2).2.2) prbh98
                            have adrbh98 := nm_adv (B := B) (a := e) (by omega) nnrbh98
                            have gerbh98 := stp_ge (B := B) (z := z) (a := (stp B z e).2.2) (stp_le (B := B) (z := z) (e := e) (by omega)).2
                            refine r_aload_n C (dx dX7_statement 101 rfl) rfl ?_
                            refine r_aload_n C (dx dX7_statement 102 rfl) rfl ?_
                            refine g_X7_181 (x := nmQ B z (stp B z e) (nI 0) ((nI (vP v)) - (nI 1))) C (dx dX7_statement 103 rfl) erbh98 ?_
                            obtain ⟨j9, hj9, ej9⟩ := gv_j (q := (t, s, e)) nnrbh98 bP
                            rw [show nmQ B z (stp B z e) (nI 0) ((nI (vP v)) - (nI 1)) = nI j9 from ej9]
                            refine r_iconst (v := nI 0) C (dx dX7_statement 104 rfl) rfl ?_
                            refine r_cv (as := [vi (nI j9), vi (nI 0)]) (st := []) C X I_X7_gets l_X7_199 (e_gets prbh98.slf ⟨(stp B z e).2.2, by omega, rfl⟩ (j := j9) hj9 false) (by decide) (Nat.le_of_ble_eq_true rfl) List.prefix_rfl (pfx_eq prbh98.kk) rfl rfl (Nat.le_of_ble_eq_true rfl) rfl (dx dX7_statement 105 rfl) ?_
                            rintro _ h100 ⟨bh100, rfl, gh100⟩ kkh100
                            have kh100 : xK h100 = xK h := kkh100.trans prbh98.kk
                            have gh100 := GtP.pre prbh98 gh100
                            refine rb_eq (b := bh100) (tgt := 204) C (dx dX7_statement 106 rfl) (by decide) (fun c101 => ?_) (fun c101 => ?_)
                            ·
                              have c101 : bh100 = false := c101
                              refine r_iconst (v := nI 0) C (dx dX7_statement 109 rfl) rfl ?_
                              rw [c101] at gh100
                              exact F.1 _ _ _ _ .boolean rfl rfl (dx dX7_statement 110 rfl) kh100 ⟨false, rfl, (show RdP h h100 k z B (stW B z (t, s, e) v) false from RdP.eq (st_gv (q := (t, s, e)) wrbh98) (gv_f2 (q := (t, s, e)) nnrbh98 (by omega) ej9 gh100))⟩
                            ·
                              have c101 : bh100 = true := c101
                              refine r_iconst (v := nI 1) C (dx dX7_statement 107 rfl) rfl ?_
                              refine r_goto (tgt := 205) C (dx dX7_statement 108 rfl) (by decide) ?_
                              rw [c101] at gh100
                              exact F.1 _ _ _ _ .boolean rfl rfl (dx dX7_statement 110 rfl) kh100 ⟨true, rfl, (show RdP h h100 k z B (stW B z (t, s, e) v) true from RdP.eq (st_gv (q := (t, s, e)) wrbh98) (gv_t (q := (t, s, e)) nnrbh98 (by omega) ej9 gh100))⟩)
                    · first
                      | (omega; done)
                      | (
                          have c97 : vN v < 8 := c97
                          refine r_aload_n C (dx dX7_statement 30 rfl) rfl ?_
                          refine r_cv (as := []) (st := []) C X I_X7_newOne l_X7_122 (p_newOne p.slf (by omega)) (by decide) (Nat.le_of_ble_eq_true rfl) List.prefix_rfl (pfx_eq p.kk) rfl rfl (Nat.le_of_ble_eq_true rfl) rfl (dx dX7_statement 31 rfl) ?_
                          have h8 : vN v < 8 := by omega
                          rintro _ h102 ⟨rfl, qh102⟩ kkh102
                          have ph102 := p.tr qh102
                          refine r_aload_n C (dx dX7_statement 32 rfl) rfl ?_
                          refine r_ldcS C 16 rfl (dx dX7_statement 33 rfl) ?_
                          refine r_iconst (v := nI 0) C (dx dX7_statement 34 rfl) rfl ?_
                          refine r_bipush (v := nI 9) C (dx dX7_statement 35 rfl) rfl ?_
                          refine r_cv (as := [vt 1006, vi (nI 0), vi (nI 9)]) (st := []) C X I_X7_tells l_X7_206 (e_tells ph102.slf (i := 6) (by decide) (nI 0) (nI 9) (by decide)) (by decide) (Nat.le_of_ble_eq_true rfl) List.prefix_rfl (pfx_eq ph102.kk) rfl rfl (Nat.le_of_ble_eq_true rfl) rfl (dx dX7_statement 36 rfl) ?_
                          rintro _ h103 ⟨bh103, rfl, gh103⟩ kkh103
                          have kh103 : xK h103 = xK h := kkh103.trans ph102.kk
                          have gh103 := TlP.pre ph102 gh103
                          refine rb_ne (b := bh103) (tgt := 82) C (dx dX7_statement 37 rfl) (by decide) (fun c104 => ?_) (fun c104 => ?_)
                          ·
                            have c104 : bh103 = true := c104
                            rw [c104] at gh103
                            obtain ⟨wrbh103, grbh103⟩ := TlP.t gh103
                            obtain ⟨nnrbh103, prbh103, erbh103⟩ := NmP.t grbh103
                            have prbh103 : Px h h103 k z B ((stp B z (stp B z e).2.2).1, (stp B z (stp B z e).2.2).2.1, (stp B z (stp B z e).2.2).2.2) (nwV v 4) := prbh103
                            have serbh103 := Px.se (t := (stp B z (stp B z e).2.2).1) (s := (stp B z (stp B z e).2.2).2.1) (e := (stp B z (stp B z e).2.2).2.2) prbh103
                            have ezrbh103 := Px.ez (t := (stp B z (stp B z e).2.2).1) (s := (stp B z (stp B z e).2.2).2.1) (e := (stp B z (stp B z e).2.2).2.2) prbh103
                            have adrbh103 := nm_adv (B := B) (a := e) (by omega) nnrbh103
                            have gerbh103 := stp_ge (B := B) (z := z) (a := (stp B z e).2.2) (stp_le (B := B) (z := z) (e := e) (by omega)).2
                            refine r_aload_n C (dx dX7_statement 40 rfl) rfl ?_
                            refine g_X7_54 C (dx dX7_statement 41 rfl) ?_
                            refine r_aload_n C (dx dX7_statement 42 rfl) rfl ?_
                            refine g_X7_74 (x := nI (vN v)) C (dx dX7_statement 43 rfl) prbh103.m.eN ?_
                            refine r_aald4 (j := vN v) C rfl rfl (by decide) rfl (by omega) (dx dX7_statement 44 rfl) ?_
                            refine r_iconst (v := nI 0) C (dx dX7_statement 45 rfl) rfl ?_
                            refine r_aload_n C (dx dX7_statement 46 rfl) rfl ?_
                            refine g_X7_181 (x := nmQ B z (stp B z e) (nI 0) (nI 9)) C (dx dX7_statement 47 rfl) erbh103 ?_
                            refine r_iast (j := 0) C rfl rfl (by decide) rfl (by omega) (dx dX7_statement 48 rfl) ?_
                            have ph105 : Px h (sI h103 (k + 23 + (vN v)) 0 (nmQ B z (stp B z e) (nI 0) (nI 9))) k z B ((stp B z (stp B z e).2.2).1, (stp B z (stp B z e).2.2).2.1, (stp B z (stp B z e).2.2).2.2) (vset (nwV v 4) 4 (vN v) (nmQ B z (stp B z e) (nI 0) (nI 9))) := prbh103.c (prbh103.m.so (by omega) (by omega)) (by omega) (by omega)
                            generalize sI h103 (k + 23 + (vN v)) 0 (nmQ B z (stp B z e) (nI 0) (nI 9)) = h105 at ph105 ⊢
                            refine r_aload_n C (dx dX7_statement 49 rfl) rfl ?_
                            refine r_ldcS C 17 rfl (dx dX7_statement 50 rfl) ?_
                            refine r_cvP (as := [vt 1007]) (st := []) (v := vi (b2i (wdB 7 B z ((stp B z (stp B z e).2.2).1) ((stp B z (stp B z e).2.2).2.1) ((stp B z (stp B z e).2.2).2.2)))) C X I_X7_isWord l_X7_187 (e_isWord ph105.slf (i := 7) (by decide)) (by decide) (Nat.le_of_ble_eq_true rfl) (pfx_eq ph105.kk) rfl rfl (Nat.le_of_ble_eq_true rfl) rfl (dx dX7_statement 51 rfl) ?_
                            refine rb_eq (b := wdB 7 B z ((stp B z (stp B z e).2.2).1) ((stp B z (stp B z e).2.2).2.1) ((stp B z (stp B z e).2.2).2.2)) (tgt := 135) C (dx dX7_statement 52 rfl) (by decide) (fun c106 => ?_) (fun c106 => ?_)
                            ·
                              have c106 : (wdB 7 B z ((stp B z (stp B z e).2.2).1) ((stp B z (stp B z e).2.2).2.1) ((stp B z (stp B z e).2.2).2.2)) = false := c106
                              refine r_aload_n C (dx dX7_statement 70 rfl) rfl ?_
                              refine r_ldcS C 18 rfl (dx dX7_statement 71 rfl) ?_
                              refine r_cvP (as := [vt 1008]) (st := []) (v := vi (b2i (wdB 8 B z ((stp B z (stp B z e).2.2).1) ((stp B z (stp B z e).2.2).2.1) ((stp B z (stp B z e).2.2).2.2)))) C X I_X7_isWord l_X7_187 (e_isWord ph105.slf (i := 8) (by decide)) (by decide) (Nat.le_of_ble_eq_true rfl) (pfx_eq ph105.kk) rfl rfl (Nat.le_of_ble_eq_true rfl) rfl (dx dX7_statement 72 rfl) ?_
                              refine rb_eq (b := wdB 8 B z ((stp B z (stp B z e).2.2).1) ((stp B z (stp B z e).2.2).2.1) ((stp B z (stp B z e).2.2).2.2)) (tgt := 160) C (dx dX7_statement 73 rfl) (by decide) (fun c107 => ?_) (fun c107 => ?_)
                              ·
                                have c107 : (wdB 8 B z ((stp B z (stp B z e).2.2).1) ((stp B z (stp B z e).2.2).2.1) ((stp B z (stp B z e).2.2).2.2)) = false := c107
                                refine r_aload_n C (dx dX7_statement 84 rfl) rfl ?_
                                refine r_dupR C (dx dX7_statement 85 rfl) ?_
                                refine g_X7_74 (x := nI (vN v)) C (dx dX7_statement 86 rfl) ph105.m.eN ?_
                                refine r_iconst (v := nI 1) C (dx dX7_statement 87 rfl) rfl ?_
                                refine rn_iadd (a := vN v) (b := 1) C (dx dX7_statement 88 rfl) ?_
                                refine p_X7_74 C (dx dX7_statement 89 rfl) rfl rfl ?_
                                have ph108 : Px h (sI h105 k 16 (nI (vN v + 1))) k z B ((stp B z (stp B z e).2.2).1, (stp B z (stp B z e).2.2).2.1, (stp B z (stp B z e).2.2).2.2) (vsN (vset (nwV v 4) 4 (vN v) (nmQ B z (stp B z e) (nI 0) (nI 9))) (vN v + 1)) := ph105.fd (ph105.m.sN (n := vN v + 1) (by omega)) (by decide) (by decide) (by decide) (by decide) (by decide)
                                generalize sI h105 k 16 (nI (vN v + 1)) = h108 at ph108 ⊢
                                refine r_iconst (v := nI 1) C (dx dX7_statement 90 rfl) rfl ?_
                                exact F.1 _ _ _ _ .boolean rfl rfl (dx dX7_statement 91 rfl) ph108.kk ⟨true, rfl, (show RdP h h108 k z B (stW B z (t, s, e) v) true from RdP.t ((st_on (q := (t, s, e)) c92).trans (((on_a (q := (t, s, e)) h8 nnrbh103).trans (oa_n c106)).trans (oe_n c107))) (by rw [← oneV_nn]; exact ph108))⟩
                              ·
                                have c107 : (wdB 8 B z ((stp B z (stp B z e).2.2).1) ((stp B z (stp B z e).2.2).2.1) ((stp B z (stp B z e).2.2).2.2)) = true := c107
                                refine r_aload_n C (dx dX7_statement 74 rfl) rfl ?_
                                refine r_cv (as := []) (st := []) C X I_X7_look l_X7_184 (e_look (fun i9 hi9 => ph105.tp hi9) ph105.lk) (by decide) (Nat.le_of_ble_eq_true rfl) List.prefix_rfl (pfx_eq ph105.kk) rfl rfl (Nat.le_of_ble_eq_true rfl) rfl (dx dX7_statement 75 rfl) ?_
                                rintro _ h109 ⟨rfl, qh109, uh109⟩ kkh109
                                have ph109 : Px h h109 k z B ((stp B z ((stp B z (stp B z e).2.2).2.2)).1, (stp B z ((stp B z (stp B z e).2.2).2.2)).2.1, (stp B z ((stp B z (stp B z e).2.2).2.2)).2.2) (vset (nwV v 4) 4 (vN v) (nmQ B z (stp B z e) (nI 0) (nI 9))) := ph105.tr qh109
                                have seh109 := ph109.se
                                have ezh109 := ph109.ez
                                refine r_aload_n C (dx dX7_statement 76 rfl) rfl ?_
                                refine g_X7_54 C (dx dX7_statement 77 rfl) ?_
                                refine r_aload_n C (dx dX7_statement 78 rfl) rfl ?_
                                refine g_X7_74 (x := nI (vN v)) C (dx dX7_statement 79 rfl) ph109.m.eN ?_
                                refine r_aald4 (j := vN v) C rfl rfl (by decide) rfl (by omega) (dx dX7_statement 80 rfl) ?_
                                refine r_iconst (v := nI 2) C (dx dX7_statement 81 rfl) rfl ?_
                                refine r_iconst (v := nI 1) C (dx dX7_statement 82 rfl) rfl ?_
                                refine r_iast (j := 2) C rfl rfl (by decide) rfl (by omega) (dx dX7_statement 83 rfl) ?_
                                have ph110 : Px h (sI h109 (k + 23 + (vN v)) 2 (nI 1)) k z B ((stp B z ((stp B z (stp B z e).2.2).2.2)).1, (stp B z ((stp B z (stp B z e).2.2).2.2)).2.1, (stp B z ((stp B z (stp B z e).2.2).2.2)).2.2) (vset (vset (nwV v 4) 4 (vN v) (nmQ B z (stp B z e) (nI 0) (nI 9))) 6 (vN v) (nI 1)) := ph109.c (ph109.m.so (by omega) (by omega)) (by omega) (by omega)
                                generalize sI h109 (k + 23 + (vN v)) 2 (nI 1) = h110 at ph110 ⊢
                                refine r_aload_n C (dx dX7_statement 84 rfl) rfl ?_
                                refine r_dupR C (dx dX7_statement 85 rfl) ?_
                                refine g_X7_74 (x := nI (vN v)) C (dx dX7_statement 86 rfl) ph110.m.eN ?_
                                refine r_iconst (v := nI 1) C (dx dX7_statement 87 rfl) rfl ?_
                                refine rn_iadd (a := vN v) (b := 1) C (dx dX7_statement 88 rfl) ?_
                                refine p_X7_74 C (dx dX7_statement 89 rfl) rfl rfl ?_
                                have ph111 : Px h (sI h110 k 16 (nI (vN v + 1))) k z B ((stp B z ((stp B z (stp B z e).2.2).2.2)).1, (stp B z ((stp B z (stp B z e).2.2).2.2)).2.1, (stp B z ((stp B z (stp B z e).2.2).2.2)).2.2) (vsN (vset (vset (nwV v 4) 4 (vN v) (nmQ B z (stp B z e) (nI 0) (nI 9))) 6 (vN v) (nI 1)) (vN v + 1)) := ph110.fd (ph110.m.sN (n := vN v + 1) (by omega)) (by decide) (by decide) (by decide) (by decide) (by decide)
                                generalize sI h110 k 16 (nI (vN v + 1)) = h111 at ph111 ⊢
                                refine r_iconst (v := nI 1) C (dx dX7_statement 90 rfl) rfl ?_
                                exact F.1 _ _ _ _ .boolean rfl rfl (dx dX7_statement 91 rfl) ph111.kk ⟨true, rfl, (show RdP h h111 k z B (stW B z (t, s, e) v) true from RdP.t ((st_on (q := (t, s, e)) c92).trans (((on_a (q := (t, s, e)) h8 nnrbh103).trans (oa_n c106)).trans (oe_y c107))) (by rw [← oneV_nc]; exact ph111))⟩
                            ·
                              have c106 : (wdB 7 B z ((stp B z (stp B z e).2.2).1) ((stp B z (stp B z e).2.2).2.1) ((stp B z (stp B z e).2.2).2.2)) = true := c106
                              refine r_aload_n C (dx dX7_statement 53 rfl) rfl ?_
                              refine r_ldcS C 17 rfl (dx dX7_statement 54 rfl) ?_
                              refine r_iconst (v := nI 0) C (dx dX7_statement 55 rfl) rfl ?_
                              refine r_bipush (v := nI 10) C (dx dX7_statement 56 rfl) rfl ?_
                              refine r_cv (as := [vt 1007, vi (nI 0), vi (nI 10)]) (st := []) C X I_X7_tells l_X7_206 (e_tells ph105.slf (i := 7) (by decide) (nI 0) (nI 10) (by decide)) (by decide) (Nat.le_of_ble_eq_true rfl) List.prefix_rfl (pfx_eq ph105.kk) rfl rfl (Nat.le_of_ble_eq_true rfl) rfl (dx dX7_statement 57 rfl) ?_
                              rintro _ h112 ⟨bh112, rfl, gh112⟩ kkh112
                              have kh112 : xK h112 = xK h := kkh112.trans ph105.kk
                              have gh112 := TlP.pre ph105 gh112
                              refine rb_ne (b := bh112) (tgt := 120) C (dx dX7_statement 58 rfl) (by decide) (fun c113 => ?_) (fun c113 => ?_)
                              ·
                                have c113 : bh112 = true := c113
                                rw [c113] at gh112
                                obtain ⟨wrbh112, grbh112⟩ := TlP.t gh112
                                obtain ⟨nnrbh112, prbh112, erbh112⟩ := NmP.t grbh112
                                have prbh112 : Px h h112 k z B ((stp B z (stp B z ((stp B z (stp B z e).2.2).2.2)).2.2).1, (stp B z (stp B z ((stp B z (stp B z e).2.2).2.2)).2.2).2.1, (stp B z (stp B z ((stp B z (stp B z e).2.2).2.2)).2.2).2.2) (vset (nwV v 4) 4 (vN v) (nmQ B z (stp B z e) (nI 0) (nI 9))) := prbh112
                                have serbh112 := Px.se (t := (stp B z (stp B z ((stp B z (stp B z e).2.2).2.2)).2.2).1) (s := (stp B z (stp B z ((stp B z (stp B z e).2.2).2.2)).2.2).2.1) (e := (stp B z (stp B z ((stp B z (stp B z e).2.2).2.2)).2.2).2.2) prbh112
                                have ezrbh112 := Px.ez (t := (stp B z (stp B z ((stp B z (stp B z e).2.2).2.2)).2.2).1) (s := (stp B z (stp B z ((stp B z (stp B z e).2.2).2.2)).2.2).2.1) (e := (stp B z (stp B z ((stp B z (stp B z e).2.2).2.2)).2.2).2.2) prbh112
                                have adrbh112 := nm_adv (B := B) (a := (stp B z (stp B z e).2.2).2.2) (by omega) nnrbh112
                                have gerbh112 := stp_ge (B := B) (z := z) (a := (stp B z ((stp B z (stp B z e).2.2).2.2)).2.2) (stp_le (B := B) (z := z) (e := (stp B z (stp B z e).2.2).2.2) (by omega)).2
                                refine r_aload_n C (dx dX7_statement 61 rfl) rfl ?_
                                refine g_X7_54 C (dx dX7_statement 62 rfl) ?_
                                refine r_aload_n C (dx dX7_statement 63 rfl) rfl ?_
                                refine g_X7_74 (x := nI (vN v)) C (dx dX7_statement 64 rfl) prbh112.m.eN ?_
                                refine r_aald4 (j := vN v) C rfl rfl (by decide) rfl (by omega) (dx dX7_statement 65 rfl) ?_
                                refine r_iconst (v := nI 1) C (dx dX7_statement 66 rfl) rfl ?_
                                refine r_aload_n C (dx dX7_statement 67 rfl) rfl ?_
                                refine g_X7_181 (x := nmQ B z (stp B z ((stp B z (stp B z e).2.2).2.2)) (nI 0) (nI 10)) C (dx dX7_statement 68 rfl) erbh112 ?_
                                refine r_iast (j := 1) C rfl rfl (by decide) rfl (by omega) (dx dX7_statement 69 rfl) ?_
                                have ph114 : Px h (sI h112 (k + 23 + (vN v)) 1 (nmQ B z (stp B z ((stp B z (stp B z e).2.2).2.2)) (nI 0) (nI 10))) k z B ((stp B z (stp B z ((stp B z (stp B z e).2.2).2.2)).2.2).1, (stp B z (stp B z ((stp B z (stp B z e).2.2).2.2)).2.2).2.1, (stp B z (stp B z ((stp B z (stp B z e).2.2).2.2)).2.2).2.2) (vset (vset (nwV v 4) 4 (vN v) (nmQ B z (stp B z e) (nI 0) (nI 9))) 5 (vN v) (nmQ B z (stp B z ((stp B z (stp B z e).2.2).2.2)) (nI 0) (nI 10))) := prbh112.c (prbh112.m.so (by omega) (by omega)) (by omega) (by omega)
                                generalize sI h112 (k + 23 + (vN v)) 1 (nmQ B z (stp B z ((stp B z (stp B z e).2.2).2.2)) (nI 0) (nI 10)) = h114 at ph114 ⊢
                                refine r_aload_n C (dx dX7_statement 70 rfl) rfl ?_
                                refine r_ldcS C 18 rfl (dx dX7_statement 71 rfl) ?_
                                refine r_cvP (as := [vt 1008]) (st := []) (v := vi (b2i (wdB 8 B z ((stp B z (stp B z ((stp B z (stp B z e).2.2).2.2)).2.2).1) ((stp B z (stp B z ((stp B z (stp B z e).2.2).2.2)).2.2).2.1) ((stp B z (stp B z ((stp B z (stp B z e).2.2).2.2)).2.2).2.2)))) C X I_X7_isWord l_X7_187 (e_isWord ph114.slf (i := 8) (by decide)) (by decide) (Nat.le_of_ble_eq_true rfl) (pfx_eq ph114.kk) rfl rfl (Nat.le_of_ble_eq_true rfl) rfl (dx dX7_statement 72 rfl) ?_
                                refine rb_eq (b := wdB 8 B z ((stp B z (stp B z ((stp B z (stp B z e).2.2).2.2)).2.2).1) ((stp B z (stp B z ((stp B z (stp B z e).2.2).2.2)).2.2).2.1) ((stp B z (stp B z ((stp B z (stp B z e).2.2).2.2)).2.2).2.2)) (tgt := 160) C (dx dX7_statement 73 rfl) (by decide) (fun c115 => ?_) (fun c115 => ?_)
                                ·
                                  have c115 : (wdB 8 B z ((stp B z (stp B z ((stp B z (stp B z e).2.2).2.2)).2.2).1) ((stp B z (stp B z ((stp B z (stp B z e).2.2).2.2)).2.2).2.1) ((stp B z (stp B z ((stp B z (stp B z e).2.2).2.2)).2.2).2.2)) = false := c115
                                  refine r_aload_n C (dx dX7_statement 84 rfl) rfl ?_
                                  refine r_dupR C (dx dX7_statement 85 rfl) ?_
                                  refine g_X7_74 (x := nI (vN v)) C (dx dX7_statement 86 rfl) ph114.m.eN ?_
                                  refine r_iconst (v := nI 1) C (dx dX7_statement 87 rfl) rfl ?_
                                  refine rn_iadd (a := vN v) (b := 1) C (dx dX7_statement 88 rfl) ?_
                                  refine p_X7_74 C (dx dX7_statement 89 rfl) rfl rfl ?_
                                  have ph116 : Px h (sI h114 k 16 (nI (vN v + 1))) k z B ((stp B z (stp B z ((stp B z (stp B z e).2.2).2.2)).2.2).1, (stp B z (stp B z ((stp B z (stp B z e).2.2).2.2)).2.2).2.1, (stp B z (stp B z ((stp B z (stp B z e).2.2).2.2)).2.2).2.2) (vsN (vset (vset (nwV v 4) 4 (vN v) (nmQ B z (stp B z e) (nI 0) (nI 9))) 5 (vN v) (nmQ B z (stp B z ((stp B z (stp B z e).2.2).2.2)) (nI 0) (nI 10))) (vN v + 1)) := ph114.fd (ph114.m.sN (n := vN v + 1) (by omega)) (by decide) (by decide) (by decide) (by decide) (by decide)
                                  generalize sI h114 k 16 (nI (vN v + 1)) = h116 at ph116 ⊢
                                  refine r_iconst (v := nI 1) C (dx dX7_statement 90 rfl) rfl ?_
                                  exact F.1 _ _ _ _ .boolean rfl rfl (dx dX7_statement 91 rfl) ph116.kk ⟨true, rfl, (show RdP h h116 k z B (stW B z (t, s, e) v) true from RdP.t ((st_on (q := (t, s, e)) c92).trans (((on_a (q := (t, s, e)) h8 nnrbh103).trans (oa_y c106 nnrbh112)).trans (oe_n c115))) (by rw [← oneV_ag]; exact ph116))⟩
                                ·
                                  have c115 : (wdB 8 B z ((stp B z (stp B z ((stp B z (stp B z e).2.2).2.2)).2.2).1) ((stp B z (stp B z ((stp B z (stp B z e).2.2).2.2)).2.2).2.1) ((stp B z (stp B z ((stp B z (stp B z e).2.2).2.2)).2.2).2.2)) = true := c115
                                  refine r_aload_n C (dx dX7_statement 74 rfl) rfl ?_
                                  refine r_cv (as := []) (st := []) C X I_X7_look l_X7_184 (e_look (fun i9 hi9 => ph114.tp hi9) ph114.lk) (by decide) (Nat.le_of_ble_eq_true rfl) List.prefix_rfl (pfx_eq ph114.kk) rfl rfl (Nat.le_of_ble_eq_true rfl) rfl (dx dX7_statement 75 rfl) ?_
                                  rintro _ h117 ⟨rfl, qh117, uh117⟩ kkh117
                                  have ph117 : Px h h117 k z B ((stp B z ((stp B z (stp B z ((stp B z (stp B z e).2.2).2.2)).2.2).2.2)).1, (stp B z ((stp B z (stp B z ((stp B z (stp B z e).2.2).2.2)).2.2).2.2)).2.1, (stp B z ((stp B z (stp B z ((stp B z (stp B z e).2.2).2.2)).2.2).2.2)).2.2) (vset (vset (nwV v 4) 4 (vN v) (nmQ B z (stp B z e) (nI 0) (nI 9))) 5 (vN v) (nmQ B z (stp B z ((stp B z (stp B z e).2.2).2.2)) (nI 0) (nI 10))) := ph114.tr qh117
                                  have seh117 := ph117.se
                                  have ezh117 := ph117.ez
                                  refine r_aload_n C (dx dX7_statement 76 rfl) rfl ?_
                                  refine g_X7_54 C (dx dX7_statement 77 rfl) ?_
                                  refine r_aload_n C (dx dX7_statement 78 rfl) rfl ?_
                                  refine g_X7_74 (x := nI (vN v)) C (dx dX7_statement 79 rfl) ph117.m.eN ?_
                                  refine r_aald4 (j := vN v) C rfl rfl (by decide) rfl (by omega) (dx dX7_statement 80 rfl) ?_
                                  refine r_iconst (v := nI 2) C (dx dX7_statement 81 rfl) rfl ?_
                                  refine r_iconst (v := nI 1) C (dx dX7_statement 82 rfl) rfl ?_
                                  refine r_iast (j := 2) C rfl rfl (by decide) rfl (by omega) (dx dX7_statement 83 rfl) ?_
                                  have ph118 : Px h (sI h117 (k + 23 + (vN v)) 2 (nI 1)) k z B ((stp B z ((stp B z (stp B z ((stp B z (stp B z e).2.2).2.2)).2.2).2.2)).1, (stp B z ((stp B z (stp B z ((stp B z (stp B z e).2.2).2.2)).2.2).2.2)).2.1, (stp B z ((stp B z (stp B z ((stp B z (stp B z e).2.2).2.2)).2.2).2.2)).2.2) (vset (vset (vset (nwV v 4) 4 (vN v) (nmQ B z (stp B z e) (nI 0) (nI 9))) 5 (vN v) (nmQ B z (stp B z ((stp B z (stp B z e).2.2).2.2)) (nI 0) (nI 10))) 6 (vN v) (nI 1)) := ph117.c (ph117.m.so (by omega) (by omega)) (by omega) (by omega)
                                  generalize sI h117 (k + 23 + (vN v)) 2 (nI 1) = h118 at ph118 ⊢
                                  refine r_aload_n C (dx dX7_statement 84 rfl) rfl ?_
                                  refine r_dupR C (dx dX7_statement 85 rfl) ?_
                                  refine g_X7_74 (x := nI (vN v)) C (dx dX7_statement 86 rfl) ph118.m.eN ?_
                                  refine r_iconst (v := nI 1) C (dx dX7_statement 87 rfl) rfl ?_
                                  refine rn_iadd (a := vN v) (b := 1) C (dx dX7_statement 88 rfl) ?_
                                  refine p_X7_74 C (dx dX7_statement 89 rfl) rfl rfl ?_
                                  have ph119 : Px h (sI h118 k 16 (nI (vN v + 1))) k z B ((stp B z ((stp B z (stp B z ((stp B z (stp B z e).2.2).2.2)).2.2).2.2)).1, (stp B z ((stp B z (stp B z ((stp B z (stp B z e).2.2).2.2)).2.2).2.2)).2.1, (stp B z ((stp B z (stp B z ((stp B z (stp B z e).2.2).2.2)).2.2).2.2)).2.2) (vsN (vset (vset (vset (nwV v 4) 4 (vN v) (nmQ B z (stp B z e) (nI 0) (nI 9))) 5 (vN v) (nmQ B z (stp B z ((stp B z (stp B z e).2.2).2.2)) (nI 0) (nI 10))) 6 (vN v) (nI 1)) (vN v + 1)) := ph118.fd (ph118.m.sN (n := vN v + 1) (by omega)) (by decide) (by decide) (by decide) (by decide) (by decide)
                                  generalize sI h118 k 16 (nI (vN v + 1)) = h119 at ph119 ⊢
                                  refine r_iconst (v := nI 1) C (dx dX7_statement 90 rfl) rfl ?_
                                  exact F.1 _ _ _ _ .boolean rfl rfl (dx dX7_statement 91 rfl) ph119.kk ⟨true, rfl, (show RdP h h119 k z B (stW B z (t, s, e) v) true from RdP.t ((st_on (q := (t, s, e)) c92).trans (((on_a (q := (t, s, e)) h8 nnrbh103).trans (oa_y c106 nnrbh112)).trans (oe_y c115))) (by rw [← oneV_ac]; exact ph119))⟩
                              ·
                                have c113 : bh112 = false := c113
                                rw [c113] at gh112
                                refine r_iconst (v := nI 0) C (dx dX7_statement 59 rfl) rfl ?_
                                rcases TlP.f gh112 with ⟨w9, p9, f9⟩ | ⟨w9, nn9, p9, f9⟩
                                ·
                                  exact F.1 _ _ _ _ .boolean rfl rfl (dx dX7_statement 60 rfl) kh112 ⟨false, rfl, (show RdP h h112 k z B (stW B z (t, s, e) v) false from absurd (w9.symm.trans c106) (by decide))⟩
                                ·
                                  exact F.1 _ _ _ _ .boolean rfl rfl (dx dX7_statement 60 rfl) kh112 ⟨false, rfl, (show RdP h h112 k z B (stW B z (t, s, e) v) false from RdP.f (((st_on (q := (t, s, e)) c92).trans (on_a (q := (t, s, e)) h8 nnrbh103)).trans (oa_f c106 nn9)) p9 f9)⟩
                          ·
                            have c104 : bh103 = false := c104
                            rw [c104] at gh103
                            refine r_iconst (v := nI 0) C (dx dX7_statement 38 rfl) rfl ?_
                            rcases TlP.f gh103 with ⟨w9, p9, f9⟩ | ⟨w9, nn9, p9, f9⟩
                            ·
                              exact F.1 _ _ _ _ .boolean rfl rfl (dx dX7_statement 39 rfl) kh103 ⟨false, rfl, (show RdP h h103 k z B (stW B z (t, s, e) v) false from absurd (w9.symm.trans c92) (by decide))⟩
                            ·
                              exact F.1 _ _ _ _ .boolean rfl rfl (dx dX7_statement 39 rfl) kh103 ⟨false, rfl, (show RdP h h103 k z B (stW B z (t, s, e) v) false from RdP.f ((st_on (q := (t, s, e)) c92).trans (on_f1 (q := (t, s, e)) h8 nn9)) p9 f9)⟩))
            · first
              | (omega; done)
              | (
                  have c91 : vM v < 6 := c91
                  refine r_aload_n C (dx dX7_statement 19 rfl) rfl ?_
                  refine r_cv (as := []) (st := []) C X I_X7_machineTold l_X7_218 (e_machineTold p.slf (by omega) c62) (by decide) (Nat.le_of_ble_eq_true rfl) List.prefix_rfl (pfx_eq p.kk) rfl rfl (Nat.le_of_ble_eq_true rfl) rfl (dx dX7_statement 20 rfl) ?_
                  rintro _ h120 ⟨bh120, rfl, gh120⟩ kkh120
                  have kh120 : xK h120 = xK h := kkh120.trans p.kk
                  have gh120 := RdP.pre p gh120
                  exact F.1 _ _ _ _ .boolean rfl (nar_b _) (dx dX7_statement 21 rfl) kh120 ⟨bh120, rfl, (show RdP h h120 k z B (stW B z (t, s, e) v) bh120 from RdP.eq (st_mc (q := (t, s, e)) c62) gh120)⟩))
    · first
      | (omega; done)
      | (
          have c61 : vP v < 12 := c61
          refine r_aload_n C (dx dX7_statement 8 rfl) rfl ?_
          refine r_cv (as := []) (st := []) C X I_X7_partTold l_X7_215 (e_partTold p.slf (by omega)) (by decide) (Nat.le_of_ble_eq_true rfl) List.prefix_rfl (pfx_eq p.kk) rfl rfl (Nat.le_of_ble_eq_true rfl) rfl (dx dX7_statement 9 rfl) ?_
          rintro _ h121 ⟨bh121, rfl, gh121⟩ kkh121
          have kh121 : xK h121 = xK h := kkh121.trans p.kk
          have gh121 := RdP.pre p gh121
          exact F.1 _ _ _ _ .boolean rfl (nar_b _) (dx dX7_statement 10 rfl) kh121 ⟨bh121, rfl, (show RdP h h121 k z B (stW B z (t, s, e) v) bh121 from RdP.eq (st_pt (q := (t, s, e)) c1) gh121)⟩)
/-- a token at a place or behind it -/
def Tg (a z : Nat) (q : Tkn) : Prop := Tok z q ∧ a ≤ q.2.2
theorem stp_tg {B : Nat → Int32} {a z : Nat} {q : Tkn} (h : Tg a z q) : Tg a z (stp B z q.2.2) := ⟨stp_tok h.1.2.2, by have := stp_ge (B := B) h.1.2.2; have := (stp_le (B := B) h.1.2.2).1; have := h.2; omega⟩
theorem stp_tg0 {B : Nat → Int32} {a z e : Nat} (h : e ≤ z) (g : a ≤ e) : Tg a z (stp B z e) := ⟨stp_tok h, by have := stp_ge (B := B) h; have := (stp_le (B := B) h).1; omega⟩
theorem byS_tg {B : Nat → Int32} {a z c i p : Nat} {q : Tkn} {v : Vg} (h : Tg a z q) : Tg a z (byS B z c i p q v).2.1 := by
  unfold byS
  split
  · split
    · exact stp_tg (stp_tg h)
    · exact stp_tg h
  · exact h
theorem ptW_tg {B : Nat → Int32} {a z : Nat} {q : Tkn} {v : Vg} (h : Tg a z q) : Tg a z (ptW B z q v).2.1 := by
  unfold ptW
  split
  · split
    · exact byS_tg (byS_tg (stp_tg h))
    · exact byS_tg (stp_tg h)
  · exact h
theorem oneE_tg {B : Nat → Int32} {a z : Nat} {q : Tkn} {v : Vg} {x y : Int32} (h : Tg a z q) : Tg a z (oneE B z q v x y).2.1 := by
  unfold oneE
  split
  · exact stp_tg h
  · exact h
theorem oneA_tg {B : Nat → Int32} {a z : Nat} {q : Tkn} {v : Vg} {x : Int32} (h : Tg a z q) : Tg a z (oneA B z q v x).2.1 := by
  unfold oneA
  split
  · split
    · exact stp_tg h
    · exact oneE_tg (stp_tg (stp_tg h))
  · exact oneE_tg h
theorem oneW_tg {B : Nat → Int32} {a z : Nat} {q : Tkn} {v : Vg} (h : Tg a z q) : Tg a z (oneW B z q v).2.1 := by
  unfold oneW
  split
  · split
    · exact stp_tg h
    · exact oneA_tg (stp_tg (stp_tg h))
  · exact h
theorem gvW_tg {B : Nat → Int32} {a z e : Nat} {v : Vg} (h : e ≤ z) (g : a ≤ e) : Tg a z (gvW B z e v).2.1 := by
  unfold gvW
  split
  · exact stp_tg0 h g
  · split
    · exact stp_tg (stp_tg0 h g)
    · exact stp_tg (stp_tg (stp_tg0 h g))
theorem ndR_tg {B : Nat → Int32} {a z : Nat} {v : Vg} : ∀ (n : Nat) (q : Tkn) (nd : Int32), Tg a z q → Tg a z (ndR B z v n q nd).2.1
  | 0, _, _, h => h
  | n + 1, q, nd, h => by
    simp only [ndR]
    split
    · exact stp_tg h
    · split
      · exact ndR_tg n _ _ (stp_tg (stp_tg h))
      · exact stp_tg (stp_tg h)
theorem mcW_tg {B : Nat → Int32} {a z : Nat} {q : Tkn} {v : Vg} (h : Tg a z q) : Tg a z (mcW B z q v).2.1 := by
  have hm : Tg a z (mcR B z q.2.2 v).2.1 := ndR_tg _ _ _ (stp_tg (stp_tg h))
  unfold mcW
  split
  · split
    · exact stp_tg h
    · split
      · split
        · exact hm
        · exact hm
      · exact stp_tg (stp_tg h)
  · exact h
theorem stW_tg {B : Nat → Int32} {a z : Nat} {q : Tkn} {v : Vg} (h : Tg a z q) : Tg a z (stW B z q v).2.1 := by
  unfold stW
  split
  · exact ptW_tg h
  · split
    · exact mcW_tg h
    · split
      · exact oneW_tg h
      · split
        · exact gvW_tg h.1.2.2 h.2
        · exact h
theorem stW_wd {B : Nat → Int32} {z : Nat} {q : Tkn} {v : Vg} (h : (stW B z q v).1 = true) : q.2.1 + 3 ≤ q.2.2 := by
  have key : ∀ i, i < 10 → wdB i B z q.1 q.2.1 q.2.2 = true → 3 ≤ txL.getD i 0 → q.2.1 + 3 ≤ q.2.2 := fun i _ w l => by have := wdl_len w; omega
  unfold stW at h
  split at h
  · next c => exact key 0 (by decide) c (by decide)
  · split at h
    · next c => exact key 3 (by decide) c (by decide)
    · split at h
      · next c => exact key 6 (by decide) c (by decide)
      · split at h
        · next c => exact key 9 (by decide) c (by decide)
        · exact absurd (show false = true from h) (by decide)
theorem st_adv {B : Nat → Int32} {z e : Nat} {v : Vg} (he : e ≤ z) (h : (stW B z (stp B z e) v).1 = true) : e + 3 ≤ (stW B z (stp B z e) v).2.1.2.2 := by
  have h1 := stW_wd h
  have h2 := stp_ge (B := B) he
  have h3 := (stW_tg (B := B) (v := v) (a := (stp B z e).2.2) ⟨stp_tok (B := B) he, Nat.le_refl _⟩).2
  omega
theorem tkm_z {t : Nat} : nI (tkm t) = 0 ↔ t = 3 := by
  match t with
  | 0 => exact ⟨fun h => absurd h (by decide), fun h => absurd h (by decide)⟩
  | 1 => exact ⟨fun h => absurd h (by decide), fun h => absurd h (by decide)⟩
  | 2 => exact ⟨fun h => absurd h (by decide), fun h => absurd h (by decide)⟩
  | 3 => exact ⟨fun _ => rfl, fun _ => rfl⟩
  | n + 4 => exact ⟨fun h => absurd h (show ¬ nI 4 = 0 by decide), fun h => absurd h (by omega)⟩
theorem tkm_3 {t : Nat} : tkm t = 3 ↔ t = 2 := by
  match t with
  | 0 => simp [tkm]
  | 1 => simp [tkm]
  | 2 => simp [tkm]
  | 3 => simp [tkm]
  | n + 4 => simp [tkm]
/-- behind a statement -/
def tlS (B : Nat → Int32) (z f n : Nat) (q : Tkn) (v : Vg) : Int32 × Tkn × Vg := if q.1 = 3 then (nI n, q, v) else if q.1 = 2 then riS B z f (n + 1) (stp B z q.2.2) v else (-1, q, v)
section Ts
variable {B : Nat → Int32} {z f n : Nat} {q : Tkn} {v : Vg}
theorem ri_f (h : (stW B z q v).1 = false) : riS B z (f + 1) n q v = (-1, (stW B z q v).2) := by simp only [riS]; rw [if_pos h]
theorem ri_t (h : (stW B z q v).1 = true) : riS B z (f + 1) n q v = tlS B z f n (stW B z q v).2.1 (stW B z q v).2.2 := by
  simp only [riS]; rw [if_neg (by rw [h]; decide)]; unfold tlS
  split
  · rfl
  · split <;> rfl
theorem tl_e (h : q.1 = 3) : tlS B z f n q v = (nI n, q, v) := by unfold tlS; rw [if_pos h]
theorem tl_w (h : ¬ q.1 = 3) (h2 : ¬ q.1 = 2) : tlS B z f n q v = (-1, q, v) := by unfold tlS; rw [if_neg h, if_neg h2]
theorem tl_s (h : q.1 = 2) : tlS B z f n q v = riS B z f (n + 1) (stp B z q.2.2) v := by unfold tlS; rw [if_neg (by omega), if_pos h]
end Ts
/-- all read, or not -/
def RaP (h h' : Hp) (k : Nat) (w : Int32 × Tkn × Vg) (b : Bool) : Prop := b = decide (¬ w.1 = -1) ∧ (∃ v', MilAt h' k v') ∧ (b = true → MilAt h' k w.2.2 ∧ xI h' k 29 = w.1) ∧ (b = false → xI h' k 27 = nI w.2.1.2.1) ∧ Kp k h h' ∧ xK h' = xK h
theorem RaP.t {h h' : Hp} {k : Nat} {w : Int32 × Tkn × Vg} {n : Nat} {q : Tkn} {v : Vg} (e : w = (nI n, q, v)) (hn : n < 2 ^ 30) (m : MilAt h' k v) (x : xI h' k 29 = nI n) (p : Kp k h h') (kk : xK h' = xK h) : RaP h h' k w true := by
  subst e; exact ⟨(decide_eq_true (show ¬ nI n = -1 from fun c => nI_nm1 (o := n) (by omega) c)).symm, ⟨_, m⟩, fun _ => ⟨m, x⟩, fun c => absurd c (by decide), p, kk⟩
theorem RaP.f {h h' : Hp} {k : Nat} {w : Int32 × Tkn × Vg} {q : Tkn × Vg} {v : Vg} (e : w = (-1, q)) (m : MilAt h' k v) (x : xI h' k 27 = nI q.1.2.1) (p : Kp k h h') (kk : xK h' = xK h) : RaP h h' k w false := by
  subst e; exact ⟨(decide_eq_false (fun c => c rfl)).symm, ⟨_, m⟩, fun c => absurd c (by decide), fun _ => x, p, kk⟩
theorem RdP.tt {h h' : Hp} {k z : Nat} {B : Nat → Int32} {w : Rd} (g : RdP h h' k z B w true) : w.1 = true ∧ Px h h' k z B w.2.1 w.2.2 := ⟨g.1.symm, g.2.2.1 rfl⟩
theorem RdP.ff {h h' : Hp} {k z : Nat} {B : Nat → Int32} {w : Rd} (g : RdP h h' k z B w false) : w.1 = false ∧ (∃ v', Px h h' k z B w.2.1 v') ∧ xI h' k 27 = nI w.2.1.2.1 := ⟨g.1.symm, g.2.1, g.2.2.2 rfl⟩
theorem Px.n29 {h0 h : Hp} {k z : Nat} {B : Nat → Int32} {q : Tkn} {v : Vg} {x : Int32} (p : Px h0 h k z B q v) : Px (sI h k 29 x) (sI h k 29 x) k z B q v :=
  ⟨p.1.f (by decide) (by decide) (by decide) (by decide), by rw [sI_at, if_neg (by decide)]; exact p.e8, by rw [sI_at, if_neg (by decide)]; exact p.2.2.1, by rw [sI_at, if_neg (by decide)]; exact p.2.2.2.1, by rw [sI_at, if_neg (by decide)]; exact p.2.2.2.2.1, p.2.2.2.2.2.1, p.2.2.2.2.2.2.1, p.2.2.2.2.2.2.2.1, p.bz, fun i hi => by rw [sI_ne (by omega)]; exact p.tp hi, Kp.rf, rfl, rfl⟩
set_option maxHeartbeats 4000000 in
theorem e_readAll {l : Launch} {h : Hp} {k z : Nat} {B : Nat → Int32} {v : Vg} (hm : MilAt h k v) (e8 : xI h k 8 = nI z) (bz : z ≤ 250) (hB : ∀ i, i < 250 → xI h (k + 16) i = B i)  : Ms l yX7_readAll cX7_readAll 1 (some .boolean) 9 [vr 7 k] h (xK h) (fun r h' => ∃ b, r = some (vi (b2i b)) ∧ RaP h h' k (riS B z 250 1 (stp B z 0) v) b) := by
  refine Ms.of (by decide) (Nat.le_of_ble_eq_true rfl) (fun G C X F => ?_)
  have C : Cx G cX7_readAll 1 RX7 := C
  show Rr G 0 [(0, vr 7 k)] [] h
  have bP := hm.bP
  have bM := hm.bM
  have bN := hm.bN
  refine r_aload_n C (dx dX7_readAll 0 rfl) rfl ?_
  refine r_iconst (v := nI 1) C (dx dX7_readAll 1 rfl) rfl ?_
  refine p_X7_228 C (dx dX7_readAll 2 rfl) rfl rfl ?_
  have mh1 : MilAt (sI h k 29 (nI 1)) k v := hm.f (by decide) (by decide) (by decide) (by decide)
  have qh1 : xI (sI h k 29 (nI 1)) k 8 = nI z := by rw [sI_at, if_neg (by decide)]; exact e8
  have ch1 : Kp k h (sI h k 29 (nI 1)) := Kp.rf.tr (Kp.f (by decide))
  have kh1 : xK (sI h k 29 (nI 1)) = xK h := rfl
  have nh1 : xI (sI h k 29 (nI 1)) k 29 = nI 1 := by rw [sI_at, if_pos rfl]
  generalize sI h k 29 (nI 1) = h1 at mh1 qh1 ch1 kh1 nh1 ⊢
  refine r_aload_n C (dx dX7_readAll 3 rfl) rfl ?_
  refine r_iconst (v := nI 0) C (dx dX7_readAll 4 rfl) rfl ?_
  refine p_X7_141 C (dx dX7_readAll 5 rfl) rfl rfl ?_
  have mh2 : MilAt (sI h1 k 23 (nI 0)) k v := mh1.f (by decide) (by decide) (by decide) (by decide)
  have qh2 : xI (sI h1 k 23 (nI 0)) k 8 = nI z := by rw [sI_at, if_neg (by decide)]; exact qh1
  have ch2 : Kp k h (sI h1 k 23 (nI 0)) := ch1.tr (Kp.f (by decide))
  have kh2 : xK (sI h1 k 23 (nI 0)) = xK h := kh1
  have nh2 : xI (sI h1 k 23 (nI 0)) k 29 = nI 1 := by rw [sI_at, if_neg (by decide)]; exact nh1
  have ah2 : xI (sI h1 k 23 (nI 0)) k 23 = nI 0 := by rw [sI_at, if_pos rfl]
  generalize sI h1 k 23 (nI 0) = h2 at mh2 qh2 ch2 kh2 nh2 ah2 ⊢
  refine r_aload_n C (dx dX7_readAll 6 rfl) rfl ?_
  refine r_cv (as := []) (st := []) C X I_X7_look l_X7_184 (e_look (B := B) (fun i9 hi9 => by rw [(ch2.2.2 (k + 16) (fun q9 => by unfold VC at q9; omega)).1]; exact hB i9 hi9) (⟨⟨mh2, qh2, ah2, Nat.zero_le _, bz, Kp.rf, rfl, rfl⟩, rfl⟩ : Lq h2 h2 k z 0 v)) (by decide) (Nat.le_of_ble_eq_true rfl) List.prefix_rfl (pfx_eq kh2) rfl rfl (Nat.le_of_ble_eq_true rfl) rfl (dx dX7_readAll 7 rfl) ?_
  rintro _ h3 ⟨rfl, qh3, uh3⟩ kkh3
  have ph3 : Px h3 h3 k z B (stp B z 0) v := qh3.slf
  have ch3 := ch2.tr qh3.kp
  have kh3 := kkh3.trans kh2
  have nh3 := qh3.e29.trans nh2
  have ph3 : Px h3 h3 k z B ((stp B z 0).1, (stp B z 0).2.1, (stp B z 0).2.2) v := ph3
  have seh3 := Px.se (t := (stp B z 0).1) (s := (stp B z 0).2.1) (e := (stp B z 0).2.2) ph3
  have ezh3 := Px.ez (t := (stp B z 0).1) (s := (stp B z 0).2.1) (e := (stp B z 0).2.2) ph3
  refine r_aload_n C (dx dX7_readAll 8 rfl) rfl ?_
  refine r_cv (as := []) (st := []) C X I_X7_statement l_X7_231 (e_statement ph3 ⟨0, by omega, rfl⟩) (by decide) (Nat.le_of_ble_eq_true rfl) List.prefix_rfl (pfx_eq kh3) rfl rfl (Nat.le_of_ble_eq_true rfl) rfl (dx dX7_readAll 9 rfl) ?_
  rintro _ h4 ⟨bh4, rfl, gh4⟩ kkh4
  have kh4 := kkh4.trans kh3
  refine rb_ne (b := bh4) (tgt := 23) C (dx dX7_readAll 10 rfl) (by decide) (fun c5 => ?_) (fun c5 => ?_)
  ·
    have c5 : bh4 = true := c5
    rw [c5] at gh4
    obtain ⟨wh4, ph4⟩ := gh4.tt
    have ph4 : Px h3 h4 k z B ((stW B z (stp B z 0) v).2.1.1, (stW B z (stp B z 0) v).2.1.2.1, (stW B z (stp B z 0) v).2.1.2.2) ((stW B z (stp B z 0) v).2.2) := ph4
    have ch4 := ch3.tr ph4.kp
    have nh4 := ph4.e29.trans nh3
    have ph4 := ph4.slf
    have seh4 := Px.se (t := (stW B z (stp B z 0) v).2.1.1) (s := (stW B z (stp B z 0) v).2.1.2.1) (e := (stW B z (stp B z 0) v).2.1.2.2) ph4
    have ezh4 := Px.ez (t := (stW B z (stp B z 0) v).2.1.1) (s := (stW B z (stp B z 0) v).2.1.2.1) (e := (stW B z (stp B z 0) v).2.1.2.2) ph4
    have adh4 := st_adv (B := B) (e := 0) (by omega) wh4
    have key : ∀ (f : Nat) (gh : Hp) (q9 : Tkn) (v9 : Vg) (n9 : Nat), Px gh gh k z B q9 v9 → Kp k h gh → xK gh = xK h → xI gh k 29 = nI n9 → z + 1 ≤ f + q9.2.2 → n9 + f = 250 → riS B z 250 1 (stp B z 0) v = tlS B z f n9 q9 v9 → Rr G 23 [(0, vr 7 k)] [] gh := by
      intro f
      induction f with
      | zero => intro gh q9 v9 n9 pg cg kg ng lf nf hR; exact absurd (Px.ez (t := q9.1) (s := q9.2.1) (e := q9.2.2) pg) (by omega)
      | succ f ih => _
      intro gh q9 v9 n9 pg cg kg ng lf nf hR
      have se9 := Px.se (t := q9.1) (s := q9.2.1) (e := q9.2.2) pg
      have ez9 := Px.ez (t := q9.1) (s := q9.2.1) (e := q9.2.2) pg
      have pg : Px gh gh k z B (q9.1, q9.2.1, q9.2.2) v9 := pg
      have t9 : tkm q9.1 < 5 := by unfold tkm; split <;> omega
      refine r_aload_n C (dx dX7_readAll 13 rfl) rfl ?_
      refine g_X7_151 (x := nI (tkm q9.1)) C (dx dX7_readAll 14 rfl) pg.e24 ?_
      refine r_if_eq (tgt := 69) C (dx dX7_readAll 15 rfl) (by decide) (fun c6 => ?_) (fun c6 => ?_)
      ·
        have c6 : nI (tkm q9.1) = 0 := c6
        refine r_iconst (v := nI 1) C (dx dX7_readAll 37 rfl) rfl ?_
        exact F.1 _ _ _ _ .boolean rfl rfl (dx dX7_readAll 38 rfl) kg ⟨true, rfl, (show RaP h gh k (riS B z 250 1 (stp B z 0) v) true from RaP.t (hR.trans (tl_e (tkm_z.mp c6))) (by omega) pg.m ng cg kg)⟩
      ·
        have c6 : ¬ nI (tkm q9.1) = 0 := c6
        refine r_aload_n C (dx dX7_readAll 16 rfl) rfl ?_
        refine g_X7_151 (x := nI (tkm q9.1)) C (dx dX7_readAll 17 rfl) pg.e24 ?_
        refine r_iconst (v := nI 3) C (dx dX7_readAll 18 rfl) rfl ?_
        refine rn_eq (a := tkm q9.1) (b := 3) (tgt := 43) C (by omega) (by omega) (dx dX7_readAll 19 rfl) (by decide) (fun c7 => ?_) (fun c7 => ?_)
        · first
          | (omega; done)
          | (
              have c7 : tkm q9.1 = 3 := c7
              refine r_aload_n C (dx dX7_readAll 23 rfl) rfl ?_
              refine r_cv (as := []) (st := []) C X I_X7_look l_X7_184 (e_look (fun i9 hi9 => pg.tp hi9) pg.lk) (by decide) (Nat.le_of_ble_eq_true rfl) List.prefix_rfl (pfx_eq kg) rfl rfl (Nat.le_of_ble_eq_true rfl) rfl (dx dX7_readAll 24 rfl) ?_
              rintro _ h8 ⟨rfl, qh8, uh8⟩ kkh8
              have ph8 : Px h8 h8 k z B (stp B z q9.2.2) v9 := qh8.slf
              have ch8 := cg.tr qh8.kp
              have kh8 := kkh8.trans kg
              have nh8 := qh8.e29.trans ng
              have ph8 : Px h8 h8 k z B ((stp B z q9.2.2).1, (stp B z q9.2.2).2.1, (stp B z q9.2.2).2.2) v9 := ph8
              have seh8 := Px.se (t := (stp B z q9.2.2).1) (s := (stp B z q9.2.2).2.1) (e := (stp B z q9.2.2).2.2) ph8
              have ezh8 := Px.ez (t := (stp B z q9.2.2).1) (s := (stp B z q9.2.2).2.1) (e := (stp B z q9.2.2).2.2) ph8
              refine r_aload_n C (dx dX7_readAll 25 rfl) rfl ?_
              refine r_cv (as := []) (st := []) C X I_X7_statement l_X7_231 (e_statement ph8 ⟨q9.2.2, by omega, rfl⟩) (by decide) (Nat.le_of_ble_eq_true rfl) List.prefix_rfl (pfx_eq kh8) rfl rfl (Nat.le_of_ble_eq_true rfl) rfl (dx dX7_readAll 26 rfl) ?_
              rintro _ h9 ⟨bh9, rfl, gh9⟩ kkh9
              have kh9 := kkh9.trans kh8
              refine rb_ne (b := bh9) (tgt := 56) C (dx dX7_readAll 27 rfl) (by decide) (fun c10 => ?_) (fun c10 => ?_)
              ·
                have c10 : bh9 = true := c10
                rw [c10] at gh9
                obtain ⟨wh9, ph9⟩ := gh9.tt
                have ph9 : Px h8 h9 k z B ((stW B z (stp B z q9.2.2) v9).2.1.1, (stW B z (stp B z q9.2.2) v9).2.1.2.1, (stW B z (stp B z q9.2.2) v9).2.1.2.2) ((stW B z (stp B z q9.2.2) v9).2.2) := ph9
                have ch9 := ch8.tr ph9.kp
                have nh9 := ph9.e29.trans nh8
                have ph9 := ph9.slf
                have seh9 := Px.se (t := (stW B z (stp B z q9.2.2) v9).2.1.1) (s := (stW B z (stp B z q9.2.2) v9).2.1.2.1) (e := (stW B z (stp B z q9.2.2) v9).2.1.2.2) ph9
                have ezh9 := Px.ez (t := (stW B z (stp B z q9.2.2) v9).2.1.1) (s := (stW B z (stp B z q9.2.2) v9).2.1.2.1) (e := (stW B z (stp B z q9.2.2) v9).2.1.2.2) ph9
                have adh9 := st_adv (B := B) (e := q9.2.2) (by omega) wh9
                refine r_aload_n C (dx dX7_readAll 30 rfl) rfl ?_
                refine r_dupR C (dx dX7_readAll 31 rfl) ?_
                refine g_X7_228 (x := nI n9) C (dx dX7_readAll 32 rfl) nh9 ?_
                refine r_iconst (v := nI 1) C (dx dX7_readAll 33 rfl) rfl ?_
                refine rn_iadd (a := n9) (b := 1) C (dx dX7_readAll 34 rfl) ?_
                refine p_X7_228 C (dx dX7_readAll 35 rfl) rfl rfl ?_
                have ph11 : Px (sI h9 k 29 (nI (n9 + 1))) (sI h9 k 29 (nI (n9 + 1))) k z B (stW B z (stp B z q9.2.2) v9).2.1 ((stW B z (stp B z q9.2.2) v9).2.2) := ph9.n29
                have ch11 : Kp k h (sI h9 k 29 (nI (n9 + 1))) := ch9.tr (Kp.f (by decide))
                have kh11 : xK (sI h9 k 29 (nI (n9 + 1))) = xK h := kh9
                have nh11 : xI (sI h9 k 29 (nI (n9 + 1))) k 29 = nI (n9 + 1) := by rw [sI_at, if_pos rfl]
                generalize sI h9 k 29 (nI (n9 + 1)) = h11 at ph11 ch11 kh11 nh11 ⊢
                refine r_goto (tgt := 23) C (dx dX7_readAll 36 rfl) (by decide) ?_
                exact ih h11 _ _ _ ph11 ch11 kh11 nh11 (by omega) (by omega) ((hR.trans (tl_s (tkm_3.mp c7))).trans (ri_t wh9))
              ·
                have c10 : bh9 = false := c10
                rw [c10] at gh9
                obtain ⟨wh9, ⟨vh9, ph9⟩, fh9⟩ := gh9.ff
                have ph9 : Px h8 h9 k z B ((stW B z (stp B z q9.2.2) v9).2.1.1, (stW B z (stp B z q9.2.2) v9).2.1.2.1, (stW B z (stp B z q9.2.2) v9).2.1.2.2) vh9 := ph9
                have ch9 := ch8.tr ph9.kp
                have nh9 := ph9.e29.trans nh8
                have ph9 := ph9.slf
                have seh9 := Px.se (t := (stW B z (stp B z q9.2.2) v9).2.1.1) (s := (stW B z (stp B z q9.2.2) v9).2.1.2.1) (e := (stW B z (stp B z q9.2.2) v9).2.1.2.2) ph9
                have ezh9 := Px.ez (t := (stW B z (stp B z q9.2.2) v9).2.1.1) (s := (stW B z (stp B z q9.2.2) v9).2.1.2.1) (e := (stW B z (stp B z q9.2.2) v9).2.1.2.2) ph9
                refine r_iconst (v := nI 0) C (dx dX7_readAll 28 rfl) rfl ?_
                exact F.1 _ _ _ _ .boolean rfl rfl (dx dX7_readAll 29 rfl) kh9 ⟨false, rfl, (show RaP h h9 k (riS B z 250 1 (stp B z 0) v) false from RaP.f ((hR.trans (tl_s (tkm_3.mp c7))).trans (ri_f wh9)) ph9.m fh9 ch9 kh9)⟩)
        · first
          | (omega; done)
          | (
              have c7 : ¬ tkm q9.1 = 3 := c7
              refine r_aload_n C (dx dX7_readAll 20 rfl) rfl ?_
              refine r_cv (as := []) (st := []) C X I_X7_wrong l_X7_177 (e_wrong pg) (by decide) (Nat.le_of_ble_eq_true rfl) List.prefix_rfl (pfx_eq kg) rfl rfl (Nat.le_of_ble_eq_true rfl) rfl (dx dX7_readAll 21 rfl) ?_
              rintro _ h12 ⟨rfl, qh12, uh12⟩ kkh12
              have ch12 := cg.tr qh12.kp
              have kh12 := kkh12.trans kg
              exact F.1 _ _ _ _ .boolean rfl rfl (dx dX7_readAll 22 rfl) kh12 ⟨false, rfl, (show RaP h h12 k (riS B z 250 1 (stp B z 0) v) false from RaP.f (hR.trans (tl_w (fun y => c6 (tkm_z.mpr y)) (fun y => c7 (tkm_3.mpr y)))) qh12.m uh12 ch12 kh12)⟩)
    exact key 249 h4 _ _ _ ph4 ch4 kh4 nh4 (by show z + 1 ≤ 249 + (stW B z (stp B z 0) v).2.1.2.2; omega) (by omega) (ri_t wh4)
  ·
    have c5 : bh4 = false := c5
    rw [c5] at gh4
    obtain ⟨wh4, ⟨vh4, ph4⟩, fh4⟩ := gh4.ff
    have ph4 : Px h3 h4 k z B ((stW B z (stp B z 0) v).2.1.1, (stW B z (stp B z 0) v).2.1.2.1, (stW B z (stp B z 0) v).2.1.2.2) vh4 := ph4
    have ch4 := ch3.tr ph4.kp
    have nh4 := ph4.e29.trans nh3
    have ph4 := ph4.slf
    have seh4 := Px.se (t := (stW B z (stp B z 0) v).2.1.1) (s := (stW B z (stp B z 0) v).2.1.2.1) (e := (stW B z (stp B z 0) v).2.1.2.2) ph4
    have ezh4 := Px.ez (t := (stW B z (stp B z 0) v).2.1.1) (s := (stW B z (stp B z 0) v).2.1.2.1) (e := (stW B z (stp B z 0) v).2.1.2.2) ph4
    refine r_iconst (v := nI 0) C (dx dX7_readAll 11 rfl) rfl ?_
    exact F.1 _ _ _ _ .boolean rfl rfl (dx dX7_readAll 12 rfl) kh4 ⟨false, rfl, (show RaP h h4 k (riS B z 250 1 (stp B z 0) v) false from RaP.f (ri_f wh4) ph4.m fh4 ch4 kh4)⟩
end
section
/-! PART 50: the same statements from both sides' bytes -/
section TR
variable {B : Nat → Int32} {z : Nat}
theorem TkR.le {q : Tkn} (h : TkR B z q) : q.2.2 ≤ z := by obtain ⟨a, ha, e⟩ := h; rw [e]; exact (stp_le ha).2
theorem stp_tr {q : Tkn} (h : TkR B z q) : TkR B z (stp B z q.2.2) := ⟨_, h.le, rfl⟩
theorem stp_tr0 {e : Nat} (h : e ≤ z) : TkR B z (stp B z e) := ⟨_, h, rfl⟩
theorem byS_tr {c i p : Nat} {q : Tkn} {v : Vg} (h : TkR B z q) : TkR B z (byS B z c i p q v).2.1 := by
  unfold byS
  split
  · split
    · exact stp_tr (stp_tr h)
    · exact stp_tr h
  · exact h
theorem ptW_tr {q : Tkn} {v : Vg} (h : TkR B z q) : TkR B z (ptW B z q v).2.1 := by
  unfold ptW
  split
  · split
    · exact byS_tr (byS_tr (stp_tr h))
    · exact byS_tr (stp_tr h)
  · exact h
theorem oneE_tr {q : Tkn} {v : Vg} {x y : Int32} (h : TkR B z q) : TkR B z (oneE B z q v x y).2.1 := by
  unfold oneE
  split
  · exact stp_tr h
  · exact h
theorem oneA_tr {q : Tkn} {v : Vg} {x : Int32} (h : TkR B z q) : TkR B z (oneA B z q v x).2.1 := by
  unfold oneA
  split
  · split
    · exact stp_tr h
    · exact oneE_tr (stp_tr (stp_tr h))
  · exact oneE_tr h
theorem oneW_tr {q : Tkn} {v : Vg} (h : TkR B z q) : TkR B z (oneW B z q v).2.1 := by
  unfold oneW
  split
  · split
    · exact stp_tr h
    · exact oneA_tr (stp_tr (stp_tr h))
  · exact h
theorem gvW_tr {e : Nat} {v : Vg} (h : e ≤ z) : TkR B z (gvW B z e v).2.1 := by
  unfold gvW
  split
  · exact stp_tr0 h
  · split
    · exact stp_tr (stp_tr0 h)
    · exact stp_tr (stp_tr (stp_tr0 h))
theorem ndR_tr {v : Vg} : ∀ (n : Nat) (q : Tkn) (nd : Int32), TkR B z q → TkR B z (ndR B z v n q nd).2.1
  | 0, _, _, h => h
  | n + 1, q, nd, h => by
    simp only [ndR]
    split
    · exact stp_tr h
    · split
      · exact ndR_tr n _ _ (stp_tr (stp_tr h))
      · exact stp_tr (stp_tr h)
theorem mcW_tr {q : Tkn} {v : Vg} (h : TkR B z q) : TkR B z (mcW B z q v).2.1 := by
  have hm : TkR B z (mcR B z q.2.2 v).2.1 := ndR_tr _ _ _ (stp_tr (stp_tr h))
  unfold mcW
  split
  · split
    · exact stp_tr h
    · split
      · split
        · exact hm
        · exact hm
      · exact stp_tr (stp_tr h)
  · exact h
theorem stW_tr {q : Tkn} {v : Vg} (h : TkR B z q) : TkR B z (stW B z q v).2.1 := by
  unfold stW
  split
  · exact ptW_tr h
  · split
    · exact mcW_tr h
    · split
      · exact oneW_tr h
      · split
        · exact gvW_tr h.le
        · exact h
end TR
section TIE2
variable {B B' : Nat → Int32} {z : Nat}
theorem ByT.wq (h : ByT B B' z) {i : Nat} {q : Tkn} (hq : TkR B' z q) : wdB i B z q.1 q.2.1 q.2.2 = wdB i B' z q.1 q.2.1 q.2.2 := by
  obtain ⟨a, ha, e⟩ := hq
  exact h.w (t := q.1) (s := q.2.1) (e := q.2.2) ha e
theorem ByT.nq (h : ByT B B' z) {lo hi : Int32} {q : Tkn} (hq : TkR B' z q) : nmQ B z q lo hi = nmQ B' z q lo hi := by
  obtain ⟨a, ha, e⟩ := hq
  exact h.n (t := q.1) (s := q.2.1) (e := q.2.2) ha e
theorem ByT.tBy (h : ByT B B' z) {c i p : Nat} {q : Tkn} {v : Vg} (hq : TkR B' z q) : byS B z c i p q v = byS B' z c i p q v := by
  have e1 := h.s hq.le
  have t1 := stp_tr hq
  have e2 := h.s t1.le
  unfold byS
  rw [h.wq hq, e1, e2, h.nq t1]
theorem ByT.tPt (h : ByT B B' z) {q : Tkn} {v : Vg} (hq : TkR B' z q) : ptW B z q v = ptW B' z q v := by
  have e1 := h.s hq.le
  have t1 := stp_tr hq
  unfold ptW
  rw [e1, h.tBy t1, h.tBy (byS_tr t1)]
theorem ByT.tOe (h : ByT B B' z) {q : Tkn} {v : Vg} {x y : Int32} (hq : TkR B' z q) : oneE B z q v x y = oneE B' z q v x y := by
  unfold oneE
  rw [h.wq hq, h.s hq.le]
theorem ByT.tOa (h : ByT B B' z) {q : Tkn} {v : Vg} {x : Int32} (hq : TkR B' z q) : oneA B z q v x = oneA B' z q v x := by
  have t1 := stp_tr hq
  have t2 := stp_tr t1
  unfold oneA
  rw [h.wq hq, h.s hq.le, h.s t1.le, h.nq t1, h.tOe t2, h.tOe hq]
theorem ByT.tOn (h : ByT B B' z) {q : Tkn} {v : Vg} (hq : TkR B' z q) : oneW B z q v = oneW B' z q v := by
  have t1 := stp_tr hq
  have t2 := stp_tr t1
  unfold oneW
  rw [h.s hq.le, h.s t1.le, h.nq t1, h.tOa t2]
theorem ByT.tGv (h : ByT B B' z) {e : Nat} {v : Vg} (he : e ≤ z) : gvW B z e v = gvW B' z e v := by
  have t1 : TkR B' z (stp B' z e) := stp_tr0 he
  have t2 := stp_tr t1
  unfold gvW gvP gvO
  rw [h.s he, h.s t1.le, h.s t2.le, h.nq t1, h.nq t2]
theorem ByT.tNd (h : ByT B B' z) {v : Vg} : ∀ (n : Nat) (q : Tkn) (nd : Int32), TkR B' z q → ndR B z v n q nd = ndR B' z v n q nd
  | 0, _, _, _ => rfl
  | n + 1, q, nd, hq => by
    have t1 := stp_tr hq
    have t2 := stp_tr t1
    simp only [ndR]
    rw [h.s hq.le, h.s t1.le, h.nq t1, h.wq t2, h.tNd n _ _ t2]
theorem ByT.tMc (h : ByT B B' z) {q : Tkn} {v : Vg} (hq : TkR B' z q) : mcW B z q v = mcW B' z q v := by
  have t1 := stp_tr hq
  have t2 := stp_tr t1
  unfold mcW mcR
  rw [h.s hq.le, h.s t1.le, h.nq t1, h.wq t2, h.tNd _ _ _ t2]
theorem ByT.tSt (h : ByT B B' z) {q : Tkn} {v : Vg} (hq : TkR B' z q) : stW B z q v = stW B' z q v := by
  unfold stW
  rw [h.wq hq, h.wq hq, h.wq hq, h.wq hq, h.tPt hq, h.tMc hq, h.tOn hq, h.tGv hq.le]
theorem ByT.tRi (h : ByT B B' z) : ∀ (f n : Nat) (q : Tkn) (v : Vg), TkR B' z q → riS B z f n q v = riS B' z f n q v
  | 0, _, _, _, _ => rfl
  | f + 1, n, q, v, hq => by
    have t1 := stW_tr (v := v) hq
    simp only [riS]
    rw [h.tSt hq, h.s t1.le, h.tRi f (n + 1) _ _ (stp_tr t1)]
/-- all read alike -/
theorem ByT.tAll (h : ByT B B' z) (v : Vg) : riS B z 250 1 (stp B z 0) v = riS B' z 250 1 (stp B' z 0) v := by
  rw [h.s (Nat.zero_le z)]
  exact h.tRi _ _ _ _ (stp_tr0 (Nat.zero_le z))
end TIE2
end
