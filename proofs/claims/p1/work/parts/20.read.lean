/-! PART 20: statements read into a village -/
abbrev Tkn : Type := Nat × Nat × Nat
abbrev Rd : Type := Bool × Tkn × Vg
def nmQ (B : Nat → Int32) (z : Nat) (q : Tkn) (lo hi : Int32) : Int32 := nmV B z q.1 q.2.1 q.2.2 lo hi
/-- the tape's cell and a village's -/
def RT (k kv b : Nat) : Prop := b = k ∨ (kv ≤ b ∧ b < kv + 9)
def RdAt (h0 h : Hp) (k kv : Nat) (B : Nat → Int32) (z : Nat) (w : Rd) : Prop := TkAt h k B z w.2.1.1 w.2.1.2.1 w.2.1.2.2 ∧ VilAt h kv w.2.2 ∧ Fs (RT k kv) h0 h
theorem stp_5 {B : Nat → Int32} {z e : Nat} : (stp B z e).1 < 5 := by
  unfold stp
  split
  · show 3 < 5; omega
  · split
    · show 0 < 5; omega
    · split
      · show 1 < 5; omega
      · show (if B (enO 0 B z e) = nI 59 then 2 else 4) < 5; split <;> omega
theorem in_hi {x : Int32} {n : Nat} (hn : n < 2 ^ 30) (h0 : ¬ x < nI 0) (h1 : x ≤ nI n - nI 1) : inR x n = true := by
  rw [Int32.le_iff_toInt_le, pk_sub_toInt hn (by omega)] at h1
  rw [Int32.lt_iff_toInt_lt, nI_toInt (by omega)] at h0
  unfold inR
  exact decide_eq_true (by omega)
theorem nm_in {B : Nat → Int32} {z n : Nat} {q : Tkn} (hn : n < 2 ^ 30) (h : ¬ nmQ B z q (nI 0) (nI n - nI 1) = -1) : inR (nmQ B z q (nI 0) (nI n - nI 1)) n = true := by
  unfold nmQ nmV at h ⊢
  split at h
  · next c =>
    rw [if_pos c]
    split at h
    · exact absurd rfl h
    · next c2 =>
      rw [if_neg c2]
      split at h
      · next c3 => rw [if_pos c3]; exact in_hi hn c2 c3
      · exact absurd rfl h
  · exact absurd rfl h
def gvP (B : Nat → Int32) (z e : Nat) (v : Vg) : Int32 := nmQ B z (stp B z e) (nI 0) (nI (vP v) - nI 1)
def gvO (B : Nat → Int32) (z e : Nat) (v : Vg) : Int32 := nmQ B z (stp B z e) (nI 0) (nI (vN v) - nI 1)
/-- gives -/
def gvW (B : Nat → Int32) (z e : Nat) (v : Vg) : Rd :=
  if gvP B z e v = -1 then (false, stp B z e, v)
  else if gvO B z (stp B z e).2.2 v = -1 ∨ (¬ vF v 0 (gvP B z e v).toNatClampNeg = gvO B z (stp B z e).2.2 v ∧ hasRm v (gvO B z (stp B z e).2.2 v) = false) then (false, stp B z (stp B z e).2.2, v)
  else (true, stp B z (stp B z (stp B z e).2.2).2.2, vset v 0 (gvP B z e v).toNatClampNeg (gvO B z (stp B z e).2.2 v))
set_option maxHeartbeats 4000000 in
theorem c_X3_readGives {l : Launch} {h : Hp} {k kv : Nat} {B : Nat → Int32} {z t s e : Nat} {v : Vg} (hk : TkAt h k B z t s e) (he : e ≤ z) (hv : VilAt h kv v) (hd : kv + 9 ≤ k ∨ k + 2 ≤ kv) : Ms l yX3_readGives cX3_readGives 4 (some .boolean) 4 [vr 3 k, vr 5 kv] h (xK h) (fun r0 h' => r0 = some (vi (b2i (gvW B z e v).1)) ∧ RdAt h h' k kv B z (gvW B z e v)) := by
  refine Ms.of (by decide) (Nat.le_of_ble_eq_true rfl) (fun G C X F => ?_)
  have C : Cx G cX3_readGives 4 RX3 := C
  show Rr G 0 [(0, vr 3 k), (1, vr 5 kv)] [] h
  have bP := hv.bP
  have bM := hv.bM
  have bN := hv.bN
  have bz := hk.1.2.2
  refine r_aload_n C (dx dX3_readGives 0 rfl) rfl ?_
  refine r_cv (as := []) (st := []) C X I_X3_step l_X3_28 (c_X3_step hk he) (by decide) (Nat.le_of_ble_eq_true rfl) List.prefix_rfl List.prefix_rfl rfl rfl (Nat.le_of_ble_eq_true rfl) rfl (dx dX3_readGives 1 rfl) ?_
  intro rh1 h1 hph1 kkh1
  obtain ⟨rfl, sh1, gh1⟩ := hph1
  have wh1 : VilAt h1 kv (v) := hv.fr gh1 (by omega)
  have fh1 : Fs (RT k kv) h h1 := (Fs.of gh1 (fun b h1 h2 => Or.inl (by omega)))
  have kh1 : xK h1 = xK h := kkh1
  have lh1 := stp_le (B := B) he
  refine r_aload_n C (dx dX3_readGives 2 rfl) rfl ?_
  refine r_iconst (v := nI 0) C (dx dX3_readGives 3 rfl) rfl ?_
  refine r_aload_n C (dx dX3_readGives 4 rfl) rfl ?_
  refine g_X3_91 (x := nI (vP v)) C (dx dX3_readGives 5 rfl) wh1.eP ?_
  refine r_iconst (v := nI 1) C (dx dX3_readGives 6 rfl) rfl ?_
  refine r_isub C (dx dX3_readGives 7 rfl) ?_
  refine r_cvP (as := [vi (nI 0), vi ((nI (vP v)) - (nI 1))]) (st := []) (v := vi (nmQ B z (stp B z e) (nI 0) ((nI (vP v)) - (nI 1)))) C X I_X3_numberIn l_X3_70 (c_X3_numberIn sh1 stp_5 lh1.1 lh1.2 _ _) (by decide) (Nat.le_of_ble_eq_true rfl) (pfx_eq kh1) rfl rfl (Nat.le_of_ble_eq_true rfl) rfl (dx dX3_readGives 8 rfl) ?_
  refine r_istore_n (ls' := [(0, vr 3 k), (1, vr 5 kv), (2, vi (nmQ B z (stp B z e) (nI 0) ((nI (vP v)) - (nI 1))))]) C (dx dX3_readGives 9 rfl) (by decide) [1, 2, 0] rfl ?_
  refine r_iload_n C (dx dX3_readGives 10 rfl) rfl ?_
  refine r_iconst (v := -1) C (dx dX3_readGives 11 rfl) rfl ?_
  refine r_icmp_ne (tgt := 23) C (dx dX3_readGives 12 rfl) (by decide) (fun c2 => ?_) (fun c2 => ?_)
  ·
    have c2 : ¬ nmQ B z (stp B z e) (nI 0) ((nI (vP v)) - (nI 1)) = -1 := c2
    refine r_aload_n C (dx dX3_readGives 15 rfl) rfl ?_
    refine r_cv (as := []) (st := []) C X I_X3_step l_X3_28 (c_X3_step sh1 lh1.2) (by decide) (Nat.le_of_ble_eq_true rfl) List.prefix_rfl (pfx_eq kh1) rfl rfl (Nat.le_of_ble_eq_true rfl) rfl (dx dX3_readGives 16 rfl) ?_
    intro rh3 h3 hph3 kkh3
    obtain ⟨rfl, sh3, gh3⟩ := hph3
    have wh3 : VilAt h3 kv (v) := wh1.fr gh3 (by omega)
    have fh3 : Fs (RT k kv) h h3 := fh1.tr (Fs.of gh3 (fun b h1 h2 => Or.inl (by omega)))
    have kh3 : xK h3 = xK h := kkh3.trans kh1
    have lh3 := stp_le (B := B) lh1.2
    refine r_aload_n C (dx dX3_readGives 17 rfl) rfl ?_
    refine r_iconst (v := nI 0) C (dx dX3_readGives 18 rfl) rfl ?_
    refine r_aload_n C (dx dX3_readGives 19 rfl) rfl ?_
    refine g_X3_67 (x := nI (vN v)) C (dx dX3_readGives 20 rfl) wh3.eN ?_
    refine r_iconst (v := nI 1) C (dx dX3_readGives 21 rfl) rfl ?_
    refine r_isub C (dx dX3_readGives 22 rfl) ?_
    refine r_cvP (as := [vi (nI 0), vi ((nI (vN v)) - (nI 1))]) (st := []) (v := vi (nmQ B z (stp B z ((stp B z e).2.2)) (nI 0) ((nI (vN v)) - (nI 1)))) C X I_X3_numberIn l_X3_70 (c_X3_numberIn sh3 stp_5 lh3.1 lh3.2 _ _) (by decide) (Nat.le_of_ble_eq_true rfl) (pfx_eq kh3) rfl rfl (Nat.le_of_ble_eq_true rfl) rfl (dx dX3_readGives 23 rfl) ?_
    refine r_istore_n (ls' := [(0, vr 3 k), (1, vr 5 kv), (2, vi (nmQ B z (stp B z e) (nI 0) ((nI (vP v)) - (nI 1)))), (3, vi (nmQ B z (stp B z ((stp B z e).2.2)) (nI 0) ((nI (vN v)) - (nI 1))))]) C (dx dX3_readGives 24 rfl) (by decide) [1, 2, 3, 0] rfl ?_
    refine r_iload_n C (dx dX3_readGives 25 rfl) rfl ?_
    refine r_iconst (v := -1) C (dx dX3_readGives 26 rfl) rfl ?_
    refine r_icmp_eq (tgt := 62) C (dx dX3_readGives 27 rfl) (by decide) (fun c4 => ?_) (fun c4 => ?_)
    ·
      have c4 : nmQ B z (stp B z ((stp B z e).2.2)) (nI 0) ((nI (vN v)) - (nI 1)) = -1 := c4
      refine r_iconst (v := nI 0) C (dx dX3_readGives 38 rfl) rfl ?_
      have e9 : gvW B z e v = (false, (stp B z ((stp B z e).2.2)), v) := by unfold gvW gvP gvO; rw [if_neg c2, if_pos (Or.inl c4)]
      exact F.1 _ _ _ _ .boolean rfl rfl (dx dX3_readGives 39 rfl) kh3 (show some (vi (nI 0)) = some (vi (b2i (gvW B z e v).1)) ∧ RdAt h h3 k kv B z (gvW B z e v) from by rw [e9]; exact ⟨rfl, sh3, wh3, fh3⟩)
    ·
      have c4 : ¬ nmQ B z (stp B z ((stp B z e).2.2)) (nI 0) ((nI (vN v)) - (nI 1)) = -1 := c4
      refine r_aload_n C (dx dX3_readGives 28 rfl) rfl ?_
      refine g_X3_78 C (dx dX3_readGives 29 rfl) ?_
      refine r_iload_n C (dx dX3_readGives 30 rfl) rfl ?_
      refine r_iald (j := (nmQ B z (stp B z e) (nI 0) ((nI (vP v)) - (nI 1))).toNatClampNeg) (x := vF v 0 ((nmQ B z (stp B z e) (nI 0) ((nI (vP v)) - (nI 1))).toNatClampNeg)) C rfl rfl (by decide) (inR_at (by omega) (nm_in (by omega) c2)).1 (Nat.lt_of_lt_of_le (inR_at (by omega) (nm_in (by omega) c2)).2 (by omega)) (dx dX3_readGives 31 rfl) (wh3.e0 (Nat.lt_of_lt_of_le (inR_at (by omega) (nm_in (by omega) c2)).2 (by omega))) ?_
      refine r_iload_n C (dx dX3_readGives 32 rfl) rfl ?_
      refine r_icmp_eq (tgt := 64) C (dx dX3_readGives 33 rfl) (by decide) (fun c5 => ?_) (fun c5 => ?_)
      ·
        have c5 : vF v 0 ((nmQ B z (stp B z e) (nI 0) ((nI (vP v)) - (nI 1))).toNatClampNeg) = nmQ B z (stp B z ((stp B z e).2.2)) (nI 0) ((nI (vN v)) - (nI 1)) := c5
        refine r_aload_n C (dx dX3_readGives 40 rfl) rfl ?_
        refine g_X3_78 C (dx dX3_readGives 41 rfl) ?_
        refine r_iload_n C (dx dX3_readGives 42 rfl) rfl ?_
        refine r_iload_n C (dx dX3_readGives 43 rfl) rfl ?_
        refine r_iast (j := (nmQ B z (stp B z e) (nI 0) ((nI (vP v)) - (nI 1))).toNatClampNeg) C rfl rfl (by decide) (inR_at (by omega) (nm_in (by omega) c2)).1 (Nat.lt_of_lt_of_le (inR_at (by omega) (nm_in (by omega) c2)).2 (by omega)) (dx dX3_readGives 44 rfl) ?_
        have wh6 : VilAt (sI h3 (kv + 1) ((nmQ B z (stp B z e) (nI 0) ((nI (vP v)) - (nI 1))).toNatClampNeg) (nmQ B z (stp B z ((stp B z e).2.2)) (nI 0) ((nI (vN v)) - (nI 1)))) kv (vset v 0 ((nmQ B z (stp B z e) (nI 0) ((nI (vP v)) - (nI 1))).toNatClampNeg) (nmQ B z (stp B z ((stp B z e).2.2)) (nI 0) ((nI (vN v)) - (nI 1)))) := wh3.s0
        have sh6 : TkAt (sI h3 (kv + 1) ((nmQ B z (stp B z e) (nI 0) ((nI (vP v)) - (nI 1))).toNatClampNeg) (nmQ B z (stp B z ((stp B z e).2.2)) (nI 0) ((nI (vN v)) - (nI 1)))) k B z ((stp B z ((stp B z e).2.2)).1) ((stp B z ((stp B z e).2.2)).2.1) ((stp B z ((stp B z e).2.2)).2.2) := sh3.fr (Fr.sI (lo := kv) (hi := kv + 9) (by omega) (by omega)) (by omega)
        have fh6 : Fs (RT k kv) h (sI h3 (kv + 1) ((nmQ B z (stp B z e) (nI 0) ((nI (vP v)) - (nI 1))).toNatClampNeg) (nmQ B z (stp B z ((stp B z e).2.2)) (nI 0) ((nI (vN v)) - (nI 1)))) := fh3.tr (Fs.of (Fr.sI (lo := kv) (hi := kv + 9) (by omega) (by omega)) (fun b h1 h2 => Or.inr ⟨h1, h2⟩))
        have kh6 : xK (sI h3 (kv + 1) ((nmQ B z (stp B z e) (nI 0) ((nI (vP v)) - (nI 1))).toNatClampNeg) (nmQ B z (stp B z ((stp B z e).2.2)) (nI 0) ((nI (vN v)) - (nI 1)))) = xK h := kh3
        generalize sI h3 (kv + 1) ((nmQ B z (stp B z e) (nI 0) ((nI (vP v)) - (nI 1))).toNatClampNeg) (nmQ B z (stp B z ((stp B z e).2.2)) (nI 0) ((nI (vN v)) - (nI 1))) = h6 at wh6 sh6 fh6 kh6 ⊢
        refine r_aload_n C (dx dX3_readGives 45 rfl) rfl ?_
        refine r_cv (as := []) (st := []) C X I_X3_step l_X3_28 (c_X3_step sh6 lh3.2) (by decide) (Nat.le_of_ble_eq_true rfl) List.prefix_rfl (pfx_eq kh6) rfl rfl (Nat.le_of_ble_eq_true rfl) rfl (dx dX3_readGives 46 rfl) ?_
        intro rh7 h7 hph7 kkh7
        obtain ⟨rfl, sh7, gh7⟩ := hph7
        have wh7 : VilAt h7 kv (vset v 0 ((nmQ B z (stp B z e) (nI 0) ((nI (vP v)) - (nI 1))).toNatClampNeg) (nmQ B z (stp B z ((stp B z e).2.2)) (nI 0) ((nI (vN v)) - (nI 1)))) := wh6.fr gh7 (by omega)
        have fh7 : Fs (RT k kv) h h7 := fh6.tr (Fs.of gh7 (fun b h1 h2 => Or.inl (by omega)))
        have kh7 : xK h7 = xK h := kkh7.trans kh6
        have lh7 := stp_le (B := B) lh3.2
        refine r_iconst (v := nI 1) C (dx dX3_readGives 47 rfl) rfl ?_
        have e9 : gvW B z e v = (true, (stp B z ((stp B z ((stp B z e).2.2)).2.2)), vset v 0 ((nmQ B z (stp B z e) (nI 0) ((nI (vP v)) - (nI 1))).toNatClampNeg) (nmQ B z (stp B z ((stp B z e).2.2)) (nI 0) ((nI (vN v)) - (nI 1)))) := by unfold gvW gvP gvO; rw [if_neg c2, if_neg (fun z => z.elim c4 (fun y => y.1 c5))]
        exact F.1 _ _ _ _ .boolean rfl rfl (dx dX3_readGives 48 rfl) kh7 (show some (vi (nI 1)) = some (vi (b2i (gvW B z e v).1)) ∧ RdAt h h7 k kv B z (gvW B z e v) from by rw [e9]; exact ⟨rfl, sh7, wh7, fh7⟩)
      ·
        have c5 : ¬ vF v 0 ((nmQ B z (stp B z e) (nI 0) ((nI (vP v)) - (nI 1))).toNatClampNeg) = nmQ B z (stp B z ((stp B z e).2.2)) (nI 0) ((nI (vN v)) - (nI 1)) := c5
        refine r_aload_n C (dx dX3_readGives 34 rfl) rfl ?_
        refine r_iload_n C (dx dX3_readGives 35 rfl) rfl ?_
        refine r_cvP (as := [vi (nmQ B z (stp B z ((stp B z e).2.2)) (nI 0) ((nI (vN v)) - (nI 1)))]) (st := []) (v := vi (b2i (hasRm v (nmQ B z (stp B z ((stp B z e).2.2)) (nI 0) ((nI (vN v)) - (nI 1)))))) C X I_X5_hasRoom l_X3_74 (c_X5_hasRoom wh3 _) (by decide) (Nat.le_of_ble_eq_true rfl) (pfx_eq kh3) rfl rfl (Nat.le_of_ble_eq_true rfl) rfl (dx dX3_readGives 36 rfl) ?_
        refine rb_ne (b := hasRm v (nmQ B z (stp B z ((stp B z e).2.2)) (nI 0) ((nI (vN v)) - (nI 1)))) (tgt := 64) C (dx dX3_readGives 37 rfl) (by decide) (fun c8 => ?_) (fun c8 => ?_)
        ·
          have c8 : (hasRm v (nmQ B z (stp B z ((stp B z e).2.2)) (nI 0) ((nI (vN v)) - (nI 1)))) = true := c8
          refine r_aload_n C (dx dX3_readGives 40 rfl) rfl ?_
          refine g_X3_78 C (dx dX3_readGives 41 rfl) ?_
          refine r_iload_n C (dx dX3_readGives 42 rfl) rfl ?_
          refine r_iload_n C (dx dX3_readGives 43 rfl) rfl ?_
          refine r_iast (j := (nmQ B z (stp B z e) (nI 0) ((nI (vP v)) - (nI 1))).toNatClampNeg) C rfl rfl (by decide) (inR_at (by omega) (nm_in (by omega) c2)).1 (Nat.lt_of_lt_of_le (inR_at (by omega) (nm_in (by omega) c2)).2 (by omega)) (dx dX3_readGives 44 rfl) ?_
          have wh9 : VilAt (sI h3 (kv + 1) ((nmQ B z (stp B z e) (nI 0) ((nI (vP v)) - (nI 1))).toNatClampNeg) (nmQ B z (stp B z ((stp B z e).2.2)) (nI 0) ((nI (vN v)) - (nI 1)))) kv (vset v 0 ((nmQ B z (stp B z e) (nI 0) ((nI (vP v)) - (nI 1))).toNatClampNeg) (nmQ B z (stp B z ((stp B z e).2.2)) (nI 0) ((nI (vN v)) - (nI 1)))) := wh3.s0
          have sh9 : TkAt (sI h3 (kv + 1) ((nmQ B z (stp B z e) (nI 0) ((nI (vP v)) - (nI 1))).toNatClampNeg) (nmQ B z (stp B z ((stp B z e).2.2)) (nI 0) ((nI (vN v)) - (nI 1)))) k B z ((stp B z ((stp B z e).2.2)).1) ((stp B z ((stp B z e).2.2)).2.1) ((stp B z ((stp B z e).2.2)).2.2) := sh3.fr (Fr.sI (lo := kv) (hi := kv + 9) (by omega) (by omega)) (by omega)
          have fh9 : Fs (RT k kv) h (sI h3 (kv + 1) ((nmQ B z (stp B z e) (nI 0) ((nI (vP v)) - (nI 1))).toNatClampNeg) (nmQ B z (stp B z ((stp B z e).2.2)) (nI 0) ((nI (vN v)) - (nI 1)))) := fh3.tr (Fs.of (Fr.sI (lo := kv) (hi := kv + 9) (by omega) (by omega)) (fun b h1 h2 => Or.inr ⟨h1, h2⟩))
          have kh9 : xK (sI h3 (kv + 1) ((nmQ B z (stp B z e) (nI 0) ((nI (vP v)) - (nI 1))).toNatClampNeg) (nmQ B z (stp B z ((stp B z e).2.2)) (nI 0) ((nI (vN v)) - (nI 1)))) = xK h := kh3
          generalize sI h3 (kv + 1) ((nmQ B z (stp B z e) (nI 0) ((nI (vP v)) - (nI 1))).toNatClampNeg) (nmQ B z (stp B z ((stp B z e).2.2)) (nI 0) ((nI (vN v)) - (nI 1))) = h9 at wh9 sh9 fh9 kh9 ⊢
          refine r_aload_n C (dx dX3_readGives 45 rfl) rfl ?_
          refine r_cv (as := []) (st := []) C X I_X3_step l_X3_28 (c_X3_step sh9 lh3.2) (by decide) (Nat.le_of_ble_eq_true rfl) List.prefix_rfl (pfx_eq kh9) rfl rfl (Nat.le_of_ble_eq_true rfl) rfl (dx dX3_readGives 46 rfl) ?_
          intro rh10 h10 hph10 kkh10
          obtain ⟨rfl, sh10, gh10⟩ := hph10
          have wh10 : VilAt h10 kv (vset v 0 ((nmQ B z (stp B z e) (nI 0) ((nI (vP v)) - (nI 1))).toNatClampNeg) (nmQ B z (stp B z ((stp B z e).2.2)) (nI 0) ((nI (vN v)) - (nI 1)))) := wh9.fr gh10 (by omega)
          have fh10 : Fs (RT k kv) h h10 := fh9.tr (Fs.of gh10 (fun b h1 h2 => Or.inl (by omega)))
          have kh10 : xK h10 = xK h := kkh10.trans kh9
          have lh10 := stp_le (B := B) lh3.2
          refine r_iconst (v := nI 1) C (dx dX3_readGives 47 rfl) rfl ?_
          have e9 : gvW B z e v = (true, (stp B z ((stp B z ((stp B z e).2.2)).2.2)), vset v 0 ((nmQ B z (stp B z e) (nI 0) ((nI (vP v)) - (nI 1))).toNatClampNeg) (nmQ B z (stp B z ((stp B z e).2.2)) (nI 0) ((nI (vN v)) - (nI 1)))) := by unfold gvW gvP gvO; rw [if_neg c2, if_neg (fun z => z.elim c4 (fun y => Bool.noConfusion (y.2.symm.trans c8)))]
          exact F.1 _ _ _ _ .boolean rfl rfl (dx dX3_readGives 48 rfl) kh10 (show some (vi (nI 1)) = some (vi (b2i (gvW B z e v).1)) ∧ RdAt h h10 k kv B z (gvW B z e v) from by rw [e9]; exact ⟨rfl, sh10, wh10, fh10⟩)
        ·
          have c8 : (hasRm v (nmQ B z (stp B z ((stp B z e).2.2)) (nI 0) ((nI (vN v)) - (nI 1)))) = false := c8
          refine r_iconst (v := nI 0) C (dx dX3_readGives 38 rfl) rfl ?_
          have e9 : gvW B z e v = (false, (stp B z ((stp B z e).2.2)), v) := by unfold gvW gvP gvO; rw [if_neg c2, if_pos (Or.inr ⟨c5, c8⟩)]
          exact F.1 _ _ _ _ .boolean rfl rfl (dx dX3_readGives 39 rfl) kh3 (show some (vi (nI 0)) = some (vi (b2i (gvW B z e v).1)) ∧ RdAt h h3 k kv B z (gvW B z e v) from by rw [e9]; exact ⟨rfl, sh3, wh3, fh3⟩)
  ·
    have c2 : nmQ B z (stp B z e) (nI 0) ((nI (vP v)) - (nI 1)) = -1 := c2
    refine r_iconst (v := nI 0) C (dx dX3_readGives 13 rfl) rfl ?_
    have e9 : gvW B z e v = (false, (stp B z e), v) := by unfold gvW gvP gvO; rw [if_pos c2]
    exact F.1 _ _ _ _ .boolean rfl rfl (dx dX3_readGives 14 rfl) kh1 (show some (vi (nI 0)) = some (vi (b2i (gvW B z e v).1)) ∧ RdAt h h1 k kv B z (gvW B z e v) from by rw [e9]; exact ⟨rfl, sh1, wh1, fh1⟩)
theorem vset_N {v : Vg} {c i : Nat} {x : Int32} : vN (vset v c i x) = vN v := rfl
/-- a piece told by a word, or not -/
def byS (B : Nat → Int32) (z c i p : Nat) (q : Tkn) (v : Vg) : Rd :=
  if wdB i B z q.1 q.2.1 q.2.2 = true then
    (if hasRm v (nmQ B z (stp B z q.2.2) (nI 0) (nI (vN v) - nI 1)) = true then (true, stp B z (stp B z q.2.2).2.2, vset v c p (nmQ B z (stp B z q.2.2) (nI 0) (nI (vN v) - nI 1))) else (false, stp B z q.2.2, v))
  else (true, q, v)
def ptW (B : Nat → Int32) (z : Nat) (q : Tkn) (v : Vg) : Rd :=
  if vP v < 12 then
    (if (byS B z 0 1 (vP v) (stp B z q.2.2) (addPartV v)).1 = true then byS B z 1 2 (vP v) (byS B z 0 1 (vP v) (stp B z q.2.2) (addPartV v)).2.1 (byS B z 0 1 (vP v) (stp B z q.2.2) (addPartV v)).2.2
     else byS B z 0 1 (vP v) (stp B z q.2.2) (addPartV v))
  else (false, q, v)
set_option maxHeartbeats 4000000 in
theorem c_X3_readPart {l : Launch} {h : Hp} {k kv : Nat} {B : Nat → Int32} {z t s e : Nat} {v : Vg} (hk : TkAt h k B z t s e) (he : e ≤ z) (hv : VilAt h kv v) (hd : kv + 9 ≤ k ∨ k + 2 ≤ kv) : Ms l yX3_readPart cX3_readPart 4 (some .boolean) 6 [vr 3 k, vr 5 kv] h (xK h) (fun r0 h' => r0 = some (vi (b2i (ptW B z (t, s, e) v).1)) ∧ RdAt h h' k kv B z (ptW B z (t, s, e) v)) := by
  refine Ms.of (by decide) (Nat.le_of_ble_eq_true rfl) (fun G C X F => ?_)
  have C : Cx G cX3_readPart 4 RX3 := C
  show Rr G 0 [(0, vr 3 k), (1, vr 5 kv)] [] h
  have bP := hv.bP
  have bM := hv.bM
  have bN := hv.bN
  have bz := hk.1.2.2
  by_cases hP : vP v < 12
  ·
    refine r_aload_n C (dx dX3_readPart 0 rfl) rfl ?_
    refine r_cv (as := []) (st := []) C X I_X5_addPart l_X3_59 (c_X5_addPart hv hP) (by decide) (Nat.le_of_ble_eq_true rfl) List.prefix_rfl List.prefix_rfl rfl rfl (Nat.le_of_ble_eq_true rfl) rfl (dx dX3_readPart 1 rfl) ?_
    intro rh1 h1 hph1 kkh1
    obtain ⟨rfl, wh1, gh1⟩ := hph1
    have sh1 : TkAt h1 k B z t s e := hk.fr gh1 (by omega)
    have fh1 : Fs (RT k kv) h h1 := (Fs.of gh1 (fun b h1 h2 => Or.inr ⟨h1, h2⟩))
    have kh1 : xK h1 = xK h := kkh1
    refine r_istore_n (ls' := [(0, vr 3 k), (1, vr 5 kv), (2, vi (nI (vP v)))]) C (dx dX3_readPart 2 rfl) (by decide) [1, 2, 0] rfl ?_
    refine r_iload_n C (dx dX3_readPart 3 rfl) rfl ?_
    refine r_iconst (v := -1) C (dx dX3_readPart 4 rfl) rfl ?_
    refine r_icmp_ne (tgt := 12) C (dx dX3_readPart 5 rfl) (by decide) (fun c2 => ?_) (fun c2 => ?_)
    ·
      have c2 : ¬ nI (vP v) = -1 := c2
      refine r_aload_n C (dx dX3_readPart 8 rfl) rfl ?_
      refine r_cv (as := []) (st := []) C X I_X3_step l_X3_28 (c_X3_step sh1 he) (by decide) (Nat.le_of_ble_eq_true rfl) List.prefix_rfl (pfx_eq kh1) rfl rfl (Nat.le_of_ble_eq_true rfl) rfl (dx dX3_readPart 9 rfl) ?_
      intro rh3 h3 hph3 kkh3
      obtain ⟨rfl, sh3, gh3⟩ := hph3
      have wh3 : VilAt h3 kv (addPartV v) := wh1.fr gh3 (by omega)
      have fh3 : Fs (RT k kv) h h3 := fh1.tr (Fs.of gh3 (fun b h1 h2 => Or.inl (by omega)))
      have kh3 : xK h3 = xK h := kkh3.trans kh1
      have lh3 := stp_le (B := B) he
      refine r_aload_n C (dx dX3_readPart 10 rfl) rfl ?_
      refine r_ldcS C 1 rfl (dx dX3_readPart 11 rfl) ?_
      refine r_cvP (as := [vt 1001]) (st := []) (v := vi (b2i (wdB 1 B z (stp B z e).1 (stp B z e).2.1 (stp B z e).2.2))) C X I_X3_isWord l_X3_37 (c_X3_isWord sh3 stp_5 lh3.1 lh3.2 (i := 1) (by omega)) (by decide) (Nat.le_of_ble_eq_true rfl) (pfx_eq kh3) rfl rfl (Nat.le_of_ble_eq_true rfl) rfl (dx dX3_readPart 12 rfl) ?_
      refine rb_eq (b := wdB 1 B z (stp B z e).1 (stp B z e).2.1 (stp B z e).2.2) (tgt := 62) C (dx dX3_readPart 13 rfl) (by decide) (fun c4 => ?_) (fun c4 => ?_)
      ·
        have c4 : (wdB 1 B z (stp B z e).1 (stp B z e).2.1 (stp B z e).2.2) = false := c4
        refine r_aload_n C (dx dX3_readPart 37 rfl) rfl ?_
        refine r_ldcS C 2 rfl (dx dX3_readPart 38 rfl) ?_
        refine r_cvP (as := [vt 1002]) (st := []) (v := vi (b2i (wdB 2 B z (stp B z e).1 (stp B z e).2.1 (stp B z e).2.2))) C X I_X3_isWord l_X3_37 (c_X3_isWord sh3 stp_5 lh3.1 lh3.2 (i := 2) (by omega)) (by decide) (Nat.le_of_ble_eq_true rfl) (pfx_eq kh3) rfl rfl (Nat.le_of_ble_eq_true rfl) rfl (dx dX3_readPart 39 rfl) ?_
        refine rb_eq (b := wdB 2 B z (stp B z e).1 (stp B z e).2.1 (stp B z e).2.2) (tgt := 108) C (dx dX3_readPart 40 rfl) (by decide) (fun c5 => ?_) (fun c5 => ?_)
        ·
          have c5 : (wdB 2 B z (stp B z e).1 (stp B z e).2.1 (stp B z e).2.2) = false := c5
          refine r_iconst (v := nI 1) C (dx dX3_readPart 64 rfl) rfl ?_
          have e9 : ptW B z (t, s, e) v = (true, (stp B z e), addPartV v) := by unfold ptW byS; simp [hP, vset_N, c4, c5]
          exact F.1 _ _ _ _ .boolean rfl rfl (dx dX3_readPart 65 rfl) kh3 (show some (vi (nI 1)) = some (vi (b2i (ptW B z (t, s, e) v).1)) ∧ RdAt h h3 k kv B z (ptW B z (t, s, e) v) from by rw [e9]; exact ⟨rfl, sh3, wh3, fh3⟩)
        ·
          have c5 : (wdB 2 B z (stp B z e).1 (stp B z e).2.1 (stp B z e).2.2) = true := c5
          refine r_aload_n C (dx dX3_readPart 41 rfl) rfl ?_
          refine r_cv (as := []) (st := []) C X I_X3_step l_X3_28 (c_X3_step sh3 lh3.2) (by decide) (Nat.le_of_ble_eq_true rfl) List.prefix_rfl (pfx_eq kh3) rfl rfl (Nat.le_of_ble_eq_true rfl) rfl (dx dX3_readPart 42 rfl) ?_
          intro rh6 h6 hph6 kkh6
          obtain ⟨rfl, sh6, gh6⟩ := hph6
          have wh6 : VilAt h6 kv (addPartV v) := wh3.fr gh6 (by omega)
          have fh6 : Fs (RT k kv) h h6 := fh3.tr (Fs.of gh6 (fun b h1 h2 => Or.inl (by omega)))
          have kh6 : xK h6 = xK h := kkh6.trans kh3
          have lh6 := stp_le (B := B) lh3.2
          refine r_aload_n C (dx dX3_readPart 43 rfl) rfl ?_
          refine r_iconst (v := nI 0) C (dx dX3_readPart 44 rfl) rfl ?_
          refine r_aload_n C (dx dX3_readPart 45 rfl) rfl ?_
          refine g_X3_67 (x := nI (vN (addPartV v))) C (dx dX3_readPart 46 rfl) wh6.eN ?_
          refine r_iconst (v := nI 1) C (dx dX3_readPart 47 rfl) rfl ?_
          refine r_isub C (dx dX3_readPart 48 rfl) ?_
          refine r_cvP (as := [vi (nI 0), vi ((nI (vN (addPartV v))) - (nI 1))]) (st := []) (v := vi (nmQ B z (stp B z ((stp B z e).2.2)) (nI 0) ((nI (vN (addPartV v))) - (nI 1)))) C X I_X3_numberIn l_X3_70 (c_X3_numberIn sh6 stp_5 lh6.1 lh6.2 _ _) (by decide) (Nat.le_of_ble_eq_true rfl) (pfx_eq kh6) rfl rfl (Nat.le_of_ble_eq_true rfl) rfl (dx dX3_readPart 49 rfl) ?_
          refine r_istore_n (ls' := [(0, vr 3 k), (1, vr 5 kv), (2, vi (nI (vP v))), (3, vi (nmQ B z (stp B z ((stp B z e).2.2)) (nI 0) ((nI (vN (addPartV v))) - (nI 1))))]) C (dx dX3_readPart 50 rfl) (by decide) [1, 2, 3, 0] rfl ?_
          refine r_aload_n C (dx dX3_readPart 51 rfl) rfl ?_
          refine r_iload_n C (dx dX3_readPart 52 rfl) rfl ?_
          refine r_cvP (as := [vi (nmQ B z (stp B z ((stp B z e).2.2)) (nI 0) ((nI (vN (addPartV v))) - (nI 1)))]) (st := []) (v := vi (b2i (hasRm (addPartV v) (nmQ B z (stp B z ((stp B z e).2.2)) (nI 0) ((nI (vN (addPartV v))) - (nI 1)))))) C X I_X5_hasRoom l_X3_74 (c_X5_hasRoom wh6 _) (by decide) (Nat.le_of_ble_eq_true rfl) (pfx_eq kh6) rfl rfl (Nat.le_of_ble_eq_true rfl) rfl (dx dX3_readPart 53 rfl) ?_
          refine rb_ne (b := hasRm (addPartV v) (nmQ B z (stp B z ((stp B z e).2.2)) (nI 0) ((nI (vN (addPartV v))) - (nI 1)))) (tgt := 97) C (dx dX3_readPart 54 rfl) (by decide) (fun c7 => ?_) (fun c7 => ?_)
          ·
            have c7 : (hasRm (addPartV v) (nmQ B z (stp B z ((stp B z e).2.2)) (nI 0) ((nI (vN (addPartV v))) - (nI 1)))) = true := c7
            refine r_aload_n C (dx dX3_readPart 57 rfl) rfl ?_
            refine g_X3_84 C (dx dX3_readPart 58 rfl) ?_
            refine r_iload_n C (dx dX3_readPart 59 rfl) rfl ?_
            refine r_iload_n C (dx dX3_readPart 60 rfl) rfl ?_
            refine r_iast (j := vP v) C rfl rfl (by decide) rfl (by omega) (dx dX3_readPart 61 rfl) ?_
            have wh8 : VilAt (sI h6 (kv + 2) (vP v) (nmQ B z (stp B z ((stp B z e).2.2)) (nI 0) ((nI (vN (addPartV v))) - (nI 1)))) kv (vset (addPartV v) 1 (vP v) (nmQ B z (stp B z ((stp B z e).2.2)) (nI 0) ((nI (vN (addPartV v))) - (nI 1)))) := wh6.s1
            have sh8 : TkAt (sI h6 (kv + 2) (vP v) (nmQ B z (stp B z ((stp B z e).2.2)) (nI 0) ((nI (vN (addPartV v))) - (nI 1)))) k B z ((stp B z ((stp B z e).2.2)).1) ((stp B z ((stp B z e).2.2)).2.1) ((stp B z ((stp B z e).2.2)).2.2) := sh6.fr (Fr.sI (lo := kv) (hi := kv + 9) (by omega) (by omega)) (by omega)
            have fh8 : Fs (RT k kv) h (sI h6 (kv + 2) (vP v) (nmQ B z (stp B z ((stp B z e).2.2)) (nI 0) ((nI (vN (addPartV v))) - (nI 1)))) := fh6.tr (Fs.of (Fr.sI (lo := kv) (hi := kv + 9) (by omega) (by omega)) (fun b h1 h2 => Or.inr ⟨h1, h2⟩))
            have kh8 : xK (sI h6 (kv + 2) (vP v) (nmQ B z (stp B z ((stp B z e).2.2)) (nI 0) ((nI (vN (addPartV v))) - (nI 1)))) = xK h := kh6
            generalize sI h6 (kv + 2) (vP v) (nmQ B z (stp B z ((stp B z e).2.2)) (nI 0) ((nI (vN (addPartV v))) - (nI 1))) = h8 at wh8 sh8 fh8 kh8 ⊢
            refine r_aload_n C (dx dX3_readPart 62 rfl) rfl ?_
            refine r_cv (as := []) (st := []) C X I_X3_step l_X3_28 (c_X3_step sh8 lh6.2) (by decide) (Nat.le_of_ble_eq_true rfl) List.prefix_rfl (pfx_eq kh8) rfl rfl (Nat.le_of_ble_eq_true rfl) rfl (dx dX3_readPart 63 rfl) ?_
            intro rh9 h9 hph9 kkh9
            obtain ⟨rfl, sh9, gh9⟩ := hph9
            have wh9 : VilAt h9 kv (vset (addPartV v) 1 (vP v) (nmQ B z (stp B z ((stp B z e).2.2)) (nI 0) ((nI (vN (addPartV v))) - (nI 1)))) := wh8.fr gh9 (by omega)
            have fh9 : Fs (RT k kv) h h9 := fh8.tr (Fs.of gh9 (fun b h1 h2 => Or.inl (by omega)))
            have kh9 : xK h9 = xK h := kkh9.trans kh8
            have lh9 := stp_le (B := B) lh6.2
            refine r_iconst (v := nI 1) C (dx dX3_readPart 64 rfl) rfl ?_
            have e9 : ptW B z (t, s, e) v = (true, (stp B z ((stp B z ((stp B z e).2.2)).2.2)), vset (addPartV v) 1 (vP v) (nmQ B z (stp B z ((stp B z e).2.2)) (nI 0) ((nI (vN (addPartV v))) - (nI 1)))) := by unfold ptW byS; simp [hP, vset_N, c4, c5, c7]
            exact F.1 _ _ _ _ .boolean rfl rfl (dx dX3_readPart 65 rfl) kh9 (show some (vi (nI 1)) = some (vi (b2i (ptW B z (t, s, e) v).1)) ∧ RdAt h h9 k kv B z (ptW B z (t, s, e) v) from by rw [e9]; exact ⟨rfl, sh9, wh9, fh9⟩)
          ·
            have c7 : (hasRm (addPartV v) (nmQ B z (stp B z ((stp B z e).2.2)) (nI 0) ((nI (vN (addPartV v))) - (nI 1)))) = false := c7
            refine r_iconst (v := nI 0) C (dx dX3_readPart 55 rfl) rfl ?_
            have e9 : ptW B z (t, s, e) v = (false, (stp B z ((stp B z e).2.2)), addPartV v) := by unfold ptW byS; simp [hP, vset_N, c4, c5, c7]
            exact F.1 _ _ _ _ .boolean rfl rfl (dx dX3_readPart 56 rfl) kh6 (show some (vi (nI 0)) = some (vi (b2i (ptW B z (t, s, e) v).1)) ∧ RdAt h h6 k kv B z (ptW B z (t, s, e) v) from by rw [e9]; exact ⟨rfl, sh6, wh6, fh6⟩)
      ·
        have c4 : (wdB 1 B z (stp B z e).1 (stp B z e).2.1 (stp B z e).2.2) = true := c4
        refine r_aload_n C (dx dX3_readPart 14 rfl) rfl ?_
        refine r_cv (as := []) (st := []) C X I_X3_step l_X3_28 (c_X3_step sh3 lh3.2) (by decide) (Nat.le_of_ble_eq_true rfl) List.prefix_rfl (pfx_eq kh3) rfl rfl (Nat.le_of_ble_eq_true rfl) rfl (dx dX3_readPart 15 rfl) ?_
        intro rh10 h10 hph10 kkh10
        obtain ⟨rfl, sh10, gh10⟩ := hph10
        have wh10 : VilAt h10 kv (addPartV v) := wh3.fr gh10 (by omega)
        have fh10 : Fs (RT k kv) h h10 := fh3.tr (Fs.of gh10 (fun b h1 h2 => Or.inl (by omega)))
        have kh10 : xK h10 = xK h := kkh10.trans kh3
        have lh10 := stp_le (B := B) lh3.2
        refine r_aload_n C (dx dX3_readPart 16 rfl) rfl ?_
        refine r_iconst (v := nI 0) C (dx dX3_readPart 17 rfl) rfl ?_
        refine r_aload_n C (dx dX3_readPart 18 rfl) rfl ?_
        refine g_X3_67 (x := nI (vN (addPartV v))) C (dx dX3_readPart 19 rfl) wh10.eN ?_
        refine r_iconst (v := nI 1) C (dx dX3_readPart 20 rfl) rfl ?_
        refine r_isub C (dx dX3_readPart 21 rfl) ?_
        refine r_cvP (as := [vi (nI 0), vi ((nI (vN (addPartV v))) - (nI 1))]) (st := []) (v := vi (nmQ B z (stp B z ((stp B z e).2.2)) (nI 0) ((nI (vN (addPartV v))) - (nI 1)))) C X I_X3_numberIn l_X3_70 (c_X3_numberIn sh10 stp_5 lh10.1 lh10.2 _ _) (by decide) (Nat.le_of_ble_eq_true rfl) (pfx_eq kh10) rfl rfl (Nat.le_of_ble_eq_true rfl) rfl (dx dX3_readPart 22 rfl) ?_
        refine r_istore_n (ls' := [(0, vr 3 k), (1, vr 5 kv), (2, vi (nI (vP v))), (3, vi (nmQ B z (stp B z ((stp B z e).2.2)) (nI 0) ((nI (vN (addPartV v))) - (nI 1))))]) C (dx dX3_readPart 23 rfl) (by decide) [1, 2, 3, 0] rfl ?_
        refine r_aload_n C (dx dX3_readPart 24 rfl) rfl ?_
        refine r_iload_n C (dx dX3_readPart 25 rfl) rfl ?_
        refine r_cvP (as := [vi (nmQ B z (stp B z ((stp B z e).2.2)) (nI 0) ((nI (vN (addPartV v))) - (nI 1)))]) (st := []) (v := vi (b2i (hasRm (addPartV v) (nmQ B z (stp B z ((stp B z e).2.2)) (nI 0) ((nI (vN (addPartV v))) - (nI 1)))))) C X I_X5_hasRoom l_X3_74 (c_X5_hasRoom wh10 _) (by decide) (Nat.le_of_ble_eq_true rfl) (pfx_eq kh10) rfl rfl (Nat.le_of_ble_eq_true rfl) rfl (dx dX3_readPart 26 rfl) ?_
        refine rb_ne (b := hasRm (addPartV v) (nmQ B z (stp B z ((stp B z e).2.2)) (nI 0) ((nI (vN (addPartV v))) - (nI 1)))) (tgt := 51) C (dx dX3_readPart 27 rfl) (by decide) (fun c11 => ?_) (fun c11 => ?_)
        ·
          have c11 : (hasRm (addPartV v) (nmQ B z (stp B z ((stp B z e).2.2)) (nI 0) ((nI (vN (addPartV v))) - (nI 1)))) = true := c11
          refine r_aload_n C (dx dX3_readPart 30 rfl) rfl ?_
          refine g_X3_78 C (dx dX3_readPart 31 rfl) ?_
          refine r_iload_n C (dx dX3_readPart 32 rfl) rfl ?_
          refine r_iload_n C (dx dX3_readPart 33 rfl) rfl ?_
          refine r_iast (j := vP v) C rfl rfl (by decide) rfl (by omega) (dx dX3_readPart 34 rfl) ?_
          have wh12 : VilAt (sI h10 (kv + 1) (vP v) (nmQ B z (stp B z ((stp B z e).2.2)) (nI 0) ((nI (vN (addPartV v))) - (nI 1)))) kv (vset (addPartV v) 0 (vP v) (nmQ B z (stp B z ((stp B z e).2.2)) (nI 0) ((nI (vN (addPartV v))) - (nI 1)))) := wh10.s0
          have sh12 : TkAt (sI h10 (kv + 1) (vP v) (nmQ B z (stp B z ((stp B z e).2.2)) (nI 0) ((nI (vN (addPartV v))) - (nI 1)))) k B z ((stp B z ((stp B z e).2.2)).1) ((stp B z ((stp B z e).2.2)).2.1) ((stp B z ((stp B z e).2.2)).2.2) := sh10.fr (Fr.sI (lo := kv) (hi := kv + 9) (by omega) (by omega)) (by omega)
          have fh12 : Fs (RT k kv) h (sI h10 (kv + 1) (vP v) (nmQ B z (stp B z ((stp B z e).2.2)) (nI 0) ((nI (vN (addPartV v))) - (nI 1)))) := fh10.tr (Fs.of (Fr.sI (lo := kv) (hi := kv + 9) (by omega) (by omega)) (fun b h1 h2 => Or.inr ⟨h1, h2⟩))
          have kh12 : xK (sI h10 (kv + 1) (vP v) (nmQ B z (stp B z ((stp B z e).2.2)) (nI 0) ((nI (vN (addPartV v))) - (nI 1)))) = xK h := kh10
          generalize sI h10 (kv + 1) (vP v) (nmQ B z (stp B z ((stp B z e).2.2)) (nI 0) ((nI (vN (addPartV v))) - (nI 1))) = h12 at wh12 sh12 fh12 kh12 ⊢
          refine r_aload_n C (dx dX3_readPart 35 rfl) rfl ?_
          refine r_cv (as := []) (st := []) C X I_X3_step l_X3_28 (c_X3_step sh12 lh10.2) (by decide) (Nat.le_of_ble_eq_true rfl) List.prefix_rfl (pfx_eq kh12) rfl rfl (Nat.le_of_ble_eq_true rfl) rfl (dx dX3_readPart 36 rfl) ?_
          intro rh13 h13 hph13 kkh13
          obtain ⟨rfl, sh13, gh13⟩ := hph13
          have wh13 : VilAt h13 kv (vset (addPartV v) 0 (vP v) (nmQ B z (stp B z ((stp B z e).2.2)) (nI 0) ((nI (vN (addPartV v))) - (nI 1)))) := wh12.fr gh13 (by omega)
          have fh13 : Fs (RT k kv) h h13 := fh12.tr (Fs.of gh13 (fun b h1 h2 => Or.inl (by omega)))
          have kh13 : xK h13 = xK h := kkh13.trans kh12
          have lh13 := stp_le (B := B) lh10.2
          refine r_aload_n C (dx dX3_readPart 37 rfl) rfl ?_
          refine r_ldcS C 2 rfl (dx dX3_readPart 38 rfl) ?_
          refine r_cvP (as := [vt 1002]) (st := []) (v := vi (b2i (wdB 2 B z (stp B z ((stp B z ((stp B z e).2.2)).2.2)).1 (stp B z ((stp B z ((stp B z e).2.2)).2.2)).2.1 (stp B z ((stp B z ((stp B z e).2.2)).2.2)).2.2))) C X I_X3_isWord l_X3_37 (c_X3_isWord sh13 stp_5 lh13.1 lh13.2 (i := 2) (by omega)) (by decide) (Nat.le_of_ble_eq_true rfl) (pfx_eq kh13) rfl rfl (Nat.le_of_ble_eq_true rfl) rfl (dx dX3_readPart 39 rfl) ?_
          refine rb_eq (b := wdB 2 B z (stp B z ((stp B z ((stp B z e).2.2)).2.2)).1 (stp B z ((stp B z ((stp B z e).2.2)).2.2)).2.1 (stp B z ((stp B z ((stp B z e).2.2)).2.2)).2.2) (tgt := 108) C (dx dX3_readPart 40 rfl) (by decide) (fun c14 => ?_) (fun c14 => ?_)
          ·
            have c14 : (wdB 2 B z (stp B z ((stp B z ((stp B z e).2.2)).2.2)).1 (stp B z ((stp B z ((stp B z e).2.2)).2.2)).2.1 (stp B z ((stp B z ((stp B z e).2.2)).2.2)).2.2) = false := c14
            refine r_iconst (v := nI 1) C (dx dX3_readPart 64 rfl) rfl ?_
            have e9 : ptW B z (t, s, e) v = (true, (stp B z ((stp B z ((stp B z e).2.2)).2.2)), vset (addPartV v) 0 (vP v) (nmQ B z (stp B z ((stp B z e).2.2)) (nI 0) ((nI (vN (addPartV v))) - (nI 1)))) := by unfold ptW byS; simp [hP, vset_N, c4, c11, c14]
            exact F.1 _ _ _ _ .boolean rfl rfl (dx dX3_readPart 65 rfl) kh13 (show some (vi (nI 1)) = some (vi (b2i (ptW B z (t, s, e) v).1)) ∧ RdAt h h13 k kv B z (ptW B z (t, s, e) v) from by rw [e9]; exact ⟨rfl, sh13, wh13, fh13⟩)
          ·
            have c14 : (wdB 2 B z (stp B z ((stp B z ((stp B z e).2.2)).2.2)).1 (stp B z ((stp B z ((stp B z e).2.2)).2.2)).2.1 (stp B z ((stp B z ((stp B z e).2.2)).2.2)).2.2) = true := c14
            refine r_aload_n C (dx dX3_readPart 41 rfl) rfl ?_
            refine r_cv (as := []) (st := []) C X I_X3_step l_X3_28 (c_X3_step sh13 lh13.2) (by decide) (Nat.le_of_ble_eq_true rfl) List.prefix_rfl (pfx_eq kh13) rfl rfl (Nat.le_of_ble_eq_true rfl) rfl (dx dX3_readPart 42 rfl) ?_
            intro rh15 h15 hph15 kkh15
            obtain ⟨rfl, sh15, gh15⟩ := hph15
            have wh15 : VilAt h15 kv (vset (addPartV v) 0 (vP v) (nmQ B z (stp B z ((stp B z e).2.2)) (nI 0) ((nI (vN (addPartV v))) - (nI 1)))) := wh13.fr gh15 (by omega)
            have fh15 : Fs (RT k kv) h h15 := fh13.tr (Fs.of gh15 (fun b h1 h2 => Or.inl (by omega)))
            have kh15 : xK h15 = xK h := kkh15.trans kh13
            have lh15 := stp_le (B := B) lh13.2
            refine r_aload_n C (dx dX3_readPart 43 rfl) rfl ?_
            refine r_iconst (v := nI 0) C (dx dX3_readPart 44 rfl) rfl ?_
            refine r_aload_n C (dx dX3_readPart 45 rfl) rfl ?_
            refine g_X3_67 (x := nI (vN (addPartV v))) C (dx dX3_readPart 46 rfl) wh15.eN ?_
            refine r_iconst (v := nI 1) C (dx dX3_readPart 47 rfl) rfl ?_
            refine r_isub C (dx dX3_readPart 48 rfl) ?_
            refine r_cvP (as := [vi (nI 0), vi ((nI (vN (addPartV v))) - (nI 1))]) (st := []) (v := vi (nmQ B z (stp B z ((stp B z ((stp B z ((stp B z e).2.2)).2.2)).2.2)) (nI 0) ((nI (vN (addPartV v))) - (nI 1)))) C X I_X3_numberIn l_X3_70 (c_X3_numberIn sh15 stp_5 lh15.1 lh15.2 _ _) (by decide) (Nat.le_of_ble_eq_true rfl) (pfx_eq kh15) rfl rfl (Nat.le_of_ble_eq_true rfl) rfl (dx dX3_readPart 49 rfl) ?_
            refine r_istore_n (ls' := [(0, vr 3 k), (1, vr 5 kv), (2, vi (nI (vP v))), (3, vi (nmQ B z (stp B z ((stp B z ((stp B z ((stp B z e).2.2)).2.2)).2.2)) (nI 0) ((nI (vN (addPartV v))) - (nI 1))))]) C (dx dX3_readPart 50 rfl) (by decide) [1, 2, 3, 0] rfl ?_
            refine r_aload_n C (dx dX3_readPart 51 rfl) rfl ?_
            refine r_iload_n C (dx dX3_readPart 52 rfl) rfl ?_
            refine r_cvP (as := [vi (nmQ B z (stp B z ((stp B z ((stp B z ((stp B z e).2.2)).2.2)).2.2)) (nI 0) ((nI (vN (addPartV v))) - (nI 1)))]) (st := []) (v := vi (b2i (hasRm (vset (addPartV v) 0 (vP v) (nmQ B z (stp B z ((stp B z e).2.2)) (nI 0) ((nI (vN (addPartV v))) - (nI 1)))) (nmQ B z (stp B z ((stp B z ((stp B z ((stp B z e).2.2)).2.2)).2.2)) (nI 0) ((nI (vN (addPartV v))) - (nI 1)))))) C X I_X5_hasRoom l_X3_74 (c_X5_hasRoom wh15 _) (by decide) (Nat.le_of_ble_eq_true rfl) (pfx_eq kh15) rfl rfl (Nat.le_of_ble_eq_true rfl) rfl (dx dX3_readPart 53 rfl) ?_
            refine rb_ne (b := hasRm (vset (addPartV v) 0 (vP v) (nmQ B z (stp B z ((stp B z e).2.2)) (nI 0) ((nI (vN (addPartV v))) - (nI 1)))) (nmQ B z (stp B z ((stp B z ((stp B z ((stp B z e).2.2)).2.2)).2.2)) (nI 0) ((nI (vN (addPartV v))) - (nI 1)))) (tgt := 97) C (dx dX3_readPart 54 rfl) (by decide) (fun c16 => ?_) (fun c16 => ?_)
            ·
              have c16 : (hasRm (vset (addPartV v) 0 (vP v) (nmQ B z (stp B z ((stp B z e).2.2)) (nI 0) ((nI (vN (addPartV v))) - (nI 1)))) (nmQ B z (stp B z ((stp B z ((stp B z ((stp B z e).2.2)).2.2)).2.2)) (nI 0) ((nI (vN (addPartV v))) - (nI 1)))) = true := c16
              refine r_aload_n C (dx dX3_readPart 57 rfl) rfl ?_
              refine g_X3_84 C (dx dX3_readPart 58 rfl) ?_
              refine r_iload_n C (dx dX3_readPart 59 rfl) rfl ?_
              refine r_iload_n C (dx dX3_readPart 60 rfl) rfl ?_
              refine r_iast (j := vP v) C rfl rfl (by decide) rfl (by omega) (dx dX3_readPart 61 rfl) ?_
              have wh17 : VilAt (sI h15 (kv + 2) (vP v) (nmQ B z (stp B z ((stp B z ((stp B z ((stp B z e).2.2)).2.2)).2.2)) (nI 0) ((nI (vN (addPartV v))) - (nI 1)))) kv (vset (vset (addPartV v) 0 (vP v) (nmQ B z (stp B z ((stp B z e).2.2)) (nI 0) ((nI (vN (addPartV v))) - (nI 1)))) 1 (vP v) (nmQ B z (stp B z ((stp B z ((stp B z ((stp B z e).2.2)).2.2)).2.2)) (nI 0) ((nI (vN (addPartV v))) - (nI 1)))) := wh15.s1
              have sh17 : TkAt (sI h15 (kv + 2) (vP v) (nmQ B z (stp B z ((stp B z ((stp B z ((stp B z e).2.2)).2.2)).2.2)) (nI 0) ((nI (vN (addPartV v))) - (nI 1)))) k B z ((stp B z ((stp B z ((stp B z ((stp B z e).2.2)).2.2)).2.2)).1) ((stp B z ((stp B z ((stp B z ((stp B z e).2.2)).2.2)).2.2)).2.1) ((stp B z ((stp B z ((stp B z ((stp B z e).2.2)).2.2)).2.2)).2.2) := sh15.fr (Fr.sI (lo := kv) (hi := kv + 9) (by omega) (by omega)) (by omega)
              have fh17 : Fs (RT k kv) h (sI h15 (kv + 2) (vP v) (nmQ B z (stp B z ((stp B z ((stp B z ((stp B z e).2.2)).2.2)).2.2)) (nI 0) ((nI (vN (addPartV v))) - (nI 1)))) := fh15.tr (Fs.of (Fr.sI (lo := kv) (hi := kv + 9) (by omega) (by omega)) (fun b h1 h2 => Or.inr ⟨h1, h2⟩))
              have kh17 : xK (sI h15 (kv + 2) (vP v) (nmQ B z (stp B z ((stp B z ((stp B z ((stp B z e).2.2)).2.2)).2.2)) (nI 0) ((nI (vN (addPartV v))) - (nI 1)))) = xK h := kh15
              generalize sI h15 (kv + 2) (vP v) (nmQ B z (stp B z ((stp B z ((stp B z ((stp B z e).2.2)).2.2)).2.2)) (nI 0) ((nI (vN (addPartV v))) - (nI 1))) = h17 at wh17 sh17 fh17 kh17 ⊢
              refine r_aload_n C (dx dX3_readPart 62 rfl) rfl ?_
              refine r_cv (as := []) (st := []) C X I_X3_step l_X3_28 (c_X3_step sh17 lh15.2) (by decide) (Nat.le_of_ble_eq_true rfl) List.prefix_rfl (pfx_eq kh17) rfl rfl (Nat.le_of_ble_eq_true rfl) rfl (dx dX3_readPart 63 rfl) ?_
              intro rh18 h18 hph18 kkh18
              obtain ⟨rfl, sh18, gh18⟩ := hph18
              have wh18 : VilAt h18 kv (vset (vset (addPartV v) 0 (vP v) (nmQ B z (stp B z ((stp B z e).2.2)) (nI 0) ((nI (vN (addPartV v))) - (nI 1)))) 1 (vP v) (nmQ B z (stp B z ((stp B z ((stp B z ((stp B z e).2.2)).2.2)).2.2)) (nI 0) ((nI (vN (addPartV v))) - (nI 1)))) := wh17.fr gh18 (by omega)
              have fh18 : Fs (RT k kv) h h18 := fh17.tr (Fs.of gh18 (fun b h1 h2 => Or.inl (by omega)))
              have kh18 : xK h18 = xK h := kkh18.trans kh17
              have lh18 := stp_le (B := B) lh15.2
              refine r_iconst (v := nI 1) C (dx dX3_readPart 64 rfl) rfl ?_
              have e9 : ptW B z (t, s, e) v = (true, (stp B z ((stp B z ((stp B z ((stp B z ((stp B z e).2.2)).2.2)).2.2)).2.2)), vset (vset (addPartV v) 0 (vP v) (nmQ B z (stp B z ((stp B z e).2.2)) (nI 0) ((nI (vN (addPartV v))) - (nI 1)))) 1 (vP v) (nmQ B z (stp B z ((stp B z ((stp B z ((stp B z e).2.2)).2.2)).2.2)) (nI 0) ((nI (vN (addPartV v))) - (nI 1)))) := by unfold ptW byS; simp [hP, vset_N, c4, c11, c14, c16]
              exact F.1 _ _ _ _ .boolean rfl rfl (dx dX3_readPart 65 rfl) kh18 (show some (vi (nI 1)) = some (vi (b2i (ptW B z (t, s, e) v).1)) ∧ RdAt h h18 k kv B z (ptW B z (t, s, e) v) from by rw [e9]; exact ⟨rfl, sh18, wh18, fh18⟩)
            ·
              have c16 : (hasRm (vset (addPartV v) 0 (vP v) (nmQ B z (stp B z ((stp B z e).2.2)) (nI 0) ((nI (vN (addPartV v))) - (nI 1)))) (nmQ B z (stp B z ((stp B z ((stp B z ((stp B z e).2.2)).2.2)).2.2)) (nI 0) ((nI (vN (addPartV v))) - (nI 1)))) = false := c16
              refine r_iconst (v := nI 0) C (dx dX3_readPart 55 rfl) rfl ?_
              have e9 : ptW B z (t, s, e) v = (false, (stp B z ((stp B z ((stp B z ((stp B z e).2.2)).2.2)).2.2)), vset (addPartV v) 0 (vP v) (nmQ B z (stp B z ((stp B z e).2.2)) (nI 0) ((nI (vN (addPartV v))) - (nI 1)))) := by unfold ptW byS; simp [hP, vset_N, c4, c11, c14, c16]
              exact F.1 _ _ _ _ .boolean rfl rfl (dx dX3_readPart 56 rfl) kh15 (show some (vi (nI 0)) = some (vi (b2i (ptW B z (t, s, e) v).1)) ∧ RdAt h h15 k kv B z (ptW B z (t, s, e) v) from by rw [e9]; exact ⟨rfl, sh15, wh15, fh15⟩)
        ·
          have c11 : (hasRm (addPartV v) (nmQ B z (stp B z ((stp B z e).2.2)) (nI 0) ((nI (vN (addPartV v))) - (nI 1)))) = false := c11
          refine r_iconst (v := nI 0) C (dx dX3_readPart 28 rfl) rfl ?_
          have e9 : ptW B z (t, s, e) v = (false, (stp B z ((stp B z e).2.2)), addPartV v) := by unfold ptW byS; simp [hP, vset_N, c4, c11]
          exact F.1 _ _ _ _ .boolean rfl rfl (dx dX3_readPart 29 rfl) kh10 (show some (vi (nI 0)) = some (vi (b2i (ptW B z (t, s, e) v).1)) ∧ RdAt h h10 k kv B z (ptW B z (t, s, e) v) from by rw [e9]; exact ⟨rfl, sh10, wh10, fh10⟩)
    · exact absurd c2 (nI_nm1 (by omega))
  ·
    refine r_aload_n C (dx dX3_readPart 0 rfl) rfl ?_
    refine r_cvP (as := []) (st := []) (v := vi (-1)) C X I_X5_addPart l_X3_59 (c_X5_addPart_f hv hP) (by decide) (Nat.le_of_ble_eq_true rfl) List.prefix_rfl rfl rfl (Nat.le_of_ble_eq_true rfl) rfl (dx dX3_readPart 1 rfl) ?_
    refine r_istore_n (ls' := [(0, vr 3 k), (1, vr 5 kv), (2, vi (-1))]) C (dx dX3_readPart 2 rfl) (by decide) [1, 2, 0] rfl ?_
    refine r_iload_n C (dx dX3_readPart 3 rfl) rfl ?_
    refine r_iconst (v := -1) C (dx dX3_readPart 4 rfl) rfl ?_
    refine r_icmp_ne (tgt := 12) C (dx dX3_readPart 5 rfl) (by decide) (fun c19 => ?_) (fun c19 => ?_)
    · exact (c19 rfl).elim
    ·
      have c19 : (-1 : Int32) = -1 := c19
      refine r_iconst (v := nI 0) C (dx dX3_readPart 6 rfl) rfl ?_
      have e9 : ptW B z (t, s, e) v = (false, (t, s, e), v) := by unfold ptW; rw [if_neg hP]
      exact F.1 _ _ _ _ .boolean rfl rfl (dx dX3_readPart 7 rfl) rfl (show some (vi (nI 0)) = some (vi (b2i (ptW B z (t, s, e) v).1)) ∧ RdAt h h k kv B z (ptW B z (t, s, e) v) from by rw [e9]; exact ⟨rfl, hk, hv, Fs.rf⟩)
def oneE (B : Nat → Int32) (z : Nat) (q : Tkn) (v : Vg) (x a : Int32) : Rd :=
  if wdB 8 B z q.1 q.2.1 q.2.2 = true then (true, stp B z q.2.2, vset (addOneV v x a) 6 (vN v) (vp_nar .boolean (nI 1))) else (true, q, addOneV v x a)
def oneA (B : Nat → Int32) (z : Nat) (q : Tkn) (v : Vg) (x : Int32) : Rd :=
  if wdB 7 B z q.1 q.2.1 q.2.2 = true then
    (if nmQ B z (stp B z q.2.2) (nI 0) (nI 10) = -1 then (false, stp B z q.2.2, v) else oneE B z (stp B z (stp B z q.2.2).2.2) v x (nmQ B z (stp B z q.2.2) (nI 0) (nI 10)))
  else oneE B z q v x (nI 0)
def oneW (B : Nat → Int32) (z : Nat) (q : Tkn) (v : Vg) : Rd :=
  if vN v < 8 then
    (if nmQ B z (stp B z q.2.2) (nI 0) (nI 9) = -1 then (false, stp B z q.2.2, v) else oneA B z (stp B z (stp B z q.2.2).2.2) v (nmQ B z (stp B z q.2.2) (nI 0) (nI 9)))
  else (false, q, v)
set_option maxHeartbeats 4000000 in
theorem c_X3_readOne {l : Launch} {h : Hp} {k kv : Nat} {B : Nat → Int32} {z t s e : Nat} {v : Vg} (hk : TkAt h k B z t s e) (he : e ≤ z) (hv : VilAt h kv v) (hd : kv + 9 ≤ k ∨ k + 2 ≤ kv) : Ms l yX3_readOne cX3_readOne 5 (some .boolean) 6 [vr 3 k, vr 5 kv] h (xK h) (fun r0 h' => r0 = some (vi (b2i (oneW B z (t, s, e) v).1)) ∧ RdAt h h' k kv B z (oneW B z (t, s, e) v)) := by
  refine Ms.of (by decide) (Nat.le_of_ble_eq_true rfl) (fun G C X F => ?_)
  have C : Cx G cX3_readOne 5 RX3 := C
  show Rr G 0 [(0, vr 3 k), (1, vr 5 kv)] [] h
  have bP := hv.bP
  have bM := hv.bM
  have bN := hv.bN
  have bz := hk.1.2.2
  refine r_aload_n C (dx dX3_readOne 0 rfl) rfl ?_
  refine g_X3_67 (x := nI (vN v)) C (dx dX3_readOne 1 rfl) hv.eN ?_
  refine r_bipush (v := nI 8) C (dx dX3_readOne 2 rfl) rfl ?_
  refine rn_lt (a := vN v) (b := 8) (tgt := 11) C (by omega) (by omega) (dx dX3_readOne 3 rfl) (by decide) (fun c1 => ?_) (fun c1 => ?_)
  · first
    | (omega; done)
    | (
        have c1 : vN v < 8 := c1
        refine r_aload_n C (dx dX3_readOne 6 rfl) rfl ?_
        refine r_cv (as := []) (st := []) C X I_X3_step l_X3_28 (c_X3_step hk he) (by decide) (Nat.le_of_ble_eq_true rfl) List.prefix_rfl List.prefix_rfl rfl rfl (Nat.le_of_ble_eq_true rfl) rfl (dx dX3_readOne 7 rfl) ?_
        intro rh2 h2 hph2 kkh2
        obtain ⟨rfl, sh2, gh2⟩ := hph2
        have wh2 : VilAt h2 kv (v) := hv.fr gh2 (by omega)
        have fh2 : Fs (RT k kv) h h2 := (Fs.of gh2 (fun b h1 h2 => Or.inl (by omega)))
        have kh2 : xK h2 = xK h := kkh2
        have lh2 := stp_le (B := B) he
        refine r_aload_n C (dx dX3_readOne 8 rfl) rfl ?_
        refine r_iconst (v := nI 0) C (dx dX3_readOne 9 rfl) rfl ?_
        refine r_bipush (v := nI 9) C (dx dX3_readOne 10 rfl) rfl ?_
        refine r_cvP (as := [vi (nI 0), vi (nI 9)]) (st := []) (v := vi (nmQ B z (stp B z e) (nI 0) (nI 9))) C X I_X3_numberIn l_X3_70 (c_X3_numberIn sh2 stp_5 lh2.1 lh2.2 _ _) (by decide) (Nat.le_of_ble_eq_true rfl) (pfx_eq kh2) rfl rfl (Nat.le_of_ble_eq_true rfl) rfl (dx dX3_readOne 11 rfl) ?_
        refine r_istore_n (ls' := [(0, vr 3 k), (1, vr 5 kv), (2, vi (nmQ B z (stp B z e) (nI 0) (nI 9)))]) C (dx dX3_readOne 12 rfl) (by decide) [1, 2, 0] rfl ?_
        refine r_iload_n C (dx dX3_readOne 13 rfl) rfl ?_
        refine r_iconst (v := -1) C (dx dX3_readOne 14 rfl) rfl ?_
        refine r_icmp_ne (tgt := 30) C (dx dX3_readOne 15 rfl) (by decide) (fun c3 => ?_) (fun c3 => ?_)
        ·
          have c3 : ¬ nmQ B z (stp B z e) (nI 0) (nI 9) = -1 := c3
          refine r_aload_n C (dx dX3_readOne 18 rfl) rfl ?_
          refine r_cv (as := []) (st := []) C X I_X3_step l_X3_28 (c_X3_step sh2 lh2.2) (by decide) (Nat.le_of_ble_eq_true rfl) List.prefix_rfl (pfx_eq kh2) rfl rfl (Nat.le_of_ble_eq_true rfl) rfl (dx dX3_readOne 19 rfl) ?_
          intro rh4 h4 hph4 kkh4
          obtain ⟨rfl, sh4, gh4⟩ := hph4
          have wh4 : VilAt h4 kv (v) := wh2.fr gh4 (by omega)
          have fh4 : Fs (RT k kv) h h4 := fh2.tr (Fs.of gh4 (fun b h1 h2 => Or.inl (by omega)))
          have kh4 : xK h4 = xK h := kkh4.trans kh2
          have lh4 := stp_le (B := B) lh2.2
          refine r_iconst (v := nI 0) C (dx dX3_readOne 20 rfl) rfl ?_
          refine r_istore_n (ls' := [(0, vr 3 k), (1, vr 5 kv), (2, vi (nmQ B z (stp B z e) (nI 0) (nI 9))), (3, vi (nI 0))]) C (dx dX3_readOne 21 rfl) (by decide) [1, 2, 3, 0] rfl ?_
          refine r_aload_n C (dx dX3_readOne 22 rfl) rfl ?_
          refine r_ldcS C 7 rfl (dx dX3_readOne 23 rfl) ?_
          refine r_cvP (as := [vt 1007]) (st := []) (v := vi (b2i (wdB 7 B z (stp B z ((stp B z e).2.2)).1 (stp B z ((stp B z e).2.2)).2.1 (stp B z ((stp B z e).2.2)).2.2))) C X I_X3_isWord l_X3_37 (c_X3_isWord sh4 stp_5 lh4.1 lh4.2 (i := 7) (by omega)) (by decide) (Nat.le_of_ble_eq_true rfl) (pfx_eq kh4) rfl rfl (Nat.le_of_ble_eq_true rfl) rfl (dx dX3_readOne 24 rfl) ?_
          refine rb_eq (b := wdB 7 B z (stp B z ((stp B z e).2.2)).1 (stp B z ((stp B z e).2.2)).2.1 (stp B z ((stp B z e).2.2)).2.2) (tgt := 68) C (dx dX3_readOne 25 rfl) (by decide) (fun c5 => ?_) (fun c5 => ?_)
          ·
            have c5 : (wdB 7 B z (stp B z ((stp B z e).2.2)).1 (stp B z ((stp B z e).2.2)).2.1 (stp B z ((stp B z e).2.2)).2.2) = false := c5
            refine r_aload_n C (dx dX3_readOne 40 rfl) rfl ?_
            refine r_iload_n C (dx dX3_readOne 41 rfl) rfl ?_
            refine r_iload_n C (dx dX3_readOne 42 rfl) rfl ?_
            refine r_cv (as := [vi (nmQ B z (stp B z e) (nI 0) (nI 9)), vi (nI 0)]) (st := []) C X I_X5_addOne l_X3_101 (c_X5_addOne wh4 (nmQ B z (stp B z e) (nI 0) (nI 9)) (nI 0) (by omega)) (by decide) (Nat.le_of_ble_eq_true rfl) List.prefix_rfl (pfx_eq kh4) rfl rfl (Nat.le_of_ble_eq_true rfl) rfl (dx dX3_readOne 43 rfl) ?_
            intro rh6 h6 hph6 kkh6
            obtain ⟨rfl, wh6, gh6⟩ := hph6
            have sh6 : TkAt h6 k B z ((stp B z ((stp B z e).2.2)).1) ((stp B z ((stp B z e).2.2)).2.1) ((stp B z ((stp B z e).2.2)).2.2) := sh4.fr gh6 (by omega)
            have fh6 : Fs (RT k kv) h h6 := fh4.tr (Fs.of gh6 (fun b h1 h2 => Or.inr ⟨h1, h2⟩))
            have kh6 : xK h6 = xK h := kkh6.trans kh4
            refine r_istore (ls' := [(0, vr 3 k), (1, vr 5 kv), (2, vi (nmQ B z (stp B z e) (nI 0) (nI 9))), (3, vi (nI 0)), (4, vi (nI (vN v)))]) C (dx dX3_readOne 44 rfl) (by decide) [1, 2, 3, 4, 0] rfl ?_
            refine r_iload C (dx dX3_readOne 45 rfl) rfl ?_
            refine r_iconst (v := -1) C (dx dX3_readOne 46 rfl) rfl ?_
            refine r_icmp_eq (tgt := 103) C (dx dX3_readOne 47 rfl) (by decide) (fun c7 => ?_) (fun c7 => ?_)
            · exact absurd c7 (nI_nm1 (by omega))
            ·
              have c7 : ¬ nI (vN v) = -1 := c7
              refine r_aload_n C (dx dX3_readOne 48 rfl) rfl ?_
              refine r_ldcS C 8 rfl (dx dX3_readOne 49 rfl) ?_
              refine r_cvP (as := [vt 1008]) (st := []) (v := vi (b2i (wdB 8 B z (stp B z ((stp B z e).2.2)).1 (stp B z ((stp B z e).2.2)).2.1 (stp B z ((stp B z e).2.2)).2.2))) C X I_X3_isWord l_X3_37 (c_X3_isWord sh6 stp_5 lh4.1 lh4.2 (i := 8) (by omega)) (by decide) (Nat.le_of_ble_eq_true rfl) (pfx_eq kh6) rfl rfl (Nat.le_of_ble_eq_true rfl) rfl (dx dX3_readOne 50 rfl) ?_
              refine rb_eq (b := wdB 8 B z (stp B z ((stp B z e).2.2)).1 (stp B z ((stp B z e).2.2)).2.1 (stp B z ((stp B z e).2.2)).2.2) (tgt := 103) C (dx dX3_readOne 51 rfl) (by decide) (fun c8 => ?_) (fun c8 => ?_)
              ·
                have c8 : (wdB 8 B z (stp B z ((stp B z e).2.2)).1 (stp B z ((stp B z e).2.2)).2.1 (stp B z ((stp B z e).2.2)).2.2) = false := c8
                refine r_iload C (dx dX3_readOne 59 rfl) rfl ?_
                refine r_iconst (v := -1) C (dx dX3_readOne 60 rfl) rfl ?_
                refine r_icmp_eq (tgt := 113) C (dx dX3_readOne 61 rfl) (by decide) (fun c9 => ?_) (fun c9 => ?_)
                · exact absurd c9 (nI_nm1 (by omega))
                ·
                  have c9 : ¬ nI (vN v) = -1 := c9
                  refine r_iconst (v := nI 1) C (dx dX3_readOne 62 rfl) rfl ?_
                  refine r_goto (tgt := 114) C (dx dX3_readOne 63 rfl) (by decide) ?_
                  have e9 : oneW B z (t, s, e) v = (true, (stp B z ((stp B z e).2.2)), addOneV v (nmQ B z (stp B z e) (nI 0) (nI 9)) (nI 0)) := by unfold oneW oneA oneE; simp [c1, c3, c5, c7, c8, c9]
                  exact F.1 _ _ _ _ .boolean rfl rfl (dx dX3_readOne 65 rfl) kh6 (show some (vi (nI 1)) = some (vi (b2i (oneW B z (t, s, e) v).1)) ∧ RdAt h h6 k kv B z (oneW B z (t, s, e) v) from by rw [e9]; exact ⟨rfl, sh6, wh6, fh6⟩)
              ·
                have c8 : (wdB 8 B z (stp B z ((stp B z e).2.2)).1 (stp B z ((stp B z e).2.2)).2.1 (stp B z ((stp B z e).2.2)).2.2) = true := c8
                refine r_aload_n C (dx dX3_readOne 52 rfl) rfl ?_
                refine g_X3_106 C (dx dX3_readOne 53 rfl) ?_
                refine r_iload C (dx dX3_readOne 54 rfl) rfl ?_
                refine r_iconst (v := nI 1) C (dx dX3_readOne 55 rfl) rfl ?_
                refine r_zast (j := vN v) C rfl rfl (by decide) rfl (by omega) (dx dX3_readOne 56 rfl) ?_
                have wh10 : VilAt (sI h6 (kv + 7) (vN v) (vp_nar .boolean (nI 1))) kv (vset (addOneV v (nmQ B z (stp B z e) (nI 0) (nI 9)) (nI 0)) 6 (vN v) (vp_nar .boolean (nI 1))) := wh6.s6 rfl
                have sh10 : TkAt (sI h6 (kv + 7) (vN v) (vp_nar .boolean (nI 1))) k B z ((stp B z ((stp B z e).2.2)).1) ((stp B z ((stp B z e).2.2)).2.1) ((stp B z ((stp B z e).2.2)).2.2) := sh6.fr (Fr.sI (lo := kv) (hi := kv + 9) (by omega) (by omega)) (by omega)
                have fh10 : Fs (RT k kv) h (sI h6 (kv + 7) (vN v) (vp_nar .boolean (nI 1))) := fh6.tr (Fs.of (Fr.sI (lo := kv) (hi := kv + 9) (by omega) (by omega)) (fun b h1 h2 => Or.inr ⟨h1, h2⟩))
                have kh10 : xK (sI h6 (kv + 7) (vN v) (vp_nar .boolean (nI 1))) = xK h := kh6
                generalize sI h6 (kv + 7) (vN v) (vp_nar .boolean (nI 1)) = h10 at wh10 sh10 fh10 kh10 ⊢
                refine r_aload_n C (dx dX3_readOne 57 rfl) rfl ?_
                refine r_cv (as := []) (st := []) C X I_X3_step l_X3_28 (c_X3_step sh10 lh4.2) (by decide) (Nat.le_of_ble_eq_true rfl) List.prefix_rfl (pfx_eq kh10) rfl rfl (Nat.le_of_ble_eq_true rfl) rfl (dx dX3_readOne 58 rfl) ?_
                intro rh11 h11 hph11 kkh11
                obtain ⟨rfl, sh11, gh11⟩ := hph11
                have wh11 : VilAt h11 kv (vset (addOneV v (nmQ B z (stp B z e) (nI 0) (nI 9)) (nI 0)) 6 (vN v) (vp_nar .boolean (nI 1))) := wh10.fr gh11 (by omega)
                have fh11 : Fs (RT k kv) h h11 := fh10.tr (Fs.of gh11 (fun b h1 h2 => Or.inl (by omega)))
                have kh11 : xK h11 = xK h := kkh11.trans kh10
                have lh11 := stp_le (B := B) lh4.2
                refine r_iload C (dx dX3_readOne 59 rfl) rfl ?_
                refine r_iconst (v := -1) C (dx dX3_readOne 60 rfl) rfl ?_
                refine r_icmp_eq (tgt := 113) C (dx dX3_readOne 61 rfl) (by decide) (fun c12 => ?_) (fun c12 => ?_)
                · exact absurd c12 (nI_nm1 (by omega))
                ·
                  have c12 : ¬ nI (vN v) = -1 := c12
                  refine r_iconst (v := nI 1) C (dx dX3_readOne 62 rfl) rfl ?_
                  refine r_goto (tgt := 114) C (dx dX3_readOne 63 rfl) (by decide) ?_
                  have e9 : oneW B z (t, s, e) v = (true, (stp B z ((stp B z ((stp B z e).2.2)).2.2)), vset (addOneV v (nmQ B z (stp B z e) (nI 0) (nI 9)) (nI 0)) 6 (vN v) (vp_nar .boolean (nI 1))) := by unfold oneW oneA oneE; simp [c1, c3, c5, c7, c8, c12]
                  exact F.1 _ _ _ _ .boolean rfl rfl (dx dX3_readOne 65 rfl) kh11 (show some (vi (nI 1)) = some (vi (b2i (oneW B z (t, s, e) v).1)) ∧ RdAt h h11 k kv B z (oneW B z (t, s, e) v) from by rw [e9]; exact ⟨rfl, sh11, wh11, fh11⟩)
          ·
            have c5 : (wdB 7 B z (stp B z ((stp B z e).2.2)).1 (stp B z ((stp B z e).2.2)).2.1 (stp B z ((stp B z e).2.2)).2.2) = true := c5
            refine r_aload_n C (dx dX3_readOne 26 rfl) rfl ?_
            refine r_cv (as := []) (st := []) C X I_X3_step l_X3_28 (c_X3_step sh4 lh4.2) (by decide) (Nat.le_of_ble_eq_true rfl) List.prefix_rfl (pfx_eq kh4) rfl rfl (Nat.le_of_ble_eq_true rfl) rfl (dx dX3_readOne 27 rfl) ?_
            intro rh13 h13 hph13 kkh13
            obtain ⟨rfl, sh13, gh13⟩ := hph13
            have wh13 : VilAt h13 kv (v) := wh4.fr gh13 (by omega)
            have fh13 : Fs (RT k kv) h h13 := fh4.tr (Fs.of gh13 (fun b h1 h2 => Or.inl (by omega)))
            have kh13 : xK h13 = xK h := kkh13.trans kh4
            have lh13 := stp_le (B := B) lh4.2
            refine r_aload_n C (dx dX3_readOne 28 rfl) rfl ?_
            refine r_iconst (v := nI 0) C (dx dX3_readOne 29 rfl) rfl ?_
            refine r_bipush (v := nI 10) C (dx dX3_readOne 30 rfl) rfl ?_
            refine r_cvP (as := [vi (nI 0), vi (nI 10)]) (st := []) (v := vi (nmQ B z (stp B z ((stp B z ((stp B z e).2.2)).2.2)) (nI 0) (nI 10))) C X I_X3_numberIn l_X3_70 (c_X3_numberIn sh13 stp_5 lh13.1 lh13.2 _ _) (by decide) (Nat.le_of_ble_eq_true rfl) (pfx_eq kh13) rfl rfl (Nat.le_of_ble_eq_true rfl) rfl (dx dX3_readOne 31 rfl) ?_
            refine r_istore_n (ls' := [(0, vr 3 k), (1, vr 5 kv), (2, vi (nmQ B z (stp B z e) (nI 0) (nI 9))), (3, vi (nmQ B z (stp B z ((stp B z ((stp B z e).2.2)).2.2)) (nI 0) (nI 10)))]) C (dx dX3_readOne 32 rfl) (by decide) [1, 2, 3, 0] rfl ?_
            refine r_iload_n C (dx dX3_readOne 33 rfl) rfl ?_
            refine r_iconst (v := -1) C (dx dX3_readOne 34 rfl) rfl ?_
            refine r_icmp_ne (tgt := 64) C (dx dX3_readOne 35 rfl) (by decide) (fun c14 => ?_) (fun c14 => ?_)
            ·
              have c14 : ¬ nmQ B z (stp B z ((stp B z ((stp B z e).2.2)).2.2)) (nI 0) (nI 10) = -1 := c14
              refine r_aload_n C (dx dX3_readOne 38 rfl) rfl ?_
              refine r_cv (as := []) (st := []) C X I_X3_step l_X3_28 (c_X3_step sh13 lh13.2) (by decide) (Nat.le_of_ble_eq_true rfl) List.prefix_rfl (pfx_eq kh13) rfl rfl (Nat.le_of_ble_eq_true rfl) rfl (dx dX3_readOne 39 rfl) ?_
              intro rh15 h15 hph15 kkh15
              obtain ⟨rfl, sh15, gh15⟩ := hph15
              have wh15 : VilAt h15 kv (v) := wh13.fr gh15 (by omega)
              have fh15 : Fs (RT k kv) h h15 := fh13.tr (Fs.of gh15 (fun b h1 h2 => Or.inl (by omega)))
              have kh15 : xK h15 = xK h := kkh15.trans kh13
              have lh15 := stp_le (B := B) lh13.2
              refine r_aload_n C (dx dX3_readOne 40 rfl) rfl ?_
              refine r_iload_n C (dx dX3_readOne 41 rfl) rfl ?_
              refine r_iload_n C (dx dX3_readOne 42 rfl) rfl ?_
              refine r_cv (as := [vi (nmQ B z (stp B z e) (nI 0) (nI 9)), vi (nmQ B z (stp B z ((stp B z ((stp B z e).2.2)).2.2)) (nI 0) (nI 10))]) (st := []) C X I_X5_addOne l_X3_101 (c_X5_addOne wh15 (nmQ B z (stp B z e) (nI 0) (nI 9)) (nmQ B z (stp B z ((stp B z ((stp B z e).2.2)).2.2)) (nI 0) (nI 10)) (by omega)) (by decide) (Nat.le_of_ble_eq_true rfl) List.prefix_rfl (pfx_eq kh15) rfl rfl (Nat.le_of_ble_eq_true rfl) rfl (dx dX3_readOne 43 rfl) ?_
              intro rh16 h16 hph16 kkh16
              obtain ⟨rfl, wh16, gh16⟩ := hph16
              have sh16 : TkAt h16 k B z ((stp B z ((stp B z ((stp B z ((stp B z e).2.2)).2.2)).2.2)).1) ((stp B z ((stp B z ((stp B z ((stp B z e).2.2)).2.2)).2.2)).2.1) ((stp B z ((stp B z ((stp B z ((stp B z e).2.2)).2.2)).2.2)).2.2) := sh15.fr gh16 (by omega)
              have fh16 : Fs (RT k kv) h h16 := fh15.tr (Fs.of gh16 (fun b h1 h2 => Or.inr ⟨h1, h2⟩))
              have kh16 : xK h16 = xK h := kkh16.trans kh15
              refine r_istore (ls' := [(0, vr 3 k), (1, vr 5 kv), (2, vi (nmQ B z (stp B z e) (nI 0) (nI 9))), (3, vi (nmQ B z (stp B z ((stp B z ((stp B z e).2.2)).2.2)) (nI 0) (nI 10))), (4, vi (nI (vN v)))]) C (dx dX3_readOne 44 rfl) (by decide) [1, 2, 3, 4, 0] rfl ?_
              refine r_iload C (dx dX3_readOne 45 rfl) rfl ?_
              refine r_iconst (v := -1) C (dx dX3_readOne 46 rfl) rfl ?_
              refine r_icmp_eq (tgt := 103) C (dx dX3_readOne 47 rfl) (by decide) (fun c17 => ?_) (fun c17 => ?_)
              · exact absurd c17 (nI_nm1 (by omega))
              ·
                have c17 : ¬ nI (vN v) = -1 := c17
                refine r_aload_n C (dx dX3_readOne 48 rfl) rfl ?_
                refine r_ldcS C 8 rfl (dx dX3_readOne 49 rfl) ?_
                refine r_cvP (as := [vt 1008]) (st := []) (v := vi (b2i (wdB 8 B z (stp B z ((stp B z ((stp B z ((stp B z e).2.2)).2.2)).2.2)).1 (stp B z ((stp B z ((stp B z ((stp B z e).2.2)).2.2)).2.2)).2.1 (stp B z ((stp B z ((stp B z ((stp B z e).2.2)).2.2)).2.2)).2.2))) C X I_X3_isWord l_X3_37 (c_X3_isWord sh16 stp_5 lh15.1 lh15.2 (i := 8) (by omega)) (by decide) (Nat.le_of_ble_eq_true rfl) (pfx_eq kh16) rfl rfl (Nat.le_of_ble_eq_true rfl) rfl (dx dX3_readOne 50 rfl) ?_
                refine rb_eq (b := wdB 8 B z (stp B z ((stp B z ((stp B z ((stp B z e).2.2)).2.2)).2.2)).1 (stp B z ((stp B z ((stp B z ((stp B z e).2.2)).2.2)).2.2)).2.1 (stp B z ((stp B z ((stp B z ((stp B z e).2.2)).2.2)).2.2)).2.2) (tgt := 103) C (dx dX3_readOne 51 rfl) (by decide) (fun c18 => ?_) (fun c18 => ?_)
                ·
                  have c18 : (wdB 8 B z (stp B z ((stp B z ((stp B z ((stp B z e).2.2)).2.2)).2.2)).1 (stp B z ((stp B z ((stp B z ((stp B z e).2.2)).2.2)).2.2)).2.1 (stp B z ((stp B z ((stp B z ((stp B z e).2.2)).2.2)).2.2)).2.2) = false := c18
                  refine r_iload C (dx dX3_readOne 59 rfl) rfl ?_
                  refine r_iconst (v := -1) C (dx dX3_readOne 60 rfl) rfl ?_
                  refine r_icmp_eq (tgt := 113) C (dx dX3_readOne 61 rfl) (by decide) (fun c19 => ?_) (fun c19 => ?_)
                  · exact absurd c19 (nI_nm1 (by omega))
                  ·
                    have c19 : ¬ nI (vN v) = -1 := c19
                    refine r_iconst (v := nI 1) C (dx dX3_readOne 62 rfl) rfl ?_
                    refine r_goto (tgt := 114) C (dx dX3_readOne 63 rfl) (by decide) ?_
                    have e9 : oneW B z (t, s, e) v = (true, (stp B z ((stp B z ((stp B z ((stp B z e).2.2)).2.2)).2.2)), addOneV v (nmQ B z (stp B z e) (nI 0) (nI 9)) (nmQ B z (stp B z ((stp B z ((stp B z e).2.2)).2.2)) (nI 0) (nI 10))) := by unfold oneW oneA oneE; simp [c1, c3, c5, c14, c17, c18, c19]
                    exact F.1 _ _ _ _ .boolean rfl rfl (dx dX3_readOne 65 rfl) kh16 (show some (vi (nI 1)) = some (vi (b2i (oneW B z (t, s, e) v).1)) ∧ RdAt h h16 k kv B z (oneW B z (t, s, e) v) from by rw [e9]; exact ⟨rfl, sh16, wh16, fh16⟩)
                ·
                  have c18 : (wdB 8 B z (stp B z ((stp B z ((stp B z ((stp B z e).2.2)).2.2)).2.2)).1 (stp B z ((stp B z ((stp B z ((stp B z e).2.2)).2.2)).2.2)).2.1 (stp B z ((stp B z ((stp B z ((stp B z e).2.2)).2.2)).2.2)).2.2) = true := c18
                  refine r_aload_n C (dx dX3_readOne 52 rfl) rfl ?_
                  refine g_X3_106 C (dx dX3_readOne 53 rfl) ?_
                  refine r_iload C (dx dX3_readOne 54 rfl) rfl ?_
                  refine r_iconst (v := nI 1) C (dx dX3_readOne 55 rfl) rfl ?_
                  refine r_zast (j := vN v) C rfl rfl (by decide) rfl (by omega) (dx dX3_readOne 56 rfl) ?_
                  have wh20 : VilAt (sI h16 (kv + 7) (vN v) (vp_nar .boolean (nI 1))) kv (vset (addOneV v (nmQ B z (stp B z e) (nI 0) (nI 9)) (nmQ B z (stp B z ((stp B z ((stp B z e).2.2)).2.2)) (nI 0) (nI 10))) 6 (vN v) (vp_nar .boolean (nI 1))) := wh16.s6 rfl
                  have sh20 : TkAt (sI h16 (kv + 7) (vN v) (vp_nar .boolean (nI 1))) k B z ((stp B z ((stp B z ((stp B z ((stp B z e).2.2)).2.2)).2.2)).1) ((stp B z ((stp B z ((stp B z ((stp B z e).2.2)).2.2)).2.2)).2.1) ((stp B z ((stp B z ((stp B z ((stp B z e).2.2)).2.2)).2.2)).2.2) := sh16.fr (Fr.sI (lo := kv) (hi := kv + 9) (by omega) (by omega)) (by omega)
                  have fh20 : Fs (RT k kv) h (sI h16 (kv + 7) (vN v) (vp_nar .boolean (nI 1))) := fh16.tr (Fs.of (Fr.sI (lo := kv) (hi := kv + 9) (by omega) (by omega)) (fun b h1 h2 => Or.inr ⟨h1, h2⟩))
                  have kh20 : xK (sI h16 (kv + 7) (vN v) (vp_nar .boolean (nI 1))) = xK h := kh16
                  generalize sI h16 (kv + 7) (vN v) (vp_nar .boolean (nI 1)) = h20 at wh20 sh20 fh20 kh20 ⊢
                  refine r_aload_n C (dx dX3_readOne 57 rfl) rfl ?_
                  refine r_cv (as := []) (st := []) C X I_X3_step l_X3_28 (c_X3_step sh20 lh15.2) (by decide) (Nat.le_of_ble_eq_true rfl) List.prefix_rfl (pfx_eq kh20) rfl rfl (Nat.le_of_ble_eq_true rfl) rfl (dx dX3_readOne 58 rfl) ?_
                  intro rh21 h21 hph21 kkh21
                  obtain ⟨rfl, sh21, gh21⟩ := hph21
                  have wh21 : VilAt h21 kv (vset (addOneV v (nmQ B z (stp B z e) (nI 0) (nI 9)) (nmQ B z (stp B z ((stp B z ((stp B z e).2.2)).2.2)) (nI 0) (nI 10))) 6 (vN v) (vp_nar .boolean (nI 1))) := wh20.fr gh21 (by omega)
                  have fh21 : Fs (RT k kv) h h21 := fh20.tr (Fs.of gh21 (fun b h1 h2 => Or.inl (by omega)))
                  have kh21 : xK h21 = xK h := kkh21.trans kh20
                  have lh21 := stp_le (B := B) lh15.2
                  refine r_iload C (dx dX3_readOne 59 rfl) rfl ?_
                  refine r_iconst (v := -1) C (dx dX3_readOne 60 rfl) rfl ?_
                  refine r_icmp_eq (tgt := 113) C (dx dX3_readOne 61 rfl) (by decide) (fun c22 => ?_) (fun c22 => ?_)
                  · exact absurd c22 (nI_nm1 (by omega))
                  ·
                    have c22 : ¬ nI (vN v) = -1 := c22
                    refine r_iconst (v := nI 1) C (dx dX3_readOne 62 rfl) rfl ?_
                    refine r_goto (tgt := 114) C (dx dX3_readOne 63 rfl) (by decide) ?_
                    have e9 : oneW B z (t, s, e) v = (true, (stp B z ((stp B z ((stp B z ((stp B z ((stp B z e).2.2)).2.2)).2.2)).2.2)), vset (addOneV v (nmQ B z (stp B z e) (nI 0) (nI 9)) (nmQ B z (stp B z ((stp B z ((stp B z e).2.2)).2.2)) (nI 0) (nI 10))) 6 (vN v) (vp_nar .boolean (nI 1))) := by unfold oneW oneA oneE; simp [c1, c3, c5, c14, c17, c18, c22]
                    exact F.1 _ _ _ _ .boolean rfl rfl (dx dX3_readOne 65 rfl) kh21 (show some (vi (nI 1)) = some (vi (b2i (oneW B z (t, s, e) v).1)) ∧ RdAt h h21 k kv B z (oneW B z (t, s, e) v) from by rw [e9]; exact ⟨rfl, sh21, wh21, fh21⟩)
            ·
              have c14 : nmQ B z (stp B z ((stp B z ((stp B z e).2.2)).2.2)) (nI 0) (nI 10) = -1 := c14
              refine r_iconst (v := nI 0) C (dx dX3_readOne 36 rfl) rfl ?_
              have e9 : oneW B z (t, s, e) v = (false, (stp B z ((stp B z ((stp B z e).2.2)).2.2)), v) := by unfold oneW oneA oneE; simp [c1, c3, c5, c14]
              exact F.1 _ _ _ _ .boolean rfl rfl (dx dX3_readOne 37 rfl) kh13 (show some (vi (nI 0)) = some (vi (b2i (oneW B z (t, s, e) v).1)) ∧ RdAt h h13 k kv B z (oneW B z (t, s, e) v) from by rw [e9]; exact ⟨rfl, sh13, wh13, fh13⟩)
        ·
          have c3 : nmQ B z (stp B z e) (nI 0) (nI 9) = -1 := c3
          refine r_iconst (v := nI 0) C (dx dX3_readOne 16 rfl) rfl ?_
          have e9 : oneW B z (t, s, e) v = (false, (stp B z e), v) := by unfold oneW oneA oneE; simp [c1, c3]
          exact F.1 _ _ _ _ .boolean rfl rfl (dx dX3_readOne 17 rfl) kh2 (show some (vi (nI 0)) = some (vi (b2i (oneW B z (t, s, e) v).1)) ∧ RdAt h h2 k kv B z (oneW B z (t, s, e) v) from by rw [e9]; exact ⟨rfl, sh2, wh2, fh2⟩))
  · first
    | (omega; done)
    | (
        have c1 : 8 ≤ vN v := c1
        refine r_iconst (v := nI 0) C (dx dX3_readOne 4 rfl) rfl ?_
        have e9 : oneW B z (t, s, e) v = (false, (t, s, e), v) := by unfold oneW; rw [if_neg (by omega)]
        exact F.1 _ _ _ _ .boolean rfl rfl (dx dX3_readOne 5 rfl) rfl (show some (vi (nI 0)) = some (vi (b2i (oneW B z (t, s, e) v).1)) ∧ RdAt h h k kv B z (oneW B z (t, s, e) v) from by rw [e9]; exact ⟨rfl, hk, hv, Fs.rf⟩))
/-- the parts that a machine needs, as they are told -/
def ndR (B : Nat → Int32) (z : Nat) (v : Vg) : Nat → Tkn → Int32 → Bool × Tkn × Int32
  | 0, q, nd => (true, q, nd)
  | n + 1, q, nd => if nmQ B z (stp B z q.2.2) (nI 0) (nI (vP v) - nI 1) = -1 then (false, stp B z q.2.2, nd)
    else if wdB 5 B z (stp B z (stp B z q.2.2).2.2).1 (stp B z (stp B z q.2.2).2.2).2.1 (stp B z (stp B z q.2.2).2.2).2.2 = true then ndR B z v n (stp B z (stp B z q.2.2).2.2) (nd ||| (nI 1 <<< (nmQ B z (stp B z q.2.2) (nI 0) (nI (vP v) - nI 1) &&& 31)))
    else (true, stp B z (stp B z q.2.2).2.2, nd ||| (nI 1 <<< (nmQ B z (stp B z q.2.2) (nI 0) (nI (vP v) - nI 1) &&& 31)))
def mcR (B : Nat → Int32) (z e : Nat) (v : Vg) : Bool × Tkn × Int32 := ndR B z v 250 (stp B z (stp B z e).2.2) (nI 0)
def mcW (B : Nat → Int32) (z : Nat) (q : Tkn) (v : Vg) : Rd :=
  if vM v < 6 then
    (if nmQ B z (stp B z q.2.2) (nI 1) (nI 99) = -1 then (false, stp B z q.2.2, v)
     else if wdB 4 B z (stp B z (stp B z q.2.2).2.2).1 (stp B z (stp B z q.2.2).2.2).2.1 (stp B z (stp B z q.2.2).2.2).2.2 = true then
       (if (mcR B z q.2.2 v).1 = true then (true, (mcR B z q.2.2 v).2.1, addMacV v (mcR B z q.2.2 v).2.2 (nmQ B z (stp B z q.2.2) (nI 1) (nI 99))) else (false, (mcR B z q.2.2 v).2.1, v))
     else (false, stp B z (stp B z q.2.2).2.2, v))
  else (false, q, v)
set_option maxHeartbeats 4000000 in
theorem c_X3_readMachine {l : Launch} {h : Hp} {k kv : Nat} {B : Nat → Int32} {z t s e : Nat} {v : Vg} (hk : TkAt h k B z t s e) (he : e ≤ z) (hv : VilAt h kv v) (hd : kv + 9 ≤ k ∨ k + 2 ≤ kv) : Ms l yX3_readMachine cX3_readMachine 7 (some .boolean) 6 [vr 3 k, vr 5 kv] h (xK h) (fun r0 h' => r0 = some (vi (b2i (mcW B z (t, s, e) v).1)) ∧ RdAt h h' k kv B z (mcW B z (t, s, e) v)) := by
  refine Ms.of (by decide) (Nat.le_of_ble_eq_true rfl) (fun G C X F => ?_)
  have C : Cx G cX3_readMachine 7 RX3 := C
  show Rr G 0 [(0, vr 3 k), (1, vr 5 kv)] [] h
  have bP := hv.bP
  have bM := hv.bM
  have bN := hv.bN
  have bz := hk.1.2.2
  refine r_aload_n C (dx dX3_readMachine 0 rfl) rfl ?_
  refine g_X3_86 (x := nI (vM v)) C (dx dX3_readMachine 1 rfl) hv.eM ?_
  refine r_bipush (v := nI 6) C (dx dX3_readMachine 2 rfl) rfl ?_
  refine rn_lt (a := vM v) (b := 6) (tgt := 11) C (by omega) (by omega) (dx dX3_readMachine 3 rfl) (by decide) (fun c1 => ?_) (fun c1 => ?_)
  · first
    | (omega; done)
    | (
        have c1 : vM v < 6 := c1
        refine r_aload_n C (dx dX3_readMachine 6 rfl) rfl ?_
        refine r_cv (as := []) (st := []) C X I_X3_step l_X3_28 (c_X3_step hk he) (by decide) (Nat.le_of_ble_eq_true rfl) List.prefix_rfl List.prefix_rfl rfl rfl (Nat.le_of_ble_eq_true rfl) rfl (dx dX3_readMachine 7 rfl) ?_
        intro rh2 h2 hph2 kkh2
        obtain ⟨rfl, sh2, gh2⟩ := hph2
        have wh2 : VilAt h2 kv (v) := hv.fr gh2 (by omega)
        have fh2 : Fs (RT k kv) h h2 := (Fs.of gh2 (fun b h1 h2 => Or.inl (by omega)))
        have kh2 : xK h2 = xK h := kkh2
        have lh2 := stp_le (B := B) he
        refine r_aload_n C (dx dX3_readMachine 8 rfl) rfl ?_
        refine r_iconst (v := nI 1) C (dx dX3_readMachine 9 rfl) rfl ?_
        refine r_bipush (v := nI 99) C (dx dX3_readMachine 10 rfl) rfl ?_
        refine r_cvP (as := [vi (nI 1), vi (nI 99)]) (st := []) (v := vi (nmQ B z (stp B z e) (nI 1) (nI 99))) C X I_X3_numberIn l_X3_70 (c_X3_numberIn sh2 stp_5 lh2.1 lh2.2 _ _) (by decide) (Nat.le_of_ble_eq_true rfl) (pfx_eq kh2) rfl rfl (Nat.le_of_ble_eq_true rfl) rfl (dx dX3_readMachine 11 rfl) ?_
        refine r_istore_n (ls' := [(0, vr 3 k), (1, vr 5 kv), (2, vi (nmQ B z (stp B z e) (nI 1) (nI 99)))]) C (dx dX3_readMachine 12 rfl) (by decide) [1, 2, 0] rfl ?_
        refine r_iload_n C (dx dX3_readMachine 13 rfl) rfl ?_
        refine r_iconst (v := -1) C (dx dX3_readMachine 14 rfl) rfl ?_
        refine r_icmp_ne (tgt := 30) C (dx dX3_readMachine 15 rfl) (by decide) (fun c3 => ?_) (fun c3 => ?_)
        ·
          have c3 : ¬ nmQ B z (stp B z e) (nI 1) (nI 99) = -1 := c3
          refine r_aload_n C (dx dX3_readMachine 18 rfl) rfl ?_
          refine r_cv (as := []) (st := []) C X I_X3_step l_X3_28 (c_X3_step sh2 lh2.2) (by decide) (Nat.le_of_ble_eq_true rfl) List.prefix_rfl (pfx_eq kh2) rfl rfl (Nat.le_of_ble_eq_true rfl) rfl (dx dX3_readMachine 19 rfl) ?_
          intro rh4 h4 hph4 kkh4
          obtain ⟨rfl, sh4, gh4⟩ := hph4
          have wh4 : VilAt h4 kv (v) := wh2.fr gh4 (by omega)
          have fh4 : Fs (RT k kv) h h4 := fh2.tr (Fs.of gh4 (fun b h1 h2 => Or.inl (by omega)))
          have kh4 : xK h4 = xK h := kkh4.trans kh2
          have lh4 := stp_le (B := B) lh2.2
          refine r_aload_n C (dx dX3_readMachine 20 rfl) rfl ?_
          refine r_ldcS C 4 rfl (dx dX3_readMachine 21 rfl) ?_
          refine r_cvP (as := [vt 1004]) (st := []) (v := vi (b2i (wdB 4 B z (stp B z ((stp B z e).2.2)).1 (stp B z ((stp B z e).2.2)).2.1 (stp B z ((stp B z e).2.2)).2.2))) C X I_X3_isWord l_X3_37 (c_X3_isWord sh4 stp_5 lh4.1 lh4.2 (i := 4) (by omega)) (by decide) (Nat.le_of_ble_eq_true rfl) (pfx_eq kh4) rfl rfl (Nat.le_of_ble_eq_true rfl) rfl (dx dX3_readMachine 22 rfl) ?_
          refine rb_ne (b := wdB 4 B z (stp B z ((stp B z e).2.2)).1 (stp B z ((stp B z e).2.2)).2.1 (stp B z ((stp B z e).2.2)).2.2) (tgt := 45) C (dx dX3_readMachine 23 rfl) (by decide) (fun c5 => ?_) (fun c5 => ?_)
          ·
            have c5 : (wdB 4 B z (stp B z ((stp B z e).2.2)).1 (stp B z ((stp B z e).2.2)).2.1 (stp B z ((stp B z e).2.2)).2.2) = true := c5
            refine r_iconst (v := nI 0) C (dx dX3_readMachine 26 rfl) rfl ?_
            refine r_istore_n (ls' := [(0, vr 3 k), (1, vr 5 kv), (2, vi (nmQ B z (stp B z e) (nI 1) (nI 99))), (3, vi (nI 0))]) C (dx dX3_readMachine 27 rfl) (by decide) [1, 2, 3, 0] rfl ?_
            refine r_iconst (v := nI 1) C (dx dX3_readMachine 28 rfl) rfl ?_
            refine r_istore (ls' := [(0, vr 3 k), (1, vr 5 kv), (2, vi (nmQ B z (stp B z e) (nI 1) (nI 99))), (3, vi (nI 0)), (4, vi (nI 1))]) C (dx dX3_readMachine 29 rfl) (by decide) [1, 2, 3, 4, 0] rfl ?_
            refine r_iconst (v := nI 0) C (dx dX3_readMachine 30 rfl) rfl ?_
            refine r_istore (ls' := [(0, vr 3 k), (1, vr 5 kv), (2, vi (nmQ B z (stp B z e) (nI 1) (nI 99))), (3, vi (nI 0)), (4, vi (nI 1)), (5, vi (nI 0))]) C (dx dX3_readMachine 31 rfl) (by decide) [1, 2, 3, 4, 5, 0] rfl ?_
            refine loopU (Φ := fun p => ∀ (h9 : Hp) (q : Tkn) (nd : Int32), TkAt h9 k B z q.1 q.2.1 q.2.2 → q.2.1 ≤ q.2.2 ∧ q.2.2 ≤ z → q.1 < 5 → VilAt h9 kv v → Fs (RT k kv) h h9 → xK h9 = xK h → ndR B z v 250 (stp B z ((stp B z e).2.2)) (nI 0) = ndR B z v (250 - p) q nd → Rr G 53 [(0, vr 3 k), (1, vr 5 kv), (2, vi (nmQ B z (stp B z e) (nI 1) (nI 99))), (3, vi nd), (4, vi (nI 1)), (5, vi (nI p))] [] h9) (N := 250) ?_ ?_ 0 (Nat.zero_le _) _ (stp B z ((stp B z e).2.2)) (nI 0) sh4 lh4 stp_5 wh4 fh4 kh4 rfl
            ·
              intro h6 q nd sh6 lh6 th6 wh6 fh6 kh6 hI
              have hJ : mcR B z e v = (true, q, nd) := by unfold mcR; rw [hI]; rfl
              refine r_iload C (dx dX3_readMachine 32 rfl) rfl ?_
              refine r_sipush (v := nI 250) C (dx dX3_readMachine 33 rfl) rfl ?_
              refine rn_ge (a := 250) (b := 250) (tgt := 116) C (by omega) (by omega) (dx dX3_readMachine 34 rfl) (by decide) (fun c7 => ?_) (fun c7 => ?_)
              · first
                | (omega; done)
                | (
                    have c7 : 250 ≤ 250 := c7
                    refine r_aload_n C (dx dX3_readMachine 66 rfl) rfl ?_
                    refine r_iload_n C (dx dX3_readMachine 67 rfl) rfl ?_
                    refine r_iload_n C (dx dX3_readMachine 68 rfl) rfl ?_
                    refine r_cv (as := [vi nd, vi (nmQ B z (stp B z e) (nI 1) (nI 99))]) (st := []) C X I_X5_addMachine l_X3_96 (c_X5_addMachine wh6 nd (nmQ B z (stp B z e) (nI 1) (nI 99)) (by omega)) (by decide) (Nat.le_of_ble_eq_true rfl) List.prefix_rfl (pfx_eq kh6) rfl rfl (Nat.le_of_ble_eq_true rfl) rfl (dx dX3_readMachine 69 rfl) ?_
                    intro rh8 h8 hph8 kkh8
                    obtain ⟨rfl, wh8, gh8⟩ := hph8
                    have sh8 : TkAt h8 k B z q.1 q.2.1 q.2.2 := sh6.fr gh8 (by omega)
                    have fh8 : Fs (RT k kv) h h8 := fh6.tr (Fs.of gh8 (fun b h1 h2 => Or.inr ⟨h1, h2⟩))
                    have kh8 : xK h8 = xK h := kkh8.trans kh6
                    refine r_popI C (dx dX3_readMachine 70 rfl) ?_
                    refine r_iconst (v := nI 1) C (dx dX3_readMachine 71 rfl) rfl ?_
                    have e9 : mcW B z (t, s, e) v = (true, q, addMacV v nd (nmQ B z (stp B z e) (nI 1) (nI 99))) := by unfold mcW; rw [if_pos c1, if_neg c3, if_pos c5]; simp only [hJ]; rfl
                    exact F.1 _ _ _ _ .boolean rfl rfl (dx dX3_readMachine 72 rfl) kh8 (show some (vi (nI 1)) = some (vi (b2i (mcW B z (t, s, e) v).1)) ∧ RdAt h h8 k kv B z (mcW B z (t, s, e) v) from by rw [e9]; exact ⟨rfl, sh8, wh8, fh8⟩))
              · first
                | (omega; done)
            ·
              intro p hp ih h13 q nd sh13 lh13 th13 wh13 fh13 kh13 hI
              refine r_iload C (dx dX3_readMachine 32 rfl) rfl ?_
              refine r_sipush (v := nI 250) C (dx dX3_readMachine 33 rfl) rfl ?_
              refine rn_ge (a := p) (b := 250) (tgt := 116) C (by omega) (by omega) (dx dX3_readMachine 34 rfl) (by decide) (fun c14 => ?_) (fun c14 => ?_)
              · first
                | (omega; done)
                | (
                    have c14 : 250 ≤ p := c14
                    refine r_aload_n C (dx dX3_readMachine 66 rfl) rfl ?_
                    refine r_iload_n C (dx dX3_readMachine 67 rfl) rfl ?_
                    refine r_iload_n C (dx dX3_readMachine 68 rfl) rfl ?_
                    refine r_cv (as := [vi nd, vi (nmQ B z (stp B z e) (nI 1) (nI 99))]) (st := []) C X I_X5_addMachine l_X3_96 (c_X5_addMachine wh13 nd (nmQ B z (stp B z e) (nI 1) (nI 99)) (by omega)) (by decide) (Nat.le_of_ble_eq_true rfl) List.prefix_rfl (pfx_eq kh13) rfl rfl (Nat.le_of_ble_eq_true rfl) rfl (dx dX3_readMachine 69 rfl) ?_
                    intro rh15 h15 hph15 kkh15
                    obtain ⟨rfl, wh15, gh15⟩ := hph15
                    have sh15 : TkAt h15 k B z q.1 q.2.1 q.2.2 := sh13.fr gh15 (by omega)
                    have fh15 : Fs (RT k kv) h h15 := fh13.tr (Fs.of gh15 (fun b h1 h2 => Or.inr ⟨h1, h2⟩))
                    have kh15 : xK h15 = xK h := kkh15.trans kh13
                    refine r_popI C (dx dX3_readMachine 70 rfl) ?_
                    refine r_iconst (v := nI 1) C (dx dX3_readMachine 71 rfl) rfl ?_
                    have e9 : mcW B z (t, s, e) v = (true, q, addMacV v nd (nmQ B z (stp B z e) (nI 1) (nI 99))) := by skip
                    exact F.1 _ _ _ _ .boolean rfl rfl (dx dX3_readMachine 72 rfl) kh15 (show some (vi (nI 1)) = some (vi (b2i (mcW B z (t, s, e) v).1)) ∧ RdAt h h15 k kv B z (mcW B z (t, s, e) v) from by rw [e9]; exact ⟨rfl, sh15, wh15, fh15⟩))
              · first
                | (omega; done)
                | (
                    have c14 : p < 250 := c14
                    refine r_iload C (dx dX3_readMachine 35 rfl) rfl ?_
                    refine r_if_eq (tgt := 116) C (dx dX3_readMachine 36 rfl) (by decide) (fun c16 => (show False from by revert c16; decide).elim) (fun _ => ?_)
                    refine r_aload_n C (dx dX3_readMachine 37 rfl) rfl ?_
                    refine r_cv (as := []) (st := []) C X I_X3_step l_X3_28 (c_X3_step sh13 lh13.2) (by decide) (Nat.le_of_ble_eq_true rfl) List.prefix_rfl (pfx_eq kh13) rfl rfl (Nat.le_of_ble_eq_true rfl) rfl (dx dX3_readMachine 38 rfl) ?_
                    intro rh17 h17 hph17 kkh17
                    obtain ⟨rfl, sh17, gh17⟩ := hph17
                    have wh17 : VilAt h17 kv (v) := wh13.fr gh17 (by omega)
                    have fh17 : Fs (RT k kv) h h17 := fh13.tr (Fs.of gh17 (fun b h1 h2 => Or.inl (by omega)))
                    have kh17 : xK h17 = xK h := kkh17.trans kh13
                    have lh17 := stp_le (B := B) lh13.2
                    refine r_aload_n C (dx dX3_readMachine 39 rfl) rfl ?_
                    refine r_iconst (v := nI 0) C (dx dX3_readMachine 40 rfl) rfl ?_
                    refine r_aload_n C (dx dX3_readMachine 41 rfl) rfl ?_
                    refine g_X3_91 (x := nI (vP v)) C (dx dX3_readMachine 42 rfl) wh17.eP ?_
                    refine r_iconst (v := nI 1) C (dx dX3_readMachine 43 rfl) rfl ?_
                    refine r_isub C (dx dX3_readMachine 44 rfl) ?_
                    refine r_cvP (as := [vi (nI 0), vi ((nI (vP v)) - (nI 1))]) (st := []) (v := vi (nmQ B z (stp B z q.2.2) (nI 0) ((nI (vP v)) - (nI 1)))) C X I_X3_numberIn l_X3_70 (c_X3_numberIn sh17 stp_5 lh17.1 lh17.2 _ _) (by decide) (Nat.le_of_ble_eq_true rfl) (pfx_eq kh17) rfl rfl (Nat.le_of_ble_eq_true rfl) rfl (dx dX3_readMachine 45 rfl) ?_
                    refine r_istore (ls' := [(0, vr 3 k), (1, vr 5 kv), (2, vi (nmQ B z (stp B z e) (nI 1) (nI 99))), (3, vi nd), (4, vi (nI 1)), (5, vi (nI p)), (6, vi (nmQ B z (stp B z q.2.2) (nI 0) ((nI (vP v)) - (nI 1))))]) C (dx dX3_readMachine 46 rfl) (by decide) [1, 2, 3, 4, 5, 6, 0] rfl ?_
                    refine r_iload C (dx dX3_readMachine 47 rfl) rfl ?_
                    refine r_iconst (v := -1) C (dx dX3_readMachine 48 rfl) rfl ?_
                    refine r_icmp_ne (tgt := 91) C (dx dX3_readMachine 49 rfl) (by decide) (fun c18 => ?_) (fun c18 => ?_)
                    ·
                      have c18 : ¬ nmQ B z (stp B z q.2.2) (nI 0) ((nI (vP v)) - (nI 1)) = -1 := c18
                      refine r_iload_n C (dx dX3_readMachine 52 rfl) rfl ?_
                      refine r_iconst (v := nI 1) C (dx dX3_readMachine 53 rfl) rfl ?_
                      refine r_iload C (dx dX3_readMachine 54 rfl) rfl ?_
                      refine r_ishl C (dx dX3_readMachine 55 rfl) ?_
                      refine r_ior C (dx dX3_readMachine 56 rfl) ?_
                      refine r_istore_n (ls' := [(0, vr 3 k), (1, vr 5 kv), (2, vi (nmQ B z (stp B z e) (nI 1) (nI 99))), (3, vi (nd ||| ((nI 1) <<< ((nmQ B z (stp B z q.2.2) (nI 0) ((nI (vP v)) - (nI 1))) &&& 31)))), (4, vi (nI 1)), (5, vi (nI p)), (6, vi (nmQ B z (stp B z q.2.2) (nI 0) ((nI (vP v)) - (nI 1))))]) C (dx dX3_readMachine 57 rfl) (by decide) [1, 2, 3, 0, 4, 5, 6] rfl ?_
                      refine r_aload_n C (dx dX3_readMachine 58 rfl) rfl ?_
                      refine r_cv (as := []) (st := []) C X I_X3_step l_X3_28 (c_X3_step sh17 lh17.2) (by decide) (Nat.le_of_ble_eq_true rfl) List.prefix_rfl (pfx_eq kh17) rfl rfl (Nat.le_of_ble_eq_true rfl) rfl (dx dX3_readMachine 59 rfl) ?_
                      intro rh19 h19 hph19 kkh19
                      obtain ⟨rfl, sh19, gh19⟩ := hph19
                      have wh19 : VilAt h19 kv (v) := wh17.fr gh19 (by omega)
                      have fh19 : Fs (RT k kv) h h19 := fh17.tr (Fs.of gh19 (fun b h1 h2 => Or.inl (by omega)))
                      have kh19 : xK h19 = xK h := kkh19.trans kh17
                      have lh19 := stp_le (B := B) lh17.2
                      refine r_aload_n C (dx dX3_readMachine 60 rfl) rfl ?_
                      refine r_ldcS C 5 rfl (dx dX3_readMachine 61 rfl) ?_
                      refine r_cvP (as := [vt 1005]) (st := []) (v := vi (b2i (wdB 5 B z (stp B z ((stp B z q.2.2).2.2)).1 (stp B z ((stp B z q.2.2).2.2)).2.1 (stp B z ((stp B z q.2.2).2.2)).2.2))) C X I_X3_isWord l_X3_37 (c_X3_isWord sh19 stp_5 lh19.1 lh19.2 (i := 5) (by omega)) (by decide) (Nat.le_of_ble_eq_true rfl) (pfx_eq kh19) rfl rfl (Nat.le_of_ble_eq_true rfl) rfl (dx dX3_readMachine 62 rfl) ?_
                      refine r_istore (ls' := [(0, vr 3 k), (1, vr 5 kv), (2, vi (nmQ B z (stp B z e) (nI 1) (nI 99))), (3, vi (nd ||| ((nI 1) <<< ((nmQ B z (stp B z q.2.2) (nI 0) ((nI (vP v)) - (nI 1))) &&& 31)))), (4, vi (b2i (wdB 5 B z (stp B z ((stp B z q.2.2).2.2)).1 (stp B z ((stp B z q.2.2).2.2)).2.1 (stp B z ((stp B z q.2.2).2.2)).2.2))), (5, vi (nI p)), (6, vi (nmQ B z (stp B z q.2.2) (nI 0) ((nI (vP v)) - (nI 1))))]) C (dx dX3_readMachine 63 rfl) (by decide) [1, 2, 3, 4, 0, 5, 6] rfl ?_
                      refine rn_iinc (a := p) (k := 1) (ls' := [(0, vr 3 k), (1, vr 5 kv), (2, vi (nmQ B z (stp B z e) (nI 1) (nI 99))), (3, vi (nd ||| ((nI 1) <<< ((nmQ B z (stp B z q.2.2) (nI 0) ((nI (vP v)) - (nI 1))) &&& 31)))), (4, vi (b2i (wdB 5 B z (stp B z ((stp B z q.2.2).2.2)).1 (stp B z ((stp B z q.2.2).2.2)).2.1 (stp B z ((stp B z q.2.2).2.2)).2.2))), (5, vi (nI (p + 1))), (6, vi (nmQ B z (stp B z q.2.2) (nI 0) ((nI (vP v)) - (nI 1))))]) C (dx dX3_readMachine 64 rfl) rfl rfl (by decide) [1, 2, 3, 4, 5, 0, 6] rfl ?_
                      refine r_goto (tgt := 53) C (dx dX3_readMachine 65 rfl) (by decide) ?_
                      rcases Bool.eq_false_or_eq_true (wdB 5 B z (stp B z ((stp B z q.2.2).2.2)).1 (stp B z ((stp B z q.2.2).2.2)).2.1 (stp B z ((stp B z q.2.2).2.2)).2.2) with hw | hw
                      · rw [hw]
                        refine (?_ : Rr G 53 [(0, vr 3 k), (1, vr 5 kv), (2, vi (nmQ B z (stp B z e) (nI 1) (nI 99))), (3, vi (nd ||| ((nI 1) <<< ((nmQ B z (stp B z q.2.2) (nI 0) ((nI (vP v)) - (nI 1))) &&& 31)))), (4, vi (nI 1)), (5, vi (nI (p + 1))), (6, vi (nmQ B z (stp B z q.2.2) (nI 0) ((nI (vP v)) - (nI 1))))] [] h19)
                        refine r_weak C [0, 1, 2, 3, 4, 5] rfl ?_
                        exact ih _ _ _ sh19 lh19 stp_5 wh19 fh19 kh19 (by rw [hI, show 250 - p = (250 - (p + 1)) + 1 by omega]; simp only [ndR]; rw [if_neg c18, if_pos hw])
                      · rw [hw]
                        have hJ : mcR B z e v = (true, (stp B z ((stp B z q.2.2).2.2)), nd ||| ((nI 1) <<< ((nmQ B z (stp B z q.2.2) (nI 0) ((nI (vP v)) - (nI 1))) &&& 31))) := by unfold mcR; rw [hI, show 250 - p = (250 - (p + 1)) + 1 by omega]; simp only [ndR]; rw [if_neg c18, if_neg (by simp [hw])]
                        refine (?_ : Rr G 53 [(0, vr 3 k), (1, vr 5 kv), (2, vi (nmQ B z (stp B z e) (nI 1) (nI 99))), (3, vi (nd ||| ((nI 1) <<< ((nmQ B z (stp B z q.2.2) (nI 0) ((nI (vP v)) - (nI 1))) &&& 31)))), (4, vi (nI 0)), (5, vi (nI (p + 1))), (6, vi (nmQ B z (stp B z q.2.2) (nI 0) ((nI (vP v)) - (nI 1))))] [] h19)
                        refine r_iload C (dx dX3_readMachine 32 rfl) rfl ?_
                        refine r_sipush (v := nI 250) C (dx dX3_readMachine 33 rfl) rfl ?_
                        refine rn_ge (a := p + 1) (b := 250) (tgt := 116) C (by omega) (by omega) (dx dX3_readMachine 34 rfl) (by decide) (fun c20 => ?_) (fun c20 => ?_)
                        · first
                          | (omega; done)
                          | (
                              have c20 : 250 ≤ p + 1 := c20
                              refine r_aload_n C (dx dX3_readMachine 66 rfl) rfl ?_
                              refine r_iload_n C (dx dX3_readMachine 67 rfl) rfl ?_
                              refine r_iload_n C (dx dX3_readMachine 68 rfl) rfl ?_
                              refine r_cv (as := [vi (nd ||| ((nI 1) <<< ((nmQ B z (stp B z q.2.2) (nI 0) ((nI (vP v)) - (nI 1))) &&& 31))), vi (nmQ B z (stp B z e) (nI 1) (nI 99))]) (st := []) C X I_X5_addMachine l_X3_96 (c_X5_addMachine wh19 (nd ||| ((nI 1) <<< ((nmQ B z (stp B z q.2.2) (nI 0) ((nI (vP v)) - (nI 1))) &&& 31))) (nmQ B z (stp B z e) (nI 1) (nI 99)) (by omega)) (by decide) (Nat.le_of_ble_eq_true rfl) List.prefix_rfl (pfx_eq kh19) rfl rfl (Nat.le_of_ble_eq_true rfl) rfl (dx dX3_readMachine 69 rfl) ?_
                              intro rh21 h21 hph21 kkh21
                              obtain ⟨rfl, wh21, gh21⟩ := hph21
                              have sh21 : TkAt h21 k B z ((stp B z ((stp B z q.2.2).2.2)).1) ((stp B z ((stp B z q.2.2).2.2)).2.1) ((stp B z ((stp B z q.2.2).2.2)).2.2) := sh19.fr gh21 (by omega)
                              have fh21 : Fs (RT k kv) h h21 := fh19.tr (Fs.of gh21 (fun b h1 h2 => Or.inr ⟨h1, h2⟩))
                              have kh21 : xK h21 = xK h := kkh21.trans kh19
                              refine r_popI C (dx dX3_readMachine 70 rfl) ?_
                              refine r_iconst (v := nI 1) C (dx dX3_readMachine 71 rfl) rfl ?_
                              have e9 : mcW B z (t, s, e) v = (true, (stp B z ((stp B z q.2.2).2.2)), addMacV v (nd ||| ((nI 1) <<< ((nmQ B z (stp B z q.2.2) (nI 0) ((nI (vP v)) - (nI 1))) &&& 31))) (nmQ B z (stp B z e) (nI 1) (nI 99))) := by unfold mcW; rw [if_pos c1, if_neg c3, if_pos c5]; simp only [hJ]; rfl
                              exact F.1 _ _ _ _ .boolean rfl rfl (dx dX3_readMachine 72 rfl) kh21 (show some (vi (nI 1)) = some (vi (b2i (mcW B z (t, s, e) v).1)) ∧ RdAt h h21 k kv B z (mcW B z (t, s, e) v) from by rw [e9]; exact ⟨rfl, sh21, wh21, fh21⟩))
                        · first
                          | (omega; done)
                          | (
                              have c20 : p + 1 < 250 := c20
                              refine r_iload C (dx dX3_readMachine 35 rfl) rfl ?_
                              refine r_if_eq (tgt := 116) C (dx dX3_readMachine 36 rfl) (by decide) (fun _ => ?_) (fun c22 => (show False from by revert c22; decide).elim)
                              refine r_aload_n C (dx dX3_readMachine 66 rfl) rfl ?_
                              refine r_iload_n C (dx dX3_readMachine 67 rfl) rfl ?_
                              refine r_iload_n C (dx dX3_readMachine 68 rfl) rfl ?_
                              refine r_cv (as := [vi (nd ||| ((nI 1) <<< ((nmQ B z (stp B z q.2.2) (nI 0) ((nI (vP v)) - (nI 1))) &&& 31))), vi (nmQ B z (stp B z e) (nI 1) (nI 99))]) (st := []) C X I_X5_addMachine l_X3_96 (c_X5_addMachine wh19 (nd ||| ((nI 1) <<< ((nmQ B z (stp B z q.2.2) (nI 0) ((nI (vP v)) - (nI 1))) &&& 31))) (nmQ B z (stp B z e) (nI 1) (nI 99)) (by omega)) (by decide) (Nat.le_of_ble_eq_true rfl) List.prefix_rfl (pfx_eq kh19) rfl rfl (Nat.le_of_ble_eq_true rfl) rfl (dx dX3_readMachine 69 rfl) ?_
                              intro rh23 h23 hph23 kkh23
                              obtain ⟨rfl, wh23, gh23⟩ := hph23
                              have sh23 : TkAt h23 k B z ((stp B z ((stp B z q.2.2).2.2)).1) ((stp B z ((stp B z q.2.2).2.2)).2.1) ((stp B z ((stp B z q.2.2).2.2)).2.2) := sh19.fr gh23 (by omega)
                              have fh23 : Fs (RT k kv) h h23 := fh19.tr (Fs.of gh23 (fun b h1 h2 => Or.inr ⟨h1, h2⟩))
                              have kh23 : xK h23 = xK h := kkh23.trans kh19
                              refine r_popI C (dx dX3_readMachine 70 rfl) ?_
                              refine r_iconst (v := nI 1) C (dx dX3_readMachine 71 rfl) rfl ?_
                              have e9 : mcW B z (t, s, e) v = (true, (stp B z ((stp B z q.2.2).2.2)), addMacV v (nd ||| ((nI 1) <<< ((nmQ B z (stp B z q.2.2) (nI 0) ((nI (vP v)) - (nI 1))) &&& 31))) (nmQ B z (stp B z e) (nI 1) (nI 99))) := by unfold mcW; rw [if_pos c1, if_neg c3, if_pos c5]; simp only [hJ]; rfl
                              exact F.1 _ _ _ _ .boolean rfl rfl (dx dX3_readMachine 72 rfl) kh23 (show some (vi (nI 1)) = some (vi (b2i (mcW B z (t, s, e) v).1)) ∧ RdAt h h23 k kv B z (mcW B z (t, s, e) v) from by rw [e9]; exact ⟨rfl, sh23, wh23, fh23⟩))
                    ·
                      have c18 : nmQ B z (stp B z q.2.2) (nI 0) ((nI (vP v)) - (nI 1)) = -1 := c18
                      refine r_iconst (v := nI 0) C (dx dX3_readMachine 50 rfl) rfl ?_
                      have e9 : mcW B z (t, s, e) v = (false, (stp B z q.2.2), v) := by have hJ : mcR B z e v = (false, (stp B z q.2.2), nd) := (by unfold mcR; rw [hI, show 250 - p = (250 - (p + 1)) + 1 by omega]; simp only [ndR]; rw [if_pos c18]); unfold mcW; rw [if_pos c1, if_neg c3, if_pos c5]; simp only [hJ]; rfl
                      exact F.1 _ _ _ _ .boolean rfl rfl (dx dX3_readMachine 51 rfl) kh17 (show some (vi (nI 0)) = some (vi (b2i (mcW B z (t, s, e) v).1)) ∧ RdAt h h17 k kv B z (mcW B z (t, s, e) v) from by rw [e9]; exact ⟨rfl, sh17, wh17, fh17⟩))
          ·
            have c5 : (wdB 4 B z (stp B z ((stp B z e).2.2)).1 (stp B z ((stp B z e).2.2)).2.1 (stp B z ((stp B z e).2.2)).2.2) = false := c5
            refine r_iconst (v := nI 0) C (dx dX3_readMachine 24 rfl) rfl ?_
            have e9 : mcW B z (t, s, e) v = (false, (stp B z ((stp B z e).2.2)), v) := by unfold mcW; rw [if_pos c1, if_neg c3, if_neg (by simp [c5])]
            exact F.1 _ _ _ _ .boolean rfl rfl (dx dX3_readMachine 25 rfl) kh4 (show some (vi (nI 0)) = some (vi (b2i (mcW B z (t, s, e) v).1)) ∧ RdAt h h4 k kv B z (mcW B z (t, s, e) v) from by rw [e9]; exact ⟨rfl, sh4, wh4, fh4⟩)
        ·
          have c3 : nmQ B z (stp B z e) (nI 1) (nI 99) = -1 := c3
          refine r_iconst (v := nI 0) C (dx dX3_readMachine 16 rfl) rfl ?_
          have e9 : mcW B z (t, s, e) v = (false, (stp B z e), v) := by unfold mcW; rw [if_pos c1, if_pos c3]
          exact F.1 _ _ _ _ .boolean rfl rfl (dx dX3_readMachine 17 rfl) kh2 (show some (vi (nI 0)) = some (vi (b2i (mcW B z (t, s, e) v).1)) ∧ RdAt h h2 k kv B z (mcW B z (t, s, e) v) from by rw [e9]; exact ⟨rfl, sh2, wh2, fh2⟩))
  · first
    | (omega; done)
    | (
        have c1 : 6 ≤ vM v := c1
        refine r_iconst (v := nI 0) C (dx dX3_readMachine 4 rfl) rfl ?_
        have e9 : mcW B z (t, s, e) v = (false, (t, s, e), v) := by unfold mcW; rw [if_neg (by omega)]
        exact F.1 _ _ _ _ .boolean rfl rfl (dx dX3_readMachine 5 rfl) rfl (show some (vi (nI 0)) = some (vi (b2i (mcW B z (t, s, e) v).1)) ∧ RdAt h h k kv B z (mcW B z (t, s, e) v) from by rw [e9]; exact ⟨rfl, hk, hv, Fs.rf⟩))
def stW (B : Nat → Int32) (z : Nat) (q : Tkn) (v : Vg) : Rd :=
  if wdB 0 B z q.1 q.2.1 q.2.2 = true then ptW B z q v else if wdB 3 B z q.1 q.2.1 q.2.2 = true then mcW B z q v
  else if wdB 6 B z q.1 q.2.1 q.2.2 = true then oneW B z q v else if wdB 9 B z q.1 q.2.1 q.2.2 = true then gvW B z q.2.2 v else (false, q, v)
set_option maxHeartbeats 4000000 in
theorem c_X3_readStatement {l : Launch} {h : Hp} {k kv : Nat} {B : Nat → Int32} {z t s e : Nat} {v : Vg} (hk : TkAt h k B z t s e) (he : e ≤ z) (hv : VilAt h kv v) (hd : kv + 9 ≤ k ∨ k + 2 ≤ kv) (ht5 : t < 5) (hse : s ≤ e) : Ms l yX3_readStatement cX3_readStatement 2 (some .boolean) 7 [vr 3 k, vr 5 kv] h (xK h) (fun r0 h' => r0 = some (vi (b2i (stW B z (t, s, e) v).1)) ∧ RdAt h h' k kv B z (stW B z (t, s, e) v)) := by
  refine Ms.of (by decide) (Nat.le_of_ble_eq_true rfl) (fun G C X F => ?_)
  have C : Cx G cX3_readStatement 2 RX3 := C
  show Rr G 0 [(0, vr 3 k), (1, vr 5 kv)] [] h
  have bP := hv.bP
  have bM := hv.bM
  have bN := hv.bN
  have bz := hk.1.2.2
  refine r_aload_n C (dx dX3_readStatement 0 rfl) rfl ?_
  refine r_ldcS C 0 rfl (dx dX3_readStatement 1 rfl) ?_
  refine r_cvP (as := [vt 1000]) (st := []) (v := vi (b2i (wdB 0 B z (t, s, e).1 (t, s, e).2.1 (t, s, e).2.2))) C X I_X3_isWord l_X3_37 (c_X3_isWord hk ht5 (⟨hse, he⟩ : s ≤ e ∧ e ≤ z).1 (⟨hse, he⟩ : s ≤ e ∧ e ≤ z).2 (i := 0) (by omega)) (by decide) (Nat.le_of_ble_eq_true rfl) List.prefix_rfl rfl rfl (Nat.le_of_ble_eq_true rfl) rfl (dx dX3_readStatement 2 rfl) ?_
  refine rb_eq (b := wdB 0 B z (t, s, e).1 (t, s, e).2.1 (t, s, e).2.2) (tgt := 15) C (dx dX3_readStatement 3 rfl) (by decide) (fun c1 => ?_) (fun c1 => ?_)
  ·
    have c1 : (wdB 0 B z (t, s, e).1 (t, s, e).2.1 (t, s, e).2.2) = false := c1
    refine r_aload_n C (dx dX3_readStatement 8 rfl) rfl ?_
    refine r_ldcS C 3 rfl (dx dX3_readStatement 9 rfl) ?_
    refine r_cvP (as := [vt 1003]) (st := []) (v := vi (b2i (wdB 3 B z (t, s, e).1 (t, s, e).2.1 (t, s, e).2.2))) C X I_X3_isWord l_X3_37 (c_X3_isWord hk ht5 (⟨hse, he⟩ : s ≤ e ∧ e ≤ z).1 (⟨hse, he⟩ : s ≤ e ∧ e ≤ z).2 (i := 3) (by omega)) (by decide) (Nat.le_of_ble_eq_true rfl) List.prefix_rfl rfl rfl (Nat.le_of_ble_eq_true rfl) rfl (dx dX3_readStatement 10 rfl) ?_
    refine rb_eq (b := wdB 3 B z (t, s, e).1 (t, s, e).2.1 (t, s, e).2.2) (tgt := 30) C (dx dX3_readStatement 11 rfl) (by decide) (fun c2 => ?_) (fun c2 => ?_)
    ·
      have c2 : (wdB 3 B z (t, s, e).1 (t, s, e).2.1 (t, s, e).2.2) = false := c2
      refine r_aload_n C (dx dX3_readStatement 16 rfl) rfl ?_
      refine r_ldcS C 6 rfl (dx dX3_readStatement 17 rfl) ?_
      refine r_cvP (as := [vt 1006]) (st := []) (v := vi (b2i (wdB 6 B z (t, s, e).1 (t, s, e).2.1 (t, s, e).2.2))) C X I_X3_isWord l_X3_37 (c_X3_isWord hk ht5 (⟨hse, he⟩ : s ≤ e ∧ e ≤ z).1 (⟨hse, he⟩ : s ≤ e ∧ e ≤ z).2 (i := 6) (by omega)) (by decide) (Nat.le_of_ble_eq_true rfl) List.prefix_rfl rfl rfl (Nat.le_of_ble_eq_true rfl) rfl (dx dX3_readStatement 18 rfl) ?_
      refine rb_eq (b := wdB 6 B z (t, s, e).1 (t, s, e).2.1 (t, s, e).2.2) (tgt := 45) C (dx dX3_readStatement 19 rfl) (by decide) (fun c3 => ?_) (fun c3 => ?_)
      ·
        have c3 : (wdB 6 B z (t, s, e).1 (t, s, e).2.1 (t, s, e).2.2) = false := c3
        refine r_aload_n C (dx dX3_readStatement 24 rfl) rfl ?_
        refine r_ldcS C 9 rfl (dx dX3_readStatement 25 rfl) ?_
        refine r_cvP (as := [vt 1009]) (st := []) (v := vi (b2i (wdB 9 B z (t, s, e).1 (t, s, e).2.1 (t, s, e).2.2))) C X I_X3_isWord l_X3_37 (c_X3_isWord hk ht5 (⟨hse, he⟩ : s ≤ e ∧ e ≤ z).1 (⟨hse, he⟩ : s ≤ e ∧ e ≤ z).2 (i := 9) (by omega)) (by decide) (Nat.le_of_ble_eq_true rfl) List.prefix_rfl rfl rfl (Nat.le_of_ble_eq_true rfl) rfl (dx dX3_readStatement 26 rfl) ?_
        refine rb_eq (b := wdB 9 B z (t, s, e).1 (t, s, e).2.1 (t, s, e).2.2) (tgt := 66) C (dx dX3_readStatement 27 rfl) (by decide) (fun c4 => ?_) (fun c4 => ?_)
        ·
          have c4 : (wdB 9 B z (t, s, e).1 (t, s, e).2.1 (t, s, e).2.2) = false := c4
          refine r_iconst (v := nI 0) C (dx dX3_readStatement 34 rfl) rfl ?_
          have e9 : stW B z (t, s, e) v = (false, (t, s, e), v) := by unfold stW; rw [if_neg (by simp [c1]), if_neg (by simp [c2]), if_neg (by simp [c3]), if_neg (by simp [c4])]
          exact F.1 _ _ _ _ .boolean rfl rfl (dx dX3_readStatement 35 rfl) rfl (show some (vi (nI 0)) = some (vi (b2i (stW B z (t, s, e) v).1)) ∧ RdAt h h k kv B z (stW B z (t, s, e) v) from by rw [e9]; exact ⟨rfl, hk, hv, Fs.rf⟩)
        ·
          have c4 : (wdB 9 B z (t, s, e).1 (t, s, e).2.1 (t, s, e).2.2) = true := c4
          refine r_aload_n C (dx dX3_readStatement 28 rfl) rfl ?_
          refine r_aload_n C (dx dX3_readStatement 29 rfl) rfl ?_
          refine r_cv (as := [vr 5 kv]) (st := []) C X I_X3_readGives l_X3_56 (c_X3_readGives hk he hv hd) (by decide) (Nat.le_of_ble_eq_true rfl) List.prefix_rfl List.prefix_rfl rfl rfl (Nat.le_of_ble_eq_true rfl) rfl (dx dX3_readStatement 30 rfl) ?_
          intro rh5 h5 hph5 kkh5
          obtain ⟨rfl, wh5⟩ := hph5
          refine rb_eq (b := (gvW B z e v).1) (tgt := 66) C (dx dX3_readStatement 31 rfl) (by decide) (fun c6 => ?_) (fun c6 => ?_)
          ·
            have c6 : ((gvW B z e v).1) = false := c6
            refine r_iconst (v := nI 0) C (dx dX3_readStatement 34 rfl) rfl ?_
            have e9 : stW B z (t, s, e) v = gvW B z e v := by unfold stW; rw [if_neg (by simp [c1]), if_neg (by simp [c2]), if_neg (by simp [c3]), if_pos c4]
            exact F.1 _ _ _ _ .boolean rfl rfl (dx dX3_readStatement 35 rfl) kkh5 (show some (vi (nI 0)) = some (vi (b2i (stW B z (t, s, e) v).1)) ∧ RdAt h h5 k kv B z (stW B z (t, s, e) v) from by rw [e9]; exact ⟨by rw [c6]; rfl, wh5⟩)
          ·
            have c6 : ((gvW B z e v).1) = true := c6
            refine r_iconst (v := nI 1) C (dx dX3_readStatement 32 rfl) rfl ?_
            refine r_goto (tgt := 67) C (dx dX3_readStatement 33 rfl) (by decide) ?_
            have e9 : stW B z (t, s, e) v = gvW B z e v := by unfold stW; rw [if_neg (by simp [c1]), if_neg (by simp [c2]), if_neg (by simp [c3]), if_pos c4]
            exact F.1 _ _ _ _ .boolean rfl rfl (dx dX3_readStatement 35 rfl) kkh5 (show some (vi (nI 1)) = some (vi (b2i (stW B z (t, s, e) v).1)) ∧ RdAt h h5 k kv B z (stW B z (t, s, e) v) from by rw [e9]; exact ⟨by rw [c6]; rfl, wh5⟩)
      ·
        have c3 : (wdB 6 B z (t, s, e).1 (t, s, e).2.1 (t, s, e).2.2) = true := c3
        refine r_aload_n C (dx dX3_readStatement 20 rfl) rfl ?_
        refine r_aload_n C (dx dX3_readStatement 21 rfl) rfl ?_
        refine r_cv (as := [vr 5 kv]) (st := []) C X I_X3_readOne l_X3_51 (c_X3_readOne hk he hv hd) (by decide) (Nat.le_of_ble_eq_true rfl) List.prefix_rfl List.prefix_rfl rfl rfl (Nat.le_of_ble_eq_true rfl) rfl (dx dX3_readStatement 22 rfl) ?_
        intro rh7 h7 hph7 kkh7
        obtain ⟨rfl, wh7⟩ := hph7
        have e9 : stW B z (t, s, e) v = oneW B z (t, s, e) v := by unfold stW; rw [if_neg (by simp [c1]), if_neg (by simp [c2]), if_pos c3]
        exact F.1 _ _ _ _ .boolean rfl (nar_b _) (dx dX3_readStatement 23 rfl) kkh7 (show some (vi (b2i ((oneW B z (t, s, e) v).1))) = some (vi (b2i (stW B z (t, s, e) v).1)) ∧ RdAt h h7 k kv B z (stW B z (t, s, e) v) from by rw [e9]; exact ⟨rfl, wh7⟩)
    ·
      have c2 : (wdB 3 B z (t, s, e).1 (t, s, e).2.1 (t, s, e).2.2) = true := c2
      refine r_aload_n C (dx dX3_readStatement 12 rfl) rfl ?_
      refine r_aload_n C (dx dX3_readStatement 13 rfl) rfl ?_
      refine r_cv (as := [vr 5 kv]) (st := []) C X I_X3_readMachine l_X3_46 (c_X3_readMachine hk he hv hd) (by decide) (Nat.le_of_ble_eq_true rfl) List.prefix_rfl List.prefix_rfl rfl rfl (Nat.le_of_ble_eq_true rfl) rfl (dx dX3_readStatement 14 rfl) ?_
      intro rh8 h8 hph8 kkh8
      obtain ⟨rfl, wh8⟩ := hph8
      have e9 : stW B z (t, s, e) v = mcW B z (t, s, e) v := by unfold stW; rw [if_neg (by simp [c1]), if_pos c2]
      exact F.1 _ _ _ _ .boolean rfl (nar_b _) (dx dX3_readStatement 15 rfl) kkh8 (show some (vi (b2i ((mcW B z (t, s, e) v).1))) = some (vi (b2i (stW B z (t, s, e) v).1)) ∧ RdAt h h8 k kv B z (stW B z (t, s, e) v) from by rw [e9]; exact ⟨rfl, wh8⟩)
  ·
    have c1 : (wdB 0 B z (t, s, e).1 (t, s, e).2.1 (t, s, e).2.2) = true := c1
    refine r_aload_n C (dx dX3_readStatement 4 rfl) rfl ?_
    refine r_aload_n C (dx dX3_readStatement 5 rfl) rfl ?_
    refine r_cv (as := [vr 5 kv]) (st := []) C X I_X3_readPart l_X3_41 (c_X3_readPart hk he hv hd) (by decide) (Nat.le_of_ble_eq_true rfl) List.prefix_rfl List.prefix_rfl rfl rfl (Nat.le_of_ble_eq_true rfl) rfl (dx dX3_readStatement 6 rfl) ?_
    intro rh9 h9 hph9 kkh9
    obtain ⟨rfl, wh9⟩ := hph9
    have e9 : stW B z (t, s, e) v = ptW B z (t, s, e) v := by unfold stW; rw [if_pos c1]
    exact F.1 _ _ _ _ .boolean rfl (nar_b _) (dx dX3_readStatement 7 rfl) kkh9 (show some (vi (b2i ((ptW B z (t, s, e) v).1))) = some (vi (b2i (stW B z (t, s, e) v).1)) ∧ RdAt h h9 k kv B z (stW B z (t, s, e) v) from by rw [e9]; exact ⟨rfl, wh9⟩)
/-- a token of the tape -/
def Tok (z : Nat) (q : Tkn) : Prop := q.1 < 5 ∧ q.2.1 ≤ q.2.2 ∧ q.2.2 ≤ z
theorem stp_tok {B : Nat → Int32} {z e : Nat} (h : e ≤ z) : Tok z (stp B z e) := ⟨stp_5, (stp_le h).1, (stp_le h).2⟩
theorem byS_tok {B : Nat → Int32} {z c i p : Nat} {q : Tkn} {v : Vg} (h : Tok z q) : Tok z (byS B z c i p q v).2.1 := by
  unfold byS
  split
  · split
    · exact stp_tok (stp_tok h.2.2).2.2
    · exact stp_tok h.2.2
  · exact h
theorem ptW_tok {B : Nat → Int32} {z : Nat} {q : Tkn} {v : Vg} (h : Tok z q) : Tok z (ptW B z q v).2.1 := by
  unfold ptW
  split
  · split
    · exact byS_tok (byS_tok (stp_tok h.2.2))
    · exact byS_tok (stp_tok h.2.2)
  · exact h
theorem oneE_tok {B : Nat → Int32} {z : Nat} {q : Tkn} {v : Vg} {x a : Int32} (h : Tok z q) : Tok z (oneE B z q v x a).2.1 := by
  unfold oneE
  split
  · exact stp_tok h.2.2
  · exact h
theorem oneA_tok {B : Nat → Int32} {z : Nat} {q : Tkn} {v : Vg} {x : Int32} (h : Tok z q) : Tok z (oneA B z q v x).2.1 := by
  unfold oneA
  split
  · split
    · exact stp_tok h.2.2
    · exact oneE_tok (stp_tok (stp_tok h.2.2).2.2)
  · exact oneE_tok h
theorem oneW_tok {B : Nat → Int32} {z : Nat} {q : Tkn} {v : Vg} (h : Tok z q) : Tok z (oneW B z q v).2.1 := by
  unfold oneW
  split
  · split
    · exact stp_tok h.2.2
    · exact oneA_tok (stp_tok (stp_tok h.2.2).2.2)
  · exact h
theorem gvW_tok {B : Nat → Int32} {z e : Nat} {v : Vg} (h : e ≤ z) : Tok z (gvW B z e v).2.1 := by
  unfold gvW
  split
  · exact stp_tok h
  · split
    · exact stp_tok (stp_tok h).2.2
    · exact stp_tok (stp_tok (stp_tok h).2.2).2.2
theorem ndR_tok {B : Nat → Int32} {z : Nat} {v : Vg} : ∀ (n : Nat) (q : Tkn) (nd : Int32), Tok z q → Tok z (ndR B z v n q nd).2.1
  | 0, _, _, h => h
  | n + 1, q, nd, h => by
    simp only [ndR]
    split
    · exact stp_tok h.2.2
    · split
      · exact ndR_tok n _ _ (stp_tok (stp_tok h.2.2).2.2)
      · exact stp_tok (stp_tok h.2.2).2.2
theorem mcW_tok {B : Nat → Int32} {z : Nat} {q : Tkn} {v : Vg} (h : Tok z q) : Tok z (mcW B z q v).2.1 := by
  have hm : Tok z (mcR B z q.2.2 v).2.1 := ndR_tok _ _ _ (stp_tok (stp_tok h.2.2).2.2)
  unfold mcW
  split
  · split
    · exact stp_tok h.2.2
    · split
      · split
        · exact hm
        · exact hm
      · exact stp_tok (stp_tok h.2.2).2.2
  · exact h
theorem stW_tok {B : Nat → Int32} {z : Nat} {q : Tkn} {v : Vg} (h : Tok z q) : Tok z (stW B z q v).2.1 := by
  unfold stW
  split
  · exact ptW_tok h
  · split
    · exact mcW_tok h
    · split
      · exact oneW_tok h
      · split
        · exact gvW_tok h.2.2
        · exact h
/-- statement by statement: how many, or none -/
def riS (B : Nat → Int32) (z : Nat) : Nat → Nat → Tkn → Vg → Int32 × Tkn × Vg
  | 0, _, q, v => (-1, q, v)
  | f + 1, n, q, v => if (stW B z q v).1 = false then (-1, (stW B z q v).2) else if (stW B z q v).2.1.1 = 3 then (nI n, (stW B z q v).2)
    else if (stW B z q v).2.1.1 = 2 then riS B z f (n + 1) (stp B z (stW B z q v).2.1.2.2) (stW B z q v).2.2 else (-1, (stW B z q v).2)
def RiAt (h0 h : Hp) (k kv : Nat) (B : Nat → Int32) (z : Nat) (w : Int32 × Tkn × Vg) : Prop := TkAt h k B z w.2.1.1 w.2.1.2.1 w.2.1.2.2 ∧ VilAt h kv w.2.2 ∧ Fs (RT k kv) h0 h
set_option maxHeartbeats 4000000 in
theorem c_X3_readInto {l : Launch} {h : Hp} {k kv : Nat} {B : Nat → Int32} {z t s e : Nat} {v : Vg} (hk : TkAt h k B z t s e) (hv : VilAt h kv v) (hd : kv + 9 ≤ k ∨ k + 2 ≤ kv) : Ms l yX3_readInto cX3_readInto 3 (some .int) 8 [vr 3 k, vr 5 kv] h (xK h) (fun r0 h' => r0 = some (vi (riS B z 250 1 (stp B z 0) v).1) ∧ RiAt h h' k kv B z (riS B z 250 1 (stp B z 0) v)) := by
  refine Ms.of (by decide) (Nat.le_of_ble_eq_true rfl) (fun G C X F => ?_)
  have C : Cx G cX3_readInto 3 RX3 := C
  show Rr G 0 [(0, vr 3 k), (1, vr 5 kv)] [] h
  have bP := hv.bP
  have bM := hv.bM
  have bN := hv.bN
  have bz := hk.1.2.2
  refine r_aload_n C (dx dX3_readInto 0 rfl) rfl ?_
  refine r_iconst (v := nI 0) C (dx dX3_readInto 1 rfl) rfl ?_
  refine p_X3_25 C (dx dX3_readInto 2 rfl) rfl rfl ?_
  have sh1 : TkAt (sI h k 4 (nI 0)) k B z t s 0 := hk.w4
  have wh1 : VilAt (sI h k 4 (nI 0)) kv (v) := hv.fr (Fr.sI (lo := k) (hi := k + 1) (by omega) (by omega)) (by omega)
  have fh1 : Fs (RT k kv) h (sI h k 4 (nI 0)) := (Fs.of (Fr.sI (lo := k) (hi := k + 1) (by omega) (by omega)) (fun b h1 h2 => Or.inl (by omega)))
  have kh1 : xK (sI h k 4 (nI 0)) = xK h := rfl
  generalize sI h k 4 (nI 0) = h1 at wh1 sh1 fh1 kh1 ⊢
  refine r_aload_n C (dx dX3_readInto 3 rfl) rfl ?_
  refine r_cv (as := []) (st := []) C X I_X3_step l_X3_28 (c_X3_step sh1 (Nat.zero_le z)) (by decide) (Nat.le_of_ble_eq_true rfl) List.prefix_rfl (pfx_eq kh1) rfl rfl (Nat.le_of_ble_eq_true rfl) rfl (dx dX3_readInto 4 rfl) ?_
  intro rh2 h2 hph2 kkh2
  obtain ⟨rfl, sh2, gh2⟩ := hph2
  have wh2 : VilAt h2 kv (v) := wh1.fr gh2 (by omega)
  have fh2 : Fs (RT k kv) h h2 := fh1.tr (Fs.of gh2 (fun b h1 h2 => Or.inl (by omega)))
  have kh2 : xK h2 = xK h := kkh2.trans kh1
  have lh2 := stp_le (B := B) (Nat.zero_le z)
  refine r_iconst (v := nI 1) C (dx dX3_readInto 5 rfl) rfl ?_
  refine r_istore_n (ls' := [(0, vr 3 k), (1, vr 5 kv), (2, vi (nI 1))]) C (dx dX3_readInto 6 rfl) (by decide) [1, 2, 0] rfl ?_
  refine loopU (Φ := fun p => ∀ (h9 : Hp) (q : Tkn) (v9 : Vg), TkAt h9 k B z q.1 q.2.1 q.2.2 → Tok z q → VilAt h9 kv v9 → Fs (RT k kv) h h9 → xK h9 = xK h → riS B z 250 1 (stp B z 0) v = riS B z (251 - p) p q v9 → Rr G 11 [(0, vr 3 k), (1, vr 5 kv), (2, vi (nI p))] [] h9) (N := 251) ?_ ?_ 1 (by omega) _ (stp B z 0) _ sh2 (stp_tok (Nat.zero_le z)) wh2 fh2 kh2 rfl
  ·
    intro h3 q v9 sh3 oh3 wh3 fh3 kh3 hI
    refine r_iload_n C (dx dX3_readInto 7 rfl) rfl ?_
    refine r_sipush (v := nI 250) C (dx dX3_readInto 8 rfl) rfl ?_
    refine rn_gt (a := 251) (b := 250) (tgt := 58) C (by omega) (by omega) (dx dX3_readInto 9 rfl) (by decide) (fun c4 => ?_) (fun c4 => ?_)
    · first
      | (omega; done)
      | (
          have c4 : 250 < 251 := c4
          refine r_iconst (v := -1) C (dx dX3_readInto 32 rfl) rfl ?_
          have e9 : riS B z 250 1 (stp B z 0) v = (-1, q, v9) := by rw [hI]; rfl
          exact F.1 _ _ _ _ .int rfl rfl (dx dX3_readInto 33 rfl) kh3 (show some (vi (-1)) = some (vi (riS B z 250 1 (stp B z 0) v).1) ∧ RiAt h h3 k kv B z (riS B z 250 1 (stp B z 0) v) from by rw [e9]; exact ⟨rfl, sh3, wh3, fh3⟩))
    · first
      | (omega; done)
      | (
          have c4 : 251 ≤ 250 := c4
          refine r_aload_n C (dx dX3_readInto 10 rfl) rfl ?_
          refine r_aload_n C (dx dX3_readInto 11 rfl) rfl ?_
          refine r_cv (as := [vr 5 kv]) (st := []) C X I_X3_readStatement l_X3_31 (c_X3_readStatement sh3 oh3.2.2 wh3 hd oh3.1 oh3.2.1) (by decide) (Nat.le_of_ble_eq_true rfl) List.prefix_rfl (pfx_eq kh3) rfl rfl (Nat.le_of_ble_eq_true rfl) rfl (dx dX3_readInto 12 rfl) ?_
          intro rh5 h5 hph5 kkh5
          obtain ⟨rfl, sh5, wh5, gh5⟩ := hph5
          replace sh5 : TkAt h5 k B z (stW B z q v9).2.1.1 (stW B z q v9).2.1.2.1 (stW B z q v9).2.1.2.2 := sh5
          replace wh5 : VilAt h5 kv (stW B z q v9).2.2 := wh5
          have fh5 : Fs (RT k kv) h h5 := fh3.tr gh5
          have kh5 : xK h5 = xK h := kkh5.trans kh3
          have oh5 : Tok z (stW B z q v9).2.1 := stW_tok oh3
          have ah5 : (stW B z q v9).2.1.1 < 5 := oh5.1
          have lh5 : (stW B z q v9).2.1.2.1 ≤ (stW B z q v9).2.1.2.2 ∧ (stW B z q v9).2.1.2.2 ≤ z := oh5.2
          refine rb_ne (b := (stW B z q v9).1) (tgt := 28) C (dx dX3_readInto 13 rfl) (by decide) (fun c6 => ?_) (fun c6 => ?_)
          ·
            have c6 : ((stW B z q v9).1) = true := c6
            refine r_aload_n C (dx dX3_readInto 16 rfl) rfl ?_
            refine g_X3_19 (x := nI ((stW B z q v9).2.1.1)) C (dx dX3_readInto 17 rfl) sh5.2.1 ?_
            refine r_iconst (v := nI 3) C (dx dX3_readInto 18 rfl) rfl ?_
            refine rn_ne (a := (stW B z q v9).2.1.1) (b := 3) (tgt := 38) C (by omega) (by omega) (dx dX3_readInto 19 rfl) (by decide) (fun c7 => ?_) (fun c7 => ?_)
            · first
              | (omega; done)
              | (
                  have c7 : ¬ (stW B z q v9).2.1.1 = 3 := c7
                  refine r_aload_n C (dx dX3_readInto 22 rfl) rfl ?_
                  refine g_X3_19 (x := nI ((stW B z q v9).2.1.1)) C (dx dX3_readInto 23 rfl) sh5.2.1 ?_
                  refine r_iconst (v := nI 2) C (dx dX3_readInto 24 rfl) rfl ?_
                  refine rn_eq (a := (stW B z q v9).2.1.1) (b := 2) (tgt := 48) C (by omega) (by omega) (dx dX3_readInto 25 rfl) (by decide) (fun c8 => ?_) (fun c8 => ?_)
                  · first
                    | (omega; done)
                  · first
                    | (omega; done)
                    | (
                        have c8 : ¬ (stW B z q v9).2.1.1 = 2 := c8
                        refine r_iconst (v := -1) C (dx dX3_readInto 26 rfl) rfl ?_
                        have e9 : riS B z 250 1 (stp B z 0) v = (-1, (stW B z q v9).2.1, (stW B z q v9).2.2) := by rw [hI]; rfl
                        exact F.1 _ _ _ _ .int rfl rfl (dx dX3_readInto 27 rfl) kh5 (show some (vi (-1)) = some (vi (riS B z 250 1 (stp B z 0) v).1) ∧ RiAt h h5 k kv B z (riS B z 250 1 (stp B z 0) v) from by rw [e9]; exact ⟨rfl, sh5, wh5, fh5⟩)))
            · first
              | (omega; done)
              | (
                  have c7 : (stW B z q v9).2.1.1 = 3 := c7
                  refine r_iload_n C (dx dX3_readInto 20 rfl) rfl ?_
                  have e9 : riS B z 250 1 (stp B z 0) v = (nI 251, (stW B z q v9).2.1, (stW B z q v9).2.2) := by rw [hI]; rfl
                  exact F.1 _ _ _ _ .int rfl rfl (dx dX3_readInto 21 rfl) kh5 (show some (vi (nI 251)) = some (vi (riS B z 250 1 (stp B z 0) v).1) ∧ RiAt h h5 k kv B z (riS B z 250 1 (stp B z 0) v) from by rw [e9]; exact ⟨rfl, sh5, wh5, fh5⟩))
          ·
            have c6 : ((stW B z q v9).1) = false := c6
            refine r_iconst (v := -1) C (dx dX3_readInto 14 rfl) rfl ?_
            have e9 : riS B z 250 1 (stp B z 0) v = (-1, (stW B z q v9).2.1, (stW B z q v9).2.2) := by rw [hI]; rfl
            exact F.1 _ _ _ _ .int rfl rfl (dx dX3_readInto 15 rfl) kh5 (show some (vi (-1)) = some (vi (riS B z 250 1 (stp B z 0) v).1) ∧ RiAt h h5 k kv B z (riS B z 250 1 (stp B z 0) v) from by rw [e9]; exact ⟨rfl, sh5, wh5, fh5⟩))
  ·
    intro p hp ih h10 q v9 sh10 oh10 wh10 fh10 kh10 hI
    refine r_iload_n C (dx dX3_readInto 7 rfl) rfl ?_
    refine r_sipush (v := nI 250) C (dx dX3_readInto 8 rfl) rfl ?_
    refine rn_gt (a := p) (b := 250) (tgt := 58) C (by omega) (by omega) (dx dX3_readInto 9 rfl) (by decide) (fun c11 => ?_) (fun c11 => ?_)
    · first
      | (omega; done)
      | (
          have c11 : 250 < p := c11
          refine r_iconst (v := -1) C (dx dX3_readInto 32 rfl) rfl ?_
          have e9 : riS B z 250 1 (stp B z 0) v = (-1, q, v9) := by skip
          exact F.1 _ _ _ _ .int rfl rfl (dx dX3_readInto 33 rfl) kh10 (show some (vi (-1)) = some (vi (riS B z 250 1 (stp B z 0) v).1) ∧ RiAt h h10 k kv B z (riS B z 250 1 (stp B z 0) v) from by rw [e9]; exact ⟨rfl, sh10, wh10, fh10⟩))
    · first
      | (omega; done)
      | (
          have c11 : p ≤ 250 := c11
          refine r_aload_n C (dx dX3_readInto 10 rfl) rfl ?_
          refine r_aload_n C (dx dX3_readInto 11 rfl) rfl ?_
          refine r_cv (as := [vr 5 kv]) (st := []) C X I_X3_readStatement l_X3_31 (c_X3_readStatement sh10 oh10.2.2 wh10 hd oh10.1 oh10.2.1) (by decide) (Nat.le_of_ble_eq_true rfl) List.prefix_rfl (pfx_eq kh10) rfl rfl (Nat.le_of_ble_eq_true rfl) rfl (dx dX3_readInto 12 rfl) ?_
          intro rh12 h12 hph12 kkh12
          obtain ⟨rfl, sh12, wh12, gh12⟩ := hph12
          replace sh12 : TkAt h12 k B z (stW B z q v9).2.1.1 (stW B z q v9).2.1.2.1 (stW B z q v9).2.1.2.2 := sh12
          replace wh12 : VilAt h12 kv (stW B z q v9).2.2 := wh12
          have fh12 : Fs (RT k kv) h h12 := fh10.tr gh12
          have kh12 : xK h12 = xK h := kkh12.trans kh10
          have oh12 : Tok z (stW B z q v9).2.1 := stW_tok oh10
          have ah12 : (stW B z q v9).2.1.1 < 5 := oh12.1
          have lh12 : (stW B z q v9).2.1.2.1 ≤ (stW B z q v9).2.1.2.2 ∧ (stW B z q v9).2.1.2.2 ≤ z := oh12.2
          refine rb_ne (b := (stW B z q v9).1) (tgt := 28) C (dx dX3_readInto 13 rfl) (by decide) (fun c13 => ?_) (fun c13 => ?_)
          ·
            have c13 : ((stW B z q v9).1) = true := c13
            refine r_aload_n C (dx dX3_readInto 16 rfl) rfl ?_
            refine g_X3_19 (x := nI ((stW B z q v9).2.1.1)) C (dx dX3_readInto 17 rfl) sh12.2.1 ?_
            refine r_iconst (v := nI 3) C (dx dX3_readInto 18 rfl) rfl ?_
            refine rn_ne (a := (stW B z q v9).2.1.1) (b := 3) (tgt := 38) C (by omega) (by omega) (dx dX3_readInto 19 rfl) (by decide) (fun c14 => ?_) (fun c14 => ?_)
            · first
              | (omega; done)
              | (
                  have c14 : ¬ (stW B z q v9).2.1.1 = 3 := c14
                  refine r_aload_n C (dx dX3_readInto 22 rfl) rfl ?_
                  refine g_X3_19 (x := nI ((stW B z q v9).2.1.1)) C (dx dX3_readInto 23 rfl) sh12.2.1 ?_
                  refine r_iconst (v := nI 2) C (dx dX3_readInto 24 rfl) rfl ?_
                  refine rn_eq (a := (stW B z q v9).2.1.1) (b := 2) (tgt := 48) C (by omega) (by omega) (dx dX3_readInto 25 rfl) (by decide) (fun c15 => ?_) (fun c15 => ?_)
                  · first
                    | (omega; done)
                    | (
                        have c15 : (stW B z q v9).2.1.1 = 2 := c15
                        refine r_aload_n C (dx dX3_readInto 28 rfl) rfl ?_
                        refine r_cv (as := []) (st := []) C X I_X3_step l_X3_28 (c_X3_step sh12 lh12.2) (by decide) (Nat.le_of_ble_eq_true rfl) List.prefix_rfl (pfx_eq kh12) rfl rfl (Nat.le_of_ble_eq_true rfl) rfl (dx dX3_readInto 29 rfl) ?_
                        intro rh16 h16 hph16 kkh16
                        obtain ⟨rfl, sh16, gh16⟩ := hph16
                        have wh16 : VilAt h16 kv ((stW B z q v9).2.2) := wh12.fr gh16 (by omega)
                        have fh16 : Fs (RT k kv) h h16 := fh12.tr (Fs.of gh16 (fun b h1 h2 => Or.inl (by omega)))
                        have kh16 : xK h16 = xK h := kkh16.trans kh12
                        have lh16 := stp_le (B := B) lh12.2
                        refine rn_iinc (a := p) (k := 1) (ls' := [(0, vr 3 k), (1, vr 5 kv), (2, vi (nI (p + 1)))]) C (dx dX3_readInto 30 rfl) rfl rfl (by decide) [1, 2, 0] rfl ?_
                        refine r_goto (tgt := 11) C (dx dX3_readInto 31 rfl) (by decide) ?_
                        exact ih _ _ _ sh16 ⟨stp_5, lh16⟩ wh16 fh16 kh16 (by rw [show 251 - (p + 1) = 250 - p by omega]; rw [hI, show 251 - p = (250 - p) + 1 by omega]; simp only [riS]; rw [if_neg (by simp [c13]), if_neg c14, if_pos c15]))
                  · first
                    | (omega; done)
                    | (
                        have c15 : ¬ (stW B z q v9).2.1.1 = 2 := c15
                        refine r_iconst (v := -1) C (dx dX3_readInto 26 rfl) rfl ?_
                        have e9 : riS B z 250 1 (stp B z 0) v = (-1, (stW B z q v9).2.1, (stW B z q v9).2.2) := by rw [hI, show 251 - p = (250 - p) + 1 by omega]; simp only [riS]; rw [if_neg (by simp [c13]), if_neg c14, if_neg c15]
                        exact F.1 _ _ _ _ .int rfl rfl (dx dX3_readInto 27 rfl) kh12 (show some (vi (-1)) = some (vi (riS B z 250 1 (stp B z 0) v).1) ∧ RiAt h h12 k kv B z (riS B z 250 1 (stp B z 0) v) from by rw [e9]; exact ⟨rfl, sh12, wh12, fh12⟩)))
            · first
              | (omega; done)
              | (
                  have c14 : (stW B z q v9).2.1.1 = 3 := c14
                  refine r_iload_n C (dx dX3_readInto 20 rfl) rfl ?_
                  have e9 : riS B z 250 1 (stp B z 0) v = (nI p, (stW B z q v9).2.1, (stW B z q v9).2.2) := by rw [hI, show 251 - p = (250 - p) + 1 by omega]; simp only [riS]; rw [if_neg (by simp [c13]), if_pos c14]
                  exact F.1 _ _ _ _ .int rfl rfl (dx dX3_readInto 21 rfl) kh12 (show some (vi (nI p)) = some (vi (riS B z 250 1 (stp B z 0) v).1) ∧ RiAt h h12 k kv B z (riS B z 250 1 (stp B z 0) v) from by rw [e9]; exact ⟨rfl, sh12, wh12, fh12⟩))
          ·
            have c13 : ((stW B z q v9).1) = false := c13
            refine r_iconst (v := -1) C (dx dX3_readInto 14 rfl) rfl ?_
            have e9 : riS B z 250 1 (stp B z 0) v = (-1, (stW B z q v9).2.1, (stW B z q v9).2.2) := by rw [hI, show 251 - p = (250 - p) + 1 by omega]; simp only [riS]; rw [if_pos c13]
            exact F.1 _ _ _ _ .int rfl rfl (dx dX3_readInto 15 rfl) kh12 (show some (vi (-1)) = some (vi (riS B z 250 1 (stp B z 0) v).1) ∧ RiAt h h12 k kv B z (riS B z 250 1 (stp B z 0) v) from by rw [e9]; exact ⟨rfl, sh12, wh12, fh12⟩))
theorem TkAt.ap {h : Hp} {k z t s e i : Nat} {x : Int32} {B : Nat → Int32} (a : TkAt h k B z t s e) : TkAt (sI h (k + 1) i x) k (sf B i x) z t s e :=
  ⟨⟨fun q hq => by rw [sI_at, a.1.1 q hq]; rfl, by rw [sI_ne (by omega)]; exact a.1.2.1, a.1.2.2⟩, by rw [sI_ne (by omega)]; exact a.2.1, by rw [sI_ne (by omega)]; exact a.2.2.1, by rw [sI_ne (by omega)]; exact a.2.2.2⟩
theorem TkAt.zz {h : Hp} {k z z' t s e : Nat} {B : Nat → Int32} (a : TkAt h k B z t s e) (hz : z' ≤ 250) : TkAt (sI h k 1 (nI z')) k B z' t s e :=
  ⟨tp_z a.1 hz, by rw [sI_at]; exact a.2.1, by rw [sI_at]; exact a.2.2.1, by rw [sI_at]; exact a.2.2.2⟩
set_option maxHeartbeats 4000000 in
theorem c_X3_append {l : Launch} {h : Hp} {k : Nat} {B : Nat → Int32} {z t s e : Nat} (hk : TkAt h k B z t s e) (hz : z < 250) (x : Int32) : Ms l yX3_append cX3_append 2 none 1 [vr 3 k, vi x] h (xK h) (fun r0 h' => r0 = none ∧ TkAt h' k (sf B z (vp_nar .byte (x.toInt8.toInt32))) (z + 1) t s e ∧ Fr k (k + 2) h h') := by
  refine Ms.of (by decide) (Nat.le_of_ble_eq_true rfl) (fun G C X F => ?_)
  have C : Cx G cX3_append 2 RX3 := C
  show Rr G 0 [(0, vr 3 k), (1, vi x)] [] h
  have bz := hk.1.2.2
  refine r_aload_n C (dx dX3_append 0 rfl) rfl ?_
  refine g_X3_15 (x := nI z) C (dx dX3_append 1 rfl) hk.1.2.1 ?_
  refine r_sipush (v := nI 250) C (dx dX3_append 2 rfl) rfl ?_
  refine rn_ge (a := z) (b := 250) (tgt := 31) C (by omega) (by omega) (dx dX3_append 3 rfl) (by decide) (fun c1 => ?_) (fun c1 => ?_)
  · first
    | (omega; done)
    | (
        have c1 : 250 ≤ z := c1
        exact F.2.2.1 _ _ _ rfl (dx dX3_append 17 rfl) rfl ⟨rfl, hk, Fr.rf⟩)
  · first
    | (omega; done)
    | (
        have c1 : z < 250 := c1
        refine r_aload_n C (dx dX3_append 4 rfl) rfl ?_
        refine g_X3_9 C (dx dX3_append 5 rfl) ?_
        refine r_aload_n C (dx dX3_append 6 rfl) rfl ?_
        refine g_X3_15 (x := nI z) C (dx dX3_append 7 rfl) hk.1.2.1 ?_
        refine r_iload_n C (dx dX3_append 8 rfl) rfl ?_
        refine r_i2b C (dx dX3_append 9 rfl) ?_
        refine r_bast (j := z) C rfl rfl (by decide) rfl (by omega) (dx dX3_append 10 rfl) ?_
        have sh2 : TkAt (sI h (k + 1) z (vp_nar .byte x.toInt8.toInt32)) k (sf B z (vp_nar .byte (x.toInt8.toInt32))) z t s e := hk.ap
        have fh2 : Fr k (k + 2) h (sI h (k + 1) z (vp_nar .byte x.toInt8.toInt32)) := (Fr.sI (by omega) (by omega))
        have kh2 : xK (sI h (k + 1) z (vp_nar .byte x.toInt8.toInt32)) = xK h := rfl
        generalize sI h (k + 1) z (vp_nar .byte x.toInt8.toInt32) = h2 at sh2 fh2 kh2 ⊢
        refine r_aload_n C (dx dX3_append 11 rfl) rfl ?_
        refine r_dupR C (dx dX3_append 12 rfl) ?_
        refine g_X3_15 (x := nI z) C (dx dX3_append 13 rfl) sh2.1.2.1 ?_
        refine r_iconst (v := nI 1) C (dx dX3_append 14 rfl) rfl ?_
        refine rn_iadd (a := z) (b := 1) C (dx dX3_append 15 rfl) ?_
        refine p_X3_15 C (dx dX3_append 16 rfl) rfl rfl ?_
        have sh3 : TkAt (sI h2 k 1 (nI (z + 1))) k (sf B z (vp_nar .byte (x.toInt8.toInt32))) (z + 1) t s e := sh2.zz (by omega)
        have fh3 : Fr k (k + 2) h (sI h2 k 1 (nI (z + 1))) := fh2.tr (Fr.sI (by omega) (by omega))
        have kh3 : xK (sI h2 k 1 (nI (z + 1))) = xK h := kh2
        generalize sI h2 k 1 (nI (z + 1)) = h3 at sh3 fh3 kh3 ⊢
        exact F.2.2.1 _ _ _ rfl (dx dX3_append 17 rfl) kh3 ⟨rfl, sh3, fh3⟩)

