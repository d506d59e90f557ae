/-! PART 20: statements read into a village -/
abbrev Tkn : Type := Nat × Nat × Nat
abbrev Rd : Type := Bool × Tkn × Vg
def nmQ (B : Nat → Int32) (z : Nat) (q : Tkn) (lo hi : Int32) : Int32 := nmV B z q.1 q.2.1 q.2.2 lo hi
/-- the tape's cell and a village's -/
def RT (k kv b : Nat) : Prop := b = k ∨ (kv ≤ b ∧ b < kv + 9)
def RdAt (h0 h : Hp) (k kv : Nat) (B : Nat → Int32) (z : Nat) (w : Rd) : Prop := TkAt h k B z w.2.1.1 w.2.1.2.1 w.2.1.2.2 ∧ VilAt h kv w.2.2 ∧ Fs (RT k kv) h0 h
theorem stp_5 {B : Nat → Int32} {z e : Nat} : (stp B z e).1 < 5 := by
  unfold stp
  split
  · show 3 < 5; omega
  · split
    · show 0 < 5; omega
    · split
      · show 1 < 5; omega
      · show (if B (enO 0 B z e) = nI 59 then 2 else 4) < 5; split <;> omega
theorem in_hi {x : Int32} {n : Nat} (hn : n < 2 ^ 30) (h0 : ¬ x < nI 0) (h1 : x ≤ nI n - nI 1) : inR x n = true := by
  rw [Int32.le_iff_toInt_le, pk_sub_toInt hn (by omega)] at h1
  rw [Int32.lt_iff_toInt_lt, nI_toInt (by omega)] at h0
  unfold inR
  exact decide_eq_true (by omega)
theorem nm_in {B : Nat → Int32} {z n : Nat} {q : Tkn} (hn : n < 2 ^ 30) (h : ¬ nmQ B z q (nI 0) (nI n - nI 1) = -1) : inR (nmQ B z q (nI 0) (nI n - nI 1)) n = true := by
  unfold nmQ nmV at h ⊢
  split at h
  · next c =>
    rw [if_pos c]
    split at h
    · exact absurd rfl h
    · next c2 =>
      rw [if_neg c2]
      split at h
      · next c3 => rw [if_pos c3]; exact in_hi hn c2 c3
      · exact absurd rfl h
  · exact absurd rfl h
def gvP (B : Nat → Int32) (z e : Nat) (v : Vg) : Int32 := nmQ B z (stp B z e) (nI 0) (nI (vP v) - nI 1)
def gvO (B : Nat → Int32) (z e : Nat) (v : Vg) : Int32 := nmQ B z (stp B z e) (nI 0) (nI (vN v) - nI 1)
/-- gives -/
def gvW (B : Nat → Int32) (z e : Nat) (v : Vg) : Rd :=
  if gvP B z e v = -1 then (false, stp B z e, v)
  else if gvO B z (stp B z e).2.2 v = -1 ∨ (¬ vF v 0 (gvP B z e v).toNatClampNeg = gvO B z (stp B z e).2.2 v ∧ hasRm v (gvO B z (stp B z e).2.2 v) = false) then (false, stp B z (stp B z e).2.2, v)
  else (true, stp B z (stp B z (stp B z e).2.2).2.2, vset v 0 (gvP B z e v).toNatClampNeg (gvO B z (stp B z e).2.2 v))
set_option maxHeartbeats 4000000 in
theorem c_X3_readGives {l : Launch} {h : Hp} {k kv : Nat} {B : Nat → Int32} {z t s e : Nat} {v : Vg} (hk : TkAt h k B z t s e) (he : e ≤ z) (hv : VilAt h kv v) (hd : kv + 9 ≤ k ∨ k + 2 ≤ kv) : Ms l yX3_readGives cX3_readGives 4 (some .boolean) 4 [vr 3 k, vr 5 kv] h (xK h) (fun r0 h' => r0 = some (vi (b2i (gvW B z e v).1)) ∧ RdAt h h' k kv B z (gvW B z e v)) := by
  refine Ms.of (by decide) (Nat.le_of_ble_eq_true rfl) (fun G C X F => ?_)
  have C : Cx G cX3_readGives 4 RX3 := C
  show Rr G 0 [(0, vr 3 k), (1, vr 5 kv)] [] h
  have bP := hv.bP
  have bM := hv.bM
  have bN := hv.bN
  have bz := hk.1.2.2
  refine r_aload_n C (dx dX3_readGives 0 rfl) rfl ?_
  refine r_cv (as := []) (st := []) C X I_X3_step l_X3_28 (c_X3_step hk he) (by decide) (Nat.le_of_ble_eq_true rfl) List.prefix_rfl List.prefix_rfl rfl rfl (Nat.le_of_ble_eq_true rfl) rfl (dx dX3_readGives 1 rfl) ?_
  intro rh1 h1 hph1 kkh1
  obtain ⟨rfl, sh1, gh1⟩ := hph1
  have wh1 : VilAt h1 kv (v) := hv.fr gh1 (by omega)
  have fh1 : Fs (RT k kv) h h1 := (Fs.of gh1 (fun b h1 h2 => Or.inl (by omega)))
  have kh1 : xK h1 = xK h := kkh1
  have lh1 := stp_le (B := B) he
  refine r_aload_n C (dx dX3_readGives 2 rfl) rfl ?_
  refine r_iconst (v := nI 0) C (dx dX3_readGives 3 rfl) rfl ?_
  refine r_aload_n C (dx dX3_readGives 4 rfl) rfl ?_
  refine g_X3_91 (x := nI (vP v)) C (dx dX3_readGives 5 rfl) wh1.eP ?_
  refine r_iconst (v := nI 1) C (dx dX3_readGives 6 rfl) rfl ?_
  refine r_isub C (dx dX3_readGives 7 rfl) ?_
  refine r_cvP (as := [vi (nI 0), vi ((nI (vP v)) - (nI 1))]) (st := []) (v := vi (nmQ B z (stp B z e) (nI 0) ((nI (vP v)) - (nI 1)))) C X I_X3_numberIn l_X3_70 (c_X3_numberIn sh1 stp_5 lh1.1 lh1.2 _ _) (by decide) (Nat.le_of_ble_eq_true rfl) (pfx_eq kh1) rfl rfl (Nat.le_of_ble_eq_true rfl) rfl (dx dX3_readGives 8 rfl) ?_
  refine r_istore_n (ls' := [(0, vr 3 k), (1, vr 5 kv), (2, vi (nmQ B z (stp B z e) (nI 0) ((nI (vP v)) - (nI 1))))]) C (dx dX3_readGives 9 rfl) (by decide) [1, 2, 0] rfl ?_
  refine r_iload_n C (dx dX3_readGives 10 rfl) rfl ?_
  refine r_iconst (v := -1) C (dx dX3_readGives 11 rfl) rfl ?_
  refine r_icmp_ne (tgt := 23) C (dx dX3_readGives 12 rfl) (by decide) (fun c2 => ?_) (fun c2 => ?_)
  ·
    have c2 : ¬ nmQ B z (stp B z e) (nI 0) ((nI (vP v)) - (nI 1)) = -1 := c2
    refine r_aload_n C (dx dX3_readGives 15 rfl) rfl ?_
    refine r_cv (as := []) (st := []) C X I_X3_step l_X3_28 (c_X3_step sh1 lh1.2) (by decide) (Nat.le_of_ble_eq_true rfl) List.prefix_rfl (pfx_eq kh1) rfl rfl (Nat.le_of_ble_eq_true rfl) rfl (dx dX3_readGives 16 rfl) ?_
    intro rh3 h3 hph3 kkh3
    obtain ⟨rfl, sh3, gh3⟩ := hph3
    have wh3 : VilAt h3 kv (v) := wh1.fr gh3 (by omega)
    have fh3 : Fs (RT k kv) h h3 := fh1.tr (Fs.of gh3 (fun b h1 h2 => Or.inl (by omega)))
    have kh3 : xK h3 = xK h := kkh3.trans kh1
    have lh3 := stp_le (B := B) lh1.2
    refine r_aload_n C (dx dX3_readGives 17 rfl) rfl ?_
    refine r_iconst (v := nI 0) C (dx dX3_readGives 18 rfl) rfl ?_
    refine r_aload_n C (dx dX3_readGives 19 rfl) rfl ?_
    refine g_X3_67 (x := nI (vN v)) C (dx dX3_readGives 20 rfl) wh3.eN ?_
    refine r_iconst (v := nI 1) C (dx dX3_readGives 21 rfl) rfl ?_
    refine r_isub C (dx dX3_readGives 22 rfl) ?_
    refine r_cvP (as := [vi (nI 0), vi ((nI (vN v)) - (nI 1))]) (st := []) (v := vi (nmQ B z (stp B z ((stp B z e).2.2)) (nI 0) ((nI (vN v)) - (nI 1)))) C X I_X3_numberIn l_X3_70 (c_X3_numberIn sh3 stp_5 lh3.1 lh3.2 _ _) (by decide) (Nat.le_of_ble_eq_true rfl) (pfx_eq kh3) rfl rfl (Nat.le_of_ble_eq_true rfl) rfl (dx dX3_readGives 23 rfl) ?_
    refine r_istore_n (ls' := [(0, vr 3 k), (1, vr 5 kv), (2, vi (nmQ B z (stp B z e) (nI 0) ((nI (vP v)) - (nI 1)))), (3, vi (nmQ B z (stp B z ((stp B z e).2.2)) (nI 0) ((nI (vN v)) - (nI 1))))]) C (dx dX3_readGives 24 rfl) (by decide) [1, 2, 3, 0] rfl ?_
    refine r_iload_n C (dx dX3_readGives 25 rfl) rfl ?_
    refine r_iconst (v := -1) C (dx dX3_readGives 26 rfl) rfl ?_
    refine r_icmp_eq (tgt := 62) C (dx dX3_readGives 27 rfl) (by decide) (fun c4 => ?_) (fun c4 => ?_)
    ·
      have c4 : nmQ B z (stp B z ((stp B z e).2.2)) (nI 0) ((nI (vN v)) - (nI 1)) = -1 := c4
      refine r_iconst (v := nI 0) C (dx dX3_readGives 38 rfl) rfl ?_
      have e9 : gvW B z e v = (false, (stp B z ((stp B z e).2.2)), v) := by unfold gvW gvP gvO; rw [if_neg c2, if_pos (Or.inl c4)]
      exact F.1 _ _ _ _ .boolean rfl rfl (dx dX3_readGives 39 rfl) kh3 (show some (vi (nI 0)) = some (vi (b2i (gvW B z e v).1)) ∧ RdAt h h3 k kv B z (gvW B z e v) from by rw [e9]; exact ⟨rfl, sh3, wh3, fh3⟩)
    ·
      have c4 : ¬ nmQ B z (stp B z ((stp B z e).2.2)) (nI 0) ((nI (vN v)) - (nI 1)) = -1 := c4
      refine r_aload_n C (dx dX3_readGives 28 rfl) rfl ?_
      refine g_X3_78 C (dx dX3_readGives 29 rfl) ?_
      refine r_iload_n C (dx dX3_readGives 30 rfl) rfl ?_
      refine r_iald (j := (nmQ B z (stp B z e) (nI 0) ((nI (vP v)) - (nI 1))).toNatClampNeg) (x := vF v 0 ((nmQ B z (stp B z e) (nI 0) ((nI (vP v)) - (nI 1))).toNatClampNeg)) C rfl rfl (by decide) (inR_at (by omega) (nm_in (by omega) c2)).1 (Nat.lt_of_lt_of_le (inR_at (by omega) (nm_in (by omega) c2)).2 (by omega)) (dx dX3_readGives 31 rfl) (wh3.e0 (Nat.lt_of_lt_of_le (inR_at (by omega) (nm_in (by omega) c2)).2 (by omega))) ?_
      refine r_iload_n C (dx dX3_readGives 32 rfl) rfl ?_
      refine r_icmp_eq (tgt := 64) C (dx dX3_readGives 33 rfl) (by decide) (fun c5 => ?_) (fun c5 => ?_)
      ·
        have c5 : vF v 0 ((nmQ B z (stp B z e) (nI 0) ((nI (vP v)) - (nI 1))).toNatClampNeg) = nmQ B z (stp B z ((stp B z e).2.2)) (nI 0) ((nI (vN v)) - (nI 1)) := c5
        refine r_aload_n C (dx dX3_readGives 40 rfl) rfl ?_
        refine g_X3_78 C (dx dX3_readGives 41 rfl) ?_
        refine r_iload_n C (dx dX3_readGives 42 rfl) rfl ?_
        refine r_iload_n C (dx dX3_readGives 43 rfl) rfl ?_
        refine r_iast (j := (nmQ B z (stp B z e) (nI 0) ((nI (vP v)) - (nI 1))).toNatClampNeg) C rfl rfl (by decide) (inR_at (by omega) (nm_in (by omega) c2)).1 (Nat.lt_of_lt_of_le (inR_at (by omega) (nm_in (by omega) c2)).2 (by omega)) (dx dX3_readGives 44 rfl) ?_
        have wh6 : VilAt (sI h3 (kv + 1) ((nmQ B z (stp B z e) (nI 0) ((nI (vP v)) - (nI 1))).toNatClampNeg) (nmQ B z (stp B z ((stp B z e).2.2)) (nI 0) ((nI (vN v)) - (nI 1)))) kv (vset v 0 ((nmQ B z (stp B z e) (nI 0) ((nI (vP v)) - (nI 1))).toNatClampNeg) (nmQ B z (stp B z ((stp B z e).2.2)) (nI 0) ((nI (vN v)) - (nI 1)))) := wh3.s0
        have sh6 : TkAt (sI h3 (kv + 1) ((nmQ B z (stp B z e) (nI 0) ((nI (vP v)) - (nI 1))).toNatClampNeg) (nmQ B z (stp B z ((stp B z e).2.2)) (nI 0) ((nI (vN v)) - (nI 1)))) k B z ((stp B z ((stp B z e).2.2)).1) ((stp B z ((stp B z e).2.2)).2.1) ((stp B z ((stp B z e).2.2)).2.2) := sh3.fr (Fr.sI (lo := kv) (hi := kv + 9) (by omega) (by omega)) (by omega)
        have fh6 : Fs (RT k kv) h (sI h3 (kv + 1) ((nmQ B z (stp B z e) (nI 0) ((nI (vP v)) - (nI 1))).toNatClampNeg) (nmQ B z (stp B z ((stp B z e).2.2)) (nI 0) ((nI (vN v)) - (nI 1)))) := fh3.tr (Fs.of (Fr.sI (lo := kv) (hi := kv + 9) (by omega) (by omega)) (fun b h1 h2 => Or.inr ⟨h1, h2⟩))
        have kh6 : xK (sI h3 (kv + 1) ((nmQ B z (stp B z e) (nI 0) ((nI (vP v)) - (nI 1))).toNatClampNeg) (nmQ B z (stp B z ((stp B z e).2.2)) (nI 0) ((nI (vN v)) - (nI 1)))) = xK h := kh3
        generalize sI h3 (kv + 1) ((nmQ B z (stp B z e) (nI 0) ((nI (vP v)) - (nI 1))).toNatClampNeg) (nmQ B z (stp B z ((stp B z e).2.2)) (nI 0) ((nI (vN v)) - (nI 1))) = h6 at wh6 sh6 fh6 kh6 ⊢
        refine r_aload_n C (dx dX3_readGives 45 rfl) rfl ?_
        refine r_cv (as := []) (st := []) C X I_X3_step l_X3_28 (c_X3_step sh6 lh3.2) (by decide) (Nat.le_of_ble_eq_true rfl) List.prefix_rfl (pfx_eq kh6) rfl rfl (Nat.le_of_ble_eq_true rfl) rfl (dx dX3_readGives 46 rfl) ?_
        intro rh7 h7 hph7 kkh7
        obtain ⟨rfl, sh7, gh7⟩ := hph7
        have wh7 : VilAt h7 kv (vset v 0 ((nmQ B z (stp B z e) (nI 0) ((nI (vP v)) - (nI 1))).toNatClampNeg) (nmQ B z (stp B z ((stp B z e).2.2)) (nI 0) ((nI (vN v)) - (nI 1)))) := wh6.fr gh7 (by omega)
        have fh7 : Fs (RT k kv) h h7 := fh6.tr (Fs.of gh7 (fun b h1 h2 => Or.inl (by omega)))
        have kh7 : xK h7 = xK h := kkh7.trans kh6
        have lh7 := stp_le (B := B) lh3.2
        refine r_iconst (v := nI 1) C (dx dX3_readGives 47 rfl) rfl ?_
        have e9 : gvW B z e v = (true, (stp B z ((stp B z ((stp B z e).2.2)).2.2)), vset v 0 ((nmQ B z (stp B z e) (nI 0) ((nI (vP v)) - (nI 1))).toNatClampNeg) (nmQ B z (stp B z ((stp B z e).2.2)) (nI 0) ((nI (vN v)) - (nI 1)))) := by unfold gvW gvP gvO; rw [if_neg c2, if_neg (fun z => z.elim c4 (fun y => y.1 c5))]
        exact F.1 _ _ _ _ .boolean rfl rfl (dx dX3_readGives 48 rfl) kh7 (show some (vi (nI 1)) = some (vi (b2i (gvW B z e v).1)) ∧ RdAt h h7 k kv B z (gvW B z e v) from by rw [e9]; exact ⟨rfl, sh7, wh7, fh7⟩)
      ·
        have c5 : ¬ vF v 0 ((nmQ B z (stp B z e) (nI 0) ((nI (vP v)) - (nI 1))).toNatClampNeg) = nmQ B z (stp B z ((stp B z e).2.2)) (nI 0) ((nI (vN v)) - (nI 1)) := c5
        refine r_aload_n C (dx dX3_readGives 34 rfl) rfl ?_
        refine r_iload_n C (dx dX3_readGives 35 rfl) rfl ?_
        refine r_cvP (as := [vi (nmQ B z (stp B z ((stp B z e).2.2)) (nI 0) ((nI (vN v)) - (nI 1)))]) (st := []) (v := vi (b2i (hasRm v (nmQ B z (stp B z ((stp B z e).2.2)) (nI 0) ((nI (vN v)) - (nI 1)))))) C X I_X5_hasRoom l_X3_74 (c_X5_hasRoom wh3 _) (by decide) (Nat.le_of_ble_eq_true rfl) (pfx_eq kh3) rfl rfl (Nat.le_of_ble_eq_true rfl) rfl (dx dX3_readGives 36 rfl) ?_
        refine rb_ne (b := hasRm v (nmQ B z (stp B z ((stp B z e).2.2)) (nI 0) ((nI (vN v)) - (nI 1)))) (tgt := 64) C (dx dX3_readGives 37 rfl) (by decide) (fun c8 => ?_) (fun c8 => ?_)
        ·
          have c8 : (hasRm v (nmQ B z (stp B z ((stp B z e).2.2)) (nI 0) ((nI (vN v)) - (nI 1)))) = true := c8
          refine r_aload_n C (dx dX3_readGives 40 rfl) rfl ?_
          refine g_X3_78 C (dx dX3_readGives 41 rfl) ?_
          refine r_iload_n C (dx dX3_readGives 42 rfl) rfl ?_
          refine r_iload_n C (dx dX3_readGives 43 rfl) rfl ?_
          refine r_iast (j := (nmQ B z (stp B z e) (nI 0) ((nI (vP v)) - (nI 1))).toNatClampNeg) C rfl rfl (by decide) (inR_at (by omega) (nm_in (by omega) c2)).1 (Nat.lt_of_lt_of_le (inR_at (by omega) (nm_in (by omega) c2)).2 (by omega)) (dx dX3_readGives 44 rfl) ?_
          have wh9 : VilAt (sI h3 (kv + 1) ((nmQ B z (stp B z e) (nI 0) ((nI (vP v)) - (nI 1))).toNatClampNeg) (nmQ B z (stp B z ((stp B z e).2.2)) (nI 0) ((nI (vN v)) - (nI 1)))) kv (vset v 0 ((nmQ B z (stp B z e) (nI 0) ((nI (vP v)) - (nI 1))).toNatClampNeg) (nmQ B z (stp B z ((stp B z e).2.2)) (nI 0) ((nI (vN v)) - (nI 1)))) := wh3.s0
          have sh9 : TkAt (sI h3 (kv + 1) ((nmQ B z (stp B z e) (nI 0) ((nI (vP v)) - (nI 1))).toNatClampNeg) (nmQ B z (stp B z ((stp B z e).2.2)) (nI 0) ((nI (vN v)) - (nI 1)))) k B z ((stp B z ((stp B z e).2.2)).1) ((stp B z ((stp B z e).2.2)).2.1) ((stp B z ((stp B z e).2.2)).2.2) := sh3.fr (Fr.sI (lo := kv) (hi := kv + 9) (by omega) (by omega)) (by omega)
          have fh9 : Fs (RT k kv) h (sI h3 (kv + 1) ((nmQ B z (stp B z e) (nI 0) ((nI (vP v)) - (nI 1))).toNatClampNeg) (nmQ B z (stp B z ((stp B z e).2.2)) (nI 0) ((nI (vN v)) - (nI 1)))) := fh3.tr (Fs.of (Fr.sI (lo := kv) (hi := kv + 9) (by omega) (by omega)) (fun b h1 h2 => Or.inr ⟨h1, h2⟩))
          have kh9 : xK (sI h3 (kv + 1) ((nmQ B z (stp B z e) (nI 0) ((nI (vP v)) - (nI 1))).toNatClampNeg) (nmQ B z (stp B z ((stp B z e).2.2)) (nI 0) ((nI (vN v)) - (nI 1)))) = xK h := kh3
          generalize sI h3 (kv + 1) ((nmQ B z (stp B z e) (nI 0) ((nI (vP v)) - (nI 1))).toNatClampNeg) (nmQ B z (stp B z ((stp B z e).2.2)) (nI 0) ((nI (vN v)) - (nI 1))) = h9 at wh9 sh9 fh9 kh9 ⊢
          refine r_aload_n C (dx dX3_readGives 45 rfl) rfl ?_
          refine r_cv (as := []) (st := []) C X I_X3_step l_X3_28 (c_X3_step sh9 lh3.2) (by decide) (Nat.le_of_ble_eq_true rfl) List.prefix_rfl (pfx_eq kh9) rfl rfl (Nat.le_of_ble_eq_true rfl) rfl (dx dX3_readGives 46 rfl) ?_
          intro rh10 h10 hph10 kkh10
          obtain ⟨rfl, sh10, gh10⟩ := hph10
          have wh10 : VilAt h10 kv (vset v 0 ((nmQ B z (stp B z e) (nI 0) ((nI (vP v)) - (nI 1))).toNatClampNeg) (nmQ B z (stp B z ((stp B z e).2.2)) (nI 0) ((nI (vN v)) - (nI 1)))) := wh9.fr gh10 (by omega)
          have fh10 : Fs (RT k kv) h h10 := fh9.tr (Fs.of gh10 (fun b h1 h2 => Or.inl (by omega)))
          have kh10 : xK h10 = xK h := kkh10.trans kh9
          have lh10 := stp_le (B := B) lh3.2
          refine r_iconst (v := nI 1) C (dx dX3_readGives 47 rfl) rfl ?_
          have e9 : gvW B z e v = (true, (stp B z ((stp B z ((stp B z e).2.2)).2.2)), vset v 0 ((nmQ B z (stp B z e) (nI 0) ((nI (vP v)) - (nI 1))).toNatClampNeg) (nmQ B z (stp B z ((stp B z e).2.2)) (nI 0) ((nI (vN v)) - (nI 1)))) := by unfold gvW gvP gvO; rw [if_neg c2, if_neg (fun z => z.elim c4 (fun y => Bool.noConfusion (y.2.symm.trans c8)))]
          exact F.1 _ _ _ _ .boolean rfl rfl (dx dX3_readGives 48 rfl) kh10 (show some (vi (nI 1)) = some (vi (b2i (gvW B z e v).1)) ∧ RdAt h h10 k kv B z (gvW B z e v) from by rw [e9]; exact ⟨rfl, sh10, wh10, fh10⟩)
        ·
          have c8 : (hasRm v (nmQ B z (stp B z ((stp B z e).2.2)) (nI 0) ((nI (vN v)) - (nI 1)))) = false := c8
          refine r_iconst (v := nI 0) C (dx dX3_readGives 38 rfl) rfl ?_
          have e9 : gvW B z e v = (false, (stp B z ((stp B z e).2.2)), v) := by unfold gvW gvP gvO; rw [if_neg c2, if_pos (Or.inr ⟨c5, c8⟩)]
          exact F.1 _ _ _ _ .boolean rfl rfl (dx dX3_readGives 39 rfl) kh3 (show some (vi (nI 0)) = some (vi (b2i (gvW B z e v).1)) ∧ RdAt h h3 k kv B z (gvW B z e v) from by rw [e9]; exact ⟨rfl, sh3, wh3, fh3⟩)
  ·
    have c2 : nmQ B z (stp B z e) (nI 0) ((nI (vP v)) - (nI 1)) = -1 := c2
    refine r_iconst (v := nI 0) C (dx dX3_readGives 13 rfl) rfl ?_
    have e9 : gvW B z e v = (false, (stp B z e), v) := by unfold gvW gvP gvO; rw [if_pos c2]
    exact F.1 _ _ _ _ .boolean rfl rfl (dx dX3_readGives 14 rfl) kh1 (show some (vi (nI 0)) = some (vi (b2i (gvW B z e v).1)) ∧ RdAt h h1 k kv B z (gvW B z e v) from by rw [e9]; exact ⟨rfl, sh1, wh1, fh1⟩)
