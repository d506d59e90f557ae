/-! PART 47: the reference, exactly: texts read -/
def tkm : Nat → Nat
  | 0 => 1
  | 1 => 2
  | 2 => 3
  | 3 => 0
  | _ => 4
/-- the figures read so far -/
def fgF (B : Nat → Int32) (s : Nat) : Nat → Int64
  | 0 => 0
  | j + 1 => if j < 2 then fgF B s j * 10 + (B (s + j)).toInt64 - 48 else 100000
theorem fgF_y {B : Nat → Int32} {s e : Nat} (h : s ≤ e) (q : e - s < 2) : fgF B s (e + 1 - s) = fgF B s (e - s) * 10 + (B e).toInt64 - 48 := by
  rw [show e + 1 - s = (e - s) + 1 by omega, fgF, if_pos q, show s + (e - s) = e by omega]
theorem fgF_n {B : Nat → Int32} {s e : Nat} (h : s ≤ e) (q : ¬ e - s < 2) : fgF B s (e + 1 - s) = 100000 := by
  rw [show e + 1 - s = (e - s) + 1 by omega, fgF, if_neg q]
theorem lt_G {x : Int32} : ltB x = isG 1 x := by unfold ltB; rw [decide_not, decide_not]; rfl
theorem dg_G {x : Int32} : dgB x = isG 2 x := by unfold dgB; rw [decide_not, decide_not]; rfl
theorem stp_end {B : Nat → Int32} {z a f : Nat} (e : enO 0 B z a = f) (h : z ≤ f) : stp B z a = (3, f, f) := by unfold stp; rw [e, if_pos h]
theorem stp_wd {B : Nat → Int32} {z a f b : Nat} (e : enO 0 B z a = f) (h : f < z) (l : ltB (B f) = true) (e1 : enO 1 B z f = b) : stp B z a = (0, f, b) := by unfold stp; rw [e, if_neg (by omega), if_pos (lt_G ▸ l), e1]
theorem stp_nm {B : Nat → Int32} {z a f b : Nat} (e : enO 0 B z a = f) (h : f < z) (l : ltB (B f) = false) (d : dgB (B f) = true) (e1 : enO 2 B z f = b) : stp B z a = (1, f, b) := by unfold stp; rw [e, if_neg (by omega), if_neg (by rw [← lt_G, l]; decide), if_pos (dg_G ▸ d), e1]
theorem stp_sg {B : Nat → Int32} {z a f : Nat} (e : enO 0 B z a = f) (h : f < z) (l : ltB (B f) = false) (d : dgB (B f) = false) (c : B f = nI 59) : stp B z a = (2, f, f + 1) := by unfold stp; rw [e, if_neg (by omega), if_neg (by rw [← lt_G, l]; decide), if_neg (by rw [← dg_G, d]; decide), if_pos c]
theorem stp_no {B : Nat → Int32} {z a f : Nat} (e : enO 0 B z a = f) (h : f < z) (l : ltB (B f) = false) (d : dgB (B f) = false) (c : ¬ B f = nI 59) : stp B z a = (4, f, f + 1) := by unfold stp; rw [e, if_neg (by omega), if_neg (by rw [← lt_G, l]; decide), if_neg (by rw [← dg_G, d]; decide), if_neg c]
/-- the state while a token is looked for; how many statements there are stays -/
def Lq (h0 h : Hp) (k z a : Nat) (v : Vg) : Prop := Lk h0 h k z a v ∧ xI h k 29 = xI h0 k 29
section LQ
variable {h0 h : Hp} {k z a a' j : Nat} {v : Vg} {x : Int32} {y : Int64}
theorem Lq.e29 (p : Lq h0 h k z a v) : xI h k 29 = xI h0 k 29 := p.2
theorem Lq.m (p : Lq h0 h k z a v) : MilAt h k v := p.1.m
theorem Lq.e8 (p : Lq h0 h k z a v) : xI h k 8 = nI z := p.1.e8
theorem Lq.e23 (p : Lq h0 h k z a v) : xI h k 23 = nI a := p.1.e23
theorem Lq.az (p : Lq h0 h k z a v) : a ≤ z := p.1.az
theorem Lq.bz (p : Lq h0 h k z a v) : z ≤ 250 := p.1.bz
theorem Lq.kp (p : Lq h0 h k z a v) : Kp k h0 h := p.1.kp
theorem Lq.e28 (p : Lq h0 h k z a v) : xI h k 28 = xI h0 k 28 := p.1.e28
theorem Lq.kk (p : Lq h0 h k z a v) : xK h = xK h0 := p.1.kk
theorem Lq.tp (p : Lq h0 h k z a v) {i : Nat} : xI h (k + 16) i = xI h0 (k + 16) i := p.1.tp
theorem Lq.at (p : Lq h0 h k z a v) (ha : a' ≤ z) : Lq h0 (sI h k 23 (nI a')) k z a' v := ⟨p.1.at ha, by rw [sI_at, if_neg (by decide)]; exact p.2⟩
theorem Lq.fd (p : Lq h0 h k z a v) (hj : j = 24 ∨ j = 25) : Lq h0 (sI h k j x) k z a v := ⟨p.1.fd hj, by rw [sI_at, if_neg (by omega)]; exact p.2⟩
theorem Lq.l (p : Lq h0 h k z a v) : Lq h0 (sL h k j y) k z a v := ⟨p.1.l, p.2⟩
end LQ
/-- the state between tokens, with the token -/
def Px (h0 h : Hp) (k z : Nat) (B : Nat → Int32) (q : Tkn) (v : Vg) : Prop :=
  MilAt h k v ∧ xI h k 8 = nI z ∧ xI h k 23 = nI q.2.2 ∧ xI h k 25 = nI q.2.1 ∧ xI h k 24 = nI (tkm q.1) ∧ (q.1 = 1 → xL h k 26 = fgF B q.2.1 (q.2.2 - q.2.1)) ∧ q.2.1 ≤ q.2.2 ∧ q.2.2 ≤ z ∧ z ≤ 250 ∧ (∀ i, i < 250 → xI h (k + 16) i = B i) ∧ Kp k h0 h ∧ xK h = xK h0 ∧ xI h k 29 = xI h0 k 29
theorem Px.mk9 {h0 h : Hp} {k z a f : Nat} {B : Nat → Int32} {q : Tkn} {v : Vg} {t : Int32} (p : Lq h0 h k z a v) (hB : ∀ i, i < 250 → xI h0 (k + 16) i = B i) (f25 : xI h k 25 = nI f) (t24 : xI h k 24 = t) {n : Nat} (e : q = (n, f, a)) (et : t = nI (tkm n)) (g : n = 1 → xL h k 26 = fgF B f (a - f)) (fa : f ≤ a) : Px h0 h k z B q v := by
  subst e; subst et
  exact ⟨p.m, p.e8, p.e23, f25, t24, g, fa, p.az, p.bz, fun i hi => p.tp.trans (hB i hi), p.kp, p.kk, p.e29⟩

section PXs
variable {h0 h h1 h2 : Hp} {k z t s e : Nat} {B : Nat → Int32} {v v' : Vg} {q q' : Tkn} {x : Int32}
theorem Px.m (p : Px h0 h k z B q v) : MilAt h k v := p.1
theorem Px.e8 (p : Px h0 h k z B q v) : xI h k 8 = nI z := p.2.1
theorem Px.e23 (p : Px h0 h k z B (t, s, e) v) : xI h k 23 = nI e := p.2.2.1
theorem Px.e25 (p : Px h0 h k z B (t, s, e) v) : xI h k 25 = nI s := p.2.2.2.1
theorem Px.e24 (p : Px h0 h k z B (t, s, e) v) : xI h k 24 = nI (tkm t) := p.2.2.2.2.1
theorem Px.e26 (p : Px h0 h k z B (t, s, e) v) (ht : t = 1) : xL h k 26 = fgF B s (e - s) := p.2.2.2.2.2.1 ht
theorem Px.se (p : Px h0 h k z B (t, s, e) v) : s ≤ e := p.2.2.2.2.2.2.1
theorem Px.ez (p : Px h0 h k z B (t, s, e) v) : e ≤ z := p.2.2.2.2.2.2.2.1
theorem Px.bz (p : Px h0 h k z B q v) : z ≤ 250 := p.2.2.2.2.2.2.2.2.1
theorem Px.tp (p : Px h0 h k z B q v) {i : Nat} (hi : i < 250) : xI h (k + 16) i = B i := p.2.2.2.2.2.2.2.2.2.1 i hi
theorem Px.kp (p : Px h0 h k z B q v) : Kp k h0 h := p.2.2.2.2.2.2.2.2.2.2.1
theorem Px.kk (p : Px h0 h k z B q v) : xK h = xK h0 := p.2.2.2.2.2.2.2.2.2.2.2.1
theorem Px.e29 (p : Px h0 h k z B q v) : xI h k 29 = xI h0 k 29 := p.2.2.2.2.2.2.2.2.2.2.2.2
theorem Px.slf (p : Px h0 h k z B q v) : Px h h k z B q v := ⟨p.1, p.2.1, p.2.2.1, p.2.2.2.1, p.2.2.2.2.1, p.2.2.2.2.2.1, p.2.2.2.2.2.2.1, p.2.2.2.2.2.2.2.1, p.bz, p.2.2.2.2.2.2.2.2.2.1, Kp.rf, rfl, rfl⟩
theorem Px.tr (p : Px h0 h1 k z B q v) (r : Px h1 h2 k z B q' v') : Px h0 h2 k z B q' v' := ⟨r.1, r.2.1, r.2.2.1, r.2.2.2.1, r.2.2.2.2.1, r.2.2.2.2.2.1, r.2.2.2.2.2.2.1, r.2.2.2.2.2.2.2.1, r.bz, r.2.2.2.2.2.2.2.2.2.1, p.kp.tr r.kp, r.kk.trans p.kk, r.e29.trans p.e29⟩
theorem Px.lk (p : Px h0 h k z B q v) : Lq h h k z q.2.2 v := ⟨⟨p.1, p.2.1, p.2.2.1, p.2.2.2.2.2.2.2.1, p.bz, Kp.rf, rfl, rfl⟩, rfl⟩
/-- a cell of the village written; a field of it -/
theorem Px.c {b j : Nat} (p : Px h0 h k z B q v) (m' : MilAt (sI h b j x) k v') (h1 : k + 17 ≤ b) (h2 : b < k + 32) : Px h0 (sI h b j x) k z B q v' := by
  have e : xI (sI h b j x) k = xI h k := (oth_sI k (by omega)).1
  exact ⟨m', by rw [e]; exact p.e8, by rw [e]; exact p.2.2.1, by rw [e]; exact p.2.2.2.1, by rw [e]; exact p.2.2.2.2.1, p.2.2.2.2.2.1, p.2.2.2.2.2.2.1, p.2.2.2.2.2.2.2.1, p.bz, fun i hi => by rw [sI_ne (by omega)]; exact p.tp hi, p.kp.tr (Kp.c h1 h2), p.kk, by rw [e]; exact p.e29⟩
theorem Px.fd {j : Nat} (p : Px h0 h k z B q v) (m' : MilAt (sI h k j x) k v') (h1 : j ≠ 8) (h2 : j ≠ 23) (h3 : j ≠ 24) (h4 : j ≠ 25) (h5 : j ≠ 29) : Px h0 (sI h k j x) k z B q v' :=
  ⟨m', by rw [sI_at, if_neg (Ne.symm h1)]; exact p.e8, by rw [sI_at, if_neg (Ne.symm h2)]; exact p.2.2.1, by rw [sI_at, if_neg (Ne.symm h4)]; exact p.2.2.2.1, by rw [sI_at, if_neg (Ne.symm h3)]; exact p.2.2.2.2.1, p.2.2.2.2.2.1, p.2.2.2.2.2.2.1, p.2.2.2.2.2.2.2.1, p.bz, fun i hi => by rw [sI_ne (by omega)]; exact p.tp hi, p.kp.tr (Kp.f h1), p.kk, by rw [sI_at, if_neg (Ne.symm h5)]; exact p.e29⟩
end PXs
theorem tkm_1 {t : Nat} : tkm t = 1 ↔ t = 0 := by
  match t with
  | 0 => simp [tkm]
  | 1 => simp [tkm]
  | 2 => simp [tkm]
  | 3 => simp [tkm]
  | n + 4 => simp [tkm]
theorem tkm_2 {t : Nat} : tkm t = 2 ↔ t = 1 := by
  match t with
  | 0 => simp [tkm]
  | 1 => simp [tkm]
  | 2 => simp [tkm]
  | 3 => simp [tkm]
  | n + 4 => simp [tkm]
theorem btA_y {B : Nat → Int32} {z a : Nat} (h : a < z) : btA B z a = B a := if_pos h
set_option maxHeartbeats 4000000 in
theorem e_look {l : Launch} {h : Hp} {k : Nat} {v : Vg} {z a : Nat} {B : Nat → Int32} (hB : ∀ i, i < 250 → xI h (k + 16) i = B i) (L0 : Lq h h k z a v) : Ms l yX7_look cX7_look 1 none 2 [vr 7 k] h (xK h) (fun r h' => r = none ∧ Px h h' k z B (stp B z a) v ∧ xI h' k 28 = xI h k 28) := by
  refine Ms.of (by decide) (Nat.le_of_ble_eq_true rfl) (fun G C X F => ?_)
  have C : Cx G cX7_look 1 RX7 := C
  show Rr G 0 [(0, vr 7 k)] [] h
  have az0 := L0.az
  have bz := L0.bz
  have key0 : ∀ (n a8 : Nat) (h8 : Hp), z - a8 = n → Lq h h8 k z a8 v → a ≤ a8 → enO 0 B z a8 = enO 0 B z a → Rr G 0 [(0, vr 7 k)] [] h8 := by
    intro n
    induction n using Nat.strongRecOn with | ind n ih0 => _
    intro a9 ha9 en La9 loa9 E
    have aza9 := La9.az
    refine r_aload_n C (dx dX7_look 0 rfl) rfl ?_
    refine g_X7_141 (x := nI a9) C (dx dX7_look 1 rfl) La9.e23 ?_
    refine r_aload_n C (dx dX7_look 2 rfl) rfl ?_
    refine g_X7_138 (x := nI z) C (dx dX7_look 3 rfl) La9.e8 ?_
    refine rn_ge (a := a9) (b := z) (tgt := 38) C (by omega) (by omega) (dx dX7_look 4 rfl) (by decide) (fun c1 => ?_) (fun c1 => ?_)
    · first
      | (omega; done)
      | (
          have c1 : z ≤ a9 := c1
          refine r_aload_n C (dx dX7_look 19 rfl) rfl ?_
          refine r_aload_n C (dx dX7_look 20 rfl) rfl ?_
          refine g_X7_141 (x := nI a9) C (dx dX7_look 21 rfl) La9.e23 ?_
          refine p_X7_144 C (dx dX7_look 22 rfl) rfl rfl ?_
          have E0 : enO 0 B z a = a9 := E.symm.trans (enO_e (by omega))
          have Lh2 : Lq h (sI ha9 k 25 (nI a9)) k z a9 v := La9.fd (by decide)
          have Fh2 : xI (sI ha9 k 25 (nI a9)) k 25 = nI a9 := by rw [sI_at, if_pos rfl]
          generalize sI ha9 k 25 (nI a9) = h2 at Lh2 Fh2 ⊢
          refine r_aload_n C (dx dX7_look 23 rfl) rfl ?_
          refine r_lconst (v := 0) C (dx dX7_look 24 rfl) rfl ?_
          refine p_X7_147 C (dx dX7_look 25 rfl) ?_
          have Lh3 : Lq h (sL h2 k 26 0) k z a9 v := Lh2.l
          have Fh3 : xI (sL h2 k 26 0) k 25 = nI a9 := Fh2
          have Gh3 : xL (sL h2 k 26 0) k 26 = 0 := by rw [sL_at, if_pos rfl]
          generalize sL h2 k 26 0 = h3 at Lh3 Fh3 Gh3 ⊢
          refine r_aload_n C (dx dX7_look 26 rfl) rfl ?_
          refine g_X7_141 (x := nI a9) C (dx dX7_look 27 rfl) Lh3.e23 ?_
          refine r_aload_n C (dx dX7_look 28 rfl) rfl ?_
          refine g_X7_138 (x := nI z) C (dx dX7_look 29 rfl) Lh3.e8 ?_
          refine rn_ne (a := a9) (b := z) (tgt := 70) C (by omega) (by omega) (dx dX7_look 30 rfl) (by decide) (fun c4 => ?_) (fun c4 => ?_)
          · first
            | (omega; done)
            | (
                have c4 : ¬ a9 = z := c4
                refine r_aload_n C (dx dX7_look 35 rfl) rfl ?_
                refine g_X7_34 C (dx dX7_look 36 rfl) ?_
                refine r_aload_n C (dx dX7_look 37 rfl) rfl ?_
                refine g_X7_141 (x := nI a9) C (dx dX7_look 38 rfl) Lh3.e23 ?_
                refine r_iald (j := a9) (x := B a9) C rfl rfl (by decide) rfl (by omega) (dx dX7_look 39 rfl) (Lh3.tp.trans (hB _ (by omega))) ?_
                refine r_csP (as := [vi (B a9)]) (st := []) (v := vi (b2i (ltB (B a9)))) C X I_X7_isLetter l_X7_154 (c_X7_isLetter _) (by decide) (Nat.le_of_ble_eq_true rfl) (pfx_eq Lh3.kk) (Nat.le_of_ble_eq_true rfl) rfl (dx dX7_look 40 rfl) ?_
                refine rb_eq (b := ltB (B a9)) (tgt := 129) C (dx dX7_look 41 rfl) (by decide) (fun c5 => ?_) (fun c5 => ?_)
                ·
                  have c5 : (ltB (B a9)) = false := c5
                  refine r_aload_n C (dx dX7_look 64 rfl) rfl ?_
                  refine g_X7_34 C (dx dX7_look 65 rfl) ?_
                  refine r_aload_n C (dx dX7_look 66 rfl) rfl ?_
                  refine g_X7_141 (x := nI a9) C (dx dX7_look 67 rfl) Lh3.e23 ?_
                  refine r_iald (j := a9) (x := B a9) C rfl rfl (by decide) rfl (by omega) (dx dX7_look 68 rfl) (Lh3.tp.trans (hB _ (by omega))) ?_
                  refine r_csP (as := [vi (B a9)]) (st := []) (v := vi (b2i (dgB (B a9)))) C X I_X7_isDigit l_X7_157 (c_X7_isDigit _) (by decide) (Nat.le_of_ble_eq_true rfl) (pfx_eq Lh3.kk) (Nat.le_of_ble_eq_true rfl) rfl (dx dX7_look 69 rfl) ?_
                  refine rb_eq (b := dgB (B a9)) (tgt := 234) C (dx dX7_look 70 rfl) (by decide) (fun c6 => ?_) (fun c6 => ?_)
                  ·
                    have c6 : (dgB (B a9)) = false := c6
                    refine r_aload_n C (dx dX7_look 117 rfl) rfl ?_
                    refine r_aload_n C (dx dX7_look 118 rfl) rfl ?_
                    refine g_X7_34 C (dx dX7_look 119 rfl) ?_
                    refine r_aload_n C (dx dX7_look 120 rfl) rfl ?_
                    refine g_X7_141 (x := nI a9) C (dx dX7_look 121 rfl) Lh3.e23 ?_
                    refine r_iald (j := a9) (x := B a9) C rfl rfl (by decide) rfl (by omega) (dx dX7_look 122 rfl) (Lh3.tp.trans (hB _ (by omega))) ?_
                    refine r_bipush (v := nI 59) C (dx dX7_look 123 rfl) rfl ?_
                    refine r_icmp_ne (tgt := 253) C (dx dX7_look 124 rfl) (by decide) (fun c7 => ?_) (fun c7 => ?_)
                    ·
                      have c7 : ¬ B a9 = nI 59 := c7
                      refine r_iconst (v := nI 4) C (dx dX7_look 127 rfl) rfl ?_
                      refine p_X7_151 C (dx dX7_look 128 rfl) rfl rfl ?_
                      have Lh8 : Lq h (sI h3 k 24 (nI 4)) k z a9 v := Lh3.fd (by decide)
                      have Fh8 : xI (sI h3 k 24 (nI 4)) k 25 = nI a9 := by rw [sI_at, if_neg (by decide)]; exact Fh3
                      have Th8 : xI (sI h3 k 24 (nI 4)) k 24 = nI 4 := by rw [sI_at, if_pos rfl]
                      have Gh8 : xL (sI h3 k 24 (nI 4)) k 26 = 0 := Gh3
                      generalize sI h3 k 24 (nI 4) = h8 at Lh8 Fh8 Th8 Gh8 ⊢
                      refine r_aload_n C (dx dX7_look 129 rfl) rfl ?_
                      refine r_dupR C (dx dX7_look 130 rfl) ?_
                      refine g_X7_141 (x := nI a9) C (dx dX7_look 131 rfl) Lh8.e23 ?_
                      refine r_iconst (v := nI 1) C (dx dX7_look 132 rfl) rfl ?_
                      refine rn_iadd (a := a9) (b := 1) C (dx dX7_look 133 rfl) ?_
                      refine p_X7_141 C (dx dX7_look 134 rfl) rfl rfl ?_
                      have Lh9 : Lq h (sI h8 k 23 (nI (a9 + 1))) k z (a9 + 1) v := Lh8.at (by omega)
                      have Fh9 : xI (sI h8 k 23 (nI (a9 + 1))) k 25 = nI a9 := by rw [sI_at, if_neg (by decide)]; exact Fh8
                      have Th9 : xI (sI h8 k 23 (nI (a9 + 1))) k 24 = nI 4 := by rw [sI_at, if_neg (by decide)]; exact Th8
                      have Gh9 : xL (sI h8 k 23 (nI (a9 + 1))) k 26 = 0 := Gh8
                      generalize sI h8 k 23 (nI (a9 + 1)) = h9 at Lh9 Fh9 Th9 Gh9 ⊢
                      have e9 : stp B z a = (4, a9, a9 + 1) := stp_no E0 (by omega) c5 c6 c7
                      exact F.2.2.1 _ _ _ rfl (dx dX7_look 135 rfl) Lh9.kk ⟨rfl, Px.mk9 Lh9 hB Fh9 Th9 e9 rfl (fun q => absurd q (by decide)) (by omega), Lh9.e28⟩
                    ·
                      have c7 : B a9 = nI 59 := c7
                      refine r_iconst (v := nI 3) C (dx dX7_look 125 rfl) rfl ?_
                      refine r_goto (tgt := 254) C (dx dX7_look 126 rfl) (by decide) ?_
                      refine p_X7_151 C (dx dX7_look 128 rfl) rfl rfl ?_
                      have Lh10 : Lq h (sI h3 k 24 (nI 3)) k z a9 v := Lh3.fd (by decide)
                      have Fh10 : xI (sI h3 k 24 (nI 3)) k 25 = nI a9 := by rw [sI_at, if_neg (by decide)]; exact Fh3
                      have Th10 : xI (sI h3 k 24 (nI 3)) k 24 = nI 3 := by rw [sI_at, if_pos rfl]
                      have Gh10 : xL (sI h3 k 24 (nI 3)) k 26 = 0 := Gh3
                      generalize sI h3 k 24 (nI 3) = h10 at Lh10 Fh10 Th10 Gh10 ⊢
                      refine r_aload_n C (dx dX7_look 129 rfl) rfl ?_
                      refine r_dupR C (dx dX7_look 130 rfl) ?_
                      refine g_X7_141 (x := nI a9) C (dx dX7_look 131 rfl) Lh10.e23 ?_
                      refine r_iconst (v := nI 1) C (dx dX7_look 132 rfl) rfl ?_
                      refine rn_iadd (a := a9) (b := 1) C (dx dX7_look 133 rfl) ?_
                      refine p_X7_141 C (dx dX7_look 134 rfl) rfl rfl ?_
                      have Lh11 : Lq h (sI h10 k 23 (nI (a9 + 1))) k z (a9 + 1) v := Lh10.at (by omega)
                      have Fh11 : xI (sI h10 k 23 (nI (a9 + 1))) k 25 = nI a9 := by rw [sI_at, if_neg (by decide)]; exact Fh10
                      have Th11 : xI (sI h10 k 23 (nI (a9 + 1))) k 24 = nI 3 := by rw [sI_at, if_neg (by decide)]; exact Th10
                      have Gh11 : xL (sI h10 k 23 (nI (a9 + 1))) k 26 = 0 := Gh10
                      generalize sI h10 k 23 (nI (a9 + 1)) = h11 at Lh11 Fh11 Th11 Gh11 ⊢
                      have e9 : stp B z a = (2, a9, a9 + 1) := stp_sg E0 (by omega) c5 c6 c7
                      exact F.2.2.1 _ _ _ rfl (dx dX7_look 135 rfl) Lh11.kk ⟨rfl, Px.mk9 Lh11 hB Fh11 Th11 e9 rfl (fun q => absurd q (by decide)) (by omega), Lh11.e28⟩
                  ·
                    have c6 : (dgB (B a9)) = true := c6
                    refine r_aload_n C (dx dX7_look 71 rfl) rfl ?_
                    refine r_iconst (v := nI 2) C (dx dX7_look 72 rfl) rfl ?_
                    refine p_X7_151 C (dx dX7_look 73 rfl) rfl rfl ?_
                    have Lh12 : Lq h (sI h3 k 24 (nI 2)) k z a9 v := Lh3.fd (by decide)
                    have Fh12 : xI (sI h3 k 24 (nI 2)) k 25 = nI a9 := by rw [sI_at, if_neg (by decide)]; exact Fh3
                    have Th12 : xI (sI h3 k 24 (nI 2)) k 24 = nI 2 := by rw [sI_at, if_pos rfl]
                    have Gh12 : xL (sI h3 k 24 (nI 2)) k 26 = 0 := Gh3
                    generalize sI h3 k 24 (nI 2) = h12 at Lh12 Fh12 Th12 Gh12 ⊢
                    have key2 : ∀ (n a8 : Nat) (h8 : Hp), z - a8 = n → Lq h h8 k z a8 v → a9 ≤ a8 → enO 2 B z a8 = enO 2 B z a9 → xI h8 k 25 = nI a9 → xI h8 k 24 = nI 2 → xL h8 k 26 = fgF B a9 (a8 - a9) → Rr G 149 [(0, vr 7 k)] [] h8 := by
                      intro n
                      induction n using Nat.strongRecOn with | ind n ih2 => _
                      intro a7 ha7 en La7 loa7 E F8 T8 G8
                      have aza7 := La7.az
                      refine r_aload_n C (dx dX7_look 74 rfl) rfl ?_
                      refine g_X7_141 (x := nI a7) C (dx dX7_look 75 rfl) La7.e23 ?_
                      refine r_aload_n C (dx dX7_look 76 rfl) rfl ?_
                      refine g_X7_138 (x := nI z) C (dx dX7_look 77 rfl) La7.e8 ?_
                      refine rn_ge (a := a7) (b := z) (tgt := 267) C (by omega) (by omega) (dx dX7_look 78 rfl) (by decide) (fun c13 => ?_) (fun c13 => ?_)
                      · first
                        | (omega; done)
                        | (
                            have c13 : z ≤ a7 := c13
                            have e9 : stp B z a = (1, a9, a7) := stp_nm E0 (by omega) c5 c6 (E.symm.trans (enO_e (by omega)))
                            exact F.2.2.1 _ _ _ rfl (dx dX7_look 135 rfl) La7.kk ⟨rfl, Px.mk9 La7 hB F8 T8 e9 rfl (fun _ => G8) (by omega), La7.e28⟩)
                      · first
                        | (omega; done)
                        | (
                            have c13 : a7 < z := c13
                            refine r_aload_n C (dx dX7_look 79 rfl) rfl ?_
                            refine g_X7_34 C (dx dX7_look 80 rfl) ?_
                            refine r_aload_n C (dx dX7_look 81 rfl) rfl ?_
                            refine g_X7_141 (x := nI a7) C (dx dX7_look 82 rfl) La7.e23 ?_
                            refine r_iald (j := a7) (x := B a7) C rfl rfl (by decide) rfl (by omega) (dx dX7_look 83 rfl) (La7.tp.trans (hB _ (by omega))) ?_
                            refine r_csP (as := [vi (B a7)]) (st := []) (v := vi (b2i (dgB (B a7)))) C X I_X7_isDigit l_X7_157 (c_X7_isDigit _) (by decide) (Nat.le_of_ble_eq_true rfl) (pfx_eq La7.kk) (Nat.le_of_ble_eq_true rfl) rfl (dx dX7_look 84 rfl) ?_
                            refine rb_eq (b := dgB (B a7)) (tgt := 267) C (dx dX7_look 85 rfl) (by decide) (fun c14 => ?_) (fun c14 => ?_)
                            ·
                              have c14 : (dgB (B a7)) = false := c14
                              have e9 : stp B z a = (1, a9, a7) := stp_nm E0 (by omega) c5 c6 (E.symm.trans (enO_n (by omega) (dg_G ▸ c14)))
                              exact F.2.2.1 _ _ _ rfl (dx dX7_look 135 rfl) La7.kk ⟨rfl, Px.mk9 La7 hB F8 T8 e9 rfl (fun _ => G8) (by omega), La7.e28⟩
                            ·
                              have c14 : (dgB (B a7)) = true := c14
                              refine r_aload_n C (dx dX7_look 86 rfl) rfl ?_
                              refine r_aload_n C (dx dX7_look 87 rfl) rfl ?_
                              refine g_X7_141 (x := nI a7) C (dx dX7_look 88 rfl) La7.e23 ?_
                              refine r_aload_n C (dx dX7_look 89 rfl) rfl ?_
                              refine g_X7_144 (x := nI a9) C (dx dX7_look 90 rfl) F8 ?_
                              refine rn_isub (a := a7) (b := a9) C (by omega) (dx dX7_look 91 rfl) ?_
                              refine r_iconst (v := nI 2) C (dx dX7_look 92 rfl) rfl ?_
                              refine rn_ge (a := a7 - a9) (b := 2) (tgt := 215) C (by omega) (by omega) (dx dX7_look 93 rfl) (by decide) (fun c15 => ?_) (fun c15 => ?_)
                              · first
                                | (omega; done)
                                | (
                                    have c15 : 2 ≤ a7 - a9 := c15
                                    refine r_ldc2 C n_X7_162 (dx dX7_look 108 rfl) ?_
                                    refine p_X7_147 C (dx dX7_look 109 rfl) ?_
                                    have Lh16 : Lq h (sL ha7 k 26 100000) k z a7 v := La7.l
                                    have Fh16 : xI (sL ha7 k 26 100000) k 25 = nI a9 := F8
                                    have Th16 : xI (sL ha7 k 26 100000) k 24 = nI 2 := T8
                                    have Gh16 : xL (sL ha7 k 26 100000) k 26 = 100000 := by rw [sL_at, if_pos rfl]
                                    generalize sL ha7 k 26 100000 = h16 at Lh16 Fh16 Th16 Gh16 ⊢
                                    refine r_aload_n C (dx dX7_look 110 rfl) rfl ?_
                                    refine r_dupR C (dx dX7_look 111 rfl) ?_
                                    refine g_X7_141 (x := nI a7) C (dx dX7_look 112 rfl) Lh16.e23 ?_
                                    refine r_iconst (v := nI 1) C (dx dX7_look 113 rfl) rfl ?_
                                    refine rn_iadd (a := a7) (b := 1) C (dx dX7_look 114 rfl) ?_
                                    refine p_X7_141 C (dx dX7_look 115 rfl) rfl rfl ?_
                                    have Eh17 := (enO_y (γ := 2) (B := B) (z := z) (p := a7) (by omega) (dg_G ▸ c14)).symm.trans E
                                    have Lh17 : Lq h (sI h16 k 23 (nI (a7 + 1))) k z (a7 + 1) v := Lh16.at (by omega)
                                    have Fh17 : xI (sI h16 k 23 (nI (a7 + 1))) k 25 = nI a9 := by rw [sI_at, if_neg (by decide)]; exact Fh16
                                    have Th17 : xI (sI h16 k 23 (nI (a7 + 1))) k 24 = nI 2 := by rw [sI_at, if_neg (by decide)]; exact Th16
                                    have Gh17 : xL (sI h16 k 23 (nI (a7 + 1))) k 26 = 100000 := Gh16
                                    generalize sI h16 k 23 (nI (a7 + 1)) = h17 at Lh17 Fh17 Th17 Gh17 ⊢
                                    refine r_goto (tgt := 149) C (dx dX7_look 116 rfl) (by decide) ?_
                                    exact ih2 _ (by omega) _ _ rfl Lh17 (by omega) Eh17 Fh17 Th17 (Gh17.trans (by exact (fgF_n (by omega) (by omega)).symm)))
                              · first
                                | (omega; done)
                                | (
                                    have c15 : a7 - a9 < 2 := c15
                                    refine r_aload_n C (dx dX7_look 94 rfl) rfl ?_
                                    refine g_X7_147 C (dx dX7_look 95 rfl) rfl ?_
                                    refine r_ldc2 C n_X7_120 (dx dX7_look 96 rfl) ?_
                                    refine r_lmul C (dx dX7_look 97 rfl) ?_
                                    refine r_aload_n C (dx dX7_look 98 rfl) rfl ?_
                                    refine g_X7_34 C (dx dX7_look 99 rfl) ?_
                                    refine r_aload_n C (dx dX7_look 100 rfl) rfl ?_
                                    refine g_X7_141 (x := nI a7) C (dx dX7_look 101 rfl) La7.e23 ?_
                                    refine r_iald (j := a7) (x := B a7) C rfl rfl (by decide) rfl (by omega) (dx dX7_look 102 rfl) (La7.tp.trans (hB _ (by omega))) ?_
                                    refine r_i2l C (dx dX7_look 103 rfl) ?_
                                    refine r_ladd C (dx dX7_look 104 rfl) ?_
                                    refine r_ldc2 C n_X7_160 (dx dX7_look 105 rfl) ?_
                                    refine r_lsub C (dx dX7_look 106 rfl) ?_
                                    refine r_goto (tgt := 218) C (dx dX7_look 107 rfl) (by decide) ?_
                                    refine p_X7_147 C (dx dX7_look 109 rfl) ?_
                                    have Lh18 : Lq h (sL ha7 k 26 ((((xL ha7 k 26) * 10) + ((B a7).toInt64)) - 48)) k z a7 v := La7.l
                                    have Fh18 : xI (sL ha7 k 26 ((((xL ha7 k 26) * 10) + ((B a7).toInt64)) - 48)) k 25 = nI a9 := F8
                                    have Th18 : xI (sL ha7 k 26 ((((xL ha7 k 26) * 10) + ((B a7).toInt64)) - 48)) k 24 = nI 2 := T8
                                    have Gh18 : xL (sL ha7 k 26 ((((xL ha7 k 26) * 10) + ((B a7).toInt64)) - 48)) k 26 = ((((xL ha7 k 26) * 10) + ((B a7).toInt64)) - 48) := by rw [sL_at, if_pos rfl]
                                    generalize sL ha7 k 26 ((((xL ha7 k 26) * 10) + ((B a7).toInt64)) - 48) = h18 at Lh18 Fh18 Th18 Gh18 ⊢
                                    refine r_aload_n C (dx dX7_look 110 rfl) rfl ?_
                                    refine r_dupR C (dx dX7_look 111 rfl) ?_
                                    refine g_X7_141 (x := nI a7) C (dx dX7_look 112 rfl) Lh18.e23 ?_
                                    refine r_iconst (v := nI 1) C (dx dX7_look 113 rfl) rfl ?_
                                    refine rn_iadd (a := a7) (b := 1) C (dx dX7_look 114 rfl) ?_
                                    refine p_X7_141 C (dx dX7_look 115 rfl) rfl rfl ?_
                                    have Eh19 := (enO_y (γ := 2) (B := B) (z := z) (p := a7) (by omega) (dg_G ▸ c14)).symm.trans E
                                    have Lh19 : Lq h (sI h18 k 23 (nI (a7 + 1))) k z (a7 + 1) v := Lh18.at (by omega)
                                    have Fh19 : xI (sI h18 k 23 (nI (a7 + 1))) k 25 = nI a9 := by rw [sI_at, if_neg (by decide)]; exact Fh18
                                    have Th19 : xI (sI h18 k 23 (nI (a7 + 1))) k 24 = nI 2 := by rw [sI_at, if_neg (by decide)]; exact Th18
                                    have Gh19 : xL (sI h18 k 23 (nI (a7 + 1))) k 26 = ((((xL ha7 k 26) * 10) + ((B a7).toInt64)) - 48) := Gh18
                                    generalize sI h18 k 23 (nI (a7 + 1)) = h19 at Lh19 Fh19 Th19 Gh19 ⊢
                                    refine r_goto (tgt := 149) C (dx dX7_look 116 rfl) (by decide) ?_
                                    exact ih2 _ (by omega) _ _ rfl Lh19 (by omega) Eh19 Fh19 Th19 (Gh19.trans (by rw [G8]; exact (fgF_y (by omega) (by omega)).symm))))
                    exact key2 _ _ _ rfl Lh12 (by omega) rfl Fh12 Th12 (by rw [Nat.sub_self]; exact Gh12)
                ·
                  have c5 : (ltB (B a9)) = true := c5
                  refine r_aload_n C (dx dX7_look 42 rfl) rfl ?_
                  refine r_iconst (v := nI 1) C (dx dX7_look 43 rfl) rfl ?_
                  refine p_X7_151 C (dx dX7_look 44 rfl) rfl rfl ?_
                  have Lh20 : Lq h (sI h3 k 24 (nI 1)) k z a9 v := Lh3.fd (by decide)
                  have Fh20 : xI (sI h3 k 24 (nI 1)) k 25 = nI a9 := by rw [sI_at, if_neg (by decide)]; exact Fh3
                  have Th20 : xI (sI h3 k 24 (nI 1)) k 24 = nI 1 := by rw [sI_at, if_pos rfl]
                  have Gh20 : xL (sI h3 k 24 (nI 1)) k 26 = 0 := Gh3
                  generalize sI h3 k 24 (nI 1) = h20 at Lh20 Fh20 Th20 Gh20 ⊢
                  have key1 : ∀ (n a8 : Nat) (h8 : Hp), z - a8 = n → Lq h h8 k z a8 v → a9 ≤ a8 → enO 1 B z a8 = enO 1 B z a9 → xI h8 k 25 = nI a9 → xI h8 k 24 = nI 1 → xL h8 k 26 = 0 → Rr G 90 [(0, vr 7 k)] [] h8 := by
                    intro n
                    induction n using Nat.strongRecOn with | ind n ih1 => _
                    intro a7 ha7 en La7 loa7 E F8 T8 G8
                    have aza7 := La7.az
                    refine r_aload_n C (dx dX7_look 45 rfl) rfl ?_
                    refine g_X7_141 (x := nI a7) C (dx dX7_look 46 rfl) La7.e23 ?_
                    refine r_aload_n C (dx dX7_look 47 rfl) rfl ?_
                    refine g_X7_138 (x := nI z) C (dx dX7_look 48 rfl) La7.e8 ?_
                    refine rn_ge (a := a7) (b := z) (tgt := 267) C (by omega) (by omega) (dx dX7_look 49 rfl) (by decide) (fun c21 => ?_) (fun c21 => ?_)
                    · first
                      | (omega; done)
                      | (
                          have c21 : z ≤ a7 := c21
                          have e9 : stp B z a = (0, a9, a7) := stp_wd E0 (by omega) c5 (E.symm.trans (enO_e (by omega)))
                          exact F.2.2.1 _ _ _ rfl (dx dX7_look 135 rfl) La7.kk ⟨rfl, Px.mk9 La7 hB F8 T8 e9 rfl (fun q => absurd q (by decide)) (by omega), La7.e28⟩)
                    · first
                      | (omega; done)
                      | (
                          have c21 : a7 < z := c21
                          refine r_aload_n C (dx dX7_look 50 rfl) rfl ?_
                          refine g_X7_34 C (dx dX7_look 51 rfl) ?_
                          refine r_aload_n C (dx dX7_look 52 rfl) rfl ?_
                          refine g_X7_141 (x := nI a7) C (dx dX7_look 53 rfl) La7.e23 ?_
                          refine r_iald (j := a7) (x := B a7) C rfl rfl (by decide) rfl (by omega) (dx dX7_look 54 rfl) (La7.tp.trans (hB _ (by omega))) ?_
                          refine r_csP (as := [vi (B a7)]) (st := []) (v := vi (b2i (ltB (B a7)))) C X I_X7_isLetter l_X7_154 (c_X7_isLetter _) (by decide) (Nat.le_of_ble_eq_true rfl) (pfx_eq La7.kk) (Nat.le_of_ble_eq_true rfl) rfl (dx dX7_look 55 rfl) ?_
                          refine rb_eq (b := ltB (B a7)) (tgt := 267) C (dx dX7_look 56 rfl) (by decide) (fun c22 => ?_) (fun c22 => ?_)
                          ·
                            have c22 : (ltB (B a7)) = false := c22
                            have e9 : stp B z a = (0, a9, a7) := stp_wd E0 (by omega) c5 (E.symm.trans (enO_n (by omega) (lt_G ▸ c22)))
                            exact F.2.2.1 _ _ _ rfl (dx dX7_look 135 rfl) La7.kk ⟨rfl, Px.mk9 La7 hB F8 T8 e9 rfl (fun q => absurd q (by decide)) (by omega), La7.e28⟩
                          ·
                            have c22 : (ltB (B a7)) = true := c22
                            refine r_aload_n C (dx dX7_look 57 rfl) rfl ?_
                            refine r_dupR C (dx dX7_look 58 rfl) ?_
                            refine g_X7_141 (x := nI a7) C (dx dX7_look 59 rfl) La7.e23 ?_
                            refine r_iconst (v := nI 1) C (dx dX7_look 60 rfl) rfl ?_
                            refine rn_iadd (a := a7) (b := 1) C (dx dX7_look 61 rfl) ?_
                            refine p_X7_141 C (dx dX7_look 62 rfl) rfl rfl ?_
                            have Eh23 := (enO_y (γ := 1) (B := B) (z := z) (p := a7) (by omega) (lt_G ▸ c22)).symm.trans E
                            have Lh23 : Lq h (sI ha7 k 23 (nI (a7 + 1))) k z (a7 + 1) v := La7.at (by omega)
                            have Fh23 : xI (sI ha7 k 23 (nI (a7 + 1))) k 25 = nI a9 := by rw [sI_at, if_neg (by decide)]; exact F8
                            have Th23 : xI (sI ha7 k 23 (nI (a7 + 1))) k 24 = nI 1 := by rw [sI_at, if_neg (by decide)]; exact T8
                            have Gh23 : xL (sI ha7 k 23 (nI (a7 + 1))) k 26 = 0 := G8
                            generalize sI ha7 k 23 (nI (a7 + 1)) = h23 at Lh23 Fh23 Th23 Gh23 ⊢
                            refine r_goto (tgt := 90) C (dx dX7_look 63 rfl) (by decide) ?_
                            exact ih1 _ (by omega) _ _ rfl Lh23 (by omega) Eh23 Fh23 Th23 Gh23)
                  exact key1 _ _ _ rfl Lh20 (by omega) rfl Fh20 Th20 Gh20)
          · first
            | (omega; done)
            | (
                have c4 : a9 = z := c4
                refine r_aload_n C (dx dX7_look 31 rfl) rfl ?_
                refine r_iconst (v := nI 0) C (dx dX7_look 32 rfl) rfl ?_
                refine p_X7_151 C (dx dX7_look 33 rfl) rfl rfl ?_
                have Lh24 : Lq h (sI h3 k 24 (nI 0)) k z a9 v := Lh3.fd (by decide)
                have Fh24 : xI (sI h3 k 24 (nI 0)) k 25 = nI a9 := by rw [sI_at, if_neg (by decide)]; exact Fh3
                have Th24 : xI (sI h3 k 24 (nI 0)) k 24 = nI 0 := by rw [sI_at, if_pos rfl]
                have Gh24 : xL (sI h3 k 24 (nI 0)) k 26 = 0 := Gh3
                generalize sI h3 k 24 (nI 0) = h24 at Lh24 Fh24 Th24 Gh24 ⊢
                refine r_goto (tgt := 267) C (dx dX7_look 34 rfl) (by decide) ?_
                have e9 : stp B z a = (3, a9, a9) := stp_end E0 (by omega)
                exact F.2.2.1 _ _ _ rfl (dx dX7_look 135 rfl) Lh24.kk ⟨rfl, Px.mk9 Lh24 hB Fh24 Th24 e9 rfl (fun q => absurd q (by decide)) (by omega), Lh24.e28⟩))
    · first
      | (omega; done)
      | (
          have c1 : a9 < z := c1
          refine r_aload_n C (dx dX7_look 5 rfl) rfl ?_
          refine g_X7_34 C (dx dX7_look 6 rfl) ?_
          refine r_aload_n C (dx dX7_look 7 rfl) rfl ?_
          refine g_X7_141 (x := nI a9) C (dx dX7_look 8 rfl) La9.e23 ?_
          refine r_iald (j := a9) (x := B a9) C rfl rfl (by decide) rfl (by omega) (dx dX7_look 9 rfl) (La9.tp.trans (hB _ (by omega))) ?_
          refine r_bipush (v := nI 32) C (dx dX7_look 10 rfl) rfl ?_
          refine r_icmp_ne (tgt := 38) C (dx dX7_look 11 rfl) (by decide) (fun c25 => ?_) (fun c25 => ?_)
          ·
            have c25 : ¬ B a9 = nI 32 := c25
            refine r_aload_n C (dx dX7_look 19 rfl) rfl ?_
            refine r_aload_n C (dx dX7_look 20 rfl) rfl ?_
            refine g_X7_141 (x := nI a9) C (dx dX7_look 21 rfl) La9.e23 ?_
            refine p_X7_144 C (dx dX7_look 22 rfl) rfl rfl ?_
            have E0 : enO 0 B z a = a9 := E.symm.trans (enO_n (by omega) (decide_eq_false c25))
            have Lh26 : Lq h (sI ha9 k 25 (nI a9)) k z a9 v := La9.fd (by decide)
            have Fh26 : xI (sI ha9 k 25 (nI a9)) k 25 = nI a9 := by rw [sI_at, if_pos rfl]
            generalize sI ha9 k 25 (nI a9) = h26 at Lh26 Fh26 ⊢
            refine r_aload_n C (dx dX7_look 23 rfl) rfl ?_
            refine r_lconst (v := 0) C (dx dX7_look 24 rfl) rfl ?_
            refine p_X7_147 C (dx dX7_look 25 rfl) ?_
            have Lh27 : Lq h (sL h26 k 26 0) k z a9 v := Lh26.l
            have Fh27 : xI (sL h26 k 26 0) k 25 = nI a9 := Fh26
            have Gh27 : xL (sL h26 k 26 0) k 26 = 0 := by rw [sL_at, if_pos rfl]
            generalize sL h26 k 26 0 = h27 at Lh27 Fh27 Gh27 ⊢
            refine r_aload_n C (dx dX7_look 26 rfl) rfl ?_
            refine g_X7_141 (x := nI a9) C (dx dX7_look 27 rfl) Lh27.e23 ?_
            refine r_aload_n C (dx dX7_look 28 rfl) rfl ?_
            refine g_X7_138 (x := nI z) C (dx dX7_look 29 rfl) Lh27.e8 ?_
            refine rn_ne (a := a9) (b := z) (tgt := 70) C (by omega) (by omega) (dx dX7_look 30 rfl) (by decide) (fun c28 => ?_) (fun c28 => ?_)
            · first
              | (omega; done)
              | (
                  have c28 : ¬ a9 = z := c28
                  refine r_aload_n C (dx dX7_look 35 rfl) rfl ?_
                  refine g_X7_34 C (dx dX7_look 36 rfl) ?_
                  refine r_aload_n C (dx dX7_look 37 rfl) rfl ?_
                  refine g_X7_141 (x := nI a9) C (dx dX7_look 38 rfl) Lh27.e23 ?_
                  refine r_iald (j := a9) (x := B a9) C rfl rfl (by decide) rfl (by omega) (dx dX7_look 39 rfl) (Lh27.tp.trans (hB _ (by omega))) ?_
                  refine r_csP (as := [vi (B a9)]) (st := []) (v := vi (b2i (ltB (B a9)))) C X I_X7_isLetter l_X7_154 (c_X7_isLetter _) (by decide) (Nat.le_of_ble_eq_true rfl) (pfx_eq Lh27.kk) (Nat.le_of_ble_eq_true rfl) rfl (dx dX7_look 40 rfl) ?_
                  refine rb_eq (b := ltB (B a9)) (tgt := 129) C (dx dX7_look 41 rfl) (by decide) (fun c29 => ?_) (fun c29 => ?_)
                  ·
                    have c29 : (ltB (B a9)) = false := c29
                    refine r_aload_n C (dx dX7_look 64 rfl) rfl ?_
                    refine g_X7_34 C (dx dX7_look 65 rfl) ?_
                    refine r_aload_n C (dx dX7_look 66 rfl) rfl ?_
                    refine g_X7_141 (x := nI a9) C (dx dX7_look 67 rfl) Lh27.e23 ?_
                    refine r_iald (j := a9) (x := B a9) C rfl rfl (by decide) rfl (by omega) (dx dX7_look 68 rfl) (Lh27.tp.trans (hB _ (by omega))) ?_
                    refine r_csP (as := [vi (B a9)]) (st := []) (v := vi (b2i (dgB (B a9)))) C X I_X7_isDigit l_X7_157 (c_X7_isDigit _) (by decide) (Nat.le_of_ble_eq_true rfl) (pfx_eq Lh27.kk) (Nat.le_of_ble_eq_true rfl) rfl (dx dX7_look 69 rfl) ?_
                    refine rb_eq (b := dgB (B a9)) (tgt := 234) C (dx dX7_look 70 rfl) (by decide) (fun c30 => ?_) (fun c30 => ?_)
                    ·
                      have c30 : (dgB (B a9)) = false := c30
                      refine r_aload_n C (dx dX7_look 117 rfl) rfl ?_
                      refine r_aload_n C (dx dX7_look 118 rfl) rfl ?_
                      refine g_X7_34 C (dx dX7_look 119 rfl) ?_
                      refine r_aload_n C (dx dX7_look 120 rfl) rfl ?_
                      refine g_X7_141 (x := nI a9) C (dx dX7_look 121 rfl) Lh27.e23 ?_
                      refine r_iald (j := a9) (x := B a9) C rfl rfl (by decide) rfl (by omega) (dx dX7_look 122 rfl) (Lh27.tp.trans (hB _ (by omega))) ?_
                      refine r_bipush (v := nI 59) C (dx dX7_look 123 rfl) rfl ?_
                      refine r_icmp_ne (tgt := 253) C (dx dX7_look 124 rfl) (by decide) (fun c31 => ?_) (fun c31 => ?_)
                      ·
                        have c31 : ¬ B a9 = nI 59 := c31
                        refine r_iconst (v := nI 4) C (dx dX7_look 127 rfl) rfl ?_
                        refine p_X7_151 C (dx dX7_look 128 rfl) rfl rfl ?_
                        have Lh32 : Lq h (sI h27 k 24 (nI 4)) k z a9 v := Lh27.fd (by decide)
                        have Fh32 : xI (sI h27 k 24 (nI 4)) k 25 = nI a9 := by rw [sI_at, if_neg (by decide)]; exact Fh27
                        have Th32 : xI (sI h27 k 24 (nI 4)) k 24 = nI 4 := by rw [sI_at, if_pos rfl]
                        have Gh32 : xL (sI h27 k 24 (nI 4)) k 26 = 0 := Gh27
                        generalize sI h27 k 24 (nI 4) = h32 at Lh32 Fh32 Th32 Gh32 ⊢
                        refine r_aload_n C (dx dX7_look 129 rfl) rfl ?_
                        refine r_dupR C (dx dX7_look 130 rfl) ?_
                        refine g_X7_141 (x := nI a9) C (dx dX7_look 131 rfl) Lh32.e23 ?_
                        refine r_iconst (v := nI 1) C (dx dX7_look 132 rfl) rfl ?_
                        refine rn_iadd (a := a9) (b := 1) C (dx dX7_look 133 rfl) ?_
                        refine p_X7_141 C (dx dX7_look 134 rfl) rfl rfl ?_
                        have Lh33 : Lq h (sI h32 k 23 (nI (a9 + 1))) k z (a9 + 1) v := Lh32.at (by omega)
                        have Fh33 : xI (sI h32 k 23 (nI (a9 + 1))) k 25 = nI a9 := by rw [sI_at, if_neg (by decide)]; exact Fh32
                        have Th33 : xI (sI h32 k 23 (nI (a9 + 1))) k 24 = nI 4 := by rw [sI_at, if_neg (by decide)]; exact Th32
                        have Gh33 : xL (sI h32 k 23 (nI (a9 + 1))) k 26 = 0 := Gh32
                        generalize sI h32 k 23 (nI (a9 + 1)) = h33 at Lh33 Fh33 Th33 Gh33 ⊢
                        have e9 : stp B z a = (4, a9, a9 + 1) := stp_no E0 (by omega) c29 c30 c31
                        exact F.2.2.1 _ _ _ rfl (dx dX7_look 135 rfl) Lh33.kk ⟨rfl, Px.mk9 Lh33 hB Fh33 Th33 e9 rfl (fun q => absurd q (by decide)) (by omega), Lh33.e28⟩
                      ·
                        have c31 : B a9 = nI 59 := c31
                        refine r_iconst (v := nI 3) C (dx dX7_look 125 rfl) rfl ?_
                        refine r_goto (tgt := 254) C (dx dX7_look 126 rfl) (by decide) ?_
                        refine p_X7_151 C (dx dX7_look 128 rfl) rfl rfl ?_
                        have Lh34 : Lq h (sI h27 k 24 (nI 3)) k z a9 v := Lh27.fd (by decide)
                        have Fh34 : xI (sI h27 k 24 (nI 3)) k 25 = nI a9 := by rw [sI_at, if_neg (by decide)]; exact Fh27
                        have Th34 : xI (sI h27 k 24 (nI 3)) k 24 = nI 3 := by rw [sI_at, if_pos rfl]
                        have Gh34 : xL (sI h27 k 24 (nI 3)) k 26 = 0 := Gh27
                        generalize sI h27 k 24 (nI 3) = h34 at Lh34 Fh34 Th34 Gh34 ⊢
                        refine r_aload_n C (dx dX7_look 129 rfl) rfl ?_
                        refine r_dupR C (dx dX7_look 130 rfl) ?_
                        refine g_X7_141 (x := nI a9) C (dx dX7_look 131 rfl) Lh34.e23 ?_
                        refine r_iconst (v := nI 1) C (dx dX7_look 132 rfl) rfl ?_
                        refine rn_iadd (a := a9) (b := 1) C (dx dX7_look 133 rfl) ?_
                        refine p_X7_141 C (dx dX7_look 134 rfl) rfl rfl ?_
                        have Lh35 : Lq h (sI h34 k 23 (nI (a9 + 1))) k z (a9 + 1) v := Lh34.at (by omega)
                        have Fh35 : xI (sI h34 k 23 (nI (a9 + 1))) k 25 = nI a9 := by rw [sI_at, if_neg (by decide)]; exact Fh34
                        have Th35 : xI (sI h34 k 23 (nI (a9 + 1))) k 24 = nI 3 := by rw [sI_at, if_neg (by decide)]; exact Th34
                        have Gh35 : xL (sI h34 k 23 (nI (a9 + 1))) k 26 = 0 := Gh34
                        generalize sI h34 k 23 (nI (a9 + 1)) = h35 at Lh35 Fh35 Th35 Gh35 ⊢
                        have e9 : stp B z a = (2, a9, a9 + 1) := stp_sg E0 (by omega) c29 c30 c31
                        exact F.2.2.1 _ _ _ rfl (dx dX7_look 135 rfl) Lh35.kk ⟨rfl, Px.mk9 Lh35 hB Fh35 Th35 e9 rfl (fun q => absurd q (by decide)) (by omega), Lh35.e28⟩
                    ·
                      have c30 : (dgB (B a9)) = true := c30
                      refine r_aload_n C (dx dX7_look 71 rfl) rfl ?_
                      refine r_iconst (v := nI 2) C (dx dX7_look 72 rfl) rfl ?_
                      refine p_X7_151 C (dx dX7_look 73 rfl) rfl rfl ?_
                      have Lh36 : Lq h (sI h27 k 24 (nI 2)) k z a9 v := Lh27.fd (by decide)
                      have Fh36 : xI (sI h27 k 24 (nI 2)) k 25 = nI a9 := by rw [sI_at, if_neg (by decide)]; exact Fh27
                      have Th36 : xI (sI h27 k 24 (nI 2)) k 24 = nI 2 := by rw [sI_at, if_pos rfl]
                      have Gh36 : xL (sI h27 k 24 (nI 2)) k 26 = 0 := Gh27
                      generalize sI h27 k 24 (nI 2) = h36 at Lh36 Fh36 Th36 Gh36 ⊢
                      have key2 : ∀ (n a8 : Nat) (h8 : Hp), z - a8 = n → Lq h h8 k z a8 v → a9 ≤ a8 → enO 2 B z a8 = enO 2 B z a9 → xI h8 k 25 = nI a9 → xI h8 k 24 = nI 2 → xL h8 k 26 = fgF B a9 (a8 - a9) → Rr G 149 [(0, vr 7 k)] [] h8 := by
                        intro n
                        induction n using Nat.strongRecOn with | ind n ih2 => _
                        intro a7 ha7 en La7 loa7 E F8 T8 G8
                        have aza7 := La7.az
                        refine r_aload_n C (dx dX7_look 74 rfl) rfl ?_
                        refine g_X7_141 (x := nI a7) C (dx dX7_look 75 rfl) La7.e23 ?_
                        refine r_aload_n C (dx dX7_look 76 rfl) rfl ?_
                        refine g_X7_138 (x := nI z) C (dx dX7_look 77 rfl) La7.e8 ?_
                        refine rn_ge (a := a7) (b := z) (tgt := 267) C (by omega) (by omega) (dx dX7_look 78 rfl) (by decide) (fun c37 => ?_) (fun c37 => ?_)
                        · first
                          | (omega; done)
                          | (
                              have c37 : z ≤ a7 := c37
                              have e9 : stp B z a = (1, a9, a7) := stp_nm E0 (by omega) c29 c30 (E.symm.trans (enO_e (by omega)))
                              exact F.2.2.1 _ _ _ rfl (dx dX7_look 135 rfl) La7.kk ⟨rfl, Px.mk9 La7 hB F8 T8 e9 rfl (fun _ => G8) (by omega), La7.e28⟩)
                        · first
                          | (omega; done)
                          | (
                              have c37 : a7 < z := c37
                              refine r_aload_n C (dx dX7_look 79 rfl) rfl ?_
                              refine g_X7_34 C (dx dX7_look 80 rfl) ?_
                              refine r_aload_n C (dx dX7_look 81 rfl) rfl ?_
                              refine g_X7_141 (x := nI a7) C (dx dX7_look 82 rfl) La7.e23 ?_
                              refine r_iald (j := a7) (x := B a7) C rfl rfl (by decide) rfl (by omega) (dx dX7_look 83 rfl) (La7.tp.trans (hB _ (by omega))) ?_
                              refine r_csP (as := [vi (B a7)]) (st := []) (v := vi (b2i (dgB (B a7)))) C X I_X7_isDigit l_X7_157 (c_X7_isDigit _) (by decide) (Nat.le_of_ble_eq_true rfl) (pfx_eq La7.kk) (Nat.le_of_ble_eq_true rfl) rfl (dx dX7_look 84 rfl) ?_
                              refine rb_eq (b := dgB (B a7)) (tgt := 267) C (dx dX7_look 85 rfl) (by decide) (fun c38 => ?_) (fun c38 => ?_)
                              ·
                                have c38 : (dgB (B a7)) = false := c38
                                have e9 : stp B z a = (1, a9, a7) := stp_nm E0 (by omega) c29 c30 (E.symm.trans (enO_n (by omega) (dg_G ▸ c38)))
                                exact F.2.2.1 _ _ _ rfl (dx dX7_look 135 rfl) La7.kk ⟨rfl, Px.mk9 La7 hB F8 T8 e9 rfl (fun _ => G8) (by omega), La7.e28⟩
                              ·
                                have c38 : (dgB (B a7)) = true := c38
                                refine r_aload_n C (dx dX7_look 86 rfl) rfl ?_
                                refine r_aload_n C (dx dX7_look 87 rfl) rfl ?_
                                refine g_X7_141 (x := nI a7) C (dx dX7_look 88 rfl) La7.e23 ?_
                                refine r_aload_n C (dx dX7_look 89 rfl) rfl ?_
                                refine g_X7_144 (x := nI a9) C (dx dX7_look 90 rfl) F8 ?_
                                refine rn_isub (a := a7) (b := a9) C (by omega) (dx dX7_look 91 rfl) ?_
                                refine r_iconst (v := nI 2) C (dx dX7_look 92 rfl) rfl ?_
                                refine rn_ge (a := a7 - a9) (b := 2) (tgt := 215) C (by omega) (by omega) (dx dX7_look 93 rfl) (by decide) (fun c39 => ?_) (fun c39 => ?_)
                                · first
                                  | (omega; done)
                                  | (
                                      have c39 : 2 ≤ a7 - a9 := c39
                                      refine r_ldc2 C n_X7_162 (dx dX7_look 108 rfl) ?_
                                      refine p_X7_147 C (dx dX7_look 109 rfl) ?_
                                      have Lh40 : Lq h (sL ha7 k 26 100000) k z a7 v := La7.l
                                      have Fh40 : xI (sL ha7 k 26 100000) k 25 = nI a9 := F8
                                      have Th40 : xI (sL ha7 k 26 100000) k 24 = nI 2 := T8
                                      have Gh40 : xL (sL ha7 k 26 100000) k 26 = 100000 := by rw [sL_at, if_pos rfl]
                                      generalize sL ha7 k 26 100000 = h40 at Lh40 Fh40 Th40 Gh40 ⊢
                                      refine r_aload_n C (dx dX7_look 110 rfl) rfl ?_
                                      refine r_dupR C (dx dX7_look 111 rfl) ?_
                                      refine g_X7_141 (x := nI a7) C (dx dX7_look 112 rfl) Lh40.e23 ?_
                                      refine r_iconst (v := nI 1) C (dx dX7_look 113 rfl) rfl ?_
                                      refine rn_iadd (a := a7) (b := 1) C (dx dX7_look 114 rfl) ?_
                                      refine p_X7_141 C (dx dX7_look 115 rfl) rfl rfl ?_
                                      have Eh41 := (enO_y (γ := 2) (B := B) (z := z) (p := a7) (by omega) (dg_G ▸ c38)).symm.trans E
                                      have Lh41 : Lq h (sI h40 k 23 (nI (a7 + 1))) k z (a7 + 1) v := Lh40.at (by omega)
                                      have Fh41 : xI (sI h40 k 23 (nI (a7 + 1))) k 25 = nI a9 := by rw [sI_at, if_neg (by decide)]; exact Fh40
                                      have Th41 : xI (sI h40 k 23 (nI (a7 + 1))) k 24 = nI 2 := by rw [sI_at, if_neg (by decide)]; exact Th40
                                      have Gh41 : xL (sI h40 k 23 (nI (a7 + 1))) k 26 = 100000 := Gh40
                                      generalize sI h40 k 23 (nI (a7 + 1)) = h41 at Lh41 Fh41 Th41 Gh41 ⊢
                                      refine r_goto (tgt := 149) C (dx dX7_look 116 rfl) (by decide) ?_
                                      exact ih2 _ (by omega) _ _ rfl Lh41 (by omega) Eh41 Fh41 Th41 (Gh41.trans (by exact (fgF_n (by omega) (by omega)).symm)))
                                · first
                                  | (omega; done)
                                  | (
                                      have c39 : a7 - a9 < 2 := c39
                                      refine r_aload_n C (dx dX7_look 94 rfl) rfl ?_
                                      refine g_X7_147 C (dx dX7_look 95 rfl) rfl ?_
                                      refine r_ldc2 C n_X7_120 (dx dX7_look 96 rfl) ?_
                                      refine r_lmul C (dx dX7_look 97 rfl) ?_
                                      refine r_aload_n C (dx dX7_look 98 rfl) rfl ?_
                                      refine g_X7_34 C (dx dX7_look 99 rfl) ?_
                                      refine r_aload_n C (dx dX7_look 100 rfl) rfl ?_
                                      refine g_X7_141 (x := nI a7) C (dx dX7_look 101 rfl) La7.e23 ?_
                                      refine r_iald (j := a7) (x := B a7) C rfl rfl (by decide) rfl (by omega) (dx dX7_look 102 rfl) (La7.tp.trans (hB _ (by omega))) ?_
                                      refine r_i2l C (dx dX7_look 103 rfl) ?_
                                      refine r_ladd C (dx dX7_look 104 rfl) ?_
                                      refine r_ldc2 C n_X7_160 (dx dX7_look 105 rfl) ?_
                                      refine r_lsub C (dx dX7_look 106 rfl) ?_
                                      refine r_goto (tgt := 218) C (dx dX7_look 107 rfl) (by decide) ?_
                                      refine p_X7_147 C (dx dX7_look 109 rfl) ?_
                                      have Lh42 : Lq h (sL ha7 k 26 ((((xL ha7 k 26) * 10) + ((B a7).toInt64)) - 48)) k z a7 v := La7.l
                                      have Fh42 : xI (sL ha7 k 26 ((((xL ha7 k 26) * 10) + ((B a7).toInt64)) - 48)) k 25 = nI a9 := F8
                                      have Th42 : xI (sL ha7 k 26 ((((xL ha7 k 26) * 10) + ((B a7).toInt64)) - 48)) k 24 = nI 2 := T8
                                      have Gh42 : xL (sL ha7 k 26 ((((xL ha7 k 26) * 10) + ((B a7).toInt64)) - 48)) k 26 = ((((xL ha7 k 26) * 10) + ((B a7).toInt64)) - 48) := by rw [sL_at, if_pos rfl]
                                      generalize sL ha7 k 26 ((((xL ha7 k 26) * 10) + ((B a7).toInt64)) - 48) = h42 at Lh42 Fh42 Th42 Gh42 ⊢
                                      refine r_aload_n C (dx dX7_look 110 rfl) rfl ?_
                                      refine r_dupR C (dx dX7_look 111 rfl) ?_
                                      refine g_X7_141 (x := nI a7) C (dx dX7_look 112 rfl) Lh42.e23 ?_
                                      refine r_iconst (v := nI 1) C (dx dX7_look 113 rfl) rfl ?_
                                      refine rn_iadd (a := a7) (b := 1) C (dx dX7_look 114 rfl) ?_
                                      refine p_X7_141 C (dx dX7_look 115 rfl) rfl rfl ?_
                                      have Eh43 := (enO_y (γ := 2) (B := B) (z := z) (p := a7) (by omega) (dg_G ▸ c38)).symm.trans E
                                      have Lh43 : Lq h (sI h42 k 23 (nI (a7 + 1))) k z (a7 + 1) v := Lh42.at (by omega)
                                      have Fh43 : xI (sI h42 k 23 (nI (a7 + 1))) k 25 = nI a9 := by rw [sI_at, if_neg (by decide)]; exact Fh42
                                      have Th43 : xI (sI h42 k 23 (nI (a7 + 1))) k 24 = nI 2 := by rw [sI_at, if_neg (by decide)]; exact Th42
                                      have Gh43 : xL (sI h42 k 23 (nI (a7 + 1))) k 26 = ((((xL ha7 k 26) * 10) + ((B a7).toInt64)) - 48) := Gh42
                                      generalize sI h42 k 23 (nI (a7 + 1)) = h43 at Lh43 Fh43 Th43 Gh43 ⊢
                                      refine r_goto (tgt := 149) C (dx dX7_look 116 rfl) (by decide) ?_
                                      exact ih2 _ (by omega) _ _ rfl Lh43 (by omega) Eh43 Fh43 Th43 (Gh43.trans (by rw [G8]; exact (fgF_y (by omega) (by omega)).symm))))
                      exact key2 _ _ _ rfl Lh36 (by omega) rfl Fh36 Th36 (by rw [Nat.sub_self]; exact Gh36)
                  ·
                    have c29 : (ltB (B a9)) = true := c29
                    refine r_aload_n C (dx dX7_look 42 rfl) rfl ?_
                    refine r_iconst (v := nI 1) C (dx dX7_look 43 rfl) rfl ?_
                    refine p_X7_151 C (dx dX7_look 44 rfl) rfl rfl ?_
                    have Lh44 : Lq h (sI h27 k 24 (nI 1)) k z a9 v := Lh27.fd (by decide)
                    have Fh44 : xI (sI h27 k 24 (nI 1)) k 25 = nI a9 := by rw [sI_at, if_neg (by decide)]; exact Fh27
                    have Th44 : xI (sI h27 k 24 (nI 1)) k 24 = nI 1 := by rw [sI_at, if_pos rfl]
                    have Gh44 : xL (sI h27 k 24 (nI 1)) k 26 = 0 := Gh27
                    generalize sI h27 k 24 (nI 1) = h44 at Lh44 Fh44 Th44 Gh44 ⊢
                    have key1 : ∀ (n a8 : Nat) (h8 : Hp), z - a8 = n → Lq h h8 k z a8 v → a9 ≤ a8 → enO 1 B z a8 = enO 1 B z a9 → xI h8 k 25 = nI a9 → xI h8 k 24 = nI 1 → xL h8 k 26 = 0 → Rr G 90 [(0, vr 7 k)] [] h8 := by
                      intro n
                      induction n using Nat.strongRecOn with | ind n ih1 => _
                      intro a7 ha7 en La7 loa7 E F8 T8 G8
                      have aza7 := La7.az
                      refine r_aload_n C (dx dX7_look 45 rfl) rfl ?_
                      refine g_X7_141 (x := nI a7) C (dx dX7_look 46 rfl) La7.e23 ?_
                      refine r_aload_n C (dx dX7_look 47 rfl) rfl ?_
                      refine g_X7_138 (x := nI z) C (dx dX7_look 48 rfl) La7.e8 ?_
                      refine rn_ge (a := a7) (b := z) (tgt := 267) C (by omega) (by omega) (dx dX7_look 49 rfl) (by decide) (fun c45 => ?_) (fun c45 => ?_)
                      · first
                        | (omega; done)
                        | (
                            have c45 : z ≤ a7 := c45
                            have e9 : stp B z a = (0, a9, a7) := stp_wd E0 (by omega) c29 (E.symm.trans (enO_e (by omega)))
                            exact F.2.2.1 _ _ _ rfl (dx dX7_look 135 rfl) La7.kk ⟨rfl, Px.mk9 La7 hB F8 T8 e9 rfl (fun q => absurd q (by decide)) (by omega), La7.e28⟩)
                      · first
                        | (omega; done)
                        | (
                            have c45 : a7 < z := c45
                            refine r_aload_n C (dx dX7_look 50 rfl) rfl ?_
                            refine g_X7_34 C (dx dX7_look 51 rfl) ?_
                            refine r_aload_n C (dx dX7_look 52 rfl) rfl ?_
                            refine g_X7_141 (x := nI a7) C (dx dX7_look 53 rfl) La7.e23 ?_
                            refine r_iald (j := a7) (x := B a7) C rfl rfl (by decide) rfl (by omega) (dx dX7_look 54 rfl) (La7.tp.trans (hB _ (by omega))) ?_
                            refine r_csP (as := [vi (B a7)]) (st := []) (v := vi (b2i (ltB (B a7)))) C X I_X7_isLetter l_X7_154 (c_X7_isLetter _) (by decide) (Nat.le_of_ble_eq_true rfl) (pfx_eq La7.kk) (Nat.le_of_ble_eq_true rfl) rfl (dx dX7_look 55 rfl) ?_
                            refine rb_eq (b := ltB (B a7)) (tgt := 267) C (dx dX7_look 56 rfl) (by decide) (fun c46 => ?_) (fun c46 => ?_)
                            ·
                              have c46 : (ltB (B a7)) = false := c46
                              have e9 : stp B z a = (0, a9, a7) := stp_wd E0 (by omega) c29 (E.symm.trans (enO_n (by omega) (lt_G ▸ c46)))
                              exact F.2.2.1 _ _ _ rfl (dx dX7_look 135 rfl) La7.kk ⟨rfl, Px.mk9 La7 hB F8 T8 e9 rfl (fun q => absurd q (by decide)) (by omega), La7.e28⟩
                            ·
                              have c46 : (ltB (B a7)) = true := c46
                              refine r_aload_n C (dx dX7_look 57 rfl) rfl ?_
                              refine r_dupR C (dx dX7_look 58 rfl) ?_
                              refine g_X7_141 (x := nI a7) C (dx dX7_look 59 rfl) La7.e23 ?_
                              refine r_iconst (v := nI 1) C (dx dX7_look 60 rfl) rfl ?_
                              refine rn_iadd (a := a7) (b := 1) C (dx dX7_look 61 rfl) ?_
                              refine p_X7_141 C (dx dX7_look 62 rfl) rfl rfl ?_
                              have Eh47 := (enO_y (γ := 1) (B := B) (z := z) (p := a7) (by omega) (lt_G ▸ c46)).symm.trans E
                              have Lh47 : Lq h (sI ha7 k 23 (nI (a7 + 1))) k z (a7 + 1) v := La7.at (by omega)
                              have Fh47 : xI (sI ha7 k 23 (nI (a7 + 1))) k 25 = nI a9 := by rw [sI_at, if_neg (by decide)]; exact F8
                              have Th47 : xI (sI ha7 k 23 (nI (a7 + 1))) k 24 = nI 1 := by rw [sI_at, if_neg (by decide)]; exact T8
                              have Gh47 : xL (sI ha7 k 23 (nI (a7 + 1))) k 26 = 0 := G8
                              generalize sI ha7 k 23 (nI (a7 + 1)) = h47 at Lh47 Fh47 Th47 Gh47 ⊢
                              refine r_goto (tgt := 90) C (dx dX7_look 63 rfl) (by decide) ?_
                              exact ih1 _ (by omega) _ _ rfl Lh47 (by omega) Eh47 Fh47 Th47 Gh47)
                    exact key1 _ _ _ rfl Lh44 (by omega) rfl Fh44 Th44 Gh44)
            · first
              | (omega; done)
              | (
                  have c28 : a9 = z := c28
                  refine r_aload_n C (dx dX7_look 31 rfl) rfl ?_
                  refine r_iconst (v := nI 0) C (dx dX7_look 32 rfl) rfl ?_
                  refine p_X7_151 C (dx dX7_look 33 rfl) rfl rfl ?_
                  have Lh48 : Lq h (sI h27 k 24 (nI 0)) k z a9 v := Lh27.fd (by decide)
                  have Fh48 : xI (sI h27 k 24 (nI 0)) k 25 = nI a9 := by rw [sI_at, if_neg (by decide)]; exact Fh27
                  have Th48 : xI (sI h27 k 24 (nI 0)) k 24 = nI 0 := by rw [sI_at, if_pos rfl]
                  have Gh48 : xL (sI h27 k 24 (nI 0)) k 26 = 0 := Gh27
                  generalize sI h27 k 24 (nI 0) = h48 at Lh48 Fh48 Th48 Gh48 ⊢
                  refine r_goto (tgt := 267) C (dx dX7_look 34 rfl) (by decide) ?_
                  have e9 : stp B z a = (3, a9, a9) := stp_end E0 (by omega)
                  exact F.2.2.1 _ _ _ rfl (dx dX7_look 135 rfl) Lh48.kk ⟨rfl, Px.mk9 Lh48 hB Fh48 Th48 e9 rfl (fun q => absurd q (by decide)) (by omega), Lh48.e28⟩)
          ·
            have c25 : B a9 = nI 32 := c25
            refine r_aload_n C (dx dX7_look 12 rfl) rfl ?_
            refine r_dupR C (dx dX7_look 13 rfl) ?_
            refine g_X7_141 (x := nI a9) C (dx dX7_look 14 rfl) La9.e23 ?_
            refine r_iconst (v := nI 1) C (dx dX7_look 15 rfl) rfl ?_
            refine rn_iadd (a := a9) (b := 1) C (dx dX7_look 16 rfl) ?_
            refine p_X7_141 C (dx dX7_look 17 rfl) rfl rfl ?_
            have Eh49 := (enO_y (γ := 0) (B := B) (z := z) (p := a9) (by omega) (decide_eq_true c25)).symm.trans E
            have Lh49 : Lq h (sI ha9 k 23 (nI (a9 + 1))) k z (a9 + 1) v := La9.at (by omega)
            generalize sI ha9 k 23 (nI (a9 + 1)) = h49 at Lh49 ⊢
            refine r_goto (tgt := 0) C (dx dX7_look 18 rfl) (by decide) ?_
            exact ih0 _ (by omega) _ _ rfl Lh49 (by omega) Eh49)
  exact key0 _ _ _ rfl L0 (by omega) rfl
set_option maxHeartbeats 4000000 in
theorem e_isWord {l : Launch} {h : Hp} {k z t s e : Nat} {B : Nat → Int32} {v : Vg} (p : Px h h k z B (t, s, e) v) {i : Nat} (hi : i < 10) : Mp l yX7_isWord cX7_isWord 3 (some .boolean) 5 [vr 7 k, vt (1000 + i)] h (vi (b2i (wdB i B z t s e))) := by
  refine Ms.of (by decide) (Nat.le_of_ble_eq_true rfl) (fun G C X F => ?_)
  have C : Cx G cX7_isWord 3 RX7 := C
  show Rr G 0 [(0, vr 7 k), (1, vt (1000 + i))] [] h
  have se := p.se
  have ez := p.ez
  have bz := p.bz
  have bP := p.m.bP
  have bM := p.m.bM
  have bN := p.m.bN
  have t5 : tkm t < 5 := by unfold tkm; split <;> omega
  have bl := tx_len hi
  refine r_aload_n C (dx dX7_isWord 0 rfl) rfl ?_
  refine g_X7_151 (x := nI (tkm t)) C (dx dX7_isWord 1 rfl) p.e24 ?_
  refine r_iconst (v := nI 1) C (dx dX7_isWord 2 rfl) rfl ?_
  refine rn_ne (a := tkm t) (b := 1) (tgt := 24) C (by omega) (by omega) (dx dX7_isWord 3 rfl) (by decide) (fun c1 => ?_) (fun c1 => ?_)
  · first
    | (omega; done)
    | (
        have c1 : ¬ tkm t = 1 := c1
        refine r_iconst (v := nI 0) C (dx dX7_isWord 12 rfl) rfl ?_
        exact F.1 _ _ _ _ _ rfl rfl (dx dX7_isWord 13 rfl) rfl ⟨congrArg (fun x => some (vi x)) (show nI 0 = b2i _ by rw [show (wdB i B z t s e) = false by (unfold wdB; rw [decide_eq_false (fun q9 => c1 (tkm_1.mpr q9))]; rfl)]; rfl), rfl⟩)
  · first
    | (omega; done)
    | (
        have c1 : tkm t = 1 := c1
        refine r_aload_n C (dx dX7_isWord 4 rfl) rfl ?_
        refine g_X7_141 (x := nI e) C (dx dX7_isWord 5 rfl) p.e23 ?_
        refine r_aload_n C (dx dX7_isWord 6 rfl) rfl ?_
        refine g_X7_144 (x := nI s) C (dx dX7_isWord 7 rfl) p.e25 ?_
        refine rn_isub (a := e) (b := s) C (by omega) (dx dX7_isWord 8 rfl) ?_
        refine r_aload_nT C (dx dX7_isWord 9 rfl) rfl ?_
        refine r_cvTP (as := []) (st := [vi (nI (e - s))]) (v := vi (nI (txL.getD i 0))) C X hi I_J0_length_8abf5 l_X7_167 (c_J0_length_8abf5 hi) (by decide) (Nat.le_of_ble_eq_true rfl) List.prefix_rfl rfl (Nat.le_of_ble_eq_true rfl) rfl (dx dX7_isWord 10 rfl) ?_
        refine rn_eq (a := e - s) (b := txL.getD i 0) (tgt := 26) C (by omega) (by omega) (dx dX7_isWord 11 rfl) (by decide) (fun c2 => ?_) (fun c2 => ?_)
        · first
          | (omega; done)
          | (
              have c2 : e - s = txL.getD i 0 := c2
              refine r_iconst (v := nI 0) C (dx dX7_isWord 14 rfl) rfl ?_
              refine r_istore_n (ls' := [(0, vr 7 k), (1, vt (1000 + i)), (2, vi (nI 0))]) C (dx dX7_isWord 15 rfl) (by decide) [1, 2, 0] rfl ?_
              refine loopU (Φ := fun q => allF (fun j => decide (btA B z (s + j) = txc i j)) q = true → Rr G 28 [(0, vr 7 k), (1, vt (1000 + i)), (2, vi (nI q))] [] h) (N := txL.getD i 0) ?_ ?_ 0 (Nat.zero_le _) rfl
              ·
                intro hA
                refine r_iload_n C (dx dX7_isWord 16 rfl) rfl ?_
                refine r_aload_nT C (dx dX7_isWord 17 rfl) rfl ?_
                refine r_cvTP (as := []) (st := [vi (nI (txL.getD i 0))]) (v := vi (nI (txL.getD i 0))) C X hi I_J0_length_8abf5 l_X7_167 (c_J0_length_8abf5 hi) (by decide) (Nat.le_of_ble_eq_true rfl) List.prefix_rfl rfl (Nat.le_of_ble_eq_true rfl) rfl (dx dX7_isWord 18 rfl) ?_
                refine rn_ge (a := txL.getD i 0) (b := txL.getD i 0) (tgt := 63) C (by omega) (by omega) (dx dX7_isWord 19 rfl) (by decide) (fun c3 => ?_) (fun c3 => ?_)
                · first
                  | (omega; done)
                  | (
                      have c3 : txL.getD i 0 ≤ txL.getD i 0 := c3
                      refine r_iconst (v := nI 1) C (dx dX7_isWord 35 rfl) rfl ?_
                      exact F.1 _ _ _ _ _ rfl rfl (dx dX7_isWord 36 rfl) rfl ⟨congrArg (fun x => some (vi x)) (show nI 1 = b2i _ by rw [show (wdB i B z t s e) = true by (unfold wdB; rw [decide_eq_true (tkm_1.mp c1), decide_eq_true c2, hA]; rfl)]; rfl), rfl⟩)
                · first
                  | (omega; done)
              ·
                intro q hq ih hA
                refine r_iload_n C (dx dX7_isWord 16 rfl) rfl ?_
                refine r_aload_nT C (dx dX7_isWord 17 rfl) rfl ?_
                refine r_cvTP (as := []) (st := [vi (nI q)]) (v := vi (nI (txL.getD i 0))) C X hi I_J0_length_8abf5 l_X7_167 (c_J0_length_8abf5 hi) (by decide) (Nat.le_of_ble_eq_true rfl) List.prefix_rfl rfl (Nat.le_of_ble_eq_true rfl) rfl (dx dX7_isWord 18 rfl) ?_
                refine rn_ge (a := q) (b := txL.getD i 0) (tgt := 63) C (by omega) (by omega) (dx dX7_isWord 19 rfl) (by decide) (fun c5 => ?_) (fun c5 => ?_)
                · first
                  | (omega; done)
                  | (
                      have c5 : txL.getD i 0 ≤ q := c5
                      refine r_iconst (v := nI 1) C (dx dX7_isWord 35 rfl) rfl ?_
                      exact F.1 _ _ _ _ _ rfl rfl (dx dX7_isWord 36 rfl) rfl ⟨congrArg (fun x => some (vi x)) (show nI 1 = b2i _ by rw [show (wdB i B z t s e) = true by (unfold wdB; rw [decide_eq_true (tkm_1.mp c1), decide_eq_true c2, hA]; rfl)]; rfl), rfl⟩)
                · first
                  | (omega; done)
                  | (
                      have c5 : q < txL.getD i 0 := c5
                      refine r_aload_n C (dx dX7_isWord 20 rfl) rfl ?_
                      refine g_X7_34 C (dx dX7_isWord 21 rfl) ?_
                      refine r_aload_n C (dx dX7_isWord 22 rfl) rfl ?_
                      refine g_X7_144 (x := nI s) C (dx dX7_isWord 23 rfl) p.e25 ?_
                      refine r_iload_n C (dx dX7_isWord 24 rfl) rfl ?_
                      refine rn_iadd (a := s) (b := q) C (dx dX7_isWord 25 rfl) ?_
                      refine r_iald (j := s + q) (x := B (s + q)) C rfl rfl (by decide) rfl (by omega) (dx dX7_isWord 26 rfl) (p.tp (by omega)) ?_
                      refine r_aload_nT C (dx dX7_isWord 27 rfl) rfl ?_
                      refine r_iload_n C (dx dX7_isWord 28 rfl) rfl ?_
                      refine r_cvTP (as := [vi (nI q)]) (st := [vi (B (s + q))]) (v := vi (txc i q)) C X hi I_J0_charAt_5068e l_X7_173 (c_J0_charAt_5068e (j := q) hi (by omega)) (by decide) (Nat.le_of_ble_eq_true rfl) List.prefix_rfl rfl (Nat.le_of_ble_eq_true rfl) rfl (dx dX7_isWord 29 rfl) ?_
                      refine r_icmp_eq (tgt := 57) C (dx dX7_isWord 30 rfl) (by decide) (fun c6 => ?_) (fun c6 => ?_)
                      ·
                        have c6 : B (s + q) = txc i q := c6
                        refine rn_iinc (a := q) (k := 1) (ls' := [(0, vr 7 k), (1, vt (1000 + i)), (2, vi (nI (q + 1)))]) C (dx dX7_isWord 33 rfl) rfl rfl (by decide) [1, 2, 0] rfl ?_
                        refine r_goto (tgt := 28) C (dx dX7_isWord 34 rfl) (by decide) ?_
                        exact ih (by simp only [allF]; rw [hA, Bool.true_and]; exact decide_eq_true ((btA_y (by omega)).trans c6))
                      ·
                        have c6 : ¬ B (s + q) = txc i q := c6
                        refine r_iconst (v := nI 0) C (dx dX7_isWord 31 rfl) rfl ?_
                        exact F.1 _ _ _ _ _ rfl rfl (dx dX7_isWord 32 rfl) rfl ⟨congrArg (fun x => some (vi x)) (show nI 0 = b2i _ by rw [show (wdB i B z t s e) = false by (unfold wdB; rw [decide_eq_true (tkm_1.mp c1), decide_eq_true c2, all_no (P := (fun j => decide (btA B z (s + j) = txc i j))) (p := q) (decide_eq_false (fun q9 => c6 ((btA_y (by omega)).symm.trans q9))) _ hq]; rfl)]; rfl), rfl⟩))
        · first
          | (omega; done)
          | (
              have c2 : ¬ e - s = txL.getD i 0 := c2
              refine r_iconst (v := nI 0) C (dx dX7_isWord 12 rfl) rfl ?_
              exact F.1 _ _ _ _ _ rfl rfl (dx dX7_isWord 13 rfl) rfl ⟨congrArg (fun x => some (vi x)) (show nI 0 = b2i _ by rw [show (wdB i B z t s e) = false by (unfold wdB; rw [decide_eq_true (tkm_1.mp c1), decide_eq_false c2]; rfl)]; rfl), rfl⟩))
theorem enO_all {γ : Nat} {B : Nat → Int32} {z : Nat} : ∀ n p, z - p = n → ∀ j, p ≤ j → j < enO γ B z p → isG γ (B j) = true
  | 0, p, h, j, h1, h2 => by rw [enO_e (by omega)] at h2; omega
  | n + 1, p, h, j, h1, h2 => by
    by_cases q : isG γ (B p) = true
    · rw [enO_y (by omega) q] at h2
      by_cases e : j = p
      · rw [e]; exact q
      · exact enO_all n (p + 1) (by omega) j (by omega) h2
    · rw [enO_n (by omega) (by simpa using q)] at h2; omega
/-- a token that was looked for -/
def TkR (B : Nat → Int32) (z : Nat) (q : Tkn) : Prop := ∃ a, a ≤ z ∧ q = stp B z a
theorem stp_dg {B : Nat → Int32} {z a t s e : Nat} (h : (t, s, e) = stp B z a) (ht : t = 1) : s < e ∧ ∀ j, s ≤ j → j < e → dgB (B j) = true := by
  unfold stp at h
  split at h
  · obtain ⟨e1, _⟩ := Prod.mk.inj h; omega
  · split at h
    · obtain ⟨e1, _⟩ := Prod.mk.inj h; omega
    · split at h
      · next h1 _ h3 =>
        obtain ⟨_, h⟩ := Prod.mk.inj h
        obtain ⟨e2, e3⟩ := Prod.mk.inj h
        rw [e2, e3]
        refine ⟨?_, fun j j1 j2 => dg_G ▸ enO_all _ _ rfl j j1 j2⟩
        rw [enO_y (by omega) h3]
        have := (enO_le (γ := 2) (B := B) (z := z) (p := enO 0 B z a + 1) (by omega)).1
        omega
      · obtain ⟨e1, _⟩ := Prod.mk.inj h
        split at e1 <;> omega
theorem dg_ex {x : Int32} (h : dgB x = true) : ∃ d, d < 10 ∧ x = nI (48 + d) := by
  unfold dgB at h
  simp only [Bool.and_eq_true, decide_eq_true_eq] at h
  obtain ⟨j, h1, h2, e⟩ := btw (by omega) (by omega) h.1 h.2
  exact ⟨j - 48, by omega, by rw [e]; congr 1; omega⟩
theorem fg1 : ∀ d : Fin 10, (0 : Int64) * 10 + (nI (48 + d.val)).toInt64 - 48 = (nI d.val).toInt64 ∧ nI 10 * nI 0 + nI (48 + d.val) - nI 48 = nI d.val := by decide +kernel
theorem fg2 : ∀ d d' : Fin 10, (nI d.val).toInt64 * 10 + (nI (48 + d'.val)).toInt64 - 48 = (nI (10 * d.val + d'.val)).toInt64 ∧ nI 10 * nI d.val + nI (48 + d'.val) - nI 48 = nI (10 * d.val + d'.val) := by decide +kernel
theorem fg_nm {B : Nat → Int32} {z s e : Nat} (h1 : s < e) (h : ∀ j, s ≤ j → j < e → dgB (B j) = true) (ez : e ≤ z) (q : e - s ≤ 2) : ∃ w, w ≤ 99 ∧ fgF B s (e - s) = (nI w).toInt64 ∧ nmF B z s (e - s) = nI w := by
  obtain ⟨d, hd, ed⟩ := dg_ex (h s (by omega) h1)
  have a1 := fg1 ⟨d, hd⟩
  by_cases c : e - s = 1
  · refine ⟨d, by omega, ?_, ?_⟩
    · rw [c]; simp only [fgF, Nat.add_zero, ed]; exact a1.1
    · rw [c]; simp only [nmF, Nat.add_zero]; rw [btA_y (by omega), ed]; exact a1.2
  · obtain ⟨d', hd', ed'⟩ := dg_ex (h (s + 1) (by omega) (by omega))
    have a2 := fg2 ⟨d, hd⟩ ⟨d', hd'⟩
    refine ⟨10 * d + d', by omega, ?_, ?_⟩
    · rw [show e - s = 2 by omega]
      have : fgF B s 1 = (nI d).toInt64 := by simp only [fgF, Nat.add_zero, ed]; exact a1.1
      show (if 1 < 2 then fgF B s 1 * 10 + (B (s + 1)).toInt64 - 48 else 100000) = _
      rw [if_pos (by omega), this, ed']; exact a2.1
    · rw [show e - s = 2 by omega]
      have : nmF B z s 1 = nI d := by simp only [nmF, Nat.add_zero]; rw [btA_y (by omega), ed]; exact a1.2
      show nI 10 * nmF B z s 1 + btA B z (s + 1) - nI 48 = _
      rw [this, btA_y (by omega), ed']; exact a2.2
theorem nm_inL {B : Nat → Int32} {z t s e : Nat} {lo hi : Int32} (tk : t = 1 → s < e ∧ ∀ j, s ≤ j → j < e → dgB (B j) = true) (ez : e ≤ z) (ht : t = 1) (hhi : ¬ nI 99 < hi) : inL (fgF B s (e - s)) lo.toInt64 hi.toInt64 = decide (¬ nmV B z t s e lo hi = -1) ∧ (inL (fgF B s (e - s)) lo.toInt64 hi.toInt64 = true → (fgF B s (e - s)).toInt32 = nmV B z t s e lo hi) := by
  obtain ⟨h1, h2⟩ := tk ht
  by_cases q : e - s ≤ 2
  · obtain ⟨w, hw, e1, e2⟩ := fg_nm h1 h2 ez q
    have hn : ¬ nI w = -1 := nI_nm1 (by omega)
    unfold nmV inL
    rw [if_pos ⟨ht, q⟩, e1, e2]
    by_cases c1 : nI w < lo
    · rw [if_pos c1, decide_eq_false (show ¬ lo.toInt64 ≤ (nI w).toInt64 from fun x => Int32.not_lt.mpr (i64.mp x) c1)]
      exact ⟨by simp, fun x => by simp at x⟩
    · rw [if_neg c1, decide_eq_true (i64.mpr (Int32.not_lt.mp c1))]
      by_cases c2 : nI w ≤ hi
      · rw [if_pos c2, decide_eq_true (i64.mpr c2)]
        exact ⟨by simp [hn], fun _ => Int32.toInt32_toInt64 _⟩
      · rw [if_neg c2, decide_eq_false (show ¬ (nI w).toInt64 ≤ hi.toInt64 from fun x => c2 (i64.mp x))]
        exact ⟨by simp, fun x => by simp at x⟩
  · obtain ⟨m, hm⟩ : ∃ m, e - s = m + 3 := ⟨e - s - 3, by omega⟩
    have e1 : fgF B s (e - s) = (nI 100000).toInt64 := by
      rw [hm]; show (if m + 2 < 2 then _ else (100000 : Int64)) = _
      rw [if_neg (by omega)]; decide
    have c : ¬ (nI 100000).toInt64 ≤ hi.toInt64 := fun x => hhi (Int32.lt_of_lt_of_le (by decide) (i64.mp x))
    unfold nmV inL
    rw [if_neg (fun x => q x.2), e1, decide_eq_false c]
    exact ⟨by simp, fun x => by simp at x⟩

def NmP (h h' : Hp) (k z : Nat) (B : Nat → Int32) (q : Tkn) (v : Vg) (lo hi : Int32) (b : Bool) : Prop := if nmQ B z q lo hi = -1 then b = false ∧ Px h h' k z B q v ∧ xI h' k 27 = nI q.2.1 else b = true ∧ Px h h' k z B (stp B z q.2.2) v ∧ xI h' k 28 = nmQ B z q lo hi
theorem tk_dg {B : Nat → Int32} {z t s e : Nat} (h : TkR B z (t, s, e)) : t = 1 → s < e ∧ ∀ j, s ≤ j → j < e → dgB (B j) = true := by
  obtain ⟨a, _, h⟩ := h
  exact stp_dg h
set_option maxHeartbeats 4000000 in
theorem e_wrong {l : Launch} {h : Hp} {k z t s e : Nat} {B : Nat → Int32} {v : Vg} (p : Px h h k z B (t, s, e) v)  : Ms l yX7_wrong cX7_wrong 1 (some .boolean) 1 [vr 7 k] h (xK h) (fun r h' => r = some (vi (b2i false)) ∧ Px h h' k z B (t, s, e) v ∧ xI h' k 27 = nI s) := by
  refine Ms.of (by decide) (Nat.le_of_ble_eq_true rfl) (fun G C X F => ?_)
  have C : Cx G cX7_wrong 1 RX7 := C
  show Rr G 0 [(0, vr 7 k)] [] h
  have se := p.se
  have ez := p.ez
  have bz := p.bz
  have bP := p.m.bP
  have bM := p.m.bM
  have bN := p.m.bN
  have t5 : tkm t < 5 := by unfold tkm; split <;> omega
  refine r_aload_n C (dx dX7_wrong 0 rfl) rfl ?_
  refine r_aload_n C (dx dX7_wrong 1 rfl) rfl ?_
  refine g_X7_144 (x := nI s) C (dx dX7_wrong 2 rfl) p.e25 ?_
  refine p_X7_164 C (dx dX7_wrong 3 rfl) rfl rfl ?_
  have ph1 : Px h (sI h k 27 (nI s)) k z B (t, s, e) v := p.fd (p.m.f (by decide) (by decide) (by decide) (by decide)) (by decide) (by decide) (by decide) (by decide) (by decide)
  have eh1 : xI (sI h k 27 (nI s)) k 27 = nI s := by rw [sI_at, if_pos rfl]
  generalize sI h k 27 (nI s) = h1 at ph1 eh1 ⊢
  refine r_iconst (v := nI 0) C (dx dX7_wrong 4 rfl) rfl ?_
  exact F.1 _ _ _ _ .boolean rfl rfl (dx dX7_wrong 5 rfl) ph1.kk ⟨rfl, ph1, eh1⟩
set_option maxHeartbeats 4000000 in
theorem e_number {l : Launch} {h : Hp} {k z t s e : Nat} {B : Nat → Int32} {v : Vg} (p : Px h h k z B (t, s, e) v) (tk : TkR B z (t, s, e)) (lo hi : Int32) (hhi : ¬ nI 99 < hi) : Ms l yX7_number cX7_number 3 (some .boolean) 3 [vr 7 k, vi lo, vi hi] h (xK h) (fun r h' => ∃ b, r = some (vi (b2i b)) ∧ NmP h h' k z B (t, s, e) v lo hi b) := by
  refine Ms.of (by decide) (Nat.le_of_ble_eq_true rfl) (fun G C X F => ?_)
  have C : Cx G cX7_number 3 RX7 := C
  show Rr G 0 [(0, vr 7 k), (1, vi lo), (2, vi hi)] [] h
  have se := p.se
  have ez := p.ez
  have bz := p.bz
  have bP := p.m.bP
  have bM := p.m.bM
  have bN := p.m.bN
  have t5 : tkm t < 5 := by unfold tkm; split <;> omega
  refine r_aload_n C (dx dX7_number 0 rfl) rfl ?_
  refine g_X7_151 (x := nI (tkm t)) C (dx dX7_number 1 rfl) p.e24 ?_
  refine r_iconst (v := nI 2) C (dx dX7_number 2 rfl) rfl ?_
  refine rn_ne (a := tkm t) (b := 2) (tgt := 22) C (by omega) (by omega) (dx dX7_number 3 rfl) (by decide) (fun c1 => ?_) (fun c1 => ?_)
  · first
    | (omega; done)
    | (
        have c1 : ¬ tkm t = 2 := c1
        refine r_aload_n C (dx dX7_number 12 rfl) rfl ?_
        refine r_cv (as := []) (st := []) C X I_X7_wrong l_X7_177 (e_wrong p.slf) (by decide) (Nat.le_of_ble_eq_true rfl) List.prefix_rfl (pfx_eq p.kk) rfl rfl (Nat.le_of_ble_eq_true rfl) rfl (dx dX7_number 13 rfl) ?_
        rintro _ h2 ⟨rfl, qh2, uh2⟩ kkh2
        have ph2 := p.tr qh2
        have eN : nmV B z t s e lo hi = -1 := by unfold nmV; exact if_neg (fun x => c1 (tkm_2.mpr x.1))
        exact F.1 _ _ _ _ .boolean rfl (nar_b _) (dx dX7_number 14 rfl) ph2.kk ⟨false, rfl, (show NmP h h2 k z B (t, s, e) v lo hi false from by unfold NmP nmQ; rw [if_pos eN]; exact ⟨rfl, ph2, uh2⟩)⟩)
  · first
    | (omega; done)
    | (
        have c1 : tkm t = 2 := c1
        refine r_aload_n C (dx dX7_number 4 rfl) rfl ?_
        refine g_X7_147 C (dx dX7_number 5 rfl) rfl ?_
        refine r_iload_n C (dx dX7_number 6 rfl) rfl ?_
        refine r_i2l C (dx dX7_number 7 rfl) ?_
        refine r_iload_n C (dx dX7_number 8 rfl) rfl ?_
        refine r_i2l C (dx dX7_number 9 rfl) ?_
        refine r_csP (as := [vl (xL h k 26), vl lo.toInt64, vl hi.toInt64]) (st := []) (v := vi (b2i (inL (xL h k 26) lo.toInt64 hi.toInt64))) C X I_X7_in l_X7_67 (c_X7_in _ _ _) (by decide) (Nat.le_of_ble_eq_true rfl) (pfx_eq p.kk) (Nat.le_of_ble_eq_true rfl) rfl (dx dX7_number 10 rfl) ?_
        refine rb_ne (b := inL (xL h k 26) lo.toInt64 hi.toInt64) (tgt := 27) C (dx dX7_number 11 rfl) (by decide) (fun c3 => ?_) (fun c3 => ?_)
        ·
          have c3 : (inL (xL h k 26) lo.toInt64 hi.toInt64) = true := c3
          refine r_aload_n C (dx dX7_number 15 rfl) rfl ?_
          refine r_aload_n C (dx dX7_number 16 rfl) rfl ?_
          refine g_X7_147 C (dx dX7_number 17 rfl) rfl ?_
          refine r_l2i C (dx dX7_number 18 rfl) ?_
          refine p_X7_181 C (dx dX7_number 19 rfl) rfl rfl ?_
          have ph4 : Px h (sI h k 28 ((xL h k 26).toInt32)) k z B (t, s, e) v := p.fd (p.m.f (by decide) (by decide) (by decide) (by decide)) (by decide) (by decide) (by decide) (by decide) (by decide)
          have eh4 : xI (sI h k 28 ((xL h k 26).toInt32)) k 28 = (xL h k 26).toInt32 := by rw [sI_at, if_pos rfl]
          generalize sI h k 28 ((xL h k 26).toInt32) = h4 at ph4 eh4 ⊢
          refine r_aload_n C (dx dX7_number 20 rfl) rfl ?_
          refine r_cv (as := []) (st := []) C X I_X7_look l_X7_184 (e_look (fun i9 hi9 => ph4.tp hi9) ph4.lk) (by decide) (Nat.le_of_ble_eq_true rfl) List.prefix_rfl (pfx_eq ph4.kk) rfl rfl (Nat.le_of_ble_eq_true rfl) rfl (dx dX7_number 21 rfl) ?_
          rintro _ h5 ⟨rfl, qh5, uh5⟩ kkh5
          have ph5 : Px h h5 k z B ((stp B z e).1, (stp B z e).2.1, (stp B z e).2.2) v := ph4.tr qh5
          have seh5 := ph5.se
          have ezh5 := ph5.ez
          have eh5 := uh5.trans eh4
          refine r_iconst (v := nI 1) C (dx dX7_number 22 rfl) rfl ?_
          have ht := tkm_2.mp c1
          have nn := nm_inL (lo := lo) (hi := hi) (tk_dg tk) ez ht hhi
          rw [← p.e26 ht, c3] at nn
          have eN : ¬ nmV B z t s e lo hi = -1 := of_decide_eq_true nn.1.symm
          exact F.1 _ _ _ _ .boolean rfl rfl (dx dX7_number 23 rfl) ph5.kk ⟨true, rfl, (show NmP h h5 k z B (t, s, e) v lo hi true from by unfold NmP nmQ; rw [if_neg eN]; exact ⟨rfl, ph5, eh5.trans (nn.2 rfl)⟩)⟩
        ·
          have c3 : (inL (xL h k 26) lo.toInt64 hi.toInt64) = false := c3
          refine r_aload_n C (dx dX7_number 12 rfl) rfl ?_
          refine r_cv (as := []) (st := []) C X I_X7_wrong l_X7_177 (e_wrong p.slf) (by decide) (Nat.le_of_ble_eq_true rfl) List.prefix_rfl (pfx_eq p.kk) rfl rfl (Nat.le_of_ble_eq_true rfl) rfl (dx dX7_number 13 rfl) ?_
          rintro _ h6 ⟨rfl, qh6, uh6⟩ kkh6
          have ph6 := p.tr qh6
          have ht := tkm_2.mp c1
          have nn := nm_inL (lo := lo) (hi := hi) (tk_dg tk) ez ht hhi
          rw [← p.e26 ht, c3] at nn
          have eN : nmV B z t s e lo hi = -1 := Classical.not_not.mp (of_decide_eq_false nn.1.symm)
          exact F.1 _ _ _ _ .boolean rfl (nar_b _) (dx dX7_number 14 rfl) ph6.kk ⟨false, rfl, (show NmP h h6 k z B (t, s, e) v lo hi false from by unfold NmP nmQ; rw [if_pos eN]; exact ⟨rfl, ph6, uh6⟩)⟩)
section NmPs
variable {h0 h h' : Hp} {k z i : Nat} {B : Nat → Int32} {q : Tkn} {v : Vg} {lo hi : Int32} {b : Bool}
theorem NmP.t (g : NmP h h' k z B q v lo hi true) : ¬ nmQ B z q lo hi = -1 ∧ Px h h' k z B (stp B z q.2.2) v ∧ xI h' k 28 = nmQ B z q lo hi := by
  unfold NmP at g
  split at g
  · exact absurd g.1 (by decide)
  · next c => exact ⟨c, g.2⟩
theorem NmP.f (g : NmP h h' k z B q v lo hi false) : nmQ B z q lo hi = -1 ∧ Px h h' k z B q v ∧ xI h' k 27 = nI q.2.1 := by
  unfold NmP at g
  split at g
  · next c => exact ⟨c, g.2⟩
  · exact absurd g.1 (by decide)
theorem NmP.pre {q0 : Tkn} {v0 : Vg} (p : Px h0 h k z B q0 v0) (g : NmP h h' k z B q v lo hi b) : NmP h0 h' k z B q v lo hi b := by
  unfold NmP at g ⊢
  split
  · next c => rw [if_pos c] at g; exact ⟨g.1, p.tr g.2.1, g.2.2⟩
  · next c => rw [if_neg c] at g; exact ⟨g.1, p.tr g.2.1, g.2.2⟩
def TlP (h h' : Hp) (k z : Nat) (B : Nat → Int32) (i : Nat) (q : Tkn) (v : Vg) (lo hi : Int32) (b : Bool) : Prop := if wdB i B z q.1 q.2.1 q.2.2 = true then NmP h h' k z B (stp B z q.2.2) v lo hi b else b = false ∧ Px h h' k z B q v ∧ xI h' k 27 = nI q.2.1
theorem TlP.t (g : TlP h h' k z B i q v lo hi true) : wdB i B z q.1 q.2.1 q.2.2 = true ∧ NmP h h' k z B (stp B z q.2.2) v lo hi true := by
  unfold TlP at g
  split at g
  · next c => exact ⟨c, g⟩
  · exact absurd g.1 (by decide)
end NmPs
set_option maxHeartbeats 4000000 in
theorem e_tells {l : Launch} {h : Hp} {k z t s e : Nat} {B : Nat → Int32} {v : Vg} (p : Px h h k z B (t, s, e) v) {i : Nat} (hi9 : i < 10) (lo hi : Int32) (hhi : ¬ nI 99 < hi) : Ms l yX7_tells cX7_tells 4 (some .boolean) 6 [vr 7 k, vt (1000 + i), vi lo, vi hi] h (xK h) (fun r h' => ∃ b, r = some (vi (b2i b)) ∧ TlP h h' k z B i (t, s, e) v lo hi b) := by
  refine Ms.of (by decide) (Nat.le_of_ble_eq_true rfl) (fun G C X F => ?_)
  have C : Cx G cX7_tells 4 RX7 := C
  show Rr G 0 [(0, vr 7 k), (1, vt (1000 + i)), (2, vi lo), (3, vi hi)] [] h
  have se := p.se
  have ez := p.ez
  have bz := p.bz
  have bP := p.m.bP
  have bM := p.m.bM
  have bN := p.m.bN
  have t5 : tkm t < 5 := by unfold tkm; split <;> omega
  refine r_aload_n C (dx dX7_tells 0 rfl) rfl ?_
  refine r_aload_nT C (dx dX7_tells 1 rfl) rfl ?_
  refine r_cvP (as := [vt (1000 + i)]) (st := []) (v := vi (b2i (wdB i B z t s e))) C X I_X7_isWord l_X7_187 (e_isWord p.slf hi9) (by decide) (Nat.le_of_ble_eq_true rfl) (pfx_eq p.kk) rfl rfl (Nat.le_of_ble_eq_true rfl) rfl (dx dX7_tells 2 rfl) ?_
  refine rb_ne (b := wdB i B z t s e) (tgt := 13) C (dx dX7_tells 3 rfl) (by decide) (fun c1 => ?_) (fun c1 => ?_)
  ·
    have c1 : (wdB i B z t s e) = true := c1
    refine r_aload_n C (dx dX7_tells 7 rfl) rfl ?_
    refine r_cv (as := []) (st := []) C X I_X7_look l_X7_184 (e_look (fun i9 hi9 => p.tp hi9) p.lk) (by decide) (Nat.le_of_ble_eq_true rfl) List.prefix_rfl (pfx_eq p.kk) rfl rfl (Nat.le_of_ble_eq_true rfl) rfl (dx dX7_tells 8 rfl) ?_
    rintro _ h2 ⟨rfl, qh2, uh2⟩ kkh2
    have ph2 : Px h h2 k z B ((stp B z e).1, (stp B z e).2.1, (stp B z e).2.2) v := p.tr qh2
    have seh2 := ph2.se
    have ezh2 := ph2.ez
    refine r_aload_n C (dx dX7_tells 9 rfl) rfl ?_
    refine r_iload_n C (dx dX7_tells 10 rfl) rfl ?_
    refine r_iload_n C (dx dX7_tells 11 rfl) rfl ?_
    refine r_cv (as := [vi lo, vi hi]) (st := []) C X I_X7_number l_X7_191 (e_number ph2.slf ⟨e, by omega, rfl⟩ lo hi hhi) (by decide) (Nat.le_of_ble_eq_true rfl) List.prefix_rfl (pfx_eq ph2.kk) rfl rfl (Nat.le_of_ble_eq_true rfl) rfl (dx dX7_tells 12 rfl) ?_
    rintro _ h3 ⟨bh3, rfl, gh3⟩ kkh3
    have kh3 : xK h3 = xK h := kkh3.trans ph2.kk
    have gh3 := NmP.pre ph2 gh3
    exact F.1 _ _ _ _ .boolean rfl (nar_b _) (dx dX7_tells 13 rfl) kh3 ⟨bh3, rfl, (show TlP h h3 k z B i (t, s, e) v lo hi bh3 from by unfold TlP; rw [if_pos c1]; exact gh3)⟩
  ·
    have c1 : (wdB i B z t s e) = false := c1
    refine r_aload_n C (dx dX7_tells 4 rfl) rfl ?_
    refine r_cv (as := []) (st := []) C X I_X7_wrong l_X7_177 (e_wrong p.slf) (by decide) (Nat.le_of_ble_eq_true rfl) List.prefix_rfl (pfx_eq p.kk) rfl rfl (Nat.le_of_ble_eq_true rfl) rfl (dx dX7_tells 5 rfl) ?_
    rintro _ h4 ⟨rfl, qh4, uh4⟩ kkh4
    have ph4 := p.tr qh4
    exact F.1 _ _ _ _ .boolean rfl (nar_b _) (dx dX7_tells 6 rfl) ph4.kk ⟨false, rfl, (show TlP h h4 k z B i (t, s, e) v lo hi false from by unfold TlP; rw [if_neg (by rw [show wdB i B z t s e = false from c1]; decide)]; exact ⟨rfl, ph4, uh4⟩)⟩
theorem le99 : ∀ n : Fin 13, ¬ nI 99 < nI n.val - nI 1 := by decide +kernel
def gtO (B : Nat → Int32) (z : Nat) (q : Tkn) (v : Vg) : Int32 := nmQ B z q (nI 0) (nI (vN v) - nI 1)
def GtP (h h' : Hp) (k z : Nat) (B : Nat → Int32) (q : Tkn) (v : Vg) (c j : Nat) (b : Bool) : Prop := if gtO B z q v = -1 ∨ (¬ vF v c j = gtO B z q v ∧ hasRm v (gtO B z q v) = false) then b = false ∧ Px h h' k z B q v ∧ xI h' k 27 = nI q.2.1 else b = true ∧ Px h h' k z B (stp B z q.2.2) (vset v c j (gtO B z q v))
set_option maxHeartbeats 4000000 in
theorem e_gets {l : Launch} {h : Hp} {k z t s e : Nat} {B : Nat → Int32} {v : Vg} (p : Px h h k z B (t, s, e) v) (tk : TkR B z (t, s, e)) {j : Nat} (hj : j < vP v) (b : Bool) : Ms l yX7_gets cX7_gets 5 (some .boolean) 3 [vr 7 k, vi (nI j), vi (b2i b)] h (xK h) (fun r h' => ∃ b9, r = some (vi (b2i b9)) ∧ GtP h h' k z B (t, s, e) v (cond b 1 0) j b9) := by
  refine Ms.of (by decide) (Nat.le_of_ble_eq_true rfl) (fun G C X F => ?_)
  have C : Cx G cX7_gets 5 RX7 := C
  show Rr G 0 [(0, vr 7 k), (1, vi (nI j)), (2, vi (b2i b))] [] h
  have se := p.se
  have ez := p.ez
  have bz := p.bz
  have bP := p.m.bP
  have bM := p.m.bM
  have bN := p.m.bN
  have t5 : tkm t < 5 := by unfold tkm; split <;> omega
  refine r_iload_n C (dx dX7_gets 0 rfl) rfl ?_
  refine rb_eq (b := b) (tgt := 11) C (dx dX7_gets 1 rfl) (by decide) (fun c1 => ?_) (fun c1 => ?_)
  ·
    have c1 : b = false := c1
    refine r_aload_n C (dx dX7_gets 5 rfl) rfl ?_
    refine g_X7_40 C (dx dX7_gets 6 rfl) ?_
    refine r_astore_n (ls' := [(0, vr 7 k), (1, vi (nI j)), (2, vi (b2i b)), (3, vr 20 (k + 18))]) C (dx dX7_gets 7 rfl) (by decide) [1, 2, 3, 0] rfl ?_
    refine r_aload_n C (dx dX7_gets 8 rfl) rfl ?_
    refine g_X7_151 (x := nI (tkm t)) C (dx dX7_gets 9 rfl) p.e24 ?_
    refine r_iconst (v := nI 2) C (dx dX7_gets 10 rfl) rfl ?_
    refine rn_ne (a := tkm t) (b := 2) (tgt := 42) C (by omega) (by omega) (dx dX7_gets 11 rfl) (by decide) (fun c2 => ?_) (fun c2 => ?_)
    · first
      | (omega; done)
      | (
          have c2 : ¬ tkm t = 2 := c2
          have eN : gtO B z (t, s, e) v = -1 := by unfold gtO nmQ nmV; exact if_neg (fun x => c2 (tkm_2.mpr x.1))
          refine r_aload_n C (dx dX7_gets 22 rfl) rfl ?_
          refine r_cv (as := []) (st := []) C X I_X7_wrong l_X7_177 (e_wrong p.slf) (by decide) (Nat.le_of_ble_eq_true rfl) List.prefix_rfl (pfx_eq p.kk) rfl rfl (Nat.le_of_ble_eq_true rfl) rfl (dx dX7_gets 23 rfl) ?_
          rintro _ h3 ⟨rfl, qh3, uh3⟩ kkh3
          have ph3 := p.tr qh3
          exact F.1 _ _ _ _ .boolean rfl (nar_b _) (dx dX7_gets 24 rfl) ph3.kk ⟨false, rfl, (show GtP h h3 k z B (t, s, e) v (cond b 1 0) j false from by rw [c1]; unfold GtP; rw [show cond false 1 0 = 0 from rfl]; rw [if_pos (Or.inl eN)]; exact ⟨rfl, ph3, uh3⟩)⟩)
    · first
      | (omega; done)
      | (
          have c2 : tkm t = 2 := c2
          refine r_aload_n C (dx dX7_gets 12 rfl) rfl ?_
          refine g_X7_147 C (dx dX7_gets 13 rfl) rfl ?_
          refine r_lconst (v := 0) C (dx dX7_gets 14 rfl) rfl ?_
          refine r_aload_n C (dx dX7_gets 15 rfl) rfl ?_
          refine g_X7_74 (x := nI (vN v)) C (dx dX7_gets 16 rfl) p.m.eN ?_
          refine r_iconst (v := nI 1) C (dx dX7_gets 17 rfl) rfl ?_
          refine r_isub C (dx dX7_gets 18 rfl) ?_
          refine r_i2l C (dx dX7_gets 19 rfl) ?_
          refine r_csP (as := [vl (xL h k 26), vl 0, vl (((nI (vN v)) - (nI 1)).toInt64)]) (st := []) (v := vi (b2i (inL (xL h k 26) 0 (((nI (vN v)) - (nI 1)).toInt64)))) C X I_X7_in l_X7_67 (c_X7_in _ _ _) (by decide) (Nat.le_of_ble_eq_true rfl) (pfx_eq p.kk) (Nat.le_of_ble_eq_true rfl) rfl (dx dX7_gets 20 rfl) ?_
          refine rb_ne (b := inL (xL h k 26) 0 (((nI (vN v)) - (nI 1)).toInt64)) (tgt := 47) C (dx dX7_gets 21 rfl) (by decide) (fun c4 => ?_) (fun c4 => ?_)
          ·
            have c4 : (inL (xL h k 26) 0 (((nI (vN v)) - (nI 1)).toInt64)) = true := c4
            have ht := tkm_2.mp c2
            have nn := nm_inL (lo := nI 0) (hi := nI (vN v) - nI 1) (tk_dg tk) ez ht (le99 ⟨vN v, by omega⟩)
            rw [show (nI 0).toInt64 = 0 by decide, ← p.e26 ht, c4] at nn
            obtain ⟨o9, ho9, eo9⟩ := inL_e0 (n := vN v) (by omega) c4
            have eO : gtO B z (t, s, e) v = nI o9 := (nn.2 rfl).symm.trans eo9
            refine r_aload_n C (dx dX7_gets 25 rfl) rfl ?_
            refine g_X7_147 C (dx dX7_gets 26 rfl) rfl ?_
            refine r_l2i C (dx dX7_gets 27 rfl) ?_
            rw [eo9]
            refine r_istore (ls' := [(0, vr 7 k), (1, vi (nI j)), (2, vi (b2i b)), (3, vr 20 (k + 18)), (4, vi (nI o9))]) C (dx dX7_gets 28 rfl) (by decide) [1, 2, 3, 4, 0] rfl ?_
            refine r_aload_n C (dx dX7_gets 29 rfl) rfl ?_
            refine r_iload_n C (dx dX7_gets 30 rfl) rfl ?_
            refine r_iald (j := j) (x := vF v 0 j) C rfl rfl (by decide) rfl (by omega) (dx dX7_gets 31 rfl) (p.m.e0 (by omega)) ?_
            refine r_iload C (dx dX7_gets 32 rfl) rfl ?_
            refine r_icmp_eq (tgt := 76) C (dx dX7_gets 33 rfl) (by decide) (fun c5 => ?_) (fun c5 => ?_)
            ·
              have c5 : vF v 0 j = nI o9 := c5
              refine r_aload_n C (dx dX7_gets 41 rfl) rfl ?_
              refine r_iload_n C (dx dX7_gets 42 rfl) rfl ?_
              refine r_iload C (dx dX7_gets 43 rfl) rfl ?_
              refine r_iast (j := j) C rfl rfl (by decide) rfl (by omega) (dx dX7_gets 44 rfl) ?_
              have ph6 : Px h (sI h (k + 18) j (nI o9)) k z B (t, s, e) (vset v 0 j (nI o9)) := p.c (p.m.s0) (by omega) (by omega)
              generalize sI h (k + 18) j (nI o9) = h6 at ph6 ⊢
              refine r_aload_n C (dx dX7_gets 45 rfl) rfl ?_
              refine r_cv (as := []) (st := []) C X I_X7_look l_X7_184 (e_look (fun i9 hi9 => ph6.tp hi9) ph6.lk) (by decide) (Nat.le_of_ble_eq_true rfl) List.prefix_rfl (pfx_eq ph6.kk) rfl rfl (Nat.le_of_ble_eq_true rfl) rfl (dx dX7_gets 46 rfl) ?_
              rintro _ h7 ⟨rfl, qh7, uh7⟩ kkh7
              have ph7 : Px h h7 k z B ((stp B z e).1, (stp B z e).2.1, (stp B z e).2.2) (vset v 0 j (nI o9)) := ph6.tr qh7
              have seh7 := ph7.se
              have ezh7 := ph7.ez
              refine r_iconst (v := nI 1) C (dx dX7_gets 47 rfl) rfl ?_
              exact F.1 _ _ _ _ .boolean rfl rfl (dx dX7_gets 48 rfl) ph7.kk ⟨true, rfl, (show GtP h h7 k z B (t, s, e) v (cond b 1 0) j true from by rw [c1]; unfold GtP; rw [show cond false 1 0 = 0 from rfl]; rw [if_neg (fun x => x.elim (fun y => nI_nm1 (o := o9) (by omega) (eO.symm.trans y)) (fun y => y.1 (c5.trans eO.symm))), eO]; exact ⟨rfl, ph7⟩)⟩
            ·
              have c5 : ¬ vF v 0 j = nI o9 := c5
              refine r_aload_n C (dx dX7_gets 34 rfl) rfl ?_
              refine r_iload C (dx dX7_gets 35 rfl) rfl ?_
              refine r_cvP (as := [vi (nI o9)]) (st := []) (v := vi (b2i (hasRm v (nI o9)))) C X I_X7_hasRoom l_X7_135 (e_hasRoom p.m (j := o9) (by omega)) (by decide) (Nat.le_of_ble_eq_true rfl) (pfx_eq p.kk) rfl rfl (Nat.le_of_ble_eq_true rfl) rfl (dx dX7_gets 36 rfl) ?_
              refine rb_ne (b := hasRm v (nI o9)) (tgt := 76) C (dx dX7_gets 37 rfl) (by decide) (fun c8 => ?_) (fun c8 => ?_)
              ·
                have c8 : (hasRm v (nI o9)) = true := c8
                refine r_aload_n C (dx dX7_gets 41 rfl) rfl ?_
                refine r_iload_n C (dx dX7_gets 42 rfl) rfl ?_
                refine r_iload C (dx dX7_gets 43 rfl) rfl ?_
                refine r_iast (j := j) C rfl rfl (by decide) rfl (by omega) (dx dX7_gets 44 rfl) ?_
                have ph9 : Px h (sI h (k + 18) j (nI o9)) k z B (t, s, e) (vset v 0 j (nI o9)) := p.c (p.m.s0) (by omega) (by omega)
                generalize sI h (k + 18) j (nI o9) = h9 at ph9 ⊢
                refine r_aload_n C (dx dX7_gets 45 rfl) rfl ?_
                refine r_cv (as := []) (st := []) C X I_X7_look l_X7_184 (e_look (fun i9 hi9 => ph9.tp hi9) ph9.lk) (by decide) (Nat.le_of_ble_eq_true rfl) List.prefix_rfl (pfx_eq ph9.kk) rfl rfl (Nat.le_of_ble_eq_true rfl) rfl (dx dX7_gets 46 rfl) ?_
                rintro _ h10 ⟨rfl, qh10, uh10⟩ kkh10
                have ph10 : Px h h10 k z B ((stp B z e).1, (stp B z e).2.1, (stp B z e).2.2) (vset v 0 j (nI o9)) := ph9.tr qh10
                have seh10 := ph10.se
                have ezh10 := ph10.ez
                refine r_iconst (v := nI 1) C (dx dX7_gets 47 rfl) rfl ?_
                exact F.1 _ _ _ _ .boolean rfl rfl (dx dX7_gets 48 rfl) ph10.kk ⟨true, rfl, (show GtP h h10 k z B (t, s, e) v (cond b 1 0) j true from by rw [c1]; unfold GtP; rw [show cond false 1 0 = 0 from rfl]; rw [if_neg (fun x => x.elim (fun y => nI_nm1 (o := o9) (by omega) (eO.symm.trans y)) (fun y => (by have y2 := y.2; rw [eO, c8] at y2; exact absurd y2 (by decide)))), eO]; exact ⟨rfl, ph10⟩)⟩
              ·
                have c8 : (hasRm v (nI o9)) = false := c8
                refine r_aload_n C (dx dX7_gets 38 rfl) rfl ?_
                refine r_cv (as := []) (st := []) C X I_X7_wrong l_X7_177 (e_wrong p.slf) (by decide) (Nat.le_of_ble_eq_true rfl) List.prefix_rfl (pfx_eq p.kk) rfl rfl (Nat.le_of_ble_eq_true rfl) rfl (dx dX7_gets 39 rfl) ?_
                rintro _ h11 ⟨rfl, qh11, uh11⟩ kkh11
                have ph11 := p.tr qh11
                exact F.1 _ _ _ _ .boolean rfl (nar_b _) (dx dX7_gets 40 rfl) ph11.kk ⟨false, rfl, (show GtP h h11 k z B (t, s, e) v (cond b 1 0) j false from by rw [c1]; unfold GtP; rw [show cond false 1 0 = 0 from rfl]; rw [if_pos (Or.inr ⟨by rw [eO]; exact c5, by rw [eO]; exact c8⟩)]; exact ⟨rfl, ph11, uh11⟩)⟩
          ·
            have c4 : (inL (xL h k 26) 0 (((nI (vN v)) - (nI 1)).toInt64)) = false := c4
            have ht := tkm_2.mp c2
            have nn := nm_inL (lo := nI 0) (hi := nI (vN v) - nI 1) (tk_dg tk) ez ht (le99 ⟨vN v, by omega⟩)
            rw [show (nI 0).toInt64 = 0 by decide, ← p.e26 ht, c4] at nn
            have eN : gtO B z (t, s, e) v = -1 := Classical.not_not.mp (of_decide_eq_false nn.1.symm)
            refine r_aload_n C (dx dX7_gets 22 rfl) rfl ?_
            refine r_cv (as := []) (st := []) C X I_X7_wrong l_X7_177 (e_wrong p.slf) (by decide) (Nat.le_of_ble_eq_true rfl) List.prefix_rfl (pfx_eq p.kk) rfl rfl (Nat.le_of_ble_eq_true rfl) rfl (dx dX7_gets 23 rfl) ?_
            rintro _ h12 ⟨rfl, qh12, uh12⟩ kkh12
            have ph12 := p.tr qh12
            exact F.1 _ _ _ _ .boolean rfl (nar_b _) (dx dX7_gets 24 rfl) ph12.kk ⟨false, rfl, (show GtP h h12 k z B (t, s, e) v (cond b 1 0) j false from by rw [c1]; unfold GtP; rw [show cond false 1 0 = 0 from rfl]; rw [if_pos (Or.inl eN)]; exact ⟨rfl, ph12, uh12⟩)⟩)
  ·
    have c1 : b = true := c1
    refine r_aload_n C (dx dX7_gets 2 rfl) rfl ?_
    refine g_X7_43 C (dx dX7_gets 3 rfl) ?_
    refine r_goto (tgt := 15) C (dx dX7_gets 4 rfl) (by decide) ?_
    refine r_astore_n (ls' := [(0, vr 7 k), (1, vi (nI j)), (2, vi (b2i b)), (3, vr 20 (k + 19))]) C (dx dX7_gets 7 rfl) (by decide) [1, 2, 3, 0] rfl ?_
    refine r_aload_n C (dx dX7_gets 8 rfl) rfl ?_
    refine g_X7_151 (x := nI (tkm t)) C (dx dX7_gets 9 rfl) p.e24 ?_
    refine r_iconst (v := nI 2) C (dx dX7_gets 10 rfl) rfl ?_
    refine rn_ne (a := tkm t) (b := 2) (tgt := 42) C (by omega) (by omega) (dx dX7_gets 11 rfl) (by decide) (fun c13 => ?_) (fun c13 => ?_)
    · first
      | (omega; done)
      | (
          have c13 : ¬ tkm t = 2 := c13
          have eN : gtO B z (t, s, e) v = -1 := by unfold gtO nmQ nmV; exact if_neg (fun x => c13 (tkm_2.mpr x.1))
          refine r_aload_n C (dx dX7_gets 22 rfl) rfl ?_
          refine r_cv (as := []) (st := []) C X I_X7_wrong l_X7_177 (e_wrong p.slf) (by decide) (Nat.le_of_ble_eq_true rfl) List.prefix_rfl (pfx_eq p.kk) rfl rfl (Nat.le_of_ble_eq_true rfl) rfl (dx dX7_gets 23 rfl) ?_
          rintro _ h14 ⟨rfl, qh14, uh14⟩ kkh14
          have ph14 := p.tr qh14
          exact F.1 _ _ _ _ .boolean rfl (nar_b _) (dx dX7_gets 24 rfl) ph14.kk ⟨false, rfl, (show GtP h h14 k z B (t, s, e) v (cond b 1 0) j false from by rw [c1]; unfold GtP; rw [show cond true 1 0 = 1 from rfl]; rw [if_pos (Or.inl eN)]; exact ⟨rfl, ph14, uh14⟩)⟩)
    · first
      | (omega; done)
      | (
          have c13 : tkm t = 2 := c13
          refine r_aload_n C (dx dX7_gets 12 rfl) rfl ?_
          refine g_X7_147 C (dx dX7_gets 13 rfl) rfl ?_
          refine r_lconst (v := 0) C (dx dX7_gets 14 rfl) rfl ?_
          refine r_aload_n C (dx dX7_gets 15 rfl) rfl ?_
          refine g_X7_74 (x := nI (vN v)) C (dx dX7_gets 16 rfl) p.m.eN ?_
          refine r_iconst (v := nI 1) C (dx dX7_gets 17 rfl) rfl ?_
          refine r_isub C (dx dX7_gets 18 rfl) ?_
          refine r_i2l C (dx dX7_gets 19 rfl) ?_
          refine r_csP (as := [vl (xL h k 26), vl 0, vl (((nI (vN v)) - (nI 1)).toInt64)]) (st := []) (v := vi (b2i (inL (xL h k 26) 0 (((nI (vN v)) - (nI 1)).toInt64)))) C X I_X7_in l_X7_67 (c_X7_in _ _ _) (by decide) (Nat.le_of_ble_eq_true rfl) (pfx_eq p.kk) (Nat.le_of_ble_eq_true rfl) rfl (dx dX7_gets 20 rfl) ?_
          refine rb_ne (b := inL (xL h k 26) 0 (((nI (vN v)) - (nI 1)).toInt64)) (tgt := 47) C (dx dX7_gets 21 rfl) (by decide) (fun c15 => ?_) (fun c15 => ?_)
          ·
            have c15 : (inL (xL h k 26) 0 (((nI (vN v)) - (nI 1)).toInt64)) = true := c15
            have ht := tkm_2.mp c13
            have nn := nm_inL (lo := nI 0) (hi := nI (vN v) - nI 1) (tk_dg tk) ez ht (le99 ⟨vN v, by omega⟩)
            rw [show (nI 0).toInt64 = 0 by decide, ← p.e26 ht, c15] at nn
            obtain ⟨o9, ho9, eo9⟩ := inL_e0 (n := vN v) (by omega) c15
            have eO : gtO B z (t, s, e) v = nI o9 := (nn.2 rfl).symm.trans eo9
            refine r_aload_n C (dx dX7_gets 25 rfl) rfl ?_
            refine g_X7_147 C (dx dX7_gets 26 rfl) rfl ?_
            refine r_l2i C (dx dX7_gets 27 rfl) ?_
            rw [eo9]
            refine r_istore (ls' := [(0, vr 7 k), (1, vi (nI j)), (2, vi (b2i b)), (3, vr 20 (k + 19)), (4, vi (nI o9))]) C (dx dX7_gets 28 rfl) (by decide) [1, 2, 3, 4, 0] rfl ?_
            refine r_aload_n C (dx dX7_gets 29 rfl) rfl ?_
            refine r_iload_n C (dx dX7_gets 30 rfl) rfl ?_
            refine r_iald (j := j) (x := vF v 1 j) C rfl rfl (by decide) rfl (by omega) (dx dX7_gets 31 rfl) (p.m.e1 (by omega)) ?_
            refine r_iload C (dx dX7_gets 32 rfl) rfl ?_
            refine r_icmp_eq (tgt := 76) C (dx dX7_gets 33 rfl) (by decide) (fun c16 => ?_) (fun c16 => ?_)
            ·
              have c16 : vF v 1 j = nI o9 := c16
              refine r_aload_n C (dx dX7_gets 41 rfl) rfl ?_
              refine r_iload_n C (dx dX7_gets 42 rfl) rfl ?_
              refine r_iload C (dx dX7_gets 43 rfl) rfl ?_
              refine r_iast (j := j) C rfl rfl (by decide) rfl (by omega) (dx dX7_gets 44 rfl) ?_
              have ph17 : Px h (sI h (k + 19) j (nI o9)) k z B (t, s, e) (vset v 1 j (nI o9)) := p.c (p.m.s1) (by omega) (by omega)
              generalize sI h (k + 19) j (nI o9) = h17 at ph17 ⊢
              refine r_aload_n C (dx dX7_gets 45 rfl) rfl ?_
              refine r_cv (as := []) (st := []) C X I_X7_look l_X7_184 (e_look (fun i9 hi9 => ph17.tp hi9) ph17.lk) (by decide) (Nat.le_of_ble_eq_true rfl) List.prefix_rfl (pfx_eq ph17.kk) rfl rfl (Nat.le_of_ble_eq_true rfl) rfl (dx dX7_gets 46 rfl) ?_
              rintro _ h18 ⟨rfl, qh18, uh18⟩ kkh18
              have ph18 : Px h h18 k z B ((stp B z e).1, (stp B z e).2.1, (stp B z e).2.2) (vset v 1 j (nI o9)) := ph17.tr qh18
              have seh18 := ph18.se
              have ezh18 := ph18.ez
              refine r_iconst (v := nI 1) C (dx dX7_gets 47 rfl) rfl ?_
              exact F.1 _ _ _ _ .boolean rfl rfl (dx dX7_gets 48 rfl) ph18.kk ⟨true, rfl, (show GtP h h18 k z B (t, s, e) v (cond b 1 0) j true from by rw [c1]; unfold GtP; rw [show cond true 1 0 = 1 from rfl]; rw [if_neg (fun x => x.elim (fun y => nI_nm1 (o := o9) (by omega) (eO.symm.trans y)) (fun y => y.1 (c16.trans eO.symm))), eO]; exact ⟨rfl, ph18⟩)⟩
            ·
              have c16 : ¬ vF v 1 j = nI o9 := c16
              refine r_aload_n C (dx dX7_gets 34 rfl) rfl ?_
              refine r_iload C (dx dX7_gets 35 rfl) rfl ?_
              refine r_cvP (as := [vi (nI o9)]) (st := []) (v := vi (b2i (hasRm v (nI o9)))) C X I_X7_hasRoom l_X7_135 (e_hasRoom p.m (j := o9) (by omega)) (by decide) (Nat.le_of_ble_eq_true rfl) (pfx_eq p.kk) rfl rfl (Nat.le_of_ble_eq_true rfl) rfl (dx dX7_gets 36 rfl) ?_
              refine rb_ne (b := hasRm v (nI o9)) (tgt := 76) C (dx dX7_gets 37 rfl) (by decide) (fun c19 => ?_) (fun c19 => ?_)
              ·
                have c19 : (hasRm v (nI o9)) = true := c19
                refine r_aload_n C (dx dX7_gets 41 rfl) rfl ?_
                refine r_iload_n C (dx dX7_gets 42 rfl) rfl ?_
                refine r_iload C (dx dX7_gets 43 rfl) rfl ?_
                refine r_iast (j := j) C rfl rfl (by decide) rfl (by omega) (dx dX7_gets 44 rfl) ?_
                have ph20 : Px h (sI h (k + 19) j (nI o9)) k z B (t, s, e) (vset v 1 j (nI o9)) := p.c (p.m.s1) (by omega) (by omega)
                generalize sI h (k + 19) j (nI o9) = h20 at ph20 ⊢
                refine r_aload_n C (dx dX7_gets 45 rfl) rfl ?_
                refine r_cv (as := []) (st := []) C X I_X7_look l_X7_184 (e_look (fun i9 hi9 => ph20.tp hi9) ph20.lk) (by decide) (Nat.le_of_ble_eq_true rfl) List.prefix_rfl (pfx_eq ph20.kk) rfl rfl (Nat.le_of_ble_eq_true rfl) rfl (dx dX7_gets 46 rfl) ?_
                rintro _ h21 ⟨rfl, qh21, uh21⟩ kkh21
                have ph21 : Px h h21 k z B ((stp B z e).1, (stp B z e).2.1, (stp B z e).2.2) (vset v 1 j (nI o9)) := ph20.tr qh21
                have seh21 := ph21.se
                have ezh21 := ph21.ez
                refine r_iconst (v := nI 1) C (dx dX7_gets 47 rfl) rfl ?_
                exact F.1 _ _ _ _ .boolean rfl rfl (dx dX7_gets 48 rfl) ph21.kk ⟨true, rfl, (show GtP h h21 k z B (t, s, e) v (cond b 1 0) j true from by rw [c1]; unfold GtP; rw [show cond true 1 0 = 1 from rfl]; rw [if_neg (fun x => x.elim (fun y => nI_nm1 (o := o9) (by omega) (eO.symm.trans y)) (fun y => (by have y2 := y.2; rw [eO, c19] at y2; exact absurd y2 (by decide)))), eO]; exact ⟨rfl, ph21⟩)⟩
              ·
                have c19 : (hasRm v (nI o9)) = false := c19
                refine r_aload_n C (dx dX7_gets 38 rfl) rfl ?_
                refine r_cv (as := []) (st := []) C X I_X7_wrong l_X7_177 (e_wrong p.slf) (by decide) (Nat.le_of_ble_eq_true rfl) List.prefix_rfl (pfx_eq p.kk) rfl rfl (Nat.le_of_ble_eq_true rfl) rfl (dx dX7_gets 39 rfl) ?_
                rintro _ h22 ⟨rfl, qh22, uh22⟩ kkh22
                have ph22 := p.tr qh22
                exact F.1 _ _ _ _ .boolean rfl (nar_b _) (dx dX7_gets 40 rfl) ph22.kk ⟨false, rfl, (show GtP h h22 k z B (t, s, e) v (cond b 1 0) j false from by rw [c1]; unfold GtP; rw [show cond true 1 0 = 1 from rfl]; rw [if_pos (Or.inr ⟨by rw [eO]; exact c16, by rw [eO]; exact c19⟩)]; exact ⟨rfl, ph22, uh22⟩)⟩
          ·
            have c15 : (inL (xL h k 26) 0 (((nI (vN v)) - (nI 1)).toInt64)) = false := c15
            have ht := tkm_2.mp c13
            have nn := nm_inL (lo := nI 0) (hi := nI (vN v) - nI 1) (tk_dg tk) ez ht (le99 ⟨vN v, by omega⟩)
            rw [show (nI 0).toInt64 = 0 by decide, ← p.e26 ht, c15] at nn
            have eN : gtO B z (t, s, e) v = -1 := Classical.not_not.mp (of_decide_eq_false nn.1.symm)
            refine r_aload_n C (dx dX7_gets 22 rfl) rfl ?_
            refine r_cv (as := []) (st := []) C X I_X7_wrong l_X7_177 (e_wrong p.slf) (by decide) (Nat.le_of_ble_eq_true rfl) List.prefix_rfl (pfx_eq p.kk) rfl rfl (Nat.le_of_ble_eq_true rfl) rfl (dx dX7_gets 23 rfl) ?_
            rintro _ h23 ⟨rfl, qh23, uh23⟩ kkh23
            have ph23 := p.tr qh23
            exact F.1 _ _ _ _ .boolean rfl (nar_b _) (dx dX7_gets 24 rfl) ph23.kk ⟨false, rfl, (show GtP h h23 k z B (t, s, e) v (cond b 1 0) j false from by rw [c1]; unfold GtP; rw [show cond true 1 0 = 1 from rfl]; rw [if_pos (Or.inl eN)]; exact ⟨rfl, ph23, uh23⟩)⟩)
theorem rm_n1 {v : Vg} : hasRm v (-1) = false := by unfold hasRm; rw [show inR (-1) (vN v) = false from inR_neg (by decide)]; rfl
section Gts
variable {h0 h h' : Hp} {k z i c p : Nat} {B : Nat → Int32} {q : Tkn} {v : Vg} {b : Bool}
theorem GtP.pre {q0 : Tkn} {v0 : Vg} (x : Px h0 h k z B q0 v0) (g : GtP h h' k z B q v c p b) : GtP h0 h' k z B q v c p b := by
  unfold GtP at g ⊢
  split
  · next w => rw [if_pos w] at g; exact ⟨g.1, x.tr g.2.1, g.2.2⟩
  · next w => rw [if_neg w] at g; exact ⟨g.1, x.tr g.2⟩
theorem by_0 (w : wdB i B z q.1 q.2.1 q.2.2 = false) : byS B z c i p q v = (true, q, v) := by unfold byS; rw [if_neg (by rw [w]; decide)]
theorem by_t (w : wdB i B z q.1 q.2.1 q.2.2 = true) (hv : vF v c p = -1) (g : GtP h h' k z B (stp B z q.2.2) v c p true) : byS B z c i p q v = (true, stp B z (stp B z q.2.2).2.2, vset v c p (gtO B z (stp B z q.2.2) v)) ∧ Px h h' k z B (stp B z (stp B z q.2.2).2.2) (vset v c p (gtO B z (stp B z q.2.2) v)) := by
  unfold GtP at g
  split at g
  · exact absurd g.1 (by decide)
  · next x =>
    have r : hasRm v (gtO B z (stp B z q.2.2) v) = true := by
      cases y : hasRm v (gtO B z (stp B z q.2.2) v)
      · exact absurd (if e : gtO B z (stp B z q.2.2) v = -1 then Or.inl e else Or.inr ⟨fun z9 => e (z9.symm.trans hv), y⟩) x
      · rfl
    refine ⟨?_, g.2⟩
    unfold byS
    rw [if_pos w]; exact if_pos r
theorem by_f (w : wdB i B z q.1 q.2.1 q.2.2 = true) (g : GtP h h' k z B (stp B z q.2.2) v c p false) : byS B z c i p q v = (false, stp B z q.2.2, v) ∧ Px h h' k z B (stp B z q.2.2) v ∧ xI h' k 27 = nI (stp B z q.2.2).2.1 := by
  unfold GtP at g
  split at g
  · next x =>
    have r : hasRm v (gtO B z (stp B z q.2.2) v) = false := by
      rcases x with x | x
      · rw [x]; exact rm_n1
      · exact x.2
    refine ⟨?_, g.2⟩
    unfold byS
    rw [if_pos w, if_neg (by rw [show hasRm v (nmQ B z (stp B z q.2.2) (nI 0) (nI (vN v) - nI 1)) = false from r]; decide)]
  · exact absurd g.1 (by decide)
def RdP (h h' : Hp) (k z : Nat) (B : Nat → Int32) (w : Rd) (b : Bool) : Prop := b = w.1 ∧ (∃ v', Px h h' k z B w.2.1 v') ∧ (b = true → Px h h' k z B w.2.1 w.2.2) ∧ (b = false → xI h' k 27 = nI w.2.1.2.1)
theorem RdP.t {w : Rd} {q9 : Tkn} {v9 : Vg} (e : w = (true, q9, v9)) (x : Px h h' k z B q9 v9) : RdP h h' k z B w true := by subst e; exact ⟨rfl, ⟨_, x⟩, fun _ => x, fun y => absurd y (by decide)⟩
theorem RdP.f {w : Rd} {q9 : Tkn} {v9 v8 : Vg} (e : w = (false, q9, v9)) (x : Px h h' k z B q9 v8) (f : xI h' k 27 = nI q9.2.1) : RdP h h' k z B w false := by subst e; exact ⟨rfl, ⟨_, x⟩, fun y => absurd y (by decide), fun _ => f⟩
end Gts
set_option maxHeartbeats 4000000 in
theorem p_part {l : Launch} {h : Hp} {k z t s e : Nat} {B : Nat → Int32} {v : Vg} (p : Px h h k z B (t, s, e) v) (h12 : vP v < 12) : Ms l yX7_part cX7_part 1 (some .int) 2 [vr 7 k] h (xK h) (fun r h' => r = some (vi (nI (vP v))) ∧ Px h h' k z B (t, s, e) (addPartV v)) := by
  refine Ms.of (by decide) (Nat.le_of_ble_eq_true rfl) (fun G C X F => ?_)
  have C : Cx G cX7_part 1 RX7 := C
  show Rr G 0 [(0, vr 7 k)] [] h
  have se := p.se
  have ez := p.ez
  have bz := p.bz
  have bP := p.m.bP
  have bM := p.m.bM
  have bN := p.m.bN
  have t5 : tkm t < 5 := by unfold tkm; split <;> omega
  refine r_aload_n C (dx dX7_part 0 rfl) rfl ?_
  refine g_X7_64 (x := nI (vP v)) C (dx dX7_part 1 rfl) p.m.eP ?_
  refine r_bipush (v := nI 12) C (dx dX7_part 2 rfl) rfl ?_
  refine rn_ne (a := vP v) (b := 12) (tgt := 16) C (by omega) (by omega) (dx dX7_part 3 rfl) (by decide) (fun c1 => ?_) (fun c1 => ?_)
  · first
    | (omega; done)
    | (
        have c1 : ¬ vP v = 12 := c1
        refine r_aload_n C (dx dX7_part 8 rfl) rfl ?_
        refine g_X7_40 C (dx dX7_part 9 rfl) ?_
        refine r_aload_n C (dx dX7_part 10 rfl) rfl ?_
        refine g_X7_64 (x := nI (vP v)) C (dx dX7_part 11 rfl) p.m.eP ?_
        refine r_iconst (v := -1) C (dx dX7_part 12 rfl) rfl ?_
        refine r_iast (j := vP v) C rfl rfl (by decide) rfl (by omega) (dx dX7_part 13 rfl) ?_
        have ph2 : Px h (sI h (k + 18) (vP v) (-1)) k z B (t, s, e) (vset v 0 (vP v) (-1)) := p.c (p.m.s0) (by omega) (by omega)
        generalize sI h (k + 18) (vP v) (-1) = h2 at ph2 ⊢
        refine r_aload_n C (dx dX7_part 14 rfl) rfl ?_
        refine g_X7_43 C (dx dX7_part 15 rfl) ?_
        refine r_aload_n C (dx dX7_part 16 rfl) rfl ?_
        refine g_X7_64 (x := nI (vP v)) C (dx dX7_part 17 rfl) ph2.m.eP ?_
        refine r_iconst (v := -1) C (dx dX7_part 18 rfl) rfl ?_
        refine r_iast (j := vP v) C rfl rfl (by decide) rfl (by omega) (dx dX7_part 19 rfl) ?_
        have ph3 : Px h (sI h2 (k + 19) (vP v) (-1)) k z B (t, s, e) (vset (vset v 0 (vP v) (-1)) 1 (vP v) (-1)) := ph2.c (ph2.m.s1) (by omega) (by omega)
        generalize sI h2 (k + 19) (vP v) (-1) = h3 at ph3 ⊢
        refine r_aload_n C (dx dX7_part 20 rfl) rfl ?_
        refine r_dupR C (dx dX7_part 21 rfl) ?_
        refine g_X7_64 (x := nI (vP v)) C (dx dX7_part 22 rfl) ph3.m.eP ?_
        refine r_dup_x1 C (dx dX7_part 23 rfl) ?_
        refine r_iconst (v := nI 1) C (dx dX7_part 24 rfl) rfl ?_
        refine rn_iadd (a := vP v) (b := 1) C (dx dX7_part 25 rfl) ?_
        refine p_X7_64 C (dx dX7_part 26 rfl) rfl rfl ?_
        have ph4 : Px h (sI h3 k 10 (nI (vP v + 1))) k z B (t, s, e) (vsP (vset (vset v 0 (vP v) (-1)) 1 (vP v) (-1)) (vP v + 1)) := ph3.fd (ph3.m.sP (n := vP v + 1) (by omega)) (by decide) (by decide) (by decide) (by decide) (by decide)
        generalize sI h3 k 10 (nI (vP v + 1)) = h4 at ph4 ⊢
        exact F.1 _ _ _ _ .int rfl rfl (dx dX7_part 27 rfl) ph4.kk ⟨congrArg (fun q9 => some (vi (nI q9))) (show vP v = vP v by omega), ph4⟩)
  · first
    | (omega; done)
    | (
        have c1 : vP v = 12 := c1
        refine r_aload_n C (dx dX7_part 4 rfl) rfl ?_
        refine r_bipush (v := -6) C (dx dX7_part 5 rfl) rfl ?_
        refine r_cv (as := [vi (-6)]) (st := []) C X I_X7_refuse l_X7_83 (c_X7_refuse p.m (x := -6) (j := 6) (by decide) (by decide)) (by decide) (Nat.le_of_ble_eq_true rfl) List.prefix_rfl (pfx_eq p.kk) rfl rfl (Nat.le_of_ble_eq_true rfl) rfl (dx dX7_part 6 rfl) ?_
        rintro _ h5 ⟨rfl, ⟨wh5, m9h5, s9h5⟩, qh5⟩ kkh5
        obtain ⟨vh5, mh5, zh5⟩ : ∃ v9, MilAt h5 k v9 ∧ Sz v v9 := ⟨_, m9h5, s9h5⟩
        have ph5 : Kp k h h5 := qh5
        have kh5 : xK h5 = xK h := (kkh5).trans p.kk
        obtain ⟨ah5, bh5, ch5⟩ := zh5
        exact F.1 _ _ _ _ .int rfl rfl (dx dX7_part 7 rfl) p.kk ⟨congrArg (fun q9 => some (vi (nI q9))) (show None = vP v by omega), p⟩)
theorem ptW_f {B : Nat → Int32} {z : Nat} {q q1 : Tkn} {v v1 : Vg} (h12 : vP v < 12) (E1 : byS B z 0 1 (vP v) (stp B z q.2.2) (addPartV v) = (false, q1, v1)) : ptW B z q v = (false, q1, v1) := by
  unfold ptW
  rw [if_pos h12, E1]; exact if_neg (show ¬ (false = true) by decide)
theorem ptW_t {B : Nat → Int32} {z : Nat} {q q1 : Tkn} {v v1 : Vg} {w : Rd} (h12 : vP v < 12) (E1 : byS B z 0 1 (vP v) (stp B z q.2.2) (addPartV v) = (true, q1, v1)) (E2 : byS B z 1 2 (vP v) q1 v1 = w) : ptW B z q v = w := by
  unfold ptW
  rw [if_pos h12, E1, if_pos rfl]; exact E2
set_option maxHeartbeats 4000000 in
theorem e_partTold {l : Launch} {h : Hp} {k z t s e : Nat} {B : Nat → Int32} {v : Vg} (p : Px h h k z B (t, s, e) v) (hP12 : vP v < 12) : Ms l yX7_partTold cX7_partTold 2 (some .boolean) 7 [vr 7 k] h (xK h) (fun r h' => ∃ b, r = some (vi (b2i b)) ∧ RdP h h' k z B (ptW B z (t, s, e) v) b) := by
  refine Ms.of (by decide) (Nat.le_of_ble_eq_true rfl) (fun G C X F => ?_)
  have C : Cx G cX7_partTold 2 RX7 := C
  show Rr G 0 [(0, vr 7 k)] [] h
  have se := p.se
  have ez := p.ez
  have bz := p.bz
  have bP := p.m.bP
  have bM := p.m.bM
  have bN := p.m.bN
  have t5 : tkm t < 5 := by unfold tkm; split <;> omega
  refine r_aload_n C (dx dX7_partTold 0 rfl) rfl ?_
  refine r_cv (as := []) (st := []) C X I_X7_look l_X7_184 (e_look (fun i9 hi9 => p.tp hi9) p.lk) (by decide) (Nat.le_of_ble_eq_true rfl) List.prefix_rfl (pfx_eq p.kk) rfl rfl (Nat.le_of_ble_eq_true rfl) rfl (dx dX7_partTold 1 rfl) ?_
  rintro _ h1 ⟨rfl, qh1, uh1⟩ kkh1
  have ph1 : Px h h1 k z B ((stp B z e).1, (stp B z e).2.1, (stp B z e).2.2) v := p.tr qh1
  have seh1 := ph1.se
  have ezh1 := ph1.ez
  refine r_aload_n C (dx dX7_partTold 2 rfl) rfl ?_
  refine r_cv (as := []) (st := []) C X I_X7_part l_X7_194 (p_part ph1.slf (by omega)) (by decide) (Nat.le_of_ble_eq_true rfl) List.prefix_rfl (pfx_eq ph1.kk) rfl rfl (Nat.le_of_ble_eq_true rfl) rfl (dx dX7_partTold 3 rfl) ?_
  rintro _ h2 ⟨rfl, qh2⟩ kkh2
  have ph2 := ph1.tr qh2
  refine r_istore_n (ls' := [(0, vr 7 k), (1, vi (nI (vP v)))]) C (dx dX7_partTold 4 rfl) (by decide) [1, 0] rfl ?_
  refine r_aload_n C (dx dX7_partTold 5 rfl) rfl ?_
  refine r_ldcS C 11 rfl (dx dX7_partTold 6 rfl) ?_
  refine r_cvP (as := [vt 1001]) (st := []) (v := vi (b2i (wdB 1 B z ((stp B z e).1) ((stp B z e).2.1) ((stp B z e).2.2)))) C X I_X7_isWord l_X7_187 (e_isWord ph2.slf (i := 1) (by decide)) (by decide) (Nat.le_of_ble_eq_true rfl) (pfx_eq ph2.kk) rfl rfl (Nat.le_of_ble_eq_true rfl) rfl (dx dX7_partTold 7 rfl) ?_
  refine rb_eq (b := wdB 1 B z ((stp B z e).1) ((stp B z e).2.1) ((stp B z e).2.2)) (tgt := 33) C (dx dX7_partTold 8 rfl) (by decide) (fun c3 => ?_) (fun c3 => ?_)
  ·
    have c3 : (wdB 1 B z ((stp B z e).1) ((stp B z e).2.1) ((stp B z e).2.2)) = false := c3
    have y1 : byS B z 0 1 (vP v) (stp B z e) (addPartV v) = (true, stp B z e, addPartV v) := by_0 c3
    refine r_aload_n C (dx dX7_partTold 18 rfl) rfl ?_
    refine r_ldcS C 12 rfl (dx dX7_partTold 19 rfl) ?_
    refine r_cvP (as := [vt 1002]) (st := []) (v := vi (b2i (wdB 2 B z ((stp B z e).1) ((stp B z e).2.1) ((stp B z e).2.2)))) C X I_X7_isWord l_X7_187 (e_isWord ph2.slf (i := 2) (by decide)) (by decide) (Nat.le_of_ble_eq_true rfl) (pfx_eq ph2.kk) rfl rfl (Nat.le_of_ble_eq_true rfl) rfl (dx dX7_partTold 20 rfl) ?_
    refine rb_eq (b := wdB 2 B z ((stp B z e).1) ((stp B z e).2.1) ((stp B z e).2.2)) (tgt := 53) C (dx dX7_partTold 21 rfl) (by decide) (fun c4 => ?_) (fun c4 => ?_)
    ·
      have c4 : (wdB 2 B z ((stp B z e).1) ((stp B z e).2.1) ((stp B z e).2.2)) = false := c4
      have y2 : byS B z 1 2 (vP v) (stp B z e) (addPartV v) = (true, stp B z e, addPartV v) := by_0 c4
      refine r_iconst (v := nI 1) C (dx dX7_partTold 29 rfl) rfl ?_
      exact F.1 _ _ _ _ .boolean rfl rfl (dx dX7_partTold 30 rfl) ph2.kk ⟨true, rfl, (show RdP h h2 k z B (ptW B z (t, s, e) v) true from RdP.t (ptW_t hP12 y1 y2) ph2)⟩
    ·
      have c4 : (wdB 2 B z ((stp B z e).1) ((stp B z e).2.1) ((stp B z e).2.2)) = true := c4
      refine r_aload_n C (dx dX7_partTold 22 rfl) rfl ?_
      refine r_cv (as := []) (st := []) C X I_X7_look l_X7_184 (e_look (fun i9 hi9 => ph2.tp hi9) ph2.lk) (by decide) (Nat.le_of_ble_eq_true rfl) List.prefix_rfl (pfx_eq ph2.kk) rfl rfl (Nat.le_of_ble_eq_true rfl) rfl (dx dX7_partTold 23 rfl) ?_
      rintro _ h5 ⟨rfl, qh5, uh5⟩ kkh5
      have ph5 : Px h h5 k z B ((stp B z ((stp B z e).2.2)).1, (stp B z ((stp B z e).2.2)).2.1, (stp B z ((stp B z e).2.2)).2.2) (addPartV v) := ph2.tr qh5
      have seh5 := ph5.se
      have ezh5 := ph5.ez
      refine r_aload_n C (dx dX7_partTold 24 rfl) rfl ?_
      refine r_iload_n C (dx dX7_partTold 25 rfl) rfl ?_
      refine r_iconst (v := nI 1) C (dx dX7_partTold 26 rfl) rfl ?_
      refine r_cv (as := [vi (nI (vP v)), vi (nI 1)]) (st := []) C X I_X7_gets l_X7_199 (e_gets ph5.slf ⟨((stp B z e).2.2), by omega, rfl⟩ (j := vP v) (show vP v < vP v + 1 from Nat.lt_succ_self _) true) (by decide) (Nat.le_of_ble_eq_true rfl) List.prefix_rfl (pfx_eq ph5.kk) rfl rfl (Nat.le_of_ble_eq_true rfl) rfl (dx dX7_partTold 27 rfl) ?_
      rintro _ h6 ⟨bh6, rfl, gh6⟩ kkh6
      have kh6 : xK h6 = xK h := kkh6.trans ph5.kk
      have gh6 := GtP.pre ph5 gh6
      rcases Bool.eq_false_or_eq_true bh6 with cb | cb
      ·
        rw [cb] at gh6
        obtain ⟨erbh6, prbh6⟩ := by_t (i := 2) (q := stp B z e) c4 (by simp [addPartV, vset, vF, vsP]) gh6
        have serbh6 := Px.se (t := (stp B z (stp B z (stp B z e).2.2).2.2).1) (s := (stp B z (stp B z (stp B z e).2.2).2.2).2.1) (e := (stp B z (stp B z (stp B z e).2.2).2.2).2.2) prbh6
        have ezrbh6 := Px.ez (t := (stp B z (stp B z (stp B z e).2.2).2.2).1) (s := (stp B z (stp B z (stp B z e).2.2).2.2).2.1) (e := (stp B z (stp B z (stp B z e).2.2).2.2).2.2) prbh6
        rw [cb]
        exact F.1 _ _ _ _ .boolean rfl rfl (dx dX7_partTold 28 rfl) kh6 ⟨true, rfl, (show RdP h h6 k z B (ptW B z (t, s, e) v) true from RdP.t (ptW_t hP12 y1 erbh6) prbh6)⟩
      ·
        rw [cb] at gh6
        obtain ⟨erbh6, prbh6, frbh6⟩ := by_f (i := 2) (q := stp B z e) c4 gh6
        rw [cb]
        exact F.1 _ _ _ _ .boolean rfl rfl (dx dX7_partTold 28 rfl) kh6 ⟨false, rfl, (show RdP h h6 k z B (ptW B z (t, s, e) v) false from RdP.f (ptW_t hP12 y1 erbh6) prbh6 frbh6)⟩
  ·
    have c3 : (wdB 1 B z ((stp B z e).1) ((stp B z e).2.1) ((stp B z e).2.2)) = true := c3
    refine r_aload_n C (dx dX7_partTold 9 rfl) rfl ?_
    refine r_cv (as := []) (st := []) C X I_X7_look l_X7_184 (e_look (fun i9 hi9 => ph2.tp hi9) ph2.lk) (by decide) (Nat.le_of_ble_eq_true rfl) List.prefix_rfl (pfx_eq ph2.kk) rfl rfl (Nat.le_of_ble_eq_true rfl) rfl (dx dX7_partTold 10 rfl) ?_
    rintro _ h7 ⟨rfl, qh7, uh7⟩ kkh7
    have ph7 : Px h h7 k z B ((stp B z ((stp B z e).2.2)).1, (stp B z ((stp B z e).2.2)).2.1, (stp B z ((stp B z e).2.2)).2.2) (addPartV v) := ph2.tr qh7
    have seh7 := ph7.se
    have ezh7 := ph7.ez
    refine r_aload_n C (dx dX7_partTold 11 rfl) rfl ?_
    refine r_iload_n C (dx dX7_partTold 12 rfl) rfl ?_
    refine r_iconst (v := nI 0) C (dx dX7_partTold 13 rfl) rfl ?_
    refine r_cv (as := [vi (nI (vP v)), vi (nI 0)]) (st := []) C X I_X7_gets l_X7_199 (e_gets ph7.slf ⟨((stp B z e).2.2), by omega, rfl⟩ (j := vP v) (show vP v < vP v + 1 from Nat.lt_succ_self _) false) (by decide) (Nat.le_of_ble_eq_true rfl) List.prefix_rfl (pfx_eq ph7.kk) rfl rfl (Nat.le_of_ble_eq_true rfl) rfl (dx dX7_partTold 14 rfl) ?_
    rintro _ h8 ⟨bh8, rfl, gh8⟩ kkh8
    have kh8 : xK h8 = xK h := kkh8.trans ph7.kk
    have gh8 := GtP.pre ph7 gh8
    refine rb_ne (b := bh8) (tgt := 33) C (dx dX7_partTold 15 rfl) (by decide) (fun c9 => ?_) (fun c9 => ?_)
    ·
      have c9 : bh8 = true := c9
      rw [c9] at gh8
      obtain ⟨erbh8, prbh8⟩ := by_t (i := 1) (q := stp B z e) c3 (by simp [addPartV, vset, vF, vsP]) gh8
      have serbh8 := Px.se (t := (stp B z (stp B z (stp B z e).2.2).2.2).1) (s := (stp B z (stp B z (stp B z e).2.2).2.2).2.1) (e := (stp B z (stp B z (stp B z e).2.2).2.2).2.2) prbh8
      have ezrbh8 := Px.ez (t := (stp B z (stp B z (stp B z e).2.2).2.2).1) (s := (stp B z (stp B z (stp B z e).2.2).2.2).2.1) (e := (stp B z (stp B z (stp B z e).2.2).2.2).2.2) prbh8
      refine r_aload_n C (dx dX7_partTold 18 rfl) rfl ?_
      refine r_ldcS C 12 rfl (dx dX7_partTold 19 rfl) ?_
      refine r_cvP (as := [vt 1002]) (st := []) (v := vi (b2i (wdB 2 B z ((stp B z (stp B z (stp B z e).2.2).2.2).1) ((stp B z (stp B z (stp B z e).2.2).2.2).2.1) ((stp B z (stp B z (stp B z e).2.2).2.2).2.2)))) C X I_X7_isWord l_X7_187 (e_isWord prbh8.slf (i := 2) (by decide)) (by decide) (Nat.le_of_ble_eq_true rfl) (pfx_eq prbh8.kk) rfl rfl (Nat.le_of_ble_eq_true rfl) rfl (dx dX7_partTold 20 rfl) ?_
      refine rb_eq (b := wdB 2 B z ((stp B z (stp B z (stp B z e).2.2).2.2).1) ((stp B z (stp B z (stp B z e).2.2).2.2).2.1) ((stp B z (stp B z (stp B z e).2.2).2.2).2.2)) (tgt := 53) C (dx dX7_partTold 21 rfl) (by decide) (fun c10 => ?_) (fun c10 => ?_)
      ·
        have c10 : (wdB 2 B z ((stp B z (stp B z (stp B z e).2.2).2.2).1) ((stp B z (stp B z (stp B z e).2.2).2.2).2.1) ((stp B z (stp B z (stp B z e).2.2).2.2).2.2)) = false := c10
        have y2 : byS B z 1 2 (vP v) (stp B z (stp B z (stp B z e).2.2).2.2) (vset (addPartV v) 0 (vP v) (gtO B z (stp B z (stp B z e).2.2) (addPartV v))) = (true, stp B z (stp B z (stp B z e).2.2).2.2, vset (addPartV v) 0 (vP v) (gtO B z (stp B z (stp B z e).2.2) (addPartV v))) := by_0 c10
        refine r_iconst (v := nI 1) C (dx dX7_partTold 29 rfl) rfl ?_
        exact F.1 _ _ _ _ .boolean rfl rfl (dx dX7_partTold 30 rfl) prbh8.kk ⟨true, rfl, (show RdP h h8 k z B (ptW B z (t, s, e) v) true from RdP.t (ptW_t hP12 erbh8 y2) prbh8)⟩
      ·
        have c10 : (wdB 2 B z ((stp B z (stp B z (stp B z e).2.2).2.2).1) ((stp B z (stp B z (stp B z e).2.2).2.2).2.1) ((stp B z (stp B z (stp B z e).2.2).2.2).2.2)) = true := c10
        refine r_aload_n C (dx dX7_partTold 22 rfl) rfl ?_
        refine r_cv (as := []) (st := []) C X I_X7_look l_X7_184 (e_look (fun i9 hi9 => prbh8.tp hi9) prbh8.lk) (by decide) (Nat.le_of_ble_eq_true rfl) List.prefix_rfl (pfx_eq prbh8.kk) rfl rfl (Nat.le_of_ble_eq_true rfl) rfl (dx dX7_partTold 23 rfl) ?_
        rintro _ h11 ⟨rfl, qh11, uh11⟩ kkh11
        have ph11 : Px h h11 k z B ((stp B z ((stp B z (stp B z (stp B z e).2.2).2.2).2.2)).1, (stp B z ((stp B z (stp B z (stp B z e).2.2).2.2).2.2)).2.1, (stp B z ((stp B z (stp B z (stp B z e).2.2).2.2).2.2)).2.2) (vset (addPartV v) 0 (vP v) (gtO B z (stp B z (stp B z e).2.2) (addPartV v))) := prbh8.tr qh11
        have seh11 := ph11.se
        have ezh11 := ph11.ez
        refine r_aload_n C (dx dX7_partTold 24 rfl) rfl ?_
        refine r_iload_n C (dx dX7_partTold 25 rfl) rfl ?_
        refine r_iconst (v := nI 1) C (dx dX7_partTold 26 rfl) rfl ?_
        refine r_cv (as := [vi (nI (vP v)), vi (nI 1)]) (st := []) C X I_X7_gets l_X7_199 (e_gets ph11.slf ⟨((stp B z (stp B z (stp B z e).2.2).2.2).2.2), by omega, rfl⟩ (j := vP v) (show vP v < vP v + 1 from Nat.lt_succ_self _) true) (by decide) (Nat.le_of_ble_eq_true rfl) List.prefix_rfl (pfx_eq ph11.kk) rfl rfl (Nat.le_of_ble_eq_true rfl) rfl (dx dX7_partTold 27 rfl) ?_
        rintro _ h12 ⟨bh12, rfl, gh12⟩ kkh12
        have kh12 : xK h12 = xK h := kkh12.trans ph11.kk
        have gh12 := GtP.pre ph11 gh12
        rcases Bool.eq_false_or_eq_true bh12 with cb | cb
        ·
          rw [cb] at gh12
          obtain ⟨erbh12, prbh12⟩ := by_t (i := 2) (q := stp B z (stp B z (stp B z e).2.2).2.2) c10 (by simp [addPartV, vset, vF, vsP]) gh12
          have serbh12 := Px.se (t := (stp B z (stp B z (stp B z (stp B z (stp B z e).2.2).2.2).2.2).2.2).1) (s := (stp B z (stp B z (stp B z (stp B z (stp B z e).2.2).2.2).2.2).2.2).2.1) (e := (stp B z (stp B z (stp B z (stp B z (stp B z e).2.2).2.2).2.2).2.2).2.2) prbh12
          have ezrbh12 := Px.ez (t := (stp B z (stp B z (stp B z (stp B z (stp B z e).2.2).2.2).2.2).2.2).1) (s := (stp B z (stp B z (stp B z (stp B z (stp B z e).2.2).2.2).2.2).2.2).2.1) (e := (stp B z (stp B z (stp B z (stp B z (stp B z e).2.2).2.2).2.2).2.2).2.2) prbh12
          rw [cb]
          exact F.1 _ _ _ _ .boolean rfl rfl (dx dX7_partTold 28 rfl) kh12 ⟨true, rfl, (show RdP h h12 k z B (ptW B z (t, s, e) v) true from RdP.t (ptW_t hP12 erbh8 erbh12) prbh12)⟩
        ·
          rw [cb] at gh12
          obtain ⟨erbh12, prbh12, frbh12⟩ := by_f (i := 2) (q := stp B z (stp B z (stp B z e).2.2).2.2) c10 gh12
          rw [cb]
          exact F.1 _ _ _ _ .boolean rfl rfl (dx dX7_partTold 28 rfl) kh12 ⟨false, rfl, (show RdP h h12 k z B (ptW B z (t, s, e) v) false from RdP.f (ptW_t hP12 erbh8 erbh12) prbh12 frbh12)⟩
    ·
      have c9 : bh8 = false := c9
      rw [c9] at gh8
      obtain ⟨erbh8, prbh8, frbh8⟩ := by_f (i := 1) (q := stp B z e) c3 gh8
      refine r_iconst (v := nI 0) C (dx dX7_partTold 16 rfl) rfl ?_
      exact F.1 _ _ _ _ .boolean rfl rfl (dx dX7_partTold 17 rfl) kh8 ⟨false, rfl, (show RdP h h8 k z B (ptW B z (t, s, e) v) false from RdP.f (ptW_f hP12 erbh8) prbh8 frbh8)⟩

